-- MourningHouseModel.isSibling(II)Z
theorem dX12_isSibling_0 : decode mX12_isSibling.2.1 0 = .ok (.iload_n 1, 1) := by decide +kernel
theorem dX12_isSibling_1 : decode mX12_isSibling.2.1 1 = .ok (.iload_n 2, 1) := by decide +kernel
theorem dX12_isSibling_2 : decode mX12_isSibling.2.1 2 = .ok (.if_icmp .eq 57, 3) := by decide +kernel
theorem dX12_isSibling_5 : decode mX12_isSibling.2.1 5 = .ok (.aload_n 0, 1) := by decide +kernel
theorem dX12_isSibling_6 : decode mX12_isSibling.2.1 6 = .ok (.getfield 157, 3) := by decide +kernel
theorem dX12_isSibling_9 : decode mX12_isSibling.2.1 9 = .ok (.iload_n 1, 1) := by decide +kernel
theorem dX12_isSibling_10 : decode mX12_isSibling.2.1 10 = .ok (.iaload, 1) := by decide +kernel
theorem dX12_isSibling_11 : decode mX12_isSibling.2.1 11 = .ok (.iconst (-1), 1) := by decide +kernel
theorem dX12_isSibling_12 : decode mX12_isSibling.2.1 12 = .ok (.if_icmp .eq 18, 3) := by decide +kernel
theorem dX12_isSibling_15 : decode mX12_isSibling.2.1 15 = .ok (.aload_n 0, 1) := by decide +kernel
theorem dX12_isSibling_16 : decode mX12_isSibling.2.1 16 = .ok (.getfield 157, 3) := by decide +kernel
theorem dX12_isSibling_19 : decode mX12_isSibling.2.1 19 = .ok (.iload_n 1, 1) := by decide +kernel
theorem dX12_isSibling_20 : decode mX12_isSibling.2.1 20 = .ok (.iaload, 1) := by decide +kernel
theorem dX12_isSibling_21 : decode mX12_isSibling.2.1 21 = .ok (.aload_n 0, 1) := by decide +kernel
theorem dX12_isSibling_22 : decode mX12_isSibling.2.1 22 = .ok (.getfield 157, 3) := by decide +kernel
theorem dX12_isSibling_25 : decode mX12_isSibling.2.1 25 = .ok (.iload_n 2, 1) := by decide +kernel
theorem dX12_isSibling_26 : decode mX12_isSibling.2.1 26 = .ok (.iaload, 1) := by decide +kernel
theorem dX12_isSibling_27 : decode mX12_isSibling.2.1 27 = .ok (.if_icmp .eq 28, 3) := by decide +kernel
theorem dX12_isSibling_30 : decode mX12_isSibling.2.1 30 = .ok (.aload_n 0, 1) := by decide +kernel
theorem dX12_isSibling_31 : decode mX12_isSibling.2.1 31 = .ok (.getfield 159, 3) := by decide +kernel
theorem dX12_isSibling_34 : decode mX12_isSibling.2.1 34 = .ok (.iload_n 1, 1) := by decide +kernel
theorem dX12_isSibling_35 : decode mX12_isSibling.2.1 35 = .ok (.iaload, 1) := by decide +kernel
theorem dX12_isSibling_36 : decode mX12_isSibling.2.1 36 = .ok (.iconst (-1), 1) := by decide +kernel
theorem dX12_isSibling_37 : decode mX12_isSibling.2.1 37 = .ok (.if_icmp .eq 22, 3) := by decide +kernel
theorem dX12_isSibling_40 : decode mX12_isSibling.2.1 40 = .ok (.aload_n 0, 1) := by decide +kernel
theorem dX12_isSibling_41 : decode mX12_isSibling.2.1 41 = .ok (.getfield 159, 3) := by decide +kernel
theorem dX12_isSibling_44 : decode mX12_isSibling.2.1 44 = .ok (.iload_n 1, 1) := by decide +kernel
theorem dX12_isSibling_45 : decode mX12_isSibling.2.1 45 = .ok (.iaload, 1) := by decide +kernel
theorem dX12_isSibling_46 : decode mX12_isSibling.2.1 46 = .ok (.aload_n 0, 1) := by decide +kernel
theorem dX12_isSibling_47 : decode mX12_isSibling.2.1 47 = .ok (.getfield 159, 3) := by decide +kernel
theorem dX12_isSibling_50 : decode mX12_isSibling.2.1 50 = .ok (.iload_n 2, 1) := by decide +kernel
theorem dX12_isSibling_51 : decode mX12_isSibling.2.1 51 = .ok (.iaload, 1) := by decide +kernel
theorem dX12_isSibling_52 : decode mX12_isSibling.2.1 52 = .ok (.if_icmp .ne 7, 3) := by decide +kernel
theorem dX12_isSibling_55 : decode mX12_isSibling.2.1 55 = .ok (.iconst 1, 1) := by decide +kernel
theorem dX12_isSibling_56 : decode mX12_isSibling.2.1 56 = .ok (.goto 4, 3) := by decide +kernel
theorem dX12_isSibling_59 : decode mX12_isSibling.2.1 59 = .ok (.iconst 0, 1) := by decide +kernel
theorem dX12_isSibling_60 : decode mX12_isSibling.2.1 60 = .ok (.ireturn, 1) := by decide +kernel
theorem bX12_isSibling_0 {SC : Nat → Nat} {X : mh_X} {d : Nat} {Q : Option am_V → am_W → Prop} {bc bs : Nat} {w : am_W} {x1 : Int} {x2 : Int}
    (h : ((x1 = x2 → Q (some (.inl 0)) w) ∧ (¬ x1 = x2 → (0 ≤ x1 ∧ (x1 < 40 ∧ (((w.1 98 0 x1.toNat) = (-1) → am_A (mh_G X) SC (d + 1) mX12_isSibling Q 30 [(0, .inr (.inr (some (9, 0)))), (1, .inl x1), (2, .inl x2)] [] w bc bs) ∧ (¬ (w.1 98 0 x1.toNat) = (-1) → (0 ≤ x2 ∧ (x2 < 40 ∧ (((w.1 98 0 x1.toNat) = (w.1 98 0 x2.toNat) → Q (some (.inl 1)) w) ∧ (¬ (w.1 98 0 x1.toNat) = (w.1 98 0 x2.toNat) → am_A (mh_G X) SC (d + 1) mX12_isSibling Q 30 [(0, .inr (.inr (some (9, 0)))), (1, .inl x1), (2, .inl x2)] [] w bc bs))))))))))) :
    am_A (mh_G X) SC (d + 1) mX12_isSibling Q 0 [(0, .inr (.inr (some (9, 0)))), (1, .inl x1), (2, .inl x2)] [] w bc bs := by
  refine am_iload_n dX12_isSibling_0 (List.Mem.tail _ (List.Mem.head _)) ?_
  refine am_iload_n dX12_isSibling_1 (List.Mem.tail _ (List.Mem.tail _ (List.Mem.head _))) ?_
  refine am_icmpeq (tgt := 59) dX12_isSibling_2 (by decide) (fun c1 => ?_) (fun c1 => ?_)
  · replace h := h.1 c1
    refine am_iconst dX12_isSibling_59 (by unfold am_rg; omega) ?_
    exact am_ret (r := some (.inl 0)) dX12_isSibling_60 (Or.inr (Or.inl ⟨rfl, (Or.inl rfl)⟩)) rfl h
  · replace h := h.2 c1
    refine am_aload_n dX12_isSibling_5 (List.Mem.head _) ?_
    refine am_getf (f := 36) (v := .inr (.inr (some (98, 0)))) dX12_isSibling_6 hc_10 (by decide) wd_1585 (by decide) rfl rfl ?_
    refine am_iload_n dX12_isSibling_9 (List.Mem.tail _ (List.Mem.head _)) ?_
    have o2 := h.1
    replace h := h.2
    have o3 := h.1
    replace h := h.2
    refine am_iaload (v := (w.1 98 0 x1.toNat)) dX12_isSibling_10 (by decide) rfl o2 o3 rfl ?_
    refine am_iconst dX12_isSibling_11 (by unfold am_rg; omega) ?_
    refine am_icmpeq (tgt := 30) dX12_isSibling_12 (by decide) (fun c4 => ?_) (fun c4 => ?_)
    · replace h := h.1 c4
      exact h
    · replace h := h.2 c4
      refine am_aload_n dX12_isSibling_15 (List.Mem.head _) ?_
      refine am_getf (f := 36) (v := .inr (.inr (some (98, 0)))) dX12_isSibling_16 hc_10 (by decide) wd_1585 (by decide) rfl rfl ?_
      refine am_iload_n dX12_isSibling_19 (List.Mem.tail _ (List.Mem.head _)) ?_
      refine am_iaload (v := (w.1 98 0 x1.toNat)) dX12_isSibling_20 (by decide) rfl o2 o3 rfl ?_
      refine am_aload_n dX12_isSibling_21 (List.Mem.head _) ?_
      refine am_getf (f := 36) (v := .inr (.inr (some (98, 0)))) dX12_isSibling_22 hc_10 (by decide) wd_1585 (by decide) rfl rfl ?_
      refine am_iload_n dX12_isSibling_25 (List.Mem.tail _ (List.Mem.tail _ (List.Mem.head _))) ?_
      have o5 := h.1
      replace h := h.2
      have o6 := h.1
      replace h := h.2
      refine am_iaload (v := (w.1 98 0 x2.toNat)) dX12_isSibling_26 (by decide) rfl o5 o6 rfl ?_
      refine am_icmpeq (tgt := 55) dX12_isSibling_27 (by decide) (fun c7 => ?_) (fun c7 => ?_)
      · replace h := h.1 c7
        refine am_iconst dX12_isSibling_55 (by unfold am_rg; omega) ?_
        refine am_goto (tgt := 60) dX12_isSibling_56 (by decide) ?_
        exact am_ret (r := some (.inl 1)) dX12_isSibling_60 (Or.inr (Or.inl ⟨rfl, (Or.inr rfl)⟩)) rfl h
      · replace h := h.2 c7
        exact h
theorem bX12_isSibling_30 {SC : Nat → Nat} {X : mh_X} {d : Nat} {Q : Option am_V → am_W → Prop} {bc bs : Nat} {w : am_W} {x1 : Int} {x2 : Int}
    (h : (0 ≤ x1 ∧ (x1 < 40 ∧ (((w.1 99 0 x1.toNat) = (-1) → Q (some (.inl 0)) w) ∧ (¬ (w.1 99 0 x1.toNat) = (-1) → (0 ≤ x2 ∧ (x2 < 40 ∧ ((¬ (w.1 99 0 x1.toNat) = (w.1 99 0 x2.toNat) → Q (some (.inl 0)) w) ∧ ((w.1 99 0 x1.toNat) = (w.1 99 0 x2.toNat) → Q (some (.inl 1)) w))))))))) :
    am_A (mh_G X) SC (d + 1) mX12_isSibling Q 30 [(0, .inr (.inr (some (9, 0)))), (1, .inl x1), (2, .inl x2)] [] w bc bs := by
  refine am_aload_n dX12_isSibling_30 (List.Mem.head _) ?_
  refine am_getf (f := 37) (v := .inr (.inr (some (99, 0)))) dX12_isSibling_31 hc_10 (by decide) wd_1586 (by decide) rfl rfl ?_
  refine am_iload_n dX12_isSibling_34 (List.Mem.tail _ (List.Mem.head _)) ?_
  have o1 := h.1
  replace h := h.2
  have o2 := h.1
  replace h := h.2
  refine am_iaload (v := (w.1 99 0 x1.toNat)) dX12_isSibling_35 (by decide) rfl o1 o2 rfl ?_
  refine am_iconst dX12_isSibling_36 (by unfold am_rg; omega) ?_
  refine am_icmpeq (tgt := 59) dX12_isSibling_37 (by decide) (fun c3 => ?_) (fun c3 => ?_)
  · replace h := h.1 c3
    refine am_iconst dX12_isSibling_59 (by unfold am_rg; omega) ?_
    exact am_ret (r := some (.inl 0)) dX12_isSibling_60 (Or.inr (Or.inl ⟨rfl, (Or.inl rfl)⟩)) rfl h
  · replace h := h.2 c3
    refine am_aload_n dX12_isSibling_40 (List.Mem.head _) ?_
    refine am_getf (f := 37) (v := .inr (.inr (some (99, 0)))) dX12_isSibling_41 hc_10 (by decide) wd_1586 (by decide) rfl rfl ?_
    refine am_iload_n dX12_isSibling_44 (List.Mem.tail _ (List.Mem.head _)) ?_
    refine am_iaload (v := (w.1 99 0 x1.toNat)) dX12_isSibling_45 (by decide) rfl o1 o2 rfl ?_
    refine am_aload_n dX12_isSibling_46 (List.Mem.head _) ?_
    refine am_getf (f := 37) (v := .inr (.inr (some (99, 0)))) dX12_isSibling_47 hc_10 (by decide) wd_1586 (by decide) rfl rfl ?_
    refine am_iload_n dX12_isSibling_50 (List.Mem.tail _ (List.Mem.tail _ (List.Mem.head _))) ?_
    have o4 := h.1
    replace h := h.2
    have o5 := h.1
    replace h := h.2
    refine am_iaload (v := (w.1 99 0 x2.toNat)) dX12_isSibling_51 (by decide) rfl o4 o5 rfl ?_
    refine am_icmpne (tgt := 59) dX12_isSibling_52 (by decide) (fun c6 => ?_) (fun c6 => ?_)
    · replace h := h.1 c6
      refine am_iconst dX12_isSibling_59 (by unfold am_rg; omega) ?_
      exact am_ret (r := some (.inl 0)) dX12_isSibling_60 (Or.inr (Or.inl ⟨rfl, (Or.inl rfl)⟩)) rfl h
    · replace h := h.2 c6
      refine am_iconst dX12_isSibling_55 (by unfold am_rg; omega) ?_
      refine am_goto (tgt := 60) dX12_isSibling_56 (by decide) ?_
      exact am_ret (r := some (.inl 1)) dX12_isSibling_60 (Or.inr (Or.inl ⟨rfl, (Or.inr rfl)⟩)) rfl h
-- MourningHouseModel.isKin(IIIII)Z
theorem dX12_isKin_0 : decode mX12_isKin.2.1 0 = .ok (.iload_n 1, 1) := by decide +kernel
theorem dX12_isKin_1 : decode mX12_isKin.2.1 1 = .ok (.iconst 3, 1) := by decide +kernel
theorem dX12_isKin_2 : decode mX12_isKin.2.1 2 = .ok (.irem, 1) := by decide +kernel
theorem dX12_isKin_3 : decode mX12_isKin.2.1 3 = .ok (.istore 6, 2) := by decide +kernel
theorem dX12_isKin_5 : decode mX12_isKin.2.1 5 = .ok (.iload 6, 2) := by decide +kernel
theorem dX12_isKin_7 : decode mX12_isKin.2.1 7 = .ok (.ifCond .eq 32, 3) := by decide +kernel
theorem dX12_isKin_10 : decode mX12_isKin.2.1 10 = .ok (.iload_n 1, 1) := by decide +kernel
theorem dX12_isKin_11 : decode mX12_isKin.2.1 11 = .ok (.invokestatic 462, 3) := by decide +kernel
theorem dX12_isKin_14 : decode mX12_isKin.2.1 14 = .ok (.ifCond .eq 16, 3) := by decide +kernel
theorem dX12_isKin_17 : decode mX12_isKin.2.1 17 = .ok (.aload_n 0, 1) := by decide +kernel
theorem dX12_isKin_18 : decode mX12_isKin.2.1 18 = .ok (.getfield 151, 3) := by decide +kernel
theorem dX12_isKin_21 : decode mX12_isKin.2.1 21 = .ok (.iload_n 2, 1) := by decide +kernel
theorem dX12_isKin_22 : decode mX12_isKin.2.1 22 = .ok (.iaload, 1) := by decide +kernel
theorem dX12_isKin_23 : decode mX12_isKin.2.1 23 = .ok (.iconst 1, 1) := by decide +kernel
theorem dX12_isKin_24 : decode mX12_isKin.2.1 24 = .ok (.if_icmp .ne 19, 3) := by decide +kernel
theorem dX12_isKin_27 : decode mX12_isKin.2.1 27 = .ok (.goto 12, 3) := by decide +kernel
theorem dX12_isKin_30 : decode mX12_isKin.2.1 30 = .ok (.aload_n 0, 1) := by decide +kernel
theorem dX12_isKin_31 : decode mX12_isKin.2.1 31 = .ok (.getfield 151, 3) := by decide +kernel
theorem dX12_isKin_34 : decode mX12_isKin.2.1 34 = .ok (.iload_n 2, 1) := by decide +kernel
theorem dX12_isKin_35 : decode mX12_isKin.2.1 35 = .ok (.iaload, 1) := by decide +kernel
theorem dX12_isKin_36 : decode mX12_isKin.2.1 36 = .ok (.ifCond .ne 7, 3) := by decide +kernel
theorem dX12_isKin_39 : decode mX12_isKin.2.1 39 = .ok (.iconst 1, 1) := by decide +kernel
theorem dX12_isKin_40 : decode mX12_isKin.2.1 40 = .ok (.goto 4, 3) := by decide +kernel
theorem dX12_isKin_43 : decode mX12_isKin.2.1 43 = .ok (.iconst 0, 1) := by decide +kernel
theorem dX12_isKin_44 : decode mX12_isKin.2.1 44 = .ok (.istore 7, 2) := by decide +kernel
theorem dX12_isKin_46 : decode mX12_isKin.2.1 46 = .ok (.iload 7, 2) := by decide +kernel
theorem dX12_isKin_48 : decode mX12_isKin.2.1 48 = .ok (.ifCond .ne 5, 3) := by decide +kernel
theorem dX12_isKin_51 : decode mX12_isKin.2.1 51 = .ok (.iconst 0, 1) := by decide +kernel
theorem dX12_isKin_52 : decode mX12_isKin.2.1 52 = .ok (.ireturn, 1) := by decide +kernel
theorem dX12_isKin_53 : decode mX12_isKin.2.1 53 = .ok (.iload_n 1, 1) := by decide +kernel
theorem dX12_isKin_54 : decode mX12_isKin.2.1 54 = .ok (.iconst 3, 1) := by decide +kernel
theorem dX12_isKin_55 : decode mX12_isKin.2.1 55 = .ok (.idiv, 1) := by decide +kernel
theorem dX12_isKin_56 : decode mX12_isKin.2.1 56 = .ok (.tableswitch 53 0 2 #[28, 39, 46], 28) := by decide +kernel
theorem dX12_isKin_84 : decode mX12_isKin.2.1 84 = .ok (.aload_n 0, 1) := by decide +kernel
theorem dX12_isKin_85 : decode mX12_isKin.2.1 85 = .ok (.iload_n 2, 1) := by decide +kernel
theorem dX12_isKin_86 : decode mX12_isKin.2.1 86 = .ok (.iload_n 3, 1) := by decide +kernel
theorem dX12_isKin_87 : decode mX12_isKin.2.1 87 = .ok (.iload 4, 2) := by decide +kernel
theorem dX12_isKin_89 : decode mX12_isKin.2.1 89 = .ok (.iload 5, 2) := by decide +kernel
theorem dX12_isKin_91 : decode mX12_isKin.2.1 91 = .ok (.invokevirtual 465, 3) := by decide +kernel
theorem dX12_isKin_94 : decode mX12_isKin.2.1 94 = .ok (.ireturn, 1) := by decide +kernel
theorem dX12_isKin_95 : decode mX12_isKin.2.1 95 = .ok (.aload_n 0, 1) := by decide +kernel
theorem dX12_isKin_96 : decode mX12_isKin.2.1 96 = .ok (.iload_n 3, 1) := by decide +kernel
theorem dX12_isKin_97 : decode mX12_isKin.2.1 97 = .ok (.iload_n 2, 1) := by decide +kernel
theorem dX12_isKin_98 : decode mX12_isKin.2.1 98 = .ok (.invokevirtual 469, 3) := by decide +kernel
theorem dX12_isKin_101 : decode mX12_isKin.2.1 101 = .ok (.ireturn, 1) := by decide +kernel
theorem dX12_isKin_102 : decode mX12_isKin.2.1 102 = .ok (.aload_n 0, 1) := by decide +kernel
theorem dX12_isKin_103 : decode mX12_isKin.2.1 103 = .ok (.iload_n 2, 1) := by decide +kernel
theorem dX12_isKin_104 : decode mX12_isKin.2.1 104 = .ok (.iload_n 3, 1) := by decide +kernel
theorem dX12_isKin_105 : decode mX12_isKin.2.1 105 = .ok (.invokevirtual 469, 3) := by decide +kernel
theorem dX12_isKin_108 : decode mX12_isKin.2.1 108 = .ok (.ireturn, 1) := by decide +kernel
theorem dX12_isKin_109 : decode mX12_isKin.2.1 109 = .ok (.aload_n 0, 1) := by decide +kernel
theorem dX12_isKin_110 : decode mX12_isKin.2.1 110 = .ok (.iload_n 2, 1) := by decide +kernel
theorem dX12_isKin_111 : decode mX12_isKin.2.1 111 = .ok (.iload_n 3, 1) := by decide +kernel
theorem dX12_isKin_112 : decode mX12_isKin.2.1 112 = .ok (.invokevirtual 473, 3) := by decide +kernel
theorem dX12_isKin_115 : decode mX12_isKin.2.1 115 = .ok (.ireturn, 1) := by decide +kernel
theorem bX12_isKin_0 {SC : Nat → Nat} {X : mh_X} {d : Nat} {Q : Option am_V → am_W → Prop} {bc bs : Nat} {w : am_W} {x1 : Int} {x2 : Int} {x3 : Int} {x4 : Int} {x5 : Int}
    (h : (((am_w (Int.tmod x1 3)) = 0 → am_A (mh_G X) SC (d + 1) mX12_isKin Q 39 [(0, .inr (.inr (some (9, 0)))), (1, .inl x1), (2, .inl x2), (3, .inl x3), (4, .inl x4), (5, .inl x5)] [] w bc bs) ∧ (¬ (am_w (Int.tmod x1 3)) = 0 → am_M (mh_G X) SC d 0 0 mX12_isMan [.inl x1] w (fun r w1 => am_A (mh_G X) SC (d + 1) mX12_isKin Q 14 [(6, .inl (am_w (Int.tmod x1 3))), (0, .inr (.inr (some (9, 0)))), (1, .inl x1), (2, .inl x2), (3, .inl x3), (4, .inl x4), (5, .inl x5)] (r.toList ++ []) w1 bc bs)))) :
    am_A (mh_G X) SC (d + 1) mX12_isKin Q 0 [(0, .inr (.inr (some (9, 0)))), (1, .inl x1), (2, .inl x2), (3, .inl x3), (4, .inl x4), (5, .inl x5)] [] w bc bs := by
  refine am_iload_n dX12_isKin_0 (List.Mem.tail _ (List.Mem.head _)) ?_
  refine am_iconst dX12_isKin_1 (by unfold am_rg; omega) ?_
  refine am_irem dX12_isKin_2 (by decide) ?_
  refine am_istore (ls' := [(6, .inl (am_w (Int.tmod x1 3))), (0, .inr (.inr (some (9, 0)))), (1, .inl x1), (2, .inl x2), (3, .inl x3), (4, .inl x4), (5, .inl x5)]) dX12_isKin_3 (by decide) rfl ?_
  refine am_iload dX12_isKin_5 (List.Mem.head _) ?_
  refine am_ifeq (tgt := 39) dX12_isKin_7 (by decide) (fun c1 => ?_) (fun c1 => ?_)
  · replace h := h.1 c1
    exact am_sub [1, 2, 3, 4, 5, 6] rfl h
  · replace h := h.2 c1
    refine am_iload_n dX12_isKin_10 (List.Mem.tail _ (List.Mem.tail _ (List.Mem.head _))) ?_
    exact am_calls (d' := d) (kc := 0) (ks := 0) (as := [.inl x1]) dX12_isKin_11 wc_X12_isMan wd_2050 wd_2051 wd_122 ds_X12_isMan (by decide) (Nat.le_refl _) (Nat.le_of_ble_eq_true rfl) (Nat.zero_le _) (Nat.zero_le _) rfl h
theorem bX12_isKin_39 {SC : Nat → Nat} {X : mh_X} {d : Nat} {Q : Option am_V → am_W → Prop} {bc bs : Nat} {w : am_W} {x1 : Int} {x2 : Int} {x3 : Int} {x4 : Int} {x5 : Int}
    (h : am_A (mh_G X) SC (d + 1) mX12_isKin Q 44 [(0, .inr (.inr (some (9, 0)))), (1, .inl x1), (2, .inl x2), (3, .inl x3), (4, .inl x4), (5, .inl x5)] [.inl 1] w bc bs) :
    am_A (mh_G X) SC (d + 1) mX12_isKin Q 39 [(0, .inr (.inr (some (9, 0)))), (1, .inl x1), (2, .inl x2), (3, .inl x3), (4, .inl x4), (5, .inl x5)] [] w bc bs := by
  refine am_iconst dX12_isKin_39 (by unfold am_rg; omega) ?_
  refine am_goto (tgt := 44) dX12_isKin_40 (by decide) ?_
  exact h
theorem bX12_isKin_14 {SC : Nat → Nat} {X : mh_X} {d : Nat} {Q : Option am_V → am_W → Prop} {bc bs : Nat} {w : am_W} {x6 : Int} {x1 : Int} {x2 : Int} {x3 : Int} {x4 : Int} {x5 : Int} {xs0 : Int}
    (h : ((xs0 = 0 → (0 ≤ x2 ∧ (x2 < 40 ∧ ((¬ (w.1 96 0 x2.toNat) = 0 → am_A (mh_G X) SC (d + 1) mX12_isKin Q 43 [(0, .inr (.inr (some (9, 0)))), (1, .inl x1), (2, .inl x2), (3, .inl x3), (4, .inl x4), (5, .inl x5)] [] w bc bs) ∧ ((w.1 96 0 x2.toNat) = 0 → am_A (mh_G X) SC (d + 1) mX12_isKin Q 39 [(0, .inr (.inr (some (9, 0)))), (1, .inl x1), (2, .inl x2), (3, .inl x3), (4, .inl x4), (5, .inl x5)] [] w bc bs))))) ∧ (¬ xs0 = 0 → (0 ≤ x2 ∧ (x2 < 40 ∧ ((¬ (w.1 96 0 x2.toNat) = 1 → am_A (mh_G X) SC (d + 1) mX12_isKin Q 43 [(0, .inr (.inr (some (9, 0)))), (1, .inl x1), (2, .inl x2), (3, .inl x3), (4, .inl x4), (5, .inl x5)] [] w bc bs) ∧ ((w.1 96 0 x2.toNat) = 1 → am_A (mh_G X) SC (d + 1) mX12_isKin Q 39 [(0, .inr (.inr (some (9, 0)))), (1, .inl x1), (2, .inl x2), (3, .inl x3), (4, .inl x4), (5, .inl x5)] [] w bc bs))))))) :
    am_A (mh_G X) SC (d + 1) mX12_isKin Q 14 [(6, .inl x6), (0, .inr (.inr (some (9, 0)))), (1, .inl x1), (2, .inl x2), (3, .inl x3), (4, .inl x4), (5, .inl x5)] [.inl xs0] w bc bs := by
  refine am_ifeq (tgt := 30) dX12_isKin_14 (by decide) (fun c1 => ?_) (fun c1 => ?_)
  · replace h := h.1 c1
    refine am_aload_n dX12_isKin_30 (List.Mem.tail _ (List.Mem.head _)) ?_
    refine am_getf (f := 34) (v := .inr (.inr (some (96, 0)))) dX12_isKin_31 hc_10 (by decide) wd_1583 (by decide) rfl rfl ?_
    refine am_iload_n dX12_isKin_34 (List.Mem.tail _ (List.Mem.tail _ (List.Mem.tail _ (List.Mem.head _)))) ?_
    have o2 := h.1
    replace h := h.2
    have o3 := h.1
    replace h := h.2
    refine am_iaload (v := (w.1 96 0 x2.toNat)) dX12_isKin_35 (by decide) rfl o2 o3 rfl ?_
    refine am_ifne (tgt := 43) dX12_isKin_36 (by decide) (fun c4 => ?_) (fun c4 => ?_)
    · replace h := h.1 c4
      exact am_sub [1, 2, 3, 4, 5, 6] rfl h
    · replace h := h.2 c4
      exact am_sub [1, 2, 3, 4, 5, 6] rfl h
  · replace h := h.2 c1
    refine am_aload_n dX12_isKin_17 (List.Mem.tail _ (List.Mem.head _)) ?_
    refine am_getf (f := 34) (v := .inr (.inr (some (96, 0)))) dX12_isKin_18 hc_10 (by decide) wd_1583 (by decide) rfl rfl ?_
    refine am_iload_n dX12_isKin_21 (List.Mem.tail _ (List.Mem.tail _ (List.Mem.tail _ (List.Mem.head _)))) ?_
    have o5 := h.1
    replace h := h.2
    have o6 := h.1
    replace h := h.2
    refine am_iaload (v := (w.1 96 0 x2.toNat)) dX12_isKin_22 (by decide) rfl o5 o6 rfl ?_
    refine am_iconst dX12_isKin_23 (by unfold am_rg; omega) ?_
    refine am_icmpne (tgt := 43) dX12_isKin_24 (by decide) (fun c7 => ?_) (fun c7 => ?_)
    · replace h := h.1 c7
      exact am_sub [1, 2, 3, 4, 5, 6] rfl h
    · replace h := h.2 c7
      refine am_goto (tgt := 39) dX12_isKin_27 (by decide) ?_
      exact am_sub [1, 2, 3, 4, 5, 6] rfl h
theorem bX12_isKin_44 {SC : Nat → Nat} {X : mh_X} {d : Nat} {Q : Option am_V → am_W → Prop} {bc bs : Nat} {w : am_W} {x1 : Int} {x2 : Int} {x3 : Int} {x4 : Int} {x5 : Int} {xs0 : Int}
    (h : ((¬ xs0 = 0 → ((((am_w (Int.tdiv x1 3)) < 0 ∨ 2 < (am_w (Int.tdiv x1 3))) → am_M (mh_G X) SC d 0 0 mX12_isSibling [.inr (.inr (some (9, 0))), .inl x2, .inl x3] w (fun r w1 => am_A (mh_G X) SC (d + 1) mX12_isKin Q 115 [(7, .inl xs0), (0, .inr (.inr (some (9, 0)))), (1, .inl x1), (2, .inl x2), (3, .inl x3), (4, .inl x4), (5, .inl x5)] (r.toList ++ []) w1 bc bs)) ∧ ((am_w (Int.tdiv x1 3)) = 0 → am_M (mh_G X) SC d 0 0 mX12_isSpouse [.inr (.inr (some (9, 0))), .inl x2, .inl x3, .inl x4, .inl x5] w (fun r w1 => am_A (mh_G X) SC (d + 1) mX12_isKin Q 94 [(7, .inl xs0), (0, .inr (.inr (some (9, 0)))), (1, .inl x1), (2, .inl x2), (3, .inl x3), (4, .inl x4), (5, .inl x5)] (r.toList ++ []) w1 bc bs)) ∧ ((am_w (Int.tdiv x1 3)) = 1 → am_M (mh_G X) SC d 0 0 mX12_isParent [.inr (.inr (some (9, 0))), .inl x3, .inl x2] w (fun r w1 => am_A (mh_G X) SC (d + 1) mX12_isKin Q 101 [(7, .inl xs0), (0, .inr (.inr (some (9, 0)))), (1, .inl x1), (2, .inl x2), (3, .inl x3), (4, .inl x4), (5, .inl x5)] (r.toList ++ []) w1 bc bs)) ∧ ((am_w (Int.tdiv x1 3)) = 2 → am_M (mh_G X) SC d 0 0 mX12_isParent [.inr (.inr (some (9, 0))), .inl x2, .inl x3] w (fun r w1 => am_A (mh_G X) SC (d + 1) mX12_isKin Q 108 [(7, .inl xs0), (0, .inr (.inr (some (9, 0)))), (1, .inl x1), (2, .inl x2), (3, .inl x3), (4, .inl x4), (5, .inl x5)] (r.toList ++ []) w1 bc bs)))) ∧ (xs0 = 0 → Q (some (.inl 0)) w))) :
    am_A (mh_G X) SC (d + 1) mX12_isKin Q 44 [(0, .inr (.inr (some (9, 0)))), (1, .inl x1), (2, .inl x2), (3, .inl x3), (4, .inl x4), (5, .inl x5)] [.inl xs0] w bc bs := by
  refine am_istore (ls' := [(7, .inl xs0), (0, .inr (.inr (some (9, 0)))), (1, .inl x1), (2, .inl x2), (3, .inl x3), (4, .inl x4), (5, .inl x5)]) dX12_isKin_44 (by decide) rfl ?_
  refine am_iload dX12_isKin_46 (List.Mem.head _) ?_
  refine am_ifne (tgt := 53) dX12_isKin_48 (by decide) (fun c1 => ?_) (fun c1 => ?_)
  · replace h := h.1 c1
    refine am_iload_n dX12_isKin_53 (List.Mem.tail _ (List.Mem.tail _ (List.Mem.head _))) ?_
    refine am_iconst dX12_isKin_54 (by unfold am_rg; omega) ?_
    refine am_idiv dX12_isKin_55 (by decide) ?_
    by_cases c2 : (am_w (Int.tdiv x1 3)) < 0 ∨ 2 < (am_w (Int.tdiv x1 3))
    · replace h := h.1 c2
      refine am_tswOut (tgt := 109) dX12_isKin_56 c2 (by decide) ?_
      refine am_aload_n dX12_isKin_109 (List.Mem.tail _ (List.Mem.head _)) ?_
      refine am_iload_n dX12_isKin_110 (List.Mem.tail _ (List.Mem.tail _ (List.Mem.tail _ (List.Mem.head _)))) ?_
      refine am_iload_n dX12_isKin_111 (List.Mem.tail _ (List.Mem.tail _ (List.Mem.tail _ (List.Mem.tail _ (List.Mem.head _))))) ?_
      exact am_callv (d' := d) (kc := 0) (ks := 0) (as := [.inl x2, .inl x3]) dX12_isKin_112 wc_X12_isSibling wd_2061 wd_2063 wd_79 wd_122 ds_X12_isSibling (by decide) (Nat.le_refl _) (Nat.le_of_ble_eq_true rfl) (Nat.zero_le _) (Nat.zero_le _) hc_10 (by decide) rfl rfl h
    · replace h := h.2
      rcases (show (am_w (Int.tdiv x1 3)) = 0 ∨ (am_w (Int.tdiv x1 3)) = 1 ∨ (am_w (Int.tdiv x1 3)) = 2 by omega) with c2 | c2 | c2
      · replace h := h.1 c2
        refine am_tswIn (off := 28) (tgt := 84) dX12_isKin_56 (by omega) (by omega) (by rw [c2]; decide) (by decide) ?_
        refine am_aload_n dX12_isKin_84 (List.Mem.tail _ (List.Mem.head _)) ?_
        refine am_iload_n dX12_isKin_85 (List.Mem.tail _ (List.Mem.tail _ (List.Mem.tail _ (List.Mem.head _)))) ?_
        refine am_iload_n dX12_isKin_86 (List.Mem.tail _ (List.Mem.tail _ (List.Mem.tail _ (List.Mem.tail _ (List.Mem.head _))))) ?_
        refine am_iload dX12_isKin_87 (List.Mem.tail _ (List.Mem.tail _ (List.Mem.tail _ (List.Mem.tail _ (List.Mem.tail _ (List.Mem.head _)))))) ?_
        refine am_iload dX12_isKin_89 (List.Mem.tail _ (List.Mem.tail _ (List.Mem.tail _ (List.Mem.tail _ (List.Mem.tail _ (List.Mem.tail _ (List.Mem.head _))))))) ?_
        exact am_callv (d' := d) (kc := 0) (ks := 0) (as := [.inl x2, .inl x3, .inl x4, .inl x5]) dX12_isKin_91 wc_X12_isSpouse wd_2053 wd_2055 wd_77 wd_122 ds_X12_isSpouse (by decide) (Nat.le_refl _) (Nat.le_of_ble_eq_true rfl) (Nat.zero_le _) (Nat.zero_le _) hc_10 (by decide) rfl rfl h
      · replace h := h.2.1 c2
        refine am_tswIn (off := 39) (tgt := 95) dX12_isKin_56 (by omega) (by omega) (by rw [c2]; decide) (by decide) ?_
        refine am_aload_n dX12_isKin_95 (List.Mem.tail _ (List.Mem.head _)) ?_
        refine am_iload_n dX12_isKin_96 (List.Mem.tail _ (List.Mem.tail _ (List.Mem.tail _ (List.Mem.tail _ (List.Mem.head _))))) ?_
        refine am_iload_n dX12_isKin_97 (List.Mem.tail _ (List.Mem.tail _ (List.Mem.tail _ (List.Mem.head _)))) ?_
        exact am_callv (d' := d) (kc := 0) (ks := 0) (as := [.inl x3, .inl x2]) dX12_isKin_98 wc_X12_isParent wd_2057 wd_2059 wd_78 wd_122 ds_X12_isParent (by decide) (Nat.le_refl _) (Nat.le_of_ble_eq_true rfl) (Nat.zero_le _) (Nat.zero_le _) hc_10 (by decide) rfl rfl h
      · replace h := h.2.2 c2
        refine am_tswIn (off := 46) (tgt := 102) dX12_isKin_56 (by omega) (by omega) (by rw [c2]; decide) (by decide) ?_
        refine am_aload_n dX12_isKin_102 (List.Mem.tail _ (List.Mem.head _)) ?_
        refine am_iload_n dX12_isKin_103 (List.Mem.tail _ (List.Mem.tail _ (List.Mem.tail _ (List.Mem.head _)))) ?_
        refine am_iload_n dX12_isKin_104 (List.Mem.tail _ (List.Mem.tail _ (List.Mem.tail _ (List.Mem.tail _ (List.Mem.head _))))) ?_
        exact am_callv (d' := d) (kc := 0) (ks := 0) (as := [.inl x2, .inl x3]) dX12_isKin_105 wc_X12_isParent wd_2057 wd_2059 wd_78 wd_122 ds_X12_isParent (by decide) (Nat.le_refl _) (Nat.le_of_ble_eq_true rfl) (Nat.zero_le _) (Nat.zero_le _) hc_10 (by decide) rfl rfl h
  · replace h := h.2 c1
    refine am_iconst dX12_isKin_51 (by unfold am_rg; omega) ?_
    exact am_ret (r := some (.inl 0)) dX12_isKin_52 (Or.inr (Or.inl ⟨rfl, (Or.inl rfl)⟩)) rfl h
theorem bX12_isKin_43 {SC : Nat → Nat} {X : mh_X} {d : Nat} {Q : Option am_V → am_W → Prop} {bc bs : Nat} {w : am_W} {x1 : Int} {x2 : Int} {x3 : Int} {x4 : Int} {x5 : Int}
    (h : am_A (mh_G X) SC (d + 1) mX12_isKin Q 44 [(0, .inr (.inr (some (9, 0)))), (1, .inl x1), (2, .inl x2), (3, .inl x3), (4, .inl x4), (5, .inl x5)] [.inl 0] w bc bs) :
    am_A (mh_G X) SC (d + 1) mX12_isKin Q 43 [(0, .inr (.inr (some (9, 0)))), (1, .inl x1), (2, .inl x2), (3, .inl x3), (4, .inl x4), (5, .inl x5)] [] w bc bs := by
  refine am_iconst dX12_isKin_43 (by unfold am_rg; omega) ?_
  exact h
theorem bX12_isKin_115 {SC : Nat → Nat} {X : mh_X} {d : Nat} {Q : Option am_V → am_W → Prop} {bc bs : Nat} {w : am_W} {x7 : Int} {x1 : Int} {x2 : Int} {x3 : Int} {x4 : Int} {x5 : Int} {xs0 : Int}
    (h : ((xs0 = 0 ∨ xs0 = 1) ∧ Q (some (.inl xs0)) w)) :
    am_A (mh_G X) SC (d + 1) mX12_isKin Q 115 [(7, .inl x7), (0, .inr (.inr (some (9, 0)))), (1, .inl x1), (2, .inl x2), (3, .inl x3), (4, .inl x4), (5, .inl x5)] [.inl xs0] w bc bs := by
  have o1 := h.1
  replace h := h.2
  exact am_ret (r := some (.inl xs0)) dX12_isKin_115 (Or.inr (Or.inl ⟨rfl, o1⟩)) rfl h
theorem bX12_isKin_94 {SC : Nat → Nat} {X : mh_X} {d : Nat} {Q : Option am_V → am_W → Prop} {bc bs : Nat} {w : am_W} {x7 : Int} {x1 : Int} {x2 : Int} {x3 : Int} {x4 : Int} {x5 : Int} {xs0 : Int}
    (h : ((xs0 = 0 ∨ xs0 = 1) ∧ Q (some (.inl xs0)) w)) :
    am_A (mh_G X) SC (d + 1) mX12_isKin Q 94 [(7, .inl x7), (0, .inr (.inr (some (9, 0)))), (1, .inl x1), (2, .inl x2), (3, .inl x3), (4, .inl x4), (5, .inl x5)] [.inl xs0] w bc bs := by
  have o1 := h.1
  replace h := h.2
  exact am_ret (r := some (.inl xs0)) dX12_isKin_94 (Or.inr (Or.inl ⟨rfl, o1⟩)) rfl h
theorem bX12_isKin_101 {SC : Nat → Nat} {X : mh_X} {d : Nat} {Q : Option am_V → am_W → Prop} {bc bs : Nat} {w : am_W} {x7 : Int} {x1 : Int} {x2 : Int} {x3 : Int} {x4 : Int} {x5 : Int} {xs0 : Int}
    (h : ((xs0 = 0 ∨ xs0 = 1) ∧ Q (some (.inl xs0)) w)) :
    am_A (mh_G X) SC (d + 1) mX12_isKin Q 101 [(7, .inl x7), (0, .inr (.inr (some (9, 0)))), (1, .inl x1), (2, .inl x2), (3, .inl x3), (4, .inl x4), (5, .inl x5)] [.inl xs0] w bc bs := by
  have o1 := h.1
  replace h := h.2
  exact am_ret (r := some (.inl xs0)) dX12_isKin_101 (Or.inr (Or.inl ⟨rfl, o1⟩)) rfl h
theorem bX12_isKin_108 {SC : Nat → Nat} {X : mh_X} {d : Nat} {Q : Option am_V → am_W → Prop} {bc bs : Nat} {w : am_W} {x7 : Int} {x1 : Int} {x2 : Int} {x3 : Int} {x4 : Int} {x5 : Int} {xs0 : Int}
    (h : ((xs0 = 0 ∨ xs0 = 1) ∧ Q (some (.inl xs0)) w)) :
    am_A (mh_G X) SC (d + 1) mX12_isKin Q 108 [(7, .inl x7), (0, .inr (.inr (some (9, 0)))), (1, .inl x1), (2, .inl x2), (3, .inl x3), (4, .inl x4), (5, .inl x5)] [.inl xs0] w bc bs := by
  have o1 := h.1
  replace h := h.2
  exact am_ret (r := some (.inl xs0)) dX12_isKin_108 (Or.inr (Or.inl ⟨rfl, o1⟩)) rfl h
-- MourningHouseModel.isMan(I)Z
theorem dX12_isMan_0 : decode mX12_isMan.2.1 0 = .ok (.iload_n 0, 1) := by decide +kernel
theorem dX12_isMan_1 : decode mX12_isMan.2.1 1 = .ok (.iconst 3, 1) := by decide +kernel
theorem dX12_isMan_2 : decode mX12_isMan.2.1 2 = .ok (.irem, 1) := by decide +kernel
theorem dX12_isMan_3 : decode mX12_isMan.2.1 3 = .ok (.iconst 1, 1) := by decide +kernel
theorem dX12_isMan_4 : decode mX12_isMan.2.1 4 = .ok (.if_icmp .ne 7, 3) := by decide +kernel
theorem dX12_isMan_7 : decode mX12_isMan.2.1 7 = .ok (.iconst 1, 1) := by decide +kernel
theorem dX12_isMan_8 : decode mX12_isMan.2.1 8 = .ok (.goto 4, 3) := by decide +kernel
theorem dX12_isMan_11 : decode mX12_isMan.2.1 11 = .ok (.iconst 0, 1) := by decide +kernel
theorem dX12_isMan_12 : decode mX12_isMan.2.1 12 = .ok (.ireturn, 1) := by decide +kernel
theorem bX12_isMan_0 {SC : Nat → Nat} {X : mh_X} {d : Nat} {Q : Option am_V → am_W → Prop} {bc bs : Nat} {w : am_W} {x0 : Int}
    (h : ((¬ (am_w (Int.tmod x0 3)) = 1 → Q (some (.inl 0)) w) ∧ ((am_w (Int.tmod x0 3)) = 1 → Q (some (.inl 1)) w))) :
    am_A (mh_G X) SC (d + 1) mX12_isMan Q 0 [(0, .inl x0)] [] w bc bs := by
  refine am_iload_n dX12_isMan_0 (List.Mem.head _) ?_
  refine am_iconst dX12_isMan_1 (by unfold am_rg; omega) ?_
  refine am_irem dX12_isMan_2 (by decide) ?_
  refine am_iconst dX12_isMan_3 (by unfold am_rg; omega) ?_
  refine am_icmpne (tgt := 11) dX12_isMan_4 (by decide) (fun c1 => ?_) (fun c1 => ?_)
  · replace h := h.1 c1
    refine am_iconst dX12_isMan_11 (by unfold am_rg; omega) ?_
    exact am_ret (r := some (.inl 0)) dX12_isMan_12 (Or.inr (Or.inl ⟨rfl, (Or.inl rfl)⟩)) rfl h
  · replace h := h.2 c1
    refine am_iconst dX12_isMan_7 (by unfold am_rg; omega) ?_
    refine am_goto (tgt := 12) dX12_isMan_8 (by decide) ?_
    exact am_ret (r := some (.inl 1)) dX12_isMan_12 (Or.inr (Or.inl ⟨rfl, (Or.inr rfl)⟩)) rfl h
-- MourningHouseModel.isKinBy(IIIIII)Z
theorem dX12_isKinBy_0 : decode mX12_isKinBy.2.1 0 = .ok (.iconst 0, 1) := by decide +kernel
theorem dX12_isKinBy_1 : decode mX12_isKinBy.2.1 1 = .ok (.istore 7, 2) := by decide +kernel
theorem dX12_isKinBy_3 : decode mX12_isKinBy.2.1 3 = .ok (.iload 7, 2) := by decide +kernel
theorem dX12_isKinBy_5 : decode mX12_isKinBy.2.1 5 = .ok (.aload_n 0, 1) := by decide +kernel
theorem dX12_isKinBy_6 : decode mX12_isKinBy.2.1 6 = .ok (.getfield 447, 3) := by decide +kernel
theorem dX12_isKinBy_9 : decode mX12_isKinBy.2.1 9 = .ok (.if_icmp .ge 27, 3) := by decide +kernel
theorem dX12_isKinBy_12 : decode mX12_isKinBy.2.1 12 = .ok (.aload_n 0, 1) := by decide +kernel
theorem dX12_isKinBy_13 : decode mX12_isKinBy.2.1 13 = .ok (.getfield 197, 3) := by decide +kernel
theorem dX12_isKinBy_16 : decode mX12_isKinBy.2.1 16 = .ok (.iload 7, 2) := by decide +kernel
theorem dX12_isKinBy_18 : decode mX12_isKinBy.2.1 18 = .ok (.iload 7, 2) := by decide +kernel
theorem dX12_isKinBy_20 : decode mX12_isKinBy.2.1 20 = .ok (.iload_n 3, 1) := by decide +kernel
theorem dX12_isKinBy_21 : decode mX12_isKinBy.2.1 21 = .ok (.if_icmp .ne 7, 3) := by decide +kernel
theorem dX12_isKinBy_24 : decode mX12_isKinBy.2.1 24 = .ok (.iconst 1, 1) := by decide +kernel
theorem dX12_isKinBy_25 : decode mX12_isKinBy.2.1 25 = .ok (.goto 4, 3) := by decide +kernel
theorem dX12_isKinBy_28 : decode mX12_isKinBy.2.1 28 = .ok (.iconst 0, 1) := by decide +kernel
theorem dX12_isKinBy_29 : decode mX12_isKinBy.2.1 29 = .ok (.bastore, 1) := by decide +kernel
theorem dX12_isKinBy_30 : decode mX12_isKinBy.2.1 30 = .ok (.iinc 7 1, 3) := by decide +kernel
theorem dX12_isKinBy_33 : decode mX12_isKinBy.2.1 33 = .ok (.goto (-30), 3) := by decide +kernel
theorem dX12_isKinBy_36 : decode mX12_isKinBy.2.1 36 = .ok (.aload_n 0, 1) := by decide +kernel
theorem dX12_isKinBy_37 : decode mX12_isKinBy.2.1 37 = .ok (.getfield 25, 3) := by decide +kernel
theorem dX12_isKinBy_40 : decode mX12_isKinBy.2.1 40 = .ok (.iload_n 1, 1) := by decide +kernel
theorem dX12_isKinBy_41 : decode mX12_isKinBy.2.1 41 = .ok (.aaload, 1) := by decide +kernel
theorem dX12_isKinBy_42 : decode mX12_isKinBy.2.1 42 = .ok (.iload_n 2, 1) := by decide +kernel
theorem dX12_isKinBy_43 : decode mX12_isKinBy.2.1 43 = .ok (.iaload, 1) := by decide +kernel
theorem dX12_isKinBy_44 : decode mX12_isKinBy.2.1 44 = .ok (.iconst 1, 1) := by decide +kernel
theorem dX12_isKinBy_45 : decode mX12_isKinBy.2.1 45 = .ok (.isub, 1) := by decide +kernel
theorem dX12_isKinBy_46 : decode mX12_isKinBy.2.1 46 = .ok (.istore 7, 2) := by decide +kernel
theorem dX12_isKinBy_48 : decode mX12_isKinBy.2.1 48 = .ok (.iload 7, 2) := by decide +kernel
theorem dX12_isKinBy_50 : decode mX12_isKinBy.2.1 50 = .ok (.ifCond .lt 160, 3) := by decide +kernel
theorem dX12_isKinBy_53 : decode mX12_isKinBy.2.1 53 = .ok (.iconst 0, 1) := by decide +kernel
theorem dX12_isKinBy_54 : decode mX12_isKinBy.2.1 54 = .ok (.istore 8, 2) := by decide +kernel
theorem dX12_isKinBy_56 : decode mX12_isKinBy.2.1 56 = .ok (.iload 8, 2) := by decide +kernel
theorem dX12_isKinBy_58 : decode mX12_isKinBy.2.1 58 = .ok (.aload_n 0, 1) := by decide +kernel
theorem dX12_isKinBy_59 : decode mX12_isKinBy.2.1 59 = .ok (.getfield 447, 3) := by decide +kernel
theorem dX12_isKinBy_62 : decode mX12_isKinBy.2.1 62 = .ok (.if_icmp .ge 110, 3) := by decide +kernel
theorem dX12_isKinBy_65 : decode mX12_isKinBy.2.1 65 = .ok (.aload_n 0, 1) := by decide +kernel
theorem dX12_isKinBy_66 : decode mX12_isKinBy.2.1 66 = .ok (.getfield 201, 3) := by decide +kernel
theorem dX12_isKinBy_69 : decode mX12_isKinBy.2.1 69 = .ok (.iload 8, 2) := by decide +kernel
theorem dX12_isKinBy_71 : decode mX12_isKinBy.2.1 71 = .ok (.iconst 0, 1) := by decide +kernel
theorem dX12_isKinBy_72 : decode mX12_isKinBy.2.1 72 = .ok (.bastore, 1) := by decide +kernel
theorem dX12_isKinBy_73 : decode mX12_isKinBy.2.1 73 = .ok (.iconst 0, 1) := by decide +kernel
theorem dX12_isKinBy_74 : decode mX12_isKinBy.2.1 74 = .ok (.istore 9, 2) := by decide +kernel
theorem dX12_isKinBy_76 : decode mX12_isKinBy.2.1 76 = .ok (.iload 9, 2) := by decide +kernel
theorem dX12_isKinBy_78 : decode mX12_isKinBy.2.1 78 = .ok (.aload_n 0, 1) := by decide +kernel
theorem dX12_isKinBy_79 : decode mX12_isKinBy.2.1 79 = .ok (.getfield 447, 3) := by decide +kernel
theorem dX12_isKinBy_82 : decode mX12_isKinBy.2.1 82 = .ok (.if_icmp .ge 84, 3) := by decide +kernel
theorem dX12_isKinBy_85 : decode mX12_isKinBy.2.1 85 = .ok (.iload 8, 2) := by decide +kernel
theorem dX12_isKinBy_87 : decode mX12_isKinBy.2.1 87 = .ok (.iload_n 3, 1) := by decide +kernel
theorem dX12_isKinBy_88 : decode mX12_isKinBy.2.1 88 = .ok (.if_icmp .eq 78, 3) := by decide +kernel
theorem dX12_isKinBy_91 : decode mX12_isKinBy.2.1 91 = .ok (.aload_n 0, 1) := by decide +kernel
theorem dX12_isKinBy_92 : decode mX12_isKinBy.2.1 92 = .ok (.iload 8, 2) := by decide +kernel
theorem dX12_isKinBy_94 : decode mX12_isKinBy.2.1 94 = .ok (.iload 6, 2) := by decide +kernel
theorem dX12_isKinBy_96 : decode mX12_isKinBy.2.1 96 = .ok (.invokevirtual 476, 3) := by decide +kernel
theorem dX12_isKinBy_99 : decode mX12_isKinBy.2.1 99 = .ok (.ifCond .eq 67, 3) := by decide +kernel
theorem dX12_isKinBy_102 : decode mX12_isKinBy.2.1 102 = .ok (.aload_n 0, 1) := by decide +kernel
theorem dX12_isKinBy_103 : decode mX12_isKinBy.2.1 103 = .ok (.getfield 201, 3) := by decide +kernel
theorem dX12_isKinBy_106 : decode mX12_isKinBy.2.1 106 = .ok (.iload 8, 2) := by decide +kernel
theorem dX12_isKinBy_108 : decode mX12_isKinBy.2.1 108 = .ok (.aload_n 0, 1) := by decide +kernel
theorem dX12_isKinBy_109 : decode mX12_isKinBy.2.1 109 = .ok (.getfield 201, 3) := by decide +kernel
theorem dX12_isKinBy_112 : decode mX12_isKinBy.2.1 112 = .ok (.iload 8, 2) := by decide +kernel
theorem dX12_isKinBy_114 : decode mX12_isKinBy.2.1 114 = .ok (.baload, 1) := by decide +kernel
theorem dX12_isKinBy_115 : decode mX12_isKinBy.2.1 115 = .ok (.ifCond .ne 39, 3) := by decide +kernel
theorem dX12_isKinBy_118 : decode mX12_isKinBy.2.1 118 = .ok (.aload_n 0, 1) := by decide +kernel
theorem dX12_isKinBy_119 : decode mX12_isKinBy.2.1 119 = .ok (.getfield 197, 3) := by decide +kernel
theorem dX12_isKinBy_122 : decode mX12_isKinBy.2.1 122 = .ok (.iload 9, 2) := by decide +kernel
theorem dX12_isKinBy_124 : decode mX12_isKinBy.2.1 124 = .ok (.baload, 1) := by decide +kernel
theorem dX12_isKinBy_125 : decode mX12_isKinBy.2.1 125 = .ok (.ifCond .eq 33, 3) := by decide +kernel
theorem dX12_isKinBy_128 : decode mX12_isKinBy.2.1 128 = .ok (.aload_n 0, 1) := by decide +kernel
theorem dX12_isKinBy_129 : decode mX12_isKinBy.2.1 129 = .ok (.aload_n 0, 1) := by decide +kernel
theorem dX12_isKinBy_130 : decode mX12_isKinBy.2.1 130 = .ok (.getfield 36, 3) := by decide +kernel
theorem dX12_isKinBy_133 : decode mX12_isKinBy.2.1 133 = .ok (.iload_n 1, 1) := by decide +kernel
theorem dX12_isKinBy_134 : decode mX12_isKinBy.2.1 134 = .ok (.aaload, 1) := by decide +kernel
theorem dX12_isKinBy_135 : decode mX12_isKinBy.2.1 135 = .ok (.iload_n 2, 1) := by decide +kernel
theorem dX12_isKinBy_136 : decode mX12_isKinBy.2.1 136 = .ok (.aaload, 1) := by decide +kernel
theorem dX12_isKinBy_137 : decode mX12_isKinBy.2.1 137 = .ok (.iload 7, 2) := by decide +kernel
theorem dX12_isKinBy_139 : decode mX12_isKinBy.2.1 139 = .ok (.iaload, 1) := by decide +kernel
theorem dX12_isKinBy_140 : decode mX12_isKinBy.2.1 140 = .ok (.iload 8, 2) := by decide +kernel
theorem dX12_isKinBy_142 : decode mX12_isKinBy.2.1 142 = .ok (.iload 9, 2) := by decide +kernel
theorem dX12_isKinBy_144 : decode mX12_isKinBy.2.1 144 = .ok (.iload 5, 2) := by decide +kernel
theorem dX12_isKinBy_146 : decode mX12_isKinBy.2.1 146 = .ok (.iload 6, 2) := by decide +kernel
theorem dX12_isKinBy_148 : decode mX12_isKinBy.2.1 148 = .ok (.invokevirtual 479, 3) := by decide +kernel
theorem dX12_isKinBy_151 : decode mX12_isKinBy.2.1 151 = .ok (.ifCond .eq 7, 3) := by decide +kernel
theorem dX12_isKinBy_154 : decode mX12_isKinBy.2.1 154 = .ok (.iconst 1, 1) := by decide +kernel
theorem dX12_isKinBy_155 : decode mX12_isKinBy.2.1 155 = .ok (.goto 4, 3) := by decide +kernel
theorem dX12_isKinBy_158 : decode mX12_isKinBy.2.1 158 = .ok (.iconst 0, 1) := by decide +kernel
theorem dX12_isKinBy_159 : decode mX12_isKinBy.2.1 159 = .ok (.bastore, 1) := by decide +kernel
theorem dX12_isKinBy_160 : decode mX12_isKinBy.2.1 160 = .ok (.iinc 9 1, 3) := by decide +kernel
theorem dX12_isKinBy_163 : decode mX12_isKinBy.2.1 163 = .ok (.goto (-87), 3) := by decide +kernel
theorem dX12_isKinBy_166 : decode mX12_isKinBy.2.1 166 = .ok (.iinc 8 1, 3) := by decide +kernel
theorem dX12_isKinBy_169 : decode mX12_isKinBy.2.1 169 = .ok (.goto (-113), 3) := by decide +kernel
theorem dX12_isKinBy_172 : decode mX12_isKinBy.2.1 172 = .ok (.iconst 0, 1) := by decide +kernel
theorem dX12_isKinBy_173 : decode mX12_isKinBy.2.1 173 = .ok (.istore 8, 2) := by decide +kernel
theorem dX12_isKinBy_175 : decode mX12_isKinBy.2.1 175 = .ok (.iload 8, 2) := by decide +kernel
theorem dX12_isKinBy_177 : decode mX12_isKinBy.2.1 177 = .ok (.aload_n 0, 1) := by decide +kernel
theorem dX12_isKinBy_178 : decode mX12_isKinBy.2.1 178 = .ok (.getfield 447, 3) := by decide +kernel
theorem dX12_isKinBy_181 : decode mX12_isKinBy.2.1 181 = .ok (.if_icmp .ge 23, 3) := by decide +kernel
theorem dX12_isKinBy_184 : decode mX12_isKinBy.2.1 184 = .ok (.aload_n 0, 1) := by decide +kernel
theorem dX12_isKinBy_185 : decode mX12_isKinBy.2.1 185 = .ok (.getfield 197, 3) := by decide +kernel
theorem dX12_isKinBy_188 : decode mX12_isKinBy.2.1 188 = .ok (.iload 8, 2) := by decide +kernel
theorem dX12_isKinBy_190 : decode mX12_isKinBy.2.1 190 = .ok (.aload_n 0, 1) := by decide +kernel
theorem dX12_isKinBy_191 : decode mX12_isKinBy.2.1 191 = .ok (.getfield 201, 3) := by decide +kernel
theorem dX12_isKinBy_194 : decode mX12_isKinBy.2.1 194 = .ok (.iload 8, 2) := by decide +kernel
theorem dX12_isKinBy_196 : decode mX12_isKinBy.2.1 196 = .ok (.baload, 1) := by decide +kernel
theorem dX12_isKinBy_197 : decode mX12_isKinBy.2.1 197 = .ok (.bastore, 1) := by decide +kernel
theorem dX12_isKinBy_198 : decode mX12_isKinBy.2.1 198 = .ok (.iinc 8 1, 3) := by decide +kernel
theorem dX12_isKinBy_201 : decode mX12_isKinBy.2.1 201 = .ok (.goto (-26), 3) := by decide +kernel
theorem dX12_isKinBy_204 : decode mX12_isKinBy.2.1 204 = .ok (.iinc 7 (-1), 3) := by decide +kernel
theorem dX12_isKinBy_207 : decode mX12_isKinBy.2.1 207 = .ok (.goto (-159), 3) := by decide +kernel
theorem dX12_isKinBy_210 : decode mX12_isKinBy.2.1 210 = .ok (.aload_n 0, 1) := by decide +kernel
theorem dX12_isKinBy_211 : decode mX12_isKinBy.2.1 211 = .ok (.getfield 197, 3) := by decide +kernel
theorem dX12_isKinBy_214 : decode mX12_isKinBy.2.1 214 = .ok (.iload 4, 2) := by decide +kernel
theorem dX12_isKinBy_216 : decode mX12_isKinBy.2.1 216 = .ok (.baload, 1) := by decide +kernel
theorem dX12_isKinBy_217 : decode mX12_isKinBy.2.1 217 = .ok (.ireturn, 1) := by decide +kernel
theorem bX12_isKinBy_0 {SC : Nat → Nat} {X : mh_X} {d : Nat} {Q : Option am_V → am_W → Prop} {bc bs : Nat} {w : am_W} {x1 : Int} {x2 : Int} {x3 : Int} {x4 : Int} {x5 : Int} {x6 : Int}
    (h : am_A (mh_G X) SC (d + 1) mX12_isKinBy Q 3 [(0, .inr (.inr (some (9, 0)))), (1, .inl x1), (2, .inl x2), (3, .inl x3), (4, .inl x4), (5, .inl x5), (6, .inl x6), (7, .inl 0)] [] w bc bs) :
    am_A (mh_G X) SC (d + 1) mX12_isKinBy Q 0 [(0, .inr (.inr (some (9, 0)))), (1, .inl x1), (2, .inl x2), (3, .inl x3), (4, .inl x4), (5, .inl x5), (6, .inl x6)] [] w bc bs := by
  refine am_iconst dX12_isKinBy_0 (by unfold am_rg; omega) ?_
  refine am_istore (ls' := [(7, .inl 0), (0, .inr (.inr (some (9, 0)))), (1, .inl x1), (2, .inl x2), (3, .inl x3), (4, .inl x4), (5, .inl x5), (6, .inl x6)]) dX12_isKinBy_1 (by decide) rfl ?_
  exact am_sub [1, 2, 3, 4, 5, 6, 7, 0] rfl h
theorem bX12_isKinBy_3 {SC : Nat → Nat} {X : mh_X} {d : Nat} {Q : Option am_V → am_W → Prop} {bc bs : Nat} {w : am_W} {x1 : Int} {x2 : Int} {x3 : Int} {x4 : Int} {x5 : Int} {x6 : Int} {x7 : Int}
    (h : (((w.1 9 0 42) ≤ x7 → (0 ≤ x1 ∧ (x1 < 7 ∧ (0 ≤ x2 ∧ (x2 < 30 ∧ am_A (mh_G X) SC (d + 1) mX12_isKinBy Q 48 [(0, .inr (.inr (some (9, 0)))), (1, .inl x1), (2, .inl x2), (3, .inl x3), (4, .inl x4), (5, .inl x5), (6, .inl x6), (7, .inl (am_w ((w.1 71 x1.toNat x2.toNat) - 1)))] [] w bc bs))))) ∧ (¬ (w.1 9 0 42) ≤ x7 → ((¬ x7 = x3 → am_A (mh_G X) SC (d + 1) mX12_isKinBy Q 29 [(0, .inr (.inr (some (9, 0)))), (1, .inl x1), (2, .inl x2), (3, .inl x3), (4, .inl x4), (5, .inl x5), (6, .inl x6), (7, .inl x7)] [.inl 0, .inl x7, .inr (.inr (some (112, 0)))] w bc bs) ∧ (x7 = x3 → am_A (mh_G X) SC (d + 1) mX12_isKinBy Q 29 [(0, .inr (.inr (some (9, 0)))), (1, .inl x1), (2, .inl x2), (3, .inl x3), (4, .inl x4), (5, .inl x5), (6, .inl x6), (7, .inl x7)] [.inl 1, .inl x7, .inr (.inr (some (112, 0)))] w bc bs))))) :
    am_A (mh_G X) SC (d + 1) mX12_isKinBy Q 3 [(0, .inr (.inr (some (9, 0)))), (1, .inl x1), (2, .inl x2), (3, .inl x3), (4, .inl x4), (5, .inl x5), (6, .inl x6), (7, .inl x7)] [] w bc bs := by
  refine am_iload dX12_isKinBy_3 (List.Mem.tail _ (List.Mem.tail _ (List.Mem.tail _ (List.Mem.tail _ (List.Mem.tail _ (List.Mem.tail _ (List.Mem.tail _ (List.Mem.head _)))))))) ?_
  refine am_aload_n dX12_isKinBy_5 (List.Mem.head _) ?_
  refine am_getf (f := 42) (v := .inl (w.1 9 0 42)) dX12_isKinBy_6 hc_10 (by decide) wd_1591 (by decide) rfl rfl ?_
  refine am_icmpge (tgt := 36) dX12_isKinBy_9 (by decide) (fun c1 => ?_) (fun c1 => ?_)
  · replace h := h.1 c1
    refine am_aload_n dX12_isKinBy_36 (List.Mem.head _) ?_
    refine am_getf (f := 8) (v := .inr (.inr (some (70, 0)))) dX12_isKinBy_37 hc_10 (by decide) wd_1557 (by decide) rfl rfl ?_
    refine am_iload_n dX12_isKinBy_40 (List.Mem.tail _ (List.Mem.head _)) ?_
    have o2 := h.1
    replace h := h.2
    have o3 := h.1
    replace h := h.2
    refine am_aaload (kd := 5) (r := some (71, x1.toNat)) dX12_isKinBy_41 (by decide) rfl (by decide) (by decide) o2 o3 rfl ?_
    refine am_iload_n dX12_isKinBy_42 (List.Mem.tail _ (List.Mem.tail _ (List.Mem.head _))) ?_
    have o4 := h.1
    replace h := h.2
    have o5 := h.1
    replace h := h.2
    refine am_iaload (v := (w.1 71 x1.toNat x2.toNat)) dX12_isKinBy_43 (by decide) rfl o4 o5 rfl ?_
    refine am_iconst dX12_isKinBy_44 (by unfold am_rg; omega) ?_
    refine am_isub dX12_isKinBy_45 ?_
    refine am_istore (ls' := [(7, .inl (am_w ((w.1 71 x1.toNat x2.toNat) - 1))), (0, .inr (.inr (some (9, 0)))), (1, .inl x1), (2, .inl x2), (3, .inl x3), (4, .inl x4), (5, .inl x5), (6, .inl x6)]) dX12_isKinBy_46 (by decide) rfl ?_
    exact am_sub [1, 2, 3, 4, 5, 6, 7, 0] rfl h
  · replace h := h.2 c1
    refine am_aload_n dX12_isKinBy_12 (List.Mem.head _) ?_
    refine am_getf (f := 53) (v := .inr (.inr (some (112, 0)))) dX12_isKinBy_13 hc_10 (by decide) wd_1602 (by decide) rfl rfl ?_
    refine am_iload dX12_isKinBy_16 (List.Mem.tail _ (List.Mem.tail _ (List.Mem.tail _ (List.Mem.tail _ (List.Mem.tail _ (List.Mem.tail _ (List.Mem.tail _ (List.Mem.head _)))))))) ?_
    refine am_iload dX12_isKinBy_18 (List.Mem.tail _ (List.Mem.tail _ (List.Mem.tail _ (List.Mem.tail _ (List.Mem.tail _ (List.Mem.tail _ (List.Mem.tail _ (List.Mem.head _)))))))) ?_
    refine am_iload_n dX12_isKinBy_20 (List.Mem.tail _ (List.Mem.tail _ (List.Mem.tail _ (List.Mem.head _)))) ?_
    refine am_icmpne (tgt := 28) dX12_isKinBy_21 (by decide) (fun c6 => ?_) (fun c6 => ?_)
    · replace h := h.1 c6
      refine am_iconst dX12_isKinBy_28 (by unfold am_rg; omega) ?_
      exact h
    · replace h := h.2 c6
      refine am_iconst dX12_isKinBy_24 (by unfold am_rg; omega) ?_
      refine am_goto (tgt := 29) dX12_isKinBy_25 (by decide) ?_
      exact h
theorem bX12_isKinBy_48 {SC : Nat → Nat} {X : mh_X} {d : Nat} {Q : Option am_V → am_W → Prop} {bc bs : Nat} {w : am_W} {x1 : Int} {x2 : Int} {x3 : Int} {x4 : Int} {x5 : Int} {x6 : Int} {x7 : Int}
    (h : ((x7 < 0 → (0 ≤ x4 ∧ (x4 < 40 ∧ (((w.1 112 0 x4.toNat) = 0 ∨ (w.1 112 0 x4.toNat) = 1) ∧ Q (some (.inl (w.1 112 0 x4.toNat))) w)))) ∧ (¬ x7 < 0 → am_A (mh_G X) SC (d + 1) mX12_isKinBy Q 56 [(0, .inr (.inr (some (9, 0)))), (1, .inl x1), (2, .inl x2), (3, .inl x3), (4, .inl x4), (5, .inl x5), (6, .inl x6), (7, .inl x7), (8, .inl 0)] [] w bc bs))) :
    am_A (mh_G X) SC (d + 1) mX12_isKinBy Q 48 [(0, .inr (.inr (some (9, 0)))), (1, .inl x1), (2, .inl x2), (3, .inl x3), (4, .inl x4), (5, .inl x5), (6, .inl x6), (7, .inl x7)] [] w bc bs := by
  refine am_iload dX12_isKinBy_48 (List.Mem.tail _ (List.Mem.tail _ (List.Mem.tail _ (List.Mem.tail _ (List.Mem.tail _ (List.Mem.tail _ (List.Mem.tail _ (List.Mem.head _)))))))) ?_
  refine am_iflt (tgt := 210) dX12_isKinBy_50 (by decide) (fun c1 => ?_) (fun c1 => ?_)
  · replace h := h.1 c1
    refine am_aload_n dX12_isKinBy_210 (List.Mem.head _) ?_
    refine am_getf (f := 53) (v := .inr (.inr (some (112, 0)))) dX12_isKinBy_211 hc_10 (by decide) wd_1602 (by decide) rfl rfl ?_
    refine am_iload dX12_isKinBy_214 (List.Mem.tail _ (List.Mem.tail _ (List.Mem.tail _ (List.Mem.tail _ (List.Mem.head _))))) ?_
    have o2 := h.1
    replace h := h.2
    have o3 := h.1
    replace h := h.2
    refine am_zaload (v := (w.1 112 0 x4.toNat)) dX12_isKinBy_216 (by decide) rfl o2 o3 rfl ?_
    have o4 := h.1
    replace h := h.2
    exact am_ret (r := some (.inl (w.1 112 0 x4.toNat))) dX12_isKinBy_217 (Or.inr (Or.inl ⟨rfl, o4⟩)) rfl h
  · replace h := h.2 c1
    refine am_iconst dX12_isKinBy_53 (by unfold am_rg; omega) ?_
    refine am_istore (ls' := [(8, .inl 0), (0, .inr (.inr (some (9, 0)))), (1, .inl x1), (2, .inl x2), (3, .inl x3), (4, .inl x4), (5, .inl x5), (6, .inl x6), (7, .inl x7)]) dX12_isKinBy_54 (by decide) rfl ?_
    exact am_sub [1, 2, 3, 4, 5, 6, 7, 8, 0] rfl h
theorem bX12_isKinBy_29 {SC : Nat → Nat} {X : mh_X} {d : Nat} {Q : Option am_V → am_W → Prop} {bc bs : Nat} {w : am_W} {x1 : Int} {x2 : Int} {x3 : Int} {x4 : Int} {x5 : Int} {x6 : Int} {x7 : Int} {xs0 : Int} {xs1 : Int}
    (h : (0 ≤ xs1 ∧ (xs1 < 40 ∧ ((xs0 = 0 ∨ xs0 = 1) ∧ am_A (mh_G X) SC (d + 1) mX12_isKinBy Q 3 [(0, .inr (.inr (some (9, 0)))), (1, .inl x1), (2, .inl x2), (3, .inl x3), (4, .inl x4), (5, .inl x5), (6, .inl x6), (7, .inl (am_w (x7 + 1)))] [] ((am_up w.1 112 0 xs1.toNat xs0), w.2) bc bs)))) :
    am_A (mh_G X) SC (d + 1) mX12_isKinBy Q 29 [(0, .inr (.inr (some (9, 0)))), (1, .inl x1), (2, .inl x2), (3, .inl x3), (4, .inl x4), (5, .inl x5), (6, .inl x6), (7, .inl x7)] [.inl xs0, .inl xs1, .inr (.inr (some (112, 0)))] w bc bs := by
  have o1 := h.1
  replace h := h.2
  have o2 := h.1
  replace h := h.2
  have o3 := h.1
  replace h := h.2
  refine am_zastore o3 dX12_isKinBy_29 (Or.inl (by decide)) rfl o1 o2 ?_
  refine am_iinc (ls' := [(7, .inl (am_w (x7 + 1))), (0, .inr (.inr (some (9, 0)))), (1, .inl x1), (2, .inl x2), (3, .inl x3), (4, .inl x4), (5, .inl x5), (6, .inl x6)]) dX12_isKinBy_30 (List.Mem.tail _ (List.Mem.tail _ (List.Mem.tail _ (List.Mem.tail _ (List.Mem.tail _ (List.Mem.tail _ (List.Mem.tail _ (List.Mem.head _)))))))) (by decide) rfl ?_
  refine am_goto (tgt := 3) dX12_isKinBy_33 (by decide) ?_
  exact am_sub [1, 2, 3, 4, 5, 6, 7, 0] rfl h
theorem bX12_isKinBy_56 {SC : Nat → Nat} {X : mh_X} {d : Nat} {Q : Option am_V → am_W → Prop} {bc bs : Nat} {w : am_W} {x1 : Int} {x2 : Int} {x3 : Int} {x4 : Int} {x5 : Int} {x6 : Int} {x7 : Int} {x8 : Int}
    (h : (((w.1 9 0 42) ≤ x8 → am_A (mh_G X) SC (d + 1) mX12_isKinBy Q 175 [(0, .inr (.inr (some (9, 0)))), (1, .inl x1), (2, .inl x2), (3, .inl x3), (4, .inl x4), (5, .inl x5), (6, .inl x6), (7, .inl x7), (8, .inl 0)] [] w bc bs) ∧ (¬ (w.1 9 0 42) ≤ x8 → (0 ≤ x8 ∧ (x8 < 40 ∧ am_A (mh_G X) SC (d + 1) mX12_isKinBy Q 76 [(0, .inr (.inr (some (9, 0)))), (1, .inl x1), (2, .inl x2), (3, .inl x3), (4, .inl x4), (5, .inl x5), (6, .inl x6), (7, .inl x7), (8, .inl x8), (9, .inl 0)] [] ((am_up w.1 113 0 x8.toNat 0), w.2) bc bs))))) :
    am_A (mh_G X) SC (d + 1) mX12_isKinBy Q 56 [(0, .inr (.inr (some (9, 0)))), (1, .inl x1), (2, .inl x2), (3, .inl x3), (4, .inl x4), (5, .inl x5), (6, .inl x6), (7, .inl x7), (8, .inl x8)] [] w bc bs := by
  refine am_iload dX12_isKinBy_56 (List.Mem.tail _ (List.Mem.tail _ (List.Mem.tail _ (List.Mem.tail _ (List.Mem.tail _ (List.Mem.tail _ (List.Mem.tail _ (List.Mem.tail _ (List.Mem.head _))))))))) ?_
  refine am_aload_n dX12_isKinBy_58 (List.Mem.head _) ?_
  refine am_getf (f := 42) (v := .inl (w.1 9 0 42)) dX12_isKinBy_59 hc_10 (by decide) wd_1591 (by decide) rfl rfl ?_
  refine am_icmpge (tgt := 172) dX12_isKinBy_62 (by decide) (fun c1 => ?_) (fun c1 => ?_)
  · replace h := h.1 c1
    refine am_iconst dX12_isKinBy_172 (by unfold am_rg; omega) ?_
    refine am_istore (ls' := [(8, .inl 0), (0, .inr (.inr (some (9, 0)))), (1, .inl x1), (2, .inl x2), (3, .inl x3), (4, .inl x4), (5, .inl x5), (6, .inl x6), (7, .inl x7)]) dX12_isKinBy_173 (by decide) rfl ?_
    exact am_sub [1, 2, 3, 4, 5, 6, 7, 8, 0] rfl h
  · replace h := h.2 c1
    refine am_aload_n dX12_isKinBy_65 (List.Mem.head _) ?_
    refine am_getf (f := 54) (v := .inr (.inr (some (113, 0)))) dX12_isKinBy_66 hc_10 (by decide) wd_1603 (by decide) rfl rfl ?_
    refine am_iload dX12_isKinBy_69 (List.Mem.tail _ (List.Mem.tail _ (List.Mem.tail _ (List.Mem.tail _ (List.Mem.tail _ (List.Mem.tail _ (List.Mem.tail _ (List.Mem.tail _ (List.Mem.head _))))))))) ?_
    refine am_iconst dX12_isKinBy_71 (by unfold am_rg; omega) ?_
    have o2 := h.1
    replace h := h.2
    have o3 := h.1
    replace h := h.2
    refine am_zastore (by decide) dX12_isKinBy_72 (Or.inl (by decide)) rfl o2 o3 ?_
    refine am_iconst dX12_isKinBy_73 (by unfold am_rg; omega) ?_
    refine am_istore (ls' := [(9, .inl 0), (0, .inr (.inr (some (9, 0)))), (1, .inl x1), (2, .inl x2), (3, .inl x3), (4, .inl x4), (5, .inl x5), (6, .inl x6), (7, .inl x7), (8, .inl x8)]) dX12_isKinBy_74 (by decide) rfl ?_
    exact am_sub [1, 2, 3, 4, 5, 6, 7, 8, 9, 0] rfl h
theorem bX12_isKinBy_175 {SC : Nat → Nat} {X : mh_X} {d : Nat} {Q : Option am_V → am_W → Prop} {bc bs : Nat} {w : am_W} {x1 : Int} {x2 : Int} {x3 : Int} {x4 : Int} {x5 : Int} {x6 : Int} {x7 : Int} {x8 : Int}
    (h : (((w.1 9 0 42) ≤ x8 → am_A (mh_G X) SC (d + 1) mX12_isKinBy Q 48 [(0, .inr (.inr (some (9, 0)))), (1, .inl x1), (2, .inl x2), (3, .inl x3), (4, .inl x4), (5, .inl x5), (6, .inl x6), (7, .inl (am_w (x7 + (-1))))] [] w bc bs) ∧ (¬ (w.1 9 0 42) ≤ x8 → (0 ≤ x8 ∧ (x8 < 40 ∧ (((w.1 113 0 x8.toNat) = 0 ∨ (w.1 113 0 x8.toNat) = 1) ∧ am_A (mh_G X) SC (d + 1) mX12_isKinBy Q 175 [(0, .inr (.inr (some (9, 0)))), (1, .inl x1), (2, .inl x2), (3, .inl x3), (4, .inl x4), (5, .inl x5), (6, .inl x6), (7, .inl x7), (8, .inl (am_w (x8 + 1)))] [] ((am_up w.1 112 0 x8.toNat (w.1 113 0 x8.toNat)), w.2) bc bs)))))) :
    am_A (mh_G X) SC (d + 1) mX12_isKinBy Q 175 [(0, .inr (.inr (some (9, 0)))), (1, .inl x1), (2, .inl x2), (3, .inl x3), (4, .inl x4), (5, .inl x5), (6, .inl x6), (7, .inl x7), (8, .inl x8)] [] w bc bs := by
  refine am_iload dX12_isKinBy_175 (List.Mem.tail _ (List.Mem.tail _ (List.Mem.tail _ (List.Mem.tail _ (List.Mem.tail _ (List.Mem.tail _ (List.Mem.tail _ (List.Mem.tail _ (List.Mem.head _))))))))) ?_
  refine am_aload_n dX12_isKinBy_177 (List.Mem.head _) ?_
  refine am_getf (f := 42) (v := .inl (w.1 9 0 42)) dX12_isKinBy_178 hc_10 (by decide) wd_1591 (by decide) rfl rfl ?_
  refine am_icmpge (tgt := 204) dX12_isKinBy_181 (by decide) (fun c1 => ?_) (fun c1 => ?_)
  · replace h := h.1 c1
    refine am_iinc (ls' := [(7, .inl (am_w (x7 + (-1)))), (0, .inr (.inr (some (9, 0)))), (1, .inl x1), (2, .inl x2), (3, .inl x3), (4, .inl x4), (5, .inl x5), (6, .inl x6), (8, .inl x8)]) dX12_isKinBy_204 (List.Mem.tail _ (List.Mem.tail _ (List.Mem.tail _ (List.Mem.tail _ (List.Mem.tail _ (List.Mem.tail _ (List.Mem.tail _ (List.Mem.head _)))))))) (by decide) rfl ?_
    refine am_goto (tgt := 48) dX12_isKinBy_207 (by decide) ?_
    exact am_sub [1, 2, 3, 4, 5, 6, 7, 0] rfl h
  · replace h := h.2 c1
    refine am_aload_n dX12_isKinBy_184 (List.Mem.head _) ?_
    refine am_getf (f := 53) (v := .inr (.inr (some (112, 0)))) dX12_isKinBy_185 hc_10 (by decide) wd_1602 (by decide) rfl rfl ?_
    refine am_iload dX12_isKinBy_188 (List.Mem.tail _ (List.Mem.tail _ (List.Mem.tail _ (List.Mem.tail _ (List.Mem.tail _ (List.Mem.tail _ (List.Mem.tail _ (List.Mem.tail _ (List.Mem.head _))))))))) ?_
    refine am_aload_n dX12_isKinBy_190 (List.Mem.head _) ?_
    refine am_getf (f := 54) (v := .inr (.inr (some (113, 0)))) dX12_isKinBy_191 hc_10 (by decide) wd_1603 (by decide) rfl rfl ?_
    refine am_iload dX12_isKinBy_194 (List.Mem.tail _ (List.Mem.tail _ (List.Mem.tail _ (List.Mem.tail _ (List.Mem.tail _ (List.Mem.tail _ (List.Mem.tail _ (List.Mem.tail _ (List.Mem.head _))))))))) ?_
    have o2 := h.1
    replace h := h.2
    have o3 := h.1
    replace h := h.2
    refine am_zaload (v := (w.1 113 0 x8.toNat)) dX12_isKinBy_196 (by decide) rfl o2 o3 rfl ?_
    have o4 := h.1
    replace h := h.2
    refine am_zastore o4 dX12_isKinBy_197 (Or.inl (by decide)) rfl o2 o3 ?_
    refine am_iinc (ls' := [(8, .inl (am_w (x8 + 1))), (0, .inr (.inr (some (9, 0)))), (1, .inl x1), (2, .inl x2), (3, .inl x3), (4, .inl x4), (5, .inl x5), (6, .inl x6), (7, .inl x7)]) dX12_isKinBy_198 (List.Mem.tail _ (List.Mem.tail _ (List.Mem.tail _ (List.Mem.tail _ (List.Mem.tail _ (List.Mem.tail _ (List.Mem.tail _ (List.Mem.tail _ (List.Mem.head _))))))))) (by decide) rfl ?_
    refine am_goto (tgt := 175) dX12_isKinBy_201 (by decide) ?_
    exact am_sub [1, 2, 3, 4, 5, 6, 7, 8, 0] rfl h
theorem bX12_isKinBy_76 {SC : Nat → Nat} {X : mh_X} {d : Nat} {Q : Option am_V → am_W → Prop} {bc bs : Nat} {w : am_W} {x1 : Int} {x2 : Int} {x3 : Int} {x4 : Int} {x5 : Int} {x6 : Int} {x7 : Int} {x8 : Int} {x9 : Int}
    (h : (((w.1 9 0 42) ≤ x9 → am_A (mh_G X) SC (d + 1) mX12_isKinBy Q 166 [(0, .inr (.inr (some (9, 0)))), (1, .inl x1), (2, .inl x2), (3, .inl x3), (4, .inl x4), (5, .inl x5), (6, .inl x6), (7, .inl x7), (8, .inl x8)] [] w bc bs) ∧ (¬ (w.1 9 0 42) ≤ x9 → ((x8 = x3 → am_A (mh_G X) SC (d + 1) mX12_isKinBy Q 166 [(0, .inr (.inr (some (9, 0)))), (1, .inl x1), (2, .inl x2), (3, .inl x3), (4, .inl x4), (5, .inl x5), (6, .inl x6), (7, .inl x7), (8, .inl x8)] [] w bc bs) ∧ (¬ x8 = x3 → am_M (mh_G X) SC d 0 0 mX12_isThere [.inr (.inr (some (9, 0))), .inl x8, .inl x6] w (fun r w1 => am_A (mh_G X) SC (d + 1) mX12_isKinBy Q 99 [(0, .inr (.inr (some (9, 0)))), (1, .inl x1), (2, .inl x2), (3, .inl x3), (4, .inl x4), (5, .inl x5), (6, .inl x6), (7, .inl x7), (8, .inl x8), (9, .inl x9)] (r.toList ++ []) w1 bc bs)))))) :
    am_A (mh_G X) SC (d + 1) mX12_isKinBy Q 76 [(0, .inr (.inr (some (9, 0)))), (1, .inl x1), (2, .inl x2), (3, .inl x3), (4, .inl x4), (5, .inl x5), (6, .inl x6), (7, .inl x7), (8, .inl x8), (9, .inl x9)] [] w bc bs := by
  refine am_iload dX12_isKinBy_76 (List.Mem.tail _ (List.Mem.tail _ (List.Mem.tail _ (List.Mem.tail _ (List.Mem.tail _ (List.Mem.tail _ (List.Mem.tail _ (List.Mem.tail _ (List.Mem.tail _ (List.Mem.head _)))))))))) ?_
  refine am_aload_n dX12_isKinBy_78 (List.Mem.head _) ?_
  refine am_getf (f := 42) (v := .inl (w.1 9 0 42)) dX12_isKinBy_79 hc_10 (by decide) wd_1591 (by decide) rfl rfl ?_
  refine am_icmpge (tgt := 166) dX12_isKinBy_82 (by decide) (fun c1 => ?_) (fun c1 => ?_)
  · replace h := h.1 c1
    exact am_sub [0, 1, 2, 3, 4, 5, 6, 7, 8] rfl h
  · replace h := h.2 c1
    refine am_iload dX12_isKinBy_85 (List.Mem.tail _ (List.Mem.tail _ (List.Mem.tail _ (List.Mem.tail _ (List.Mem.tail _ (List.Mem.tail _ (List.Mem.tail _ (List.Mem.tail _ (List.Mem.head _))))))))) ?_
    refine am_iload_n dX12_isKinBy_87 (List.Mem.tail _ (List.Mem.tail _ (List.Mem.tail _ (List.Mem.head _)))) ?_
    refine am_icmpeq (tgt := 166) dX12_isKinBy_88 (by decide) (fun c2 => ?_) (fun c2 => ?_)
    · replace h := h.1 c2
      exact am_sub [0, 1, 2, 3, 4, 5, 6, 7, 8] rfl h
    · replace h := h.2 c2
      refine am_aload_n dX12_isKinBy_91 (List.Mem.head _) ?_
      refine am_iload dX12_isKinBy_92 (List.Mem.tail _ (List.Mem.tail _ (List.Mem.tail _ (List.Mem.tail _ (List.Mem.tail _ (List.Mem.tail _ (List.Mem.tail _ (List.Mem.tail _ (List.Mem.head _))))))))) ?_
      refine am_iload dX12_isKinBy_94 (List.Mem.tail _ (List.Mem.tail _ (List.Mem.tail _ (List.Mem.tail _ (List.Mem.tail _ (List.Mem.tail _ (List.Mem.head _))))))) ?_
      exact am_callv (d' := d) (kc := 0) (ks := 0) (as := [.inl x8, .inl x6]) dX12_isKinBy_96 wc_X12_isThere wd_2042 wd_2044 wd_75 wd_122 ds_X12_isThere (by decide) (Nat.le_refl _) (Nat.le_of_ble_eq_true rfl) (Nat.zero_le _) (Nat.zero_le _) hc_10 (by decide) rfl rfl h
theorem bX12_isKinBy_166 {SC : Nat → Nat} {X : mh_X} {d : Nat} {Q : Option am_V → am_W → Prop} {bc bs : Nat} {w : am_W} {x1 : Int} {x2 : Int} {x3 : Int} {x4 : Int} {x5 : Int} {x6 : Int} {x7 : Int} {x8 : Int}
    (h : am_A (mh_G X) SC (d + 1) mX12_isKinBy Q 56 [(0, .inr (.inr (some (9, 0)))), (1, .inl x1), (2, .inl x2), (3, .inl x3), (4, .inl x4), (5, .inl x5), (6, .inl x6), (7, .inl x7), (8, .inl (am_w (x8 + 1)))] [] w bc bs) :
    am_A (mh_G X) SC (d + 1) mX12_isKinBy Q 166 [(0, .inr (.inr (some (9, 0)))), (1, .inl x1), (2, .inl x2), (3, .inl x3), (4, .inl x4), (5, .inl x5), (6, .inl x6), (7, .inl x7), (8, .inl x8)] [] w bc bs := by
  refine am_iinc (ls' := [(8, .inl (am_w (x8 + 1))), (0, .inr (.inr (some (9, 0)))), (1, .inl x1), (2, .inl x2), (3, .inl x3), (4, .inl x4), (5, .inl x5), (6, .inl x6), (7, .inl x7)]) dX12_isKinBy_166 (List.Mem.tail _ (List.Mem.tail _ (List.Mem.tail _ (List.Mem.tail _ (List.Mem.tail _ (List.Mem.tail _ (List.Mem.tail _ (List.Mem.tail _ (List.Mem.head _))))))))) (by decide) rfl ?_
  refine am_goto (tgt := 56) dX12_isKinBy_169 (by decide) ?_
  exact am_sub [1, 2, 3, 4, 5, 6, 7, 8, 0] rfl h
theorem bX12_isKinBy_99 {SC : Nat → Nat} {X : mh_X} {d : Nat} {Q : Option am_V → am_W → Prop} {bc bs : Nat} {w : am_W} {x1 : Int} {x2 : Int} {x3 : Int} {x4 : Int} {x5 : Int} {x6 : Int} {x7 : Int} {x8 : Int} {x9 : Int} {xs0 : Int}
    (h : ((xs0 = 0 → am_A (mh_G X) SC (d + 1) mX12_isKinBy Q 166 [(0, .inr (.inr (some (9, 0)))), (1, .inl x1), (2, .inl x2), (3, .inl x3), (4, .inl x4), (5, .inl x5), (6, .inl x6), (7, .inl x7), (8, .inl x8)] [] w bc bs) ∧ (¬ xs0 = 0 → (0 ≤ x8 ∧ (x8 < 40 ∧ ((¬ (w.1 113 0 x8.toNat) = 0 → am_A (mh_G X) SC (d + 1) mX12_isKinBy Q 154 [(0, .inr (.inr (some (9, 0)))), (1, .inl x1), (2, .inl x2), (3, .inl x3), (4, .inl x4), (5, .inl x5), (6, .inl x6), (7, .inl x7), (8, .inl x8), (9, .inl x9)] [.inl x8, .inr (.inr (some (113, 0)))] w bc bs) ∧ ((w.1 113 0 x8.toNat) = 0 → (0 ≤ x9 ∧ (x9 < 40 ∧ (((w.1 112 0 x9.toNat) = 0 → am_A (mh_G X) SC (d + 1) mX12_isKinBy Q 158 [(0, .inr (.inr (some (9, 0)))), (1, .inl x1), (2, .inl x2), (3, .inl x3), (4, .inl x4), (5, .inl x5), (6, .inl x6), (7, .inl x7), (8, .inl x8), (9, .inl x9)] [.inl x8, .inr (.inr (some (113, 0)))] w bc bs) ∧ (¬ (w.1 112 0 x9.toNat) = 0 → (0 ≤ x1 ∧ (x1 < 7 ∧ (0 ≤ x2 ∧ (x2 < 30 ∧ (0 ≤ x7 ∧ (x7 < 4 ∧ am_M (mh_G X) SC d 0 0 mX12_isKin [.inr (.inr (some (9, 0))), .inl (w.1 78 (30 * x1.toNat + x2.toNat) x7.toNat), .inl x8, .inl x9, .inl x5, .inl x6] w (fun r w1 => am_A (mh_G X) SC (d + 1) mX12_isKinBy Q 151 [(0, .inr (.inr (some (9, 0)))), (1, .inl x1), (2, .inl x2), (3, .inl x3), (4, .inl x4), (5, .inl x5), (6, .inl x6), (7, .inl x7), (8, .inl x8), (9, .inl x9)] (r.toList ++ [.inl x8, .inr (.inr (some (113, 0)))]) w1 bc bs)))))))))))))))))) :
    am_A (mh_G X) SC (d + 1) mX12_isKinBy Q 99 [(0, .inr (.inr (some (9, 0)))), (1, .inl x1), (2, .inl x2), (3, .inl x3), (4, .inl x4), (5, .inl x5), (6, .inl x6), (7, .inl x7), (8, .inl x8), (9, .inl x9)] [.inl xs0] w bc bs := by
  refine am_ifeq (tgt := 166) dX12_isKinBy_99 (by decide) (fun c1 => ?_) (fun c1 => ?_)
  · replace h := h.1 c1
    exact am_sub [0, 1, 2, 3, 4, 5, 6, 7, 8] rfl h
  · replace h := h.2 c1
    refine am_aload_n dX12_isKinBy_102 (List.Mem.head _) ?_
    refine am_getf (f := 54) (v := .inr (.inr (some (113, 0)))) dX12_isKinBy_103 hc_10 (by decide) wd_1603 (by decide) rfl rfl ?_
    refine am_iload dX12_isKinBy_106 (List.Mem.tail _ (List.Mem.tail _ (List.Mem.tail _ (List.Mem.tail _ (List.Mem.tail _ (List.Mem.tail _ (List.Mem.tail _ (List.Mem.tail _ (List.Mem.head _))))))))) ?_
    refine am_aload_n dX12_isKinBy_108 (List.Mem.head _) ?_
    refine am_getf (f := 54) (v := .inr (.inr (some (113, 0)))) dX12_isKinBy_109 hc_10 (by decide) wd_1603 (by decide) rfl rfl ?_
    refine am_iload dX12_isKinBy_112 (List.Mem.tail _ (List.Mem.tail _ (List.Mem.tail _ (List.Mem.tail _ (List.Mem.tail _ (List.Mem.tail _ (List.Mem.tail _ (List.Mem.tail _ (List.Mem.head _))))))))) ?_
    have o2 := h.1
    replace h := h.2
    have o3 := h.1
    replace h := h.2
    refine am_zaload (v := (w.1 113 0 x8.toNat)) dX12_isKinBy_114 (by decide) rfl o2 o3 rfl ?_
    refine am_ifne (tgt := 154) dX12_isKinBy_115 (by decide) (fun c4 => ?_) (fun c4 => ?_)
    · replace h := h.1 c4
      exact h
    · replace h := h.2 c4
      refine am_aload_n dX12_isKinBy_118 (List.Mem.head _) ?_
      refine am_getf (f := 53) (v := .inr (.inr (some (112, 0)))) dX12_isKinBy_119 hc_10 (by decide) wd_1602 (by decide) rfl rfl ?_
      refine am_iload dX12_isKinBy_122 (List.Mem.tail _ (List.Mem.tail _ (List.Mem.tail _ (List.Mem.tail _ (List.Mem.tail _ (List.Mem.tail _ (List.Mem.tail _ (List.Mem.tail _ (List.Mem.tail _ (List.Mem.head _)))))))))) ?_
      have o5 := h.1
      replace h := h.2
      have o6 := h.1
      replace h := h.2
      refine am_zaload (v := (w.1 112 0 x9.toNat)) dX12_isKinBy_124 (by decide) rfl o5 o6 rfl ?_
      refine am_ifeq (tgt := 158) dX12_isKinBy_125 (by decide) (fun c7 => ?_) (fun c7 => ?_)
      · replace h := h.1 c7
        exact h
      · replace h := h.2 c7
        refine am_aload_n dX12_isKinBy_128 (List.Mem.head _) ?_
        refine am_aload_n dX12_isKinBy_129 (List.Mem.head _) ?_
        refine am_getf (f := 11) (v := .inr (.inr (some (76, 0)))) dX12_isKinBy_130 hc_10 (by decide) wd_1560 (by decide) rfl rfl ?_
        refine am_iload_n dX12_isKinBy_133 (List.Mem.tail _ (List.Mem.head _)) ?_
        have o8 := h.1
        replace h := h.2
        have o9 := h.1
        replace h := h.2
        refine am_aaload (kd := 6) (r := some (77, x1.toNat)) dX12_isKinBy_134 (by decide) rfl (by decide) (by decide) o8 o9 rfl ?_
        refine am_iload_n dX12_isKinBy_135 (List.Mem.tail _ (List.Mem.tail _ (List.Mem.head _))) ?_
        have o10 := h.1
        replace h := h.2
        have o11 := h.1
        replace h := h.2
        refine am_aaload (kd := 5) (r := some (78, (30 * x1.toNat + x2.toNat))) dX12_isKinBy_136 (by decide) rfl (by decide) (by decide) o10 o11 rfl ?_
        refine am_iload dX12_isKinBy_137 (List.Mem.tail _ (List.Mem.tail _ (List.Mem.tail _ (List.Mem.tail _ (List.Mem.tail _ (List.Mem.tail _ (List.Mem.tail _ (List.Mem.head _)))))))) ?_
        have o12 := h.1
        replace h := h.2
        have o13 := h.1
        replace h := h.2
        refine am_iaload (v := (w.1 78 (30 * x1.toNat + x2.toNat) x7.toNat)) dX12_isKinBy_139 (by decide) rfl o12 o13 rfl ?_
        refine am_iload dX12_isKinBy_140 (List.Mem.tail _ (List.Mem.tail _ (List.Mem.tail _ (List.Mem.tail _ (List.Mem.tail _ (List.Mem.tail _ (List.Mem.tail _ (List.Mem.tail _ (List.Mem.head _))))))))) ?_
        refine am_iload dX12_isKinBy_142 (List.Mem.tail _ (List.Mem.tail _ (List.Mem.tail _ (List.Mem.tail _ (List.Mem.tail _ (List.Mem.tail _ (List.Mem.tail _ (List.Mem.tail _ (List.Mem.tail _ (List.Mem.head _)))))))))) ?_
        refine am_iload dX12_isKinBy_144 (List.Mem.tail _ (List.Mem.tail _ (List.Mem.tail _ (List.Mem.tail _ (List.Mem.tail _ (List.Mem.head _)))))) ?_
        refine am_iload dX12_isKinBy_146 (List.Mem.tail _ (List.Mem.tail _ (List.Mem.tail _ (List.Mem.tail _ (List.Mem.tail _ (List.Mem.tail _ (List.Mem.head _))))))) ?_
        exact am_callv (d' := d) (kc := 0) (ks := 0) (as := [.inl (w.1 78 (30 * x1.toNat + x2.toNat) x7.toNat), .inl x8, .inl x9, .inl x5, .inl x6]) dX12_isKinBy_148 wc_X12_isKin wd_2046 wd_2048 wd_76 wd_122 ds_X12_isKin (by decide) (Nat.le_refl _) (Nat.le_of_ble_eq_true rfl) (Nat.zero_le _) (Nat.zero_le _) hc_10 (by decide) rfl rfl h
theorem bX12_isKinBy_154 {SC : Nat → Nat} {X : mh_X} {d : Nat} {Q : Option am_V → am_W → Prop} {bc bs : Nat} {w : am_W} {x1 : Int} {x2 : Int} {x3 : Int} {x4 : Int} {x5 : Int} {x6 : Int} {x7 : Int} {x8 : Int} {x9 : Int} {xs0 : Int}
    (h : am_A (mh_G X) SC (d + 1) mX12_isKinBy Q 159 [(0, .inr (.inr (some (9, 0)))), (1, .inl x1), (2, .inl x2), (3, .inl x3), (4, .inl x4), (5, .inl x5), (6, .inl x6), (7, .inl x7), (8, .inl x8), (9, .inl x9)] [.inl 1, .inl xs0, .inr (.inr (some (113, 0)))] w bc bs) :
    am_A (mh_G X) SC (d + 1) mX12_isKinBy Q 154 [(0, .inr (.inr (some (9, 0)))), (1, .inl x1), (2, .inl x2), (3, .inl x3), (4, .inl x4), (5, .inl x5), (6, .inl x6), (7, .inl x7), (8, .inl x8), (9, .inl x9)] [.inl xs0, .inr (.inr (some (113, 0)))] w bc bs := by
  refine am_iconst dX12_isKinBy_154 (by unfold am_rg; omega) ?_
  refine am_goto (tgt := 159) dX12_isKinBy_155 (by decide) ?_
  exact h
theorem bX12_isKinBy_158 {SC : Nat → Nat} {X : mh_X} {d : Nat} {Q : Option am_V → am_W → Prop} {bc bs : Nat} {w : am_W} {x1 : Int} {x2 : Int} {x3 : Int} {x4 : Int} {x5 : Int} {x6 : Int} {x7 : Int} {x8 : Int} {x9 : Int} {xs0 : Int}
    (h : am_A (mh_G X) SC (d + 1) mX12_isKinBy Q 159 [(0, .inr (.inr (some (9, 0)))), (1, .inl x1), (2, .inl x2), (3, .inl x3), (4, .inl x4), (5, .inl x5), (6, .inl x6), (7, .inl x7), (8, .inl x8), (9, .inl x9)] [.inl 0, .inl xs0, .inr (.inr (some (113, 0)))] w bc bs) :
    am_A (mh_G X) SC (d + 1) mX12_isKinBy Q 158 [(0, .inr (.inr (some (9, 0)))), (1, .inl x1), (2, .inl x2), (3, .inl x3), (4, .inl x4), (5, .inl x5), (6, .inl x6), (7, .inl x7), (8, .inl x8), (9, .inl x9)] [.inl xs0, .inr (.inr (some (113, 0)))] w bc bs := by
  refine am_iconst dX12_isKinBy_158 (by unfold am_rg; omega) ?_
  exact h
theorem bX12_isKinBy_151 {SC : Nat → Nat} {X : mh_X} {d : Nat} {Q : Option am_V → am_W → Prop} {bc bs : Nat} {w : am_W} {x1 : Int} {x2 : Int} {x3 : Int} {x4 : Int} {x5 : Int} {x6 : Int} {x7 : Int} {x8 : Int} {x9 : Int} {xs0 : Int} {xs1 : Int}
    (h : ((xs0 = 0 → am_A (mh_G X) SC (d + 1) mX12_isKinBy Q 158 [(0, .inr (.inr (some (9, 0)))), (1, .inl x1), (2, .inl x2), (3, .inl x3), (4, .inl x4), (5, .inl x5), (6, .inl x6), (7, .inl x7), (8, .inl x8), (9, .inl x9)] [.inl xs1, .inr (.inr (some (113, 0)))] w bc bs) ∧ (¬ xs0 = 0 → am_A (mh_G X) SC (d + 1) mX12_isKinBy Q 154 [(0, .inr (.inr (some (9, 0)))), (1, .inl x1), (2, .inl x2), (3, .inl x3), (4, .inl x4), (5, .inl x5), (6, .inl x6), (7, .inl x7), (8, .inl x8), (9, .inl x9)] [.inl xs1, .inr (.inr (some (113, 0)))] w bc bs))) :
    am_A (mh_G X) SC (d + 1) mX12_isKinBy Q 151 [(0, .inr (.inr (some (9, 0)))), (1, .inl x1), (2, .inl x2), (3, .inl x3), (4, .inl x4), (5, .inl x5), (6, .inl x6), (7, .inl x7), (8, .inl x8), (9, .inl x9)] [.inl xs0, .inl xs1, .inr (.inr (some (113, 0)))] w bc bs := by
  refine am_ifeq (tgt := 158) dX12_isKinBy_151 (by decide) (fun c1 => ?_) (fun c1 => ?_)
  · replace h := h.1 c1
    exact h
  · replace h := h.2 c1
    exact h
theorem bX12_isKinBy_159 {SC : Nat → Nat} {X : mh_X} {d : Nat} {Q : Option am_V → am_W → Prop} {bc bs : Nat} {w : am_W} {x1 : Int} {x2 : Int} {x3 : Int} {x4 : Int} {x5 : Int} {x6 : Int} {x7 : Int} {x8 : Int} {x9 : Int} {xs0 : Int} {xs1 : Int}
    (h : (0 ≤ xs1 ∧ (xs1 < 40 ∧ ((xs0 = 0 ∨ xs0 = 1) ∧ am_A (mh_G X) SC (d + 1) mX12_isKinBy Q 76 [(0, .inr (.inr (some (9, 0)))), (1, .inl x1), (2, .inl x2), (3, .inl x3), (4, .inl x4), (5, .inl x5), (6, .inl x6), (7, .inl x7), (8, .inl x8), (9, .inl (am_w (x9 + 1)))] [] ((am_up w.1 113 0 xs1.toNat xs0), w.2) bc bs)))) :
    am_A (mh_G X) SC (d + 1) mX12_isKinBy Q 159 [(0, .inr (.inr (some (9, 0)))), (1, .inl x1), (2, .inl x2), (3, .inl x3), (4, .inl x4), (5, .inl x5), (6, .inl x6), (7, .inl x7), (8, .inl x8), (9, .inl x9)] [.inl xs0, .inl xs1, .inr (.inr (some (113, 0)))] w bc bs := by
  have o1 := h.1
  replace h := h.2
  have o2 := h.1
  replace h := h.2
  have o3 := h.1
  replace h := h.2
  refine am_zastore o3 dX12_isKinBy_159 (Or.inl (by decide)) rfl o1 o2 ?_
  refine am_iinc (ls' := [(9, .inl (am_w (x9 + 1))), (0, .inr (.inr (some (9, 0)))), (1, .inl x1), (2, .inl x2), (3, .inl x3), (4, .inl x4), (5, .inl x5), (6, .inl x6), (7, .inl x7), (8, .inl x8)]) dX12_isKinBy_160 (List.Mem.tail _ (List.Mem.tail _ (List.Mem.tail _ (List.Mem.tail _ (List.Mem.tail _ (List.Mem.tail _ (List.Mem.tail _ (List.Mem.tail _ (List.Mem.tail _ (List.Mem.head _)))))))))) (by decide) rfl ?_
  refine am_goto (tgt := 76) dX12_isKinBy_163 (by decide) ?_
  exact am_sub [1, 2, 3, 4, 5, 6, 7, 8, 9, 0] rfl h
-- MourningHouseModel.kin(IIII)Z
theorem dX12_kin_0 : decode mX12_kin.2.1 0 = .ok (.aload_n 0, 1) := by decide +kernel
theorem dX12_kin_1 : decode mX12_kin.2.1 1 = .ok (.getfield 435, 3) := by decide +kernel
theorem dX12_kin_4 : decode mX12_kin.2.1 4 = .ok (.ifCond .le 74, 3) := by decide +kernel
theorem dX12_kin_7 : decode mX12_kin.2.1 7 = .ok (.iload_n 1, 1) := by decide +kernel
theorem dX12_kin_8 : decode mX12_kin.2.1 8 = .ok (.iconst 0, 1) := by decide +kernel
theorem dX12_kin_9 : decode mX12_kin.2.1 9 = .ok (.aload_n 0, 1) := by decide +kernel
theorem dX12_kin_10 : decode mX12_kin.2.1 10 = .ok (.getfield 17, 3) := by decide +kernel
theorem dX12_kin_13 : decode mX12_kin.2.1 13 = .ok (.aload_n 0, 1) := by decide +kernel
theorem dX12_kin_14 : decode mX12_kin.2.1 14 = .ok (.getfield 435, 3) := by decide +kernel
theorem dX12_kin_17 : decode mX12_kin.2.1 17 = .ok (.iconst 1, 1) := by decide +kernel
theorem dX12_kin_18 : decode mX12_kin.2.1 18 = .ok (.isub, 1) := by decide +kernel
theorem dX12_kin_19 : decode mX12_kin.2.1 19 = .ok (.iaload, 1) := by decide +kernel
theorem dX12_kin_20 : decode mX12_kin.2.1 20 = .ok (.iconst 1, 1) := by decide +kernel
theorem dX12_kin_21 : decode mX12_kin.2.1 21 = .ok (.isub, 1) := by decide +kernel
theorem dX12_kin_22 : decode mX12_kin.2.1 22 = .ok (.invokestatic 318, 3) := by decide +kernel
theorem dX12_kin_25 : decode mX12_kin.2.1 25 = .ok (.ifCond .eq 53, 3) := by decide +kernel
theorem dX12_kin_28 : decode mX12_kin.2.1 28 = .ok (.aload_n 0, 1) := by decide +kernel
theorem dX12_kin_29 : decode mX12_kin.2.1 29 = .ok (.iload_n 2, 1) := by decide +kernel
theorem dX12_kin_30 : decode mX12_kin.2.1 30 = .ok (.invokevirtual 453, 3) := by decide +kernel
theorem dX12_kin_33 : decode mX12_kin.2.1 33 = .ok (.ifCond .eq 45, 3) := by decide +kernel
theorem dX12_kin_36 : decode mX12_kin.2.1 36 = .ok (.aload_n 0, 1) := by decide +kernel
theorem dX12_kin_37 : decode mX12_kin.2.1 37 = .ok (.iload_n 3, 1) := by decide +kernel
theorem dX12_kin_38 : decode mX12_kin.2.1 38 = .ok (.invokevirtual 453, 3) := by decide +kernel
theorem dX12_kin_41 : decode mX12_kin.2.1 41 = .ok (.ifCond .eq 37, 3) := by decide +kernel
theorem dX12_kin_44 : decode mX12_kin.2.1 44 = .ok (.iload 4, 2) := by decide +kernel
theorem dX12_kin_46 : decode mX12_kin.2.1 46 = .ok (.invokestatic 322, 3) := by decide +kernel
theorem dX12_kin_49 : decode mX12_kin.2.1 49 = .ok (.ifCond .eq 29, 3) := by decide +kernel
theorem dX12_kin_52 : decode mX12_kin.2.1 52 = .ok (.aload_n 0, 1) := by decide +kernel
theorem dX12_kin_53 : decode mX12_kin.2.1 53 = .ok (.aload_n 0, 1) := by decide +kernel
theorem dX12_kin_54 : decode mX12_kin.2.1 54 = .ok (.getfield 435, 3) := by decide +kernel
theorem dX12_kin_57 : decode mX12_kin.2.1 57 = .ok (.iconst 1, 1) := by decide +kernel
theorem dX12_kin_58 : decode mX12_kin.2.1 58 = .ok (.isub, 1) := by decide +kernel
theorem dX12_kin_59 : decode mX12_kin.2.1 59 = .ok (.iload_n 1, 1) := by decide +kernel
theorem dX12_kin_60 : decode mX12_kin.2.1 60 = .ok (.iload_n 2, 1) := by decide +kernel
theorem dX12_kin_61 : decode mX12_kin.2.1 61 = .ok (.iload_n 3, 1) := by decide +kernel
theorem dX12_kin_62 : decode mX12_kin.2.1 62 = .ok (.iload 4, 2) := by decide +kernel
theorem dX12_kin_64 : decode mX12_kin.2.1 64 = .ok (.aload_n 0, 1) := by decide +kernel
theorem dX12_kin_65 : decode mX12_kin.2.1 65 = .ok (.getfield 444, 3) := by decide +kernel
theorem dX12_kin_68 : decode mX12_kin.2.1 68 = .ok (.invokevirtual 483, 3) := by decide +kernel
theorem dX12_kin_71 : decode mX12_kin.2.1 71 = .ok (.ifCond .eq 7, 3) := by decide +kernel
theorem dX12_kin_74 : decode mX12_kin.2.1 74 = .ok (.iconst 1, 1) := by decide +kernel
theorem dX12_kin_75 : decode mX12_kin.2.1 75 = .ok (.goto 4, 3) := by decide +kernel
theorem dX12_kin_78 : decode mX12_kin.2.1 78 = .ok (.iconst 0, 1) := by decide +kernel
theorem dX12_kin_79 : decode mX12_kin.2.1 79 = .ok (.ireturn, 1) := by decide +kernel
theorem bX12_kin_0 {SC : Nat → Nat} {X : mh_X} {d : Nat} {Q : Option am_V → am_W → Prop} {bc bs : Nat} {w : am_W} {x1 : Int} {x2 : Int} {x3 : Int} {x4 : Int}
    (h : (((w.1 9 0 21) ≤ 0 → Q (some (.inl 0)) w) ∧ (¬ (w.1 9 0 21) ≤ 0 → (0 ≤ (am_w ((w.1 9 0 21) - 1)) ∧ ((am_w ((w.1 9 0 21) - 1)) < 7 ∧ am_M (mh_G X) SC d 0 0 mX12_in [.inl x1, .inl 0, .inl (am_w ((w.1 68 0 (am_w ((w.1 9 0 21) - 1)).toNat) - 1))] w (fun r w1 => am_A (mh_G X) SC (d + 1) mX12_kin Q 25 [(0, .inr (.inr (some (9, 0)))), (1, .inl x1), (2, .inl x2), (3, .inl x3), (4, .inl x4)] (r.toList ++ []) w1 bc bs)))))) :
    am_A (mh_G X) SC (d + 1) mX12_kin Q 0 [(0, .inr (.inr (some (9, 0)))), (1, .inl x1), (2, .inl x2), (3, .inl x3), (4, .inl x4)] [] w bc bs := by
  refine am_aload_n dX12_kin_0 (List.Mem.head _) ?_
  refine am_getf (f := 21) (v := .inl (w.1 9 0 21)) dX12_kin_1 hc_10 (by decide) wd_1570 (by decide) rfl rfl ?_
  refine am_ifle (tgt := 78) dX12_kin_4 (by decide) (fun c1 => ?_) (fun c1 => ?_)
  · replace h := h.1 c1
    refine am_iconst dX12_kin_78 (by unfold am_rg; omega) ?_
    exact am_ret (r := some (.inl 0)) dX12_kin_79 (Or.inr (Or.inl ⟨rfl, (Or.inl rfl)⟩)) rfl h
  · replace h := h.2 c1
    refine am_iload_n dX12_kin_7 (List.Mem.tail _ (List.Mem.head _)) ?_
    refine am_iconst dX12_kin_8 (by unfold am_rg; omega) ?_
    refine am_aload_n dX12_kin_9 (List.Mem.head _) ?_
    refine am_getf (f := 6) (v := .inr (.inr (some (68, 0)))) dX12_kin_10 hc_10 (by decide) wd_1555 (by decide) rfl rfl ?_
    refine am_aload_n dX12_kin_13 (List.Mem.head _) ?_
    refine am_getf (f := 21) (v := .inl (w.1 9 0 21)) dX12_kin_14 hc_10 (by decide) wd_1570 (by decide) rfl rfl ?_
    refine am_iconst dX12_kin_17 (by unfold am_rg; omega) ?_
    refine am_isub dX12_kin_18 ?_
    have o2 := h.1
    replace h := h.2
    have o3 := h.1
    replace h := h.2
    refine am_iaload (v := (w.1 68 0 (am_w ((w.1 9 0 21) - 1)).toNat)) dX12_kin_19 (by decide) rfl o2 o3 rfl ?_
    refine am_iconst dX12_kin_20 (by unfold am_rg; omega) ?_
    refine am_isub dX12_kin_21 ?_
    exact am_calls (d' := d) (kc := 0) (ks := 0) (as := [.inl x1, .inl 0, .inl (am_w ((w.1 68 0 (am_w ((w.1 9 0 21) - 1)).toNat) - 1))]) dX12_kin_22 wc_X12_in wd_1859 wd_1860 wd_122 ds_X12_in (by decide) (Nat.le_refl _) (Nat.le_of_ble_eq_true rfl) (Nat.zero_le _) (Nat.zero_le _) rfl h
theorem bX12_kin_25 {SC : Nat → Nat} {X : mh_X} {d : Nat} {Q : Option am_V → am_W → Prop} {bc bs : Nat} {w : am_W} {x1 : Int} {x2 : Int} {x3 : Int} {x4 : Int} {xs0 : Int}
    (h : ((xs0 = 0 → Q (some (.inl 0)) w) ∧ (¬ xs0 = 0 → am_M (mh_G X) SC d 0 0 mX12_isPerson [.inr (.inr (some (9, 0))), .inl x2] w (fun r w1 => am_A (mh_G X) SC (d + 1) mX12_kin Q 33 [(0, .inr (.inr (some (9, 0)))), (1, .inl x1), (2, .inl x2), (3, .inl x3), (4, .inl x4)] (r.toList ++ []) w1 bc bs)))) :
    am_A (mh_G X) SC (d + 1) mX12_kin Q 25 [(0, .inr (.inr (some (9, 0)))), (1, .inl x1), (2, .inl x2), (3, .inl x3), (4, .inl x4)] [.inl xs0] w bc bs := by
  refine am_ifeq (tgt := 78) dX12_kin_25 (by decide) (fun c1 => ?_) (fun c1 => ?_)
  · replace h := h.1 c1
    refine am_iconst dX12_kin_78 (by unfold am_rg; omega) ?_
    exact am_ret (r := some (.inl 0)) dX12_kin_79 (Or.inr (Or.inl ⟨rfl, (Or.inl rfl)⟩)) rfl h
  · replace h := h.2 c1
    refine am_aload_n dX12_kin_28 (List.Mem.head _) ?_
    refine am_iload_n dX12_kin_29 (List.Mem.tail _ (List.Mem.tail _ (List.Mem.head _))) ?_
    exact am_callv (d' := d) (kc := 0) (ks := 0) (as := [.inl x2]) dX12_kin_30 wc_X12_isPerson wd_2018 wd_2020 wd_73 wd_122 ds_X12_isPerson (by decide) (Nat.le_refl _) (Nat.le_of_ble_eq_true rfl) (Nat.zero_le _) (Nat.zero_le _) hc_10 (by decide) rfl rfl h
theorem bX12_kin_33 {SC : Nat → Nat} {X : mh_X} {d : Nat} {Q : Option am_V → am_W → Prop} {bc bs : Nat} {w : am_W} {x1 : Int} {x2 : Int} {x3 : Int} {x4 : Int} {xs0 : Int}
    (h : ((xs0 = 0 → Q (some (.inl 0)) w) ∧ (¬ xs0 = 0 → am_M (mh_G X) SC d 0 0 mX12_isPerson [.inr (.inr (some (9, 0))), .inl x3] w (fun r w1 => am_A (mh_G X) SC (d + 1) mX12_kin Q 41 [(0, .inr (.inr (some (9, 0)))), (1, .inl x1), (2, .inl x2), (3, .inl x3), (4, .inl x4)] (r.toList ++ []) w1 bc bs)))) :
    am_A (mh_G X) SC (d + 1) mX12_kin Q 33 [(0, .inr (.inr (some (9, 0)))), (1, .inl x1), (2, .inl x2), (3, .inl x3), (4, .inl x4)] [.inl xs0] w bc bs := by
  refine am_ifeq (tgt := 78) dX12_kin_33 (by decide) (fun c1 => ?_) (fun c1 => ?_)
  · replace h := h.1 c1
    refine am_iconst dX12_kin_78 (by unfold am_rg; omega) ?_
    exact am_ret (r := some (.inl 0)) dX12_kin_79 (Or.inr (Or.inl ⟨rfl, (Or.inl rfl)⟩)) rfl h
  · replace h := h.2 c1
    refine am_aload_n dX12_kin_36 (List.Mem.head _) ?_
    refine am_iload_n dX12_kin_37 (List.Mem.tail _ (List.Mem.tail _ (List.Mem.tail _ (List.Mem.head _)))) ?_
    exact am_callv (d' := d) (kc := 0) (ks := 0) (as := [.inl x3]) dX12_kin_38 wc_X12_isPerson wd_2018 wd_2020 wd_73 wd_122 ds_X12_isPerson (by decide) (Nat.le_refl _) (Nat.le_of_ble_eq_true rfl) (Nat.zero_le _) (Nat.zero_le _) hc_10 (by decide) rfl rfl h
theorem bX12_kin_41 {SC : Nat → Nat} {X : mh_X} {d : Nat} {Q : Option am_V → am_W → Prop} {bc bs : Nat} {w : am_W} {x1 : Int} {x2 : Int} {x3 : Int} {x4 : Int} {xs0 : Int}
    (h : ((xs0 = 0 → Q (some (.inl 0)) w) ∧ (¬ xs0 = 0 → am_M (mh_G X) SC d 0 0 mX12_isDay [.inl x4] w (fun r w1 => am_A (mh_G X) SC (d + 1) mX12_kin Q 49 [(0, .inr (.inr (some (9, 0)))), (1, .inl x1), (2, .inl x2), (3, .inl x3), (4, .inl x4)] (r.toList ++ []) w1 bc bs)))) :
    am_A (mh_G X) SC (d + 1) mX12_kin Q 41 [(0, .inr (.inr (some (9, 0)))), (1, .inl x1), (2, .inl x2), (3, .inl x3), (4, .inl x4)] [.inl xs0] w bc bs := by
  refine am_ifeq (tgt := 78) dX12_kin_41 (by decide) (fun c1 => ?_) (fun c1 => ?_)
  · replace h := h.1 c1
    refine am_iconst dX12_kin_78 (by unfold am_rg; omega) ?_
    exact am_ret (r := some (.inl 0)) dX12_kin_79 (Or.inr (Or.inl ⟨rfl, (Or.inl rfl)⟩)) rfl h
  · replace h := h.2 c1
    refine am_iload dX12_kin_44 (List.Mem.tail _ (List.Mem.tail _ (List.Mem.tail _ (List.Mem.tail _ (List.Mem.head _))))) ?_
    exact am_calls (d' := d) (kc := 0) (ks := 0) (as := [.inl x4]) dX12_kin_46 wc_X12_isDay wd_1854 wd_1855 wd_122 ds_X12_isDay (by decide) (Nat.le_refl _) (Nat.le_of_ble_eq_true rfl) (Nat.zero_le _) (Nat.zero_le _) rfl h
theorem bX12_kin_49 {SC : Nat → Nat} {X : mh_X} {d : Nat} {Q : Option am_V → am_W → Prop} {bc bs : Nat} {w : am_W} {x1 : Int} {x2 : Int} {x3 : Int} {x4 : Int} {xs0 : Int}
    (h : ((xs0 = 0 → Q (some (.inl 0)) w) ∧ (¬ xs0 = 0 → am_M (mh_G X) SC d 0 0 mX12_isKinBy [.inr (.inr (some (9, 0))), .inl (am_w ((w.1 9 0 21) - 1)), .inl x1, .inl x2, .inl x3, .inl x4, .inl (w.1 9 0 33)] w (fun r w1 => am_A (mh_G X) SC (d + 1) mX12_kin Q 71 [(0, .inr (.inr (some (9, 0)))), (1, .inl x1), (2, .inl x2), (3, .inl x3), (4, .inl x4)] (r.toList ++ []) w1 bc bs)))) :
    am_A (mh_G X) SC (d + 1) mX12_kin Q 49 [(0, .inr (.inr (some (9, 0)))), (1, .inl x1), (2, .inl x2), (3, .inl x3), (4, .inl x4)] [.inl xs0] w bc bs := by
  refine am_ifeq (tgt := 78) dX12_kin_49 (by decide) (fun c1 => ?_) (fun c1 => ?_)
  · replace h := h.1 c1
    refine am_iconst dX12_kin_78 (by unfold am_rg; omega) ?_
    exact am_ret (r := some (.inl 0)) dX12_kin_79 (Or.inr (Or.inl ⟨rfl, (Or.inl rfl)⟩)) rfl h
  · replace h := h.2 c1
    refine am_aload_n dX12_kin_52 (List.Mem.head _) ?_
    refine am_aload_n dX12_kin_53 (List.Mem.head _) ?_
    refine am_getf (f := 21) (v := .inl (w.1 9 0 21)) dX12_kin_54 hc_10 (by decide) wd_1570 (by decide) rfl rfl ?_
    refine am_iconst dX12_kin_57 (by unfold am_rg; omega) ?_
    refine am_isub dX12_kin_58 ?_
    refine am_iload_n dX12_kin_59 (List.Mem.tail _ (List.Mem.head _)) ?_
    refine am_iload_n dX12_kin_60 (List.Mem.tail _ (List.Mem.tail _ (List.Mem.head _))) ?_
    refine am_iload_n dX12_kin_61 (List.Mem.tail _ (List.Mem.tail _ (List.Mem.tail _ (List.Mem.head _)))) ?_
    refine am_iload dX12_kin_62 (List.Mem.tail _ (List.Mem.tail _ (List.Mem.tail _ (List.Mem.tail _ (List.Mem.head _))))) ?_
    refine am_aload_n dX12_kin_64 (List.Mem.head _) ?_
    refine am_getf (f := 33) (v := .inl (w.1 9 0 33)) dX12_kin_65 hc_10 (by decide) wd_1582 (by decide) rfl rfl ?_
    exact am_callv (d' := d) (kc := 0) (ks := 0) (as := [.inl (am_w ((w.1 9 0 21) - 1)), .inl x1, .inl x2, .inl x3, .inl x4, .inl (w.1 9 0 33)]) dX12_kin_68 wc_X12_isKinBy wd_2038 wd_2040 wd_74 wd_122 ds_X12_isKinBy (by decide) (Nat.le_refl _) (Nat.le_of_ble_eq_true rfl) (Nat.zero_le _) (Nat.zero_le _) hc_10 (by decide) rfl rfl h
theorem bX12_kin_71 {SC : Nat → Nat} {X : mh_X} {d : Nat} {Q : Option am_V → am_W → Prop} {bc bs : Nat} {w : am_W} {x1 : Int} {x2 : Int} {x3 : Int} {x4 : Int} {xs0 : Int}
    (h : ((xs0 = 0 → Q (some (.inl 0)) w) ∧ (¬ xs0 = 0 → Q (some (.inl 1)) w))) :
    am_A (mh_G X) SC (d + 1) mX12_kin Q 71 [(0, .inr (.inr (some (9, 0)))), (1, .inl x1), (2, .inl x2), (3, .inl x3), (4, .inl x4)] [.inl xs0] w bc bs := by
  refine am_ifeq (tgt := 78) dX12_kin_71 (by decide) (fun c1 => ?_) (fun c1 => ?_)
  · replace h := h.1 c1
    refine am_iconst dX12_kin_78 (by unfold am_rg; omega) ?_
    exact am_ret (r := some (.inl 0)) dX12_kin_79 (Or.inr (Or.inl ⟨rfl, (Or.inl rfl)⟩)) rfl h
  · replace h := h.2 c1
    refine am_iconst dX12_kin_74 (by unfold am_rg; omega) ?_
    refine am_goto (tgt := 79) dX12_kin_75 (by decide) ?_
    exact am_ret (r := some (.inl 1)) dX12_kin_79 (Or.inr (Or.inl ⟨rfl, (Or.inr rfl)⟩)) rfl h
-- MourningHouseModel.ruleFor(III)I
theorem dX12_ruleFor_0 : decode mX12_ruleFor.2.1 0 = .ok (.iload_n 1, 1) := by decide +kernel
theorem dX12_ruleFor_1 : decode mX12_ruleFor.2.1 1 = .ok (.iload_n 2, 1) := by decide +kernel
theorem dX12_ruleFor_2 : decode mX12_ruleFor.2.1 2 = .ok (.if_icmp .eq 34, 3) := by decide +kernel
theorem dX12_ruleFor_5 : decode mX12_ruleFor.2.1 5 = .ok (.aload_n 0, 1) := by decide +kernel
theorem dX12_ruleFor_6 : decode mX12_ruleFor.2.1 6 = .ok (.getfield 167, 3) := by decide +kernel
theorem dX12_ruleFor_9 : decode mX12_ruleFor.2.1 9 = .ok (.iload_n 2, 1) := by decide +kernel
theorem dX12_ruleFor_10 : decode mX12_ruleFor.2.1 10 = .ok (.iaload, 1) := by decide +kernel
theorem dX12_ruleFor_11 : decode mX12_ruleFor.2.1 11 = .ok (.ldc_w 325, 3) := by decide +kernel
theorem dX12_ruleFor_14 : decode mX12_ruleFor.2.1 14 = .ok (.if_icmp .eq 22, 3) := by decide +kernel
theorem dX12_ruleFor_17 : decode mX12_ruleFor.2.1 17 = .ok (.aload_n 0, 1) := by decide +kernel
theorem dX12_ruleFor_18 : decode mX12_ruleFor.2.1 18 = .ok (.getfield 170, 3) := by decide +kernel
theorem dX12_ruleFor_21 : decode mX12_ruleFor.2.1 21 = .ok (.iload_n 2, 1) := by decide +kernel
theorem dX12_ruleFor_22 : decode mX12_ruleFor.2.1 22 = .ok (.iaload, 1) := by decide +kernel
theorem dX12_ruleFor_23 : decode mX12_ruleFor.2.1 23 = .ok (.iload_n 3, 1) := by decide +kernel
theorem dX12_ruleFor_24 : decode mX12_ruleFor.2.1 24 = .ok (.if_icmp .gt 12, 3) := by decide +kernel
theorem dX12_ruleFor_27 : decode mX12_ruleFor.2.1 27 = .ok (.aload_n 0, 1) := by decide +kernel
theorem dX12_ruleFor_28 : decode mX12_ruleFor.2.1 28 = .ok (.iload_n 1, 1) := by decide +kernel
theorem dX12_ruleFor_29 : decode mX12_ruleFor.2.1 29 = .ok (.iload_n 3, 1) := by decide +kernel
theorem dX12_ruleFor_30 : decode mX12_ruleFor.2.1 30 = .ok (.invokevirtual 476, 3) := by decide +kernel
theorem dX12_ruleFor_33 : decode mX12_ruleFor.2.1 33 = .ok (.ifCond .ne 5, 3) := by decide +kernel
theorem dX12_ruleFor_36 : decode mX12_ruleFor.2.1 36 = .ok (.iconst (-1), 1) := by decide +kernel
theorem dX12_ruleFor_37 : decode mX12_ruleFor.2.1 37 = .ok (.ireturn, 1) := by decide +kernel
theorem dX12_ruleFor_38 : decode mX12_ruleFor.2.1 38 = .ok (.aload_n 0, 1) := by decide +kernel
theorem dX12_ruleFor_39 : decode mX12_ruleFor.2.1 39 = .ok (.aload_n 0, 1) := by decide +kernel
theorem dX12_ruleFor_40 : decode mX12_ruleFor.2.1 40 = .ok (.getfield 167, 3) := by decide +kernel
theorem dX12_ruleFor_43 : decode mX12_ruleFor.2.1 43 = .ok (.iload_n 2, 1) := by decide +kernel
theorem dX12_ruleFor_44 : decode mX12_ruleFor.2.1 44 = .ok (.iaload, 1) := by decide +kernel
theorem dX12_ruleFor_45 : decode mX12_ruleFor.2.1 45 = .ok (.iload_n 3, 1) := by decide +kernel
theorem dX12_ruleFor_46 : decode mX12_ruleFor.2.1 46 = .ok (.invokevirtual 487, 3) := by decide +kernel
theorem dX12_ruleFor_49 : decode mX12_ruleFor.2.1 49 = .ok (.istore 4, 2) := by decide +kernel
theorem dX12_ruleFor_51 : decode mX12_ruleFor.2.1 51 = .ok (.iload 4, 2) := by decide +kernel
theorem dX12_ruleFor_53 : decode mX12_ruleFor.2.1 53 = .ok (.iconst (-1), 1) := by decide +kernel
theorem dX12_ruleFor_54 : decode mX12_ruleFor.2.1 54 = .ok (.if_icmp .ne 5, 3) := by decide +kernel
theorem dX12_ruleFor_57 : decode mX12_ruleFor.2.1 57 = .ok (.iconst (-1), 1) := by decide +kernel
theorem dX12_ruleFor_58 : decode mX12_ruleFor.2.1 58 = .ok (.ireturn, 1) := by decide +kernel
theorem dX12_ruleFor_59 : decode mX12_ruleFor.2.1 59 = .ok (.iconst (-1), 1) := by decide +kernel
theorem dX12_ruleFor_60 : decode mX12_ruleFor.2.1 60 = .ok (.istore 5, 2) := by decide +kernel
theorem dX12_ruleFor_62 : decode mX12_ruleFor.2.1 62 = .ok (.iconst 0, 1) := by decide +kernel
theorem dX12_ruleFor_63 : decode mX12_ruleFor.2.1 63 = .ok (.istore 6, 2) := by decide +kernel
theorem dX12_ruleFor_65 : decode mX12_ruleFor.2.1 65 = .ok (.iload 6, 2) := by decide +kernel
theorem dX12_ruleFor_67 : decode mX12_ruleFor.2.1 67 = .ok (.aload_n 0, 1) := by decide +kernel
theorem dX12_ruleFor_68 : decode mX12_ruleFor.2.1 68 = .ok (.getfield 17, 3) := by decide +kernel
theorem dX12_ruleFor_71 : decode mX12_ruleFor.2.1 71 = .ok (.iload 4, 2) := by decide +kernel
theorem dX12_ruleFor_73 : decode mX12_ruleFor.2.1 73 = .ok (.iaload, 1) := by decide +kernel
theorem dX12_ruleFor_74 : decode mX12_ruleFor.2.1 74 = .ok (.if_icmp .ge 65, 3) := by decide +kernel
theorem dX12_ruleFor_77 : decode mX12_ruleFor.2.1 77 = .ok (.aload_n 0, 1) := by decide +kernel
theorem dX12_ruleFor_78 : decode mX12_ruleFor.2.1 78 = .ok (.iload 4, 2) := by decide +kernel
theorem dX12_ruleFor_80 : decode mX12_ruleFor.2.1 80 = .ok (.iload 6, 2) := by decide +kernel
theorem dX12_ruleFor_82 : decode mX12_ruleFor.2.1 82 = .ok (.iload_n 1, 1) := by decide +kernel
theorem dX12_ruleFor_83 : decode mX12_ruleFor.2.1 83 = .ok (.iload_n 2, 1) := by decide +kernel
theorem dX12_ruleFor_84 : decode mX12_ruleFor.2.1 84 = .ok (.aload_n 0, 1) := by decide +kernel
theorem dX12_ruleFor_85 : decode mX12_ruleFor.2.1 85 = .ok (.getfield 167, 3) := by decide +kernel
theorem dX12_ruleFor_88 : decode mX12_ruleFor.2.1 88 = .ok (.iload_n 2, 1) := by decide +kernel
theorem dX12_ruleFor_89 : decode mX12_ruleFor.2.1 89 = .ok (.iaload, 1) := by decide +kernel
theorem dX12_ruleFor_90 : decode mX12_ruleFor.2.1 90 = .ok (.iload_n 3, 1) := by decide +kernel
theorem dX12_ruleFor_91 : decode mX12_ruleFor.2.1 91 = .ok (.invokevirtual 483, 3) := by decide +kernel
theorem dX12_ruleFor_94 : decode mX12_ruleFor.2.1 94 = .ok (.ifCond .ne 6, 3) := by decide +kernel
theorem dX12_ruleFor_97 : decode mX12_ruleFor.2.1 97 = .ok (.goto 36, 3) := by decide +kernel
theorem dX12_ruleFor_100 : decode mX12_ruleFor.2.1 100 = .ok (.iload 5, 2) := by decide +kernel
theorem dX12_ruleFor_102 : decode mX12_ruleFor.2.1 102 = .ok (.iconst (-1), 1) := by decide +kernel
theorem dX12_ruleFor_103 : decode mX12_ruleFor.2.1 103 = .ok (.if_icmp .eq 26, 3) := by decide +kernel
theorem dX12_ruleFor_106 : decode mX12_ruleFor.2.1 106 = .ok (.aload_n 0, 1) := by decide +kernel
theorem dX12_ruleFor_107 : decode mX12_ruleFor.2.1 107 = .ok (.getfield 25, 3) := by decide +kernel
theorem dX12_ruleFor_110 : decode mX12_ruleFor.2.1 110 = .ok (.iload 4, 2) := by decide +kernel
theorem dX12_ruleFor_112 : decode mX12_ruleFor.2.1 112 = .ok (.aaload, 1) := by decide +kernel
theorem dX12_ruleFor_113 : decode mX12_ruleFor.2.1 113 = .ok (.iload 6, 2) := by decide +kernel
theorem dX12_ruleFor_115 : decode mX12_ruleFor.2.1 115 = .ok (.iaload, 1) := by decide +kernel
theorem dX12_ruleFor_116 : decode mX12_ruleFor.2.1 116 = .ok (.aload_n 0, 1) := by decide +kernel
theorem dX12_ruleFor_117 : decode mX12_ruleFor.2.1 117 = .ok (.getfield 25, 3) := by decide +kernel
theorem dX12_ruleFor_120 : decode mX12_ruleFor.2.1 120 = .ok (.iload 4, 2) := by decide +kernel
theorem dX12_ruleFor_122 : decode mX12_ruleFor.2.1 122 = .ok (.aaload, 1) := by decide +kernel
theorem dX12_ruleFor_123 : decode mX12_ruleFor.2.1 123 = .ok (.iload 5, 2) := by decide +kernel
theorem dX12_ruleFor_125 : decode mX12_ruleFor.2.1 125 = .ok (.iaload, 1) := by decide +kernel
theorem dX12_ruleFor_126 : decode mX12_ruleFor.2.1 126 = .ok (.if_icmp .gt 7, 3) := by decide +kernel
theorem dX12_ruleFor_129 : decode mX12_ruleFor.2.1 129 = .ok (.iload 6, 2) := by decide +kernel
theorem dX12_ruleFor_131 : decode mX12_ruleFor.2.1 131 = .ok (.istore 5, 2) := by decide +kernel
theorem dX12_ruleFor_133 : decode mX12_ruleFor.2.1 133 = .ok (.iinc 6 1, 3) := by decide +kernel
theorem dX12_ruleFor_136 : decode mX12_ruleFor.2.1 136 = .ok (.goto (-71), 3) := by decide +kernel
theorem dX12_ruleFor_139 : decode mX12_ruleFor.2.1 139 = .ok (.iload 5, 2) := by decide +kernel
theorem dX12_ruleFor_141 : decode mX12_ruleFor.2.1 141 = .ok (.ireturn, 1) := by decide +kernel
theorem bX12_ruleFor_0 {SC : Nat → Nat} {X : mh_X} {d : Nat} {Q : Option am_V → am_W → Prop} {bc bs : Nat} {w : am_W} {x1 : Int} {x2 : Int} {x3 : Int}
    (h : ((x1 = x2 → Q (some (.inl (-1))) w) ∧ (¬ x1 = x2 → (0 ≤ x2 ∧ (x2 < 40 ∧ (((w.1 102 0 x2.toNat) = (-2147483648) → Q (some (.inl (-1))) w) ∧ (¬ (w.1 102 0 x2.toNat) = (-2147483648) → ((x3 < (w.1 103 0 x2.toNat) → Q (some (.inl (-1))) w) ∧ (¬ x3 < (w.1 103 0 x2.toNat) → am_M (mh_G X) SC d 0 0 mX12_isThere [.inr (.inr (some (9, 0))), .inl x1, .inl x3] w (fun r w1 => am_A (mh_G X) SC (d + 1) mX12_ruleFor Q 33 [(0, .inr (.inr (some (9, 0)))), (1, .inl x1), (2, .inl x2), (3, .inl x3)] (r.toList ++ []) w1 bc bs)))))))))) :
    am_A (mh_G X) SC (d + 1) mX12_ruleFor Q 0 [(0, .inr (.inr (some (9, 0)))), (1, .inl x1), (2, .inl x2), (3, .inl x3)] [] w bc bs := by
  refine am_iload_n dX12_ruleFor_0 (List.Mem.tail _ (List.Mem.head _)) ?_
  refine am_iload_n dX12_ruleFor_1 (List.Mem.tail _ (List.Mem.tail _ (List.Mem.head _))) ?_
  refine am_icmpeq (tgt := 36) dX12_ruleFor_2 (by decide) (fun c1 => ?_) (fun c1 => ?_)
  · replace h := h.1 c1
    refine am_iconst dX12_ruleFor_36 (by unfold am_rg; omega) ?_
    exact am_ret (r := some (.inl (-1))) dX12_ruleFor_37 (Or.inl rfl) rfl h
  · replace h := h.2 c1
    refine am_aload_n dX12_ruleFor_5 (List.Mem.head _) ?_
    refine am_getf (f := 40) (v := .inr (.inr (some (102, 0)))) dX12_ruleFor_6 hc_10 (by decide) wd_1589 (by decide) rfl rfl ?_
    refine am_iload_n dX12_ruleFor_9 (List.Mem.tail _ (List.Mem.tail _ (List.Mem.head _))) ?_
    have o2 := h.1
    replace h := h.2
    have o3 := h.1
    replace h := h.2
    refine am_iaload (v := (w.1 102 0 x2.toNat)) dX12_ruleFor_10 (by decide) rfl o2 o3 rfl ?_
    refine am_ldcwV (n := (-2147483648)) dX12_ruleFor_11 (by decide) wd_1887 (by unfold am_rg; omega) ?_
    refine am_icmpeq (tgt := 36) dX12_ruleFor_14 (by decide) (fun c4 => ?_) (fun c4 => ?_)
    · replace h := h.1 c4
      refine am_iconst dX12_ruleFor_36 (by unfold am_rg; omega) ?_
      exact am_ret (r := some (.inl (-1))) dX12_ruleFor_37 (Or.inl rfl) rfl h
    · replace h := h.2 c4
      refine am_aload_n dX12_ruleFor_17 (List.Mem.head _) ?_
      refine am_getf (f := 41) (v := .inr (.inr (some (103, 0)))) dX12_ruleFor_18 hc_10 (by decide) wd_1590 (by decide) rfl rfl ?_
      refine am_iload_n dX12_ruleFor_21 (List.Mem.tail _ (List.Mem.tail _ (List.Mem.head _))) ?_
      refine am_iaload (v := (w.1 103 0 x2.toNat)) dX12_ruleFor_22 (by decide) rfl o2 o3 rfl ?_
      refine am_iload_n dX12_ruleFor_23 (List.Mem.tail _ (List.Mem.tail _ (List.Mem.tail _ (List.Mem.head _)))) ?_
      refine am_icmpgt (tgt := 36) dX12_ruleFor_24 (by decide) (fun c5 => ?_) (fun c5 => ?_)
      · replace h := h.1 c5
        refine am_iconst dX12_ruleFor_36 (by unfold am_rg; omega) ?_
        exact am_ret (r := some (.inl (-1))) dX12_ruleFor_37 (Or.inl rfl) rfl h
      · replace h := h.2 c5
        refine am_aload_n dX12_ruleFor_27 (List.Mem.head _) ?_
        refine am_iload_n dX12_ruleFor_28 (List.Mem.tail _ (List.Mem.head _)) ?_
        refine am_iload_n dX12_ruleFor_29 (List.Mem.tail _ (List.Mem.tail _ (List.Mem.tail _ (List.Mem.head _)))) ?_
        exact am_callv (d' := d) (kc := 0) (ks := 0) (as := [.inl x1, .inl x3]) dX12_ruleFor_30 wc_X12_isThere wd_2042 wd_2044 wd_75 wd_122 ds_X12_isThere (by decide) (Nat.le_refl _) (Nat.le_of_ble_eq_true rfl) (Nat.zero_le _) (Nat.zero_le _) hc_10 (by decide) rfl rfl h
theorem bX12_ruleFor_33 {SC : Nat → Nat} {X : mh_X} {d : Nat} {Q : Option am_V → am_W → Prop} {bc bs : Nat} {w : am_W} {x1 : Int} {x2 : Int} {x3 : Int} {xs0 : Int}
    (h : ((¬ xs0 = 0 → (0 ≤ x2 ∧ (x2 < 40 ∧ am_M (mh_G X) SC d 0 0 mX12_lawOf [.inr (.inr (some (9, 0))), .inl (w.1 102 0 x2.toNat), .inl x3] w (fun r w1 => am_A (mh_G X) SC (d + 1) mX12_ruleFor Q 49 [(0, .inr (.inr (some (9, 0)))), (1, .inl x1), (2, .inl x2), (3, .inl x3)] (r.toList ++ []) w1 bc bs)))) ∧ (xs0 = 0 → Q (some (.inl (-1))) w))) :
    am_A (mh_G X) SC (d + 1) mX12_ruleFor Q 33 [(0, .inr (.inr (some (9, 0)))), (1, .inl x1), (2, .inl x2), (3, .inl x3)] [.inl xs0] w bc bs := by
  refine am_ifne (tgt := 38) dX12_ruleFor_33 (by decide) (fun c1 => ?_) (fun c1 => ?_)
  · replace h := h.1 c1
    refine am_aload_n dX12_ruleFor_38 (List.Mem.head _) ?_
    refine am_aload_n dX12_ruleFor_39 (List.Mem.head _) ?_
    refine am_getf (f := 40) (v := .inr (.inr (some (102, 0)))) dX12_ruleFor_40 hc_10 (by decide) wd_1589 (by decide) rfl rfl ?_
    refine am_iload_n dX12_ruleFor_43 (List.Mem.tail _ (List.Mem.tail _ (List.Mem.head _))) ?_
    have o2 := h.1
    replace h := h.2
    have o3 := h.1
    replace h := h.2
    refine am_iaload (v := (w.1 102 0 x2.toNat)) dX12_ruleFor_44 (by decide) rfl o2 o3 rfl ?_
    refine am_iload_n dX12_ruleFor_45 (List.Mem.tail _ (List.Mem.tail _ (List.Mem.tail _ (List.Mem.head _)))) ?_
    exact am_callv (d' := d) (kc := 0) (ks := 0) (as := [.inl (w.1 102 0 x2.toNat), .inl x3]) dX12_ruleFor_46 wc_X12_lawOf wd_2077 wd_2079 wd_82 wd_122 ds_X12_lawOf (by decide) (Nat.le_refl _) (Nat.le_of_ble_eq_true rfl) (Nat.zero_le _) (Nat.zero_le _) hc_10 (by decide) rfl rfl h
  · replace h := h.2 c1
    refine am_iconst dX12_ruleFor_36 (by unfold am_rg; omega) ?_
    exact am_ret (r := some (.inl (-1))) dX12_ruleFor_37 (Or.inl rfl) rfl h
theorem bX12_ruleFor_49 {SC : Nat → Nat} {X : mh_X} {d : Nat} {Q : Option am_V → am_W → Prop} {bc bs : Nat} {w : am_W} {x1 : Int} {x2 : Int} {x3 : Int} {xs0 : Int}
    (h : ((¬ xs0 = (-1) → am_A (mh_G X) SC (d + 1) mX12_ruleFor Q 65 [(0, .inr (.inr (some (9, 0)))), (1, .inl x1), (2, .inl x2), (3, .inl x3), (4, .inl xs0), (5, .inl (-1)), (6, .inl 0)] [] w bc bs) ∧ (xs0 = (-1) → Q (some (.inl (-1))) w))) :
    am_A (mh_G X) SC (d + 1) mX12_ruleFor Q 49 [(0, .inr (.inr (some (9, 0)))), (1, .inl x1), (2, .inl x2), (3, .inl x3)] [.inl xs0] w bc bs := by
  refine am_istore (ls' := [(4, .inl xs0), (0, .inr (.inr (some (9, 0)))), (1, .inl x1), (2, .inl x2), (3, .inl x3)]) dX12_ruleFor_49 (by decide) rfl ?_
  refine am_iload dX12_ruleFor_51 (List.Mem.head _) ?_
  refine am_iconst dX12_ruleFor_53 (by unfold am_rg; omega) ?_
  refine am_icmpne (tgt := 59) dX12_ruleFor_54 (by decide) (fun c1 => ?_) (fun c1 => ?_)
  · replace h := h.1 c1
    refine am_iconst dX12_ruleFor_59 (by unfold am_rg; omega) ?_
    refine am_istore (ls' := [(5, .inl (-1)), (4, .inl xs0), (0, .inr (.inr (some (9, 0)))), (1, .inl x1), (2, .inl x2), (3, .inl x3)]) dX12_ruleFor_60 (by decide) rfl ?_
    refine am_iconst dX12_ruleFor_62 (by unfold am_rg; omega) ?_
    refine am_istore (ls' := [(6, .inl 0), (5, .inl (-1)), (4, .inl xs0), (0, .inr (.inr (some (9, 0)))), (1, .inl x1), (2, .inl x2), (3, .inl x3)]) dX12_ruleFor_63 (by decide) rfl ?_
    exact am_sub [3, 4, 5, 6, 2, 1, 0] rfl h
  · replace h := h.2 c1
    refine am_iconst dX12_ruleFor_57 (by unfold am_rg; omega) ?_
    exact am_ret (r := some (.inl (-1))) dX12_ruleFor_58 (Or.inl rfl) rfl h
theorem bX12_ruleFor_65 {SC : Nat → Nat} {X : mh_X} {d : Nat} {Q : Option am_V → am_W → Prop} {bc bs : Nat} {w : am_W} {x1 : Int} {x2 : Int} {x3 : Int} {x4 : Int} {x5 : Int} {x6 : Int}
    (h : (0 ≤ x4 ∧ (x4 < 7 ∧ (((w.1 68 0 x4.toNat) ≤ x6 → Q (some (.inl x5)) w) ∧ (¬ (w.1 68 0 x4.toNat) ≤ x6 → (0 ≤ x2 ∧ (x2 < 40 ∧ am_M (mh_G X) SC d 0 0 mX12_isKinBy [.inr (.inr (some (9, 0))), .inl x4, .inl x6, .inl x1, .inl x2, .inl (w.1 102 0 x2.toNat), .inl x3] w (fun r w1 => am_A (mh_G X) SC (d + 1) mX12_ruleFor Q 94 [(0, .inr (.inr (some (9, 0)))), (1, .inl x1), (2, .inl x2), (3, .inl x3), (4, .inl x4), (5, .inl x5), (6, .inl x6)] (r.toList ++ []) w1 bc bs)))))))) :
    am_A (mh_G X) SC (d + 1) mX12_ruleFor Q 65 [(0, .inr (.inr (some (9, 0)))), (1, .inl x1), (2, .inl x2), (3, .inl x3), (4, .inl x4), (5, .inl x5), (6, .inl x6)] [] w bc bs := by
  refine am_iload dX12_ruleFor_65 (List.Mem.tail _ (List.Mem.tail _ (List.Mem.tail _ (List.Mem.tail _ (List.Mem.tail _ (List.Mem.tail _ (List.Mem.head _))))))) ?_
  refine am_aload_n dX12_ruleFor_67 (List.Mem.head _) ?_
  refine am_getf (f := 6) (v := .inr (.inr (some (68, 0)))) dX12_ruleFor_68 hc_10 (by decide) wd_1555 (by decide) rfl rfl ?_
  refine am_iload dX12_ruleFor_71 (List.Mem.tail _ (List.Mem.tail _ (List.Mem.tail _ (List.Mem.tail _ (List.Mem.head _))))) ?_
  have o1 := h.1
  replace h := h.2
  have o2 := h.1
  replace h := h.2
  refine am_iaload (v := (w.1 68 0 x4.toNat)) dX12_ruleFor_73 (by decide) rfl o1 o2 rfl ?_
  refine am_icmpge (tgt := 139) dX12_ruleFor_74 (by decide) (fun c3 => ?_) (fun c3 => ?_)
  · replace h := h.1 c3
    refine am_iload dX12_ruleFor_139 (List.Mem.tail _ (List.Mem.tail _ (List.Mem.tail _ (List.Mem.tail _ (List.Mem.tail _ (List.Mem.head _)))))) ?_
    exact am_ret (r := some (.inl x5)) dX12_ruleFor_141 (Or.inl rfl) rfl h
  · replace h := h.2 c3
    refine am_aload_n dX12_ruleFor_77 (List.Mem.head _) ?_
    refine am_iload dX12_ruleFor_78 (List.Mem.tail _ (List.Mem.tail _ (List.Mem.tail _ (List.Mem.tail _ (List.Mem.head _))))) ?_
    refine am_iload dX12_ruleFor_80 (List.Mem.tail _ (List.Mem.tail _ (List.Mem.tail _ (List.Mem.tail _ (List.Mem.tail _ (List.Mem.tail _ (List.Mem.head _))))))) ?_
    refine am_iload_n dX12_ruleFor_82 (List.Mem.tail _ (List.Mem.head _)) ?_
    refine am_iload_n dX12_ruleFor_83 (List.Mem.tail _ (List.Mem.tail _ (List.Mem.head _))) ?_
    refine am_aload_n dX12_ruleFor_84 (List.Mem.head _) ?_
    refine am_getf (f := 40) (v := .inr (.inr (some (102, 0)))) dX12_ruleFor_85 hc_10 (by decide) wd_1589 (by decide) rfl rfl ?_
    refine am_iload_n dX12_ruleFor_88 (List.Mem.tail _ (List.Mem.tail _ (List.Mem.head _))) ?_
    have o4 := h.1
    replace h := h.2
    have o5 := h.1
    replace h := h.2
    refine am_iaload (v := (w.1 102 0 x2.toNat)) dX12_ruleFor_89 (by decide) rfl o4 o5 rfl ?_
    refine am_iload_n dX12_ruleFor_90 (List.Mem.tail _ (List.Mem.tail _ (List.Mem.tail _ (List.Mem.head _)))) ?_
    exact am_callv (d' := d) (kc := 0) (ks := 0) (as := [.inl x4, .inl x6, .inl x1, .inl x2, .inl (w.1 102 0 x2.toNat), .inl x3]) dX12_ruleFor_91 wc_X12_isKinBy wd_2038 wd_2040 wd_74 wd_122 ds_X12_isKinBy (by decide) (Nat.le_refl _) (Nat.le_of_ble_eq_true rfl) (Nat.zero_le _) (Nat.zero_le _) hc_10 (by decide) rfl rfl h
theorem bX12_ruleFor_94 {SC : Nat → Nat} {X : mh_X} {d : Nat} {Q : Option am_V → am_W → Prop} {bc bs : Nat} {w : am_W} {x1 : Int} {x2 : Int} {x3 : Int} {x4 : Int} {x5 : Int} {x6 : Int} {xs0 : Int}
    (h : ((¬ xs0 = 0 → ((x5 = (-1) → am_A (mh_G X) SC (d + 1) mX12_ruleFor Q 129 [(0, .inr (.inr (some (9, 0)))), (1, .inl x1), (2, .inl x2), (3, .inl x3), (4, .inl x4), (6, .inl x6)] [] w bc bs) ∧ (¬ x5 = (-1) → (0 ≤ x4 ∧ (x4 < 7 ∧ (0 ≤ x6 ∧ (x6 < 30 ∧ (0 ≤ x5 ∧ (x5 < 30 ∧ (((w.1 71 x4.toNat x5.toNat) < (w.1 71 x4.toNat x6.toNat) → am_A (mh_G X) SC (d + 1) mX12_ruleFor Q 133 [(0, .inr (.inr (some (9, 0)))), (1, .inl x1), (2, .inl x2), (3, .inl x3), (4, .inl x4), (5, .inl x5), (6, .inl x6)] [] w bc bs) ∧ (¬ (w.1 71 x4.toNat x5.toNat) < (w.1 71 x4.toNat x6.toNat) → am_A (mh_G X) SC (d + 1) mX12_ruleFor Q 129 [(0, .inr (.inr (some (9, 0)))), (1, .inl x1), (2, .inl x2), (3, .inl x3), (4, .inl x4), (6, .inl x6)] [] w bc bs))))))))))) ∧ (xs0 = 0 → am_A (mh_G X) SC (d + 1) mX12_ruleFor Q 133 [(0, .inr (.inr (some (9, 0)))), (1, .inl x1), (2, .inl x2), (3, .inl x3), (4, .inl x4), (5, .inl x5), (6, .inl x6)] [] w bc bs))) :
    am_A (mh_G X) SC (d + 1) mX12_ruleFor Q 94 [(0, .inr (.inr (some (9, 0)))), (1, .inl x1), (2, .inl x2), (3, .inl x3), (4, .inl x4), (5, .inl x5), (6, .inl x6)] [.inl xs0] w bc bs := by
  refine am_ifne (tgt := 100) dX12_ruleFor_94 (by decide) (fun c1 => ?_) (fun c1 => ?_)
  · replace h := h.1 c1
    refine am_iload dX12_ruleFor_100 (List.Mem.tail _ (List.Mem.tail _ (List.Mem.tail _ (List.Mem.tail _ (List.Mem.tail _ (List.Mem.head _)))))) ?_
    refine am_iconst dX12_ruleFor_102 (by unfold am_rg; omega) ?_
    refine am_icmpeq (tgt := 129) dX12_ruleFor_103 (by decide) (fun c2 => ?_) (fun c2 => ?_)
    · replace h := h.1 c2
      exact am_sub [0, 1, 2, 3, 4, 6] rfl h
    · replace h := h.2 c2
      refine am_aload_n dX12_ruleFor_106 (List.Mem.head _) ?_
      refine am_getf (f := 8) (v := .inr (.inr (some (70, 0)))) dX12_ruleFor_107 hc_10 (by decide) wd_1557 (by decide) rfl rfl ?_
      refine am_iload dX12_ruleFor_110 (List.Mem.tail _ (List.Mem.tail _ (List.Mem.tail _ (List.Mem.tail _ (List.Mem.head _))))) ?_
      have o3 := h.1
      replace h := h.2
      have o4 := h.1
      replace h := h.2
      refine am_aaload (kd := 5) (r := some (71, x4.toNat)) dX12_ruleFor_112 (by decide) rfl (by decide) (by decide) o3 o4 rfl ?_
      refine am_iload dX12_ruleFor_113 (List.Mem.tail _ (List.Mem.tail _ (List.Mem.tail _ (List.Mem.tail _ (List.Mem.tail _ (List.Mem.tail _ (List.Mem.head _))))))) ?_
      have o5 := h.1
      replace h := h.2
      have o6 := h.1
      replace h := h.2
      refine am_iaload (v := (w.1 71 x4.toNat x6.toNat)) dX12_ruleFor_115 (by decide) rfl o5 o6 rfl ?_
      refine am_aload_n dX12_ruleFor_116 (List.Mem.head _) ?_
      refine am_getf (f := 8) (v := .inr (.inr (some (70, 0)))) dX12_ruleFor_117 hc_10 (by decide) wd_1557 (by decide) rfl rfl ?_
      refine am_iload dX12_ruleFor_120 (List.Mem.tail _ (List.Mem.tail _ (List.Mem.tail _ (List.Mem.tail _ (List.Mem.head _))))) ?_
      refine am_aaload (kd := 5) (r := some (71, x4.toNat)) dX12_ruleFor_122 (by decide) rfl (by decide) (by decide) o3 o4 rfl ?_
      refine am_iload dX12_ruleFor_123 (List.Mem.tail _ (List.Mem.tail _ (List.Mem.tail _ (List.Mem.tail _ (List.Mem.tail _ (List.Mem.head _)))))) ?_
      have o7 := h.1
      replace h := h.2
      have o8 := h.1
      replace h := h.2
      refine am_iaload (v := (w.1 71 x4.toNat x5.toNat)) dX12_ruleFor_125 (by decide) rfl o7 o8 rfl ?_
      refine am_icmpgt (tgt := 133) dX12_ruleFor_126 (by decide) (fun c9 => ?_) (fun c9 => ?_)
      · replace h := h.1 c9
        exact h
      · replace h := h.2 c9
        exact am_sub [0, 1, 2, 3, 4, 6] rfl h
  · replace h := h.2 c1
    refine am_goto (tgt := 133) dX12_ruleFor_97 (by decide) ?_
    exact h
theorem bX12_ruleFor_129 {SC : Nat → Nat} {X : mh_X} {d : Nat} {Q : Option am_V → am_W → Prop} {bc bs : Nat} {w : am_W} {x1 : Int} {x2 : Int} {x3 : Int} {x4 : Int} {x6 : Int}
    (h : am_A (mh_G X) SC (d + 1) mX12_ruleFor Q 133 [(0, .inr (.inr (some (9, 0)))), (1, .inl x1), (2, .inl x2), (3, .inl x3), (4, .inl x4), (5, .inl x6), (6, .inl x6)] [] w bc bs) :
    am_A (mh_G X) SC (d + 1) mX12_ruleFor Q 129 [(0, .inr (.inr (some (9, 0)))), (1, .inl x1), (2, .inl x2), (3, .inl x3), (4, .inl x4), (6, .inl x6)] [] w bc bs := by
  refine am_iload dX12_ruleFor_129 (List.Mem.tail _ (List.Mem.tail _ (List.Mem.tail _ (List.Mem.tail _ (List.Mem.tail _ (List.Mem.head _)))))) ?_
  refine am_istore (ls' := [(5, .inl x6), (0, .inr (.inr (some (9, 0)))), (1, .inl x1), (2, .inl x2), (3, .inl x3), (4, .inl x4), (6, .inl x6)]) dX12_ruleFor_131 (by decide) rfl ?_
  exact am_sub [1, 2, 3, 4, 5, 0, 6] rfl h
theorem bX12_ruleFor_133 {SC : Nat → Nat} {X : mh_X} {d : Nat} {Q : Option am_V → am_W → Prop} {bc bs : Nat} {w : am_W} {x1 : Int} {x2 : Int} {x3 : Int} {x4 : Int} {x5 : Int} {x6 : Int}
    (h : am_A (mh_G X) SC (d + 1) mX12_ruleFor Q 65 [(0, .inr (.inr (some (9, 0)))), (1, .inl x1), (2, .inl x2), (3, .inl x3), (4, .inl x4), (5, .inl x5), (6, .inl (am_w (x6 + 1)))] [] w bc bs) :
    am_A (mh_G X) SC (d + 1) mX12_ruleFor Q 133 [(0, .inr (.inr (some (9, 0)))), (1, .inl x1), (2, .inl x2), (3, .inl x3), (4, .inl x4), (5, .inl x5), (6, .inl x6)] [] w bc bs := by
  refine am_iinc (ls' := [(6, .inl (am_w (x6 + 1))), (0, .inr (.inr (some (9, 0)))), (1, .inl x1), (2, .inl x2), (3, .inl x3), (4, .inl x4), (5, .inl x5)]) dX12_ruleFor_133 (List.Mem.tail _ (List.Mem.tail _ (List.Mem.tail _ (List.Mem.tail _ (List.Mem.tail _ (List.Mem.tail _ (List.Mem.head _))))))) (by decide) rfl ?_
  refine am_goto (tgt := 65) dX12_ruleFor_136 (by decide) ?_
  exact am_sub [1, 2, 3, 4, 5, 6, 0] rfl h
-- MourningHouseModel.isKnownDay(I)Z
theorem dX12_isKnownDay_0 : decode mX12_isKnownDay.2.1 0 = .ok (.iload_n 1, 1) := by decide +kernel
theorem dX12_isKnownDay_1 : decode mX12_isKnownDay.2.1 1 = .ok (.ldc_w 316, 3) := by decide +kernel
theorem dX12_isKnownDay_4 : decode mX12_isKnownDay.2.1 4 = .ok (.aload_n 0, 1) := by decide +kernel
theorem dX12_isKnownDay_5 : decode mX12_isKnownDay.2.1 5 = .ok (.getfield 444, 3) := by decide +kernel
theorem dX12_isKnownDay_8 : decode mX12_isKnownDay.2.1 8 = .ok (.invokestatic 318, 3) := by decide +kernel
theorem dX12_isKnownDay_11 : decode mX12_isKnownDay.2.1 11 = .ok (.ireturn, 1) := by decide +kernel
theorem bX12_isKnownDay_0 {SC : Nat → Nat} {X : mh_X} {d : Nat} {Q : Option am_V → am_W → Prop} {bc bs : Nat} {w : am_W} {x1 : Int}
    (h : am_M (mh_G X) SC d 0 0 mX12_in [.inl x1, .inl (-36524), .inl (w.1 9 0 33)] w (fun r w1 => am_A (mh_G X) SC (d + 1) mX12_isKnownDay Q 11 [(0, .inr (.inr (some (9, 0)))), (1, .inl x1)] (r.toList ++ []) w1 bc bs)) :
    am_A (mh_G X) SC (d + 1) mX12_isKnownDay Q 0 [(0, .inr (.inr (some (9, 0)))), (1, .inl x1)] [] w bc bs := by
  refine am_iload_n dX12_isKnownDay_0 (List.Mem.tail _ (List.Mem.head _)) ?_
  refine am_ldcwV (n := (-36524)) dX12_isKnownDay_1 (by decide) wd_1857 (by unfold am_rg; omega) ?_
  refine am_aload_n dX12_isKnownDay_4 (List.Mem.head _) ?_
  refine am_getf (f := 33) (v := .inl (w.1 9 0 33)) dX12_isKnownDay_5 hc_10 (by decide) wd_1582 (by decide) rfl rfl ?_
  exact am_calls (d' := d) (kc := 0) (ks := 0) (as := [.inl x1, .inl (-36524), .inl (w.1 9 0 33)]) dX12_isKnownDay_8 wc_X12_in wd_1859 wd_1860 wd_122 ds_X12_in (by decide) (Nat.le_refl _) (Nat.le_of_ble_eq_true rfl) (Nat.zero_le _) (Nat.zero_le _) rfl h
theorem bX12_isKnownDay_11 {SC : Nat → Nat} {X : mh_X} {d : Nat} {Q : Option am_V → am_W → Prop} {bc bs : Nat} {w : am_W} {x1 : Int} {xs0 : Int}
    (h : ((xs0 = 0 ∨ xs0 = 1) ∧ Q (some (.inl xs0)) w)) :
    am_A (mh_G X) SC (d + 1) mX12_isKnownDay Q 11 [(0, .inr (.inr (some (9, 0)))), (1, .inl x1)] [.inl xs0] w bc bs := by
  have o1 := h.1
  replace h := h.2
  exact am_ret (r := some (.inl xs0)) dX12_isKnownDay_11 (Or.inr (Or.inl ⟨rfl, o1⟩)) rfl h
-- MourningHouseModel.mourns(III)I
theorem dX12_mourns_0 : decode mX12_mourns.2.1 0 = .ok (.aload_n 0, 1) := by decide +kernel
theorem dX12_mourns_1 : decode mX12_mourns.2.1 1 = .ok (.iload_n 1, 1) := by decide +kernel
theorem dX12_mourns_2 : decode mX12_mourns.2.1 2 = .ok (.invokevirtual 453, 3) := by decide +kernel
theorem dX12_mourns_5 : decode mX12_mourns.2.1 5 = .ok (.ifCond .eq 29, 3) := by decide +kernel
theorem dX12_mourns_8 : decode mX12_mourns.2.1 8 = .ok (.aload_n 0, 1) := by decide +kernel
theorem dX12_mourns_9 : decode mX12_mourns.2.1 9 = .ok (.iload_n 2, 1) := by decide +kernel
theorem dX12_mourns_10 : decode mX12_mourns.2.1 10 = .ok (.invokevirtual 453, 3) := by decide +kernel
theorem dX12_mourns_13 : decode mX12_mourns.2.1 13 = .ok (.ifCond .eq 21, 3) := by decide +kernel
theorem dX12_mourns_16 : decode mX12_mourns.2.1 16 = .ok (.aload_n 0, 1) := by decide +kernel
theorem dX12_mourns_17 : decode mX12_mourns.2.1 17 = .ok (.iload_n 3, 1) := by decide +kernel
theorem dX12_mourns_18 : decode mX12_mourns.2.1 18 = .ok (.invokevirtual 490, 3) := by decide +kernel
theorem dX12_mourns_21 : decode mX12_mourns.2.1 21 = .ok (.ifCond .eq 13, 3) := by decide +kernel
theorem dX12_mourns_24 : decode mX12_mourns.2.1 24 = .ok (.aload_n 0, 1) := by decide +kernel
theorem dX12_mourns_25 : decode mX12_mourns.2.1 25 = .ok (.iload_n 1, 1) := by decide +kernel
theorem dX12_mourns_26 : decode mX12_mourns.2.1 26 = .ok (.iload_n 2, 1) := by decide +kernel
theorem dX12_mourns_27 : decode mX12_mourns.2.1 27 = .ok (.iload_n 3, 1) := by decide +kernel
theorem dX12_mourns_28 : decode mX12_mourns.2.1 28 = .ok (.invokevirtual 493, 3) := by decide +kernel
theorem dX12_mourns_31 : decode mX12_mourns.2.1 31 = .ok (.goto 4, 3) := by decide +kernel
theorem dX12_mourns_34 : decode mX12_mourns.2.1 34 = .ok (.iconst (-1), 1) := by decide +kernel
theorem dX12_mourns_35 : decode mX12_mourns.2.1 35 = .ok (.ireturn, 1) := by decide +kernel
theorem bX12_mourns_0 {SC : Nat → Nat} {X : mh_X} {d : Nat} {Q : Option am_V → am_W → Prop} {bc bs : Nat} {w : am_W} {x1 : Int} {x2 : Int} {x3 : Int}
    (h : am_M (mh_G X) SC d 0 0 mX12_isPerson [.inr (.inr (some (9, 0))), .inl x1] w (fun r w1 => am_A (mh_G X) SC (d + 1) mX12_mourns Q 5 [(0, .inr (.inr (some (9, 0)))), (1, .inl x1), (2, .inl x2), (3, .inl x3)] (r.toList ++ []) w1 bc bs)) :
    am_A (mh_G X) SC (d + 1) mX12_mourns Q 0 [(0, .inr (.inr (some (9, 0)))), (1, .inl x1), (2, .inl x2), (3, .inl x3)] [] w bc bs := by
  refine am_aload_n dX12_mourns_0 (List.Mem.head _) ?_
  refine am_iload_n dX12_mourns_1 (List.Mem.tail _ (List.Mem.head _)) ?_
  exact am_callv (d' := d) (kc := 0) (ks := 0) (as := [.inl x1]) dX12_mourns_2 wc_X12_isPerson wd_2018 wd_2020 wd_73 wd_122 ds_X12_isPerson (by decide) (Nat.le_refl _) (Nat.le_of_ble_eq_true rfl) (Nat.zero_le _) (Nat.zero_le _) hc_10 (by decide) rfl rfl h
theorem bX12_mourns_5 {SC : Nat → Nat} {X : mh_X} {d : Nat} {Q : Option am_V → am_W → Prop} {bc bs : Nat} {w : am_W} {x1 : Int} {x2 : Int} {x3 : Int} {xs0 : Int}
    (h : ((xs0 = 0 → Q (some (.inl (-1))) w) ∧ (¬ xs0 = 0 → am_M (mh_G X) SC d 0 0 mX12_isPerson [.inr (.inr (some (9, 0))), .inl x2] w (fun r w1 => am_A (mh_G X) SC (d + 1) mX12_mourns Q 13 [(0, .inr (.inr (some (9, 0)))), (1, .inl x1), (2, .inl x2), (3, .inl x3)] (r.toList ++ []) w1 bc bs)))) :
    am_A (mh_G X) SC (d + 1) mX12_mourns Q 5 [(0, .inr (.inr (some (9, 0)))), (1, .inl x1), (2, .inl x2), (3, .inl x3)] [.inl xs0] w bc bs := by
  refine am_ifeq (tgt := 34) dX12_mourns_5 (by decide) (fun c1 => ?_) (fun c1 => ?_)
  · replace h := h.1 c1
    refine am_iconst dX12_mourns_34 (by unfold am_rg; omega) ?_
    exact am_ret (r := some (.inl (-1))) dX12_mourns_35 (Or.inl rfl) rfl h
  · replace h := h.2 c1
    refine am_aload_n dX12_mourns_8 (List.Mem.head _) ?_
    refine am_iload_n dX12_mourns_9 (List.Mem.tail _ (List.Mem.tail _ (List.Mem.head _))) ?_
    exact am_callv (d' := d) (kc := 0) (ks := 0) (as := [.inl x2]) dX12_mourns_10 wc_X12_isPerson wd_2018 wd_2020 wd_73 wd_122 ds_X12_isPerson (by decide) (Nat.le_refl _) (Nat.le_of_ble_eq_true rfl) (Nat.zero_le _) (Nat.zero_le _) hc_10 (by decide) rfl rfl h
theorem bX12_mourns_13 {SC : Nat → Nat} {X : mh_X} {d : Nat} {Q : Option am_V → am_W → Prop} {bc bs : Nat} {w : am_W} {x1 : Int} {x2 : Int} {x3 : Int} {xs0 : Int}
    (h : ((xs0 = 0 → Q (some (.inl (-1))) w) ∧ (¬ xs0 = 0 → am_M (mh_G X) SC d 0 0 mX12_isKnownDay [.inr (.inr (some (9, 0))), .inl x3] w (fun r w1 => am_A (mh_G X) SC (d + 1) mX12_mourns Q 21 [(0, .inr (.inr (some (9, 0)))), (1, .inl x1), (2, .inl x2), (3, .inl x3)] (r.toList ++ []) w1 bc bs)))) :
    am_A (mh_G X) SC (d + 1) mX12_mourns Q 13 [(0, .inr (.inr (some (9, 0)))), (1, .inl x1), (2, .inl x2), (3, .inl x3)] [.inl xs0] w bc bs := by
  refine am_ifeq (tgt := 34) dX12_mourns_13 (by decide) (fun c1 => ?_) (fun c1 => ?_)
  · replace h := h.1 c1
    refine am_iconst dX12_mourns_34 (by unfold am_rg; omega) ?_
    exact am_ret (r := some (.inl (-1))) dX12_mourns_35 (Or.inl rfl) rfl h
  · replace h := h.2 c1
    refine am_aload_n dX12_mourns_16 (List.Mem.head _) ?_
    refine am_iload_n dX12_mourns_17 (List.Mem.tail _ (List.Mem.tail _ (List.Mem.tail _ (List.Mem.head _)))) ?_
    exact am_callv (d' := d) (kc := 0) (ks := 0) (as := [.inl x3]) dX12_mourns_18 wc_X12_isKnownDay wd_2069 wd_2071 wd_80 wd_122 ds_X12_isKnownDay (by decide) (Nat.le_refl _) (Nat.le_of_ble_eq_true rfl) (Nat.zero_le _) (Nat.zero_le _) hc_10 (by decide) rfl rfl h
theorem bX12_mourns_21 {SC : Nat → Nat} {X : mh_X} {d : Nat} {Q : Option am_V → am_W → Prop} {bc bs : Nat} {w : am_W} {x1 : Int} {x2 : Int} {x3 : Int} {xs0 : Int}
    (h : ((xs0 = 0 → Q (some (.inl (-1))) w) ∧ (¬ xs0 = 0 → am_M (mh_G X) SC d 0 0 mX12_ruleFor [.inr (.inr (some (9, 0))), .inl x1, .inl x2, .inl x3] w (fun r w1 => am_A (mh_G X) SC (d + 1) mX12_mourns Q 31 [(0, .inr (.inr (some (9, 0)))), (1, .inl x1), (2, .inl x2), (3, .inl x3)] (r.toList ++ []) w1 bc bs)))) :
    am_A (mh_G X) SC (d + 1) mX12_mourns Q 21 [(0, .inr (.inr (some (9, 0)))), (1, .inl x1), (2, .inl x2), (3, .inl x3)] [.inl xs0] w bc bs := by
  refine am_ifeq (tgt := 34) dX12_mourns_21 (by decide) (fun c1 => ?_) (fun c1 => ?_)
  · replace h := h.1 c1
    refine am_iconst dX12_mourns_34 (by unfold am_rg; omega) ?_
    exact am_ret (r := some (.inl (-1))) dX12_mourns_35 (Or.inl rfl) rfl h
  · replace h := h.2 c1
    refine am_aload_n dX12_mourns_24 (List.Mem.head _) ?_
    refine am_iload_n dX12_mourns_25 (List.Mem.tail _ (List.Mem.head _)) ?_
    refine am_iload_n dX12_mourns_26 (List.Mem.tail _ (List.Mem.tail _ (List.Mem.head _))) ?_
    refine am_iload_n dX12_mourns_27 (List.Mem.tail _ (List.Mem.tail _ (List.Mem.tail _ (List.Mem.head _)))) ?_
    exact am_callv (d' := d) (kc := 0) (ks := 0) (as := [.inl x1, .inl x2, .inl x3]) dX12_mourns_28 wc_X12_ruleFor wd_2073 wd_2075 wd_81 wd_122 ds_X12_ruleFor (by decide) (Nat.le_refl _) (Nat.le_of_ble_eq_true rfl) (Nat.zero_le _) (Nat.zero_le _) hc_10 (by decide) rfl rfl h
theorem bX12_mourns_31 {SC : Nat → Nat} {X : mh_X} {d : Nat} {Q : Option am_V → am_W → Prop} {bc bs : Nat} {w : am_W} {x1 : Int} {x2 : Int} {x3 : Int} {xs0 : Int}
    (h : Q (some (.inl xs0)) w) :
    am_A (mh_G X) SC (d + 1) mX12_mourns Q 31 [(0, .inr (.inr (some (9, 0)))), (1, .inl x1), (2, .inl x2), (3, .inl x3)] [.inl xs0] w bc bs := by
  refine am_goto (tgt := 35) dX12_mourns_31 (by decide) ?_
  exact am_ret (r := some (.inl xs0)) dX12_mourns_35 (Or.inl rfl) rfl h
-- MourningHouseModel.reached(III)I
theorem dX12_reached_0 : decode mX12_reached.2.1 0 = .ok (.iload_n 2, 1) := by decide +kernel
theorem dX12_reached_1 : decode mX12_reached.2.1 1 = .ok (.ifCond .ne 7, 3) := by decide +kernel
theorem dX12_reached_4 : decode mX12_reached.2.1 4 = .ok (.iload_n 0, 1) := by decide +kernel
theorem dX12_reached_5 : decode mX12_reached.2.1 5 = .ok (.iload_n 1, 1) := by decide +kernel
theorem dX12_reached_6 : decode mX12_reached.2.1 6 = .ok (.iadd, 1) := by decide +kernel
theorem dX12_reached_7 : decode mX12_reached.2.1 7 = .ok (.ireturn, 1) := by decide +kernel
theorem dX12_reached_8 : decode mX12_reached.2.1 8 = .ok (.iload_n 2, 1) := by decide +kernel
theorem dX12_reached_9 : decode mX12_reached.2.1 9 = .ok (.iconst 1, 1) := by decide +kernel
theorem dX12_reached_10 : decode mX12_reached.2.1 10 = .ok (.if_icmp .ne 10, 3) := by decide +kernel
theorem dX12_reached_13 : decode mX12_reached.2.1 13 = .ok (.iload_n 0, 1) := by decide +kernel
theorem dX12_reached_14 : decode mX12_reached.2.1 14 = .ok (.bipush 7, 2) := by decide +kernel
theorem dX12_reached_16 : decode mX12_reached.2.1 16 = .ok (.iload_n 1, 1) := by decide +kernel
theorem dX12_reached_17 : decode mX12_reached.2.1 17 = .ok (.imul, 1) := by decide +kernel
theorem dX12_reached_18 : decode mX12_reached.2.1 18 = .ok (.iadd, 1) := by decide +kernel
theorem dX12_reached_19 : decode mX12_reached.2.1 19 = .ok (.ireturn, 1) := by decide +kernel
theorem dX12_reached_20 : decode mX12_reached.2.1 20 = .ok (.iload_n 0, 1) := by decide +kernel
theorem dX12_reached_21 : decode mX12_reached.2.1 21 = .ok (.iload_n 2, 1) := by decide +kernel
theorem dX12_reached_22 : decode mX12_reached.2.1 22 = .ok (.iconst 2, 1) := by decide +kernel
theorem dX12_reached_23 : decode mX12_reached.2.1 23 = .ok (.if_icmp .ne 7, 3) := by decide +kernel
theorem dX12_reached_26 : decode mX12_reached.2.1 26 = .ok (.iload_n 1, 1) := by decide +kernel
theorem dX12_reached_27 : decode mX12_reached.2.1 27 = .ok (.goto 7, 3) := by decide +kernel
theorem dX12_reached_30 : decode mX12_reached.2.1 30 = .ok (.bipush 12, 2) := by decide +kernel
theorem dX12_reached_32 : decode mX12_reached.2.1 32 = .ok (.iload_n 1, 1) := by decide +kernel
theorem dX12_reached_33 : decode mX12_reached.2.1 33 = .ok (.imul, 1) := by decide +kernel
theorem dX12_reached_34 : decode mX12_reached.2.1 34 = .ok (.invokestatic 326, 3) := by decide +kernel
theorem dX12_reached_37 : decode mX12_reached.2.1 37 = .ok (.ireturn, 1) := by decide +kernel
theorem bX12_reached_0 {SC : Nat → Nat} {X : mh_X} {d : Nat} {Q : Option am_V → am_W → Prop} {bc bs : Nat} {w : am_W} {x0 : Int} {x1 : Int} {x2 : Int}
    (h : ((¬ x2 = 0 → ((¬ x2 = 1 → ((¬ x2 = 2 → am_A (mh_G X) SC (d + 1) mX12_reached Q 34 [] [.inl (am_w (12 * x1)), .inl x0] w bc bs) ∧ (x2 = 2 → am_A (mh_G X) SC (d + 1) mX12_reached Q 34 [] [.inl x1, .inl x0] w bc bs))) ∧ (x2 = 1 → Q (some (.inl (am_w (x0 + (am_w (7 * x1)))))) w))) ∧ (x2 = 0 → Q (some (.inl (am_w (x0 + x1)))) w))) :
    am_A (mh_G X) SC (d + 1) mX12_reached Q 0 [(0, .inl x0), (1, .inl x1), (2, .inl x2)] [] w bc bs := by
  refine am_iload_n dX12_reached_0 (List.Mem.tail _ (List.Mem.tail _ (List.Mem.head _))) ?_
  refine am_ifne (tgt := 8) dX12_reached_1 (by decide) (fun c1 => ?_) (fun c1 => ?_)
  · replace h := h.1 c1
    refine am_iload_n dX12_reached_8 (List.Mem.tail _ (List.Mem.tail _ (List.Mem.head _))) ?_
    refine am_iconst dX12_reached_9 (by unfold am_rg; omega) ?_
    refine am_icmpne (tgt := 20) dX12_reached_10 (by decide) (fun c2 => ?_) (fun c2 => ?_)
    · replace h := h.1 c2
      refine am_iload_n dX12_reached_20 (List.Mem.head _) ?_
      refine am_iload_n dX12_reached_21 (List.Mem.tail _ (List.Mem.tail _ (List.Mem.head _))) ?_
      refine am_iconst dX12_reached_22 (by unfold am_rg; omega) ?_
      refine am_icmpne (tgt := 30) dX12_reached_23 (by decide) (fun c3 => ?_) (fun c3 => ?_)
      · replace h := h.1 c3
        refine am_bipush dX12_reached_30 (by decide) (by unfold am_rg; omega) ?_
        refine am_iload_n dX12_reached_32 (List.Mem.tail _ (List.Mem.head _)) ?_
        refine am_imul dX12_reached_33 ?_
        exact am_sub [] rfl h
      · replace h := h.2 c3
        refine am_iload_n dX12_reached_26 (List.Mem.tail _ (List.Mem.head _)) ?_
        refine am_goto (tgt := 34) dX12_reached_27 (by decide) ?_
        exact am_sub [] rfl h
    · replace h := h.2 c2
      refine am_iload_n dX12_reached_13 (List.Mem.head _) ?_
      refine am_bipush dX12_reached_14 (by decide) (by unfold am_rg; omega) ?_
      refine am_iload_n dX12_reached_16 (List.Mem.tail _ (List.Mem.head _)) ?_
      refine am_imul dX12_reached_17 ?_
      refine am_iadd dX12_reached_18 ?_
      exact am_ret (r := some (.inl (am_w (x0 + (am_w (7 * x1)))))) dX12_reached_19 (Or.inl rfl) rfl h
  · replace h := h.2 c1
    refine am_iload_n dX12_reached_4 (List.Mem.head _) ?_
    refine am_iload_n dX12_reached_5 (List.Mem.tail _ (List.Mem.head _)) ?_
    refine am_iadd dX12_reached_6 ?_
    exact am_ret (r := some (.inl (am_w (x0 + x1)))) dX12_reached_7 (Or.inl rfl) rfl h
theorem bX12_reached_34 {SC : Nat → Nat} {X : mh_X} {d : Nat} {Q : Option am_V → am_W → Prop} {bc bs : Nat} {w : am_W} {xs0 : Int} {xs1 : Int}
    (h : am_M (mh_G X) SC d 0 0 mX12_behind [.inl xs1, .inl xs0] w (fun r w1 => am_A (mh_G X) SC (d + 1) mX12_reached Q 37 [] (r.toList ++ []) w1 bc bs)) :
    am_A (mh_G X) SC (d + 1) mX12_reached Q 34 [] [.inl xs0, .inl xs1] w bc bs := by
  exact am_calls (d' := d) (kc := 0) (ks := 0) (as := [.inl xs1, .inl xs0]) dX12_reached_34 wc_X12_behind wd_1892 wd_1893 wd_122 ds_X12_behind (by decide) (Nat.le_refl _) (Nat.le_of_ble_eq_true rfl) (Nat.zero_le _) (Nat.zero_le _) rfl h
theorem bX12_reached_37 {SC : Nat → Nat} {X : mh_X} {d : Nat} {Q : Option am_V → am_W → Prop} {bc bs : Nat} {w : am_W} {xs0 : Int}
    (h : Q (some (.inl xs0)) w) :
    am_A (mh_G X) SC (d + 1) mX12_reached Q 37 [] [.inl xs0] w bc bs := by
  exact am_ret (r := some (.inl xs0)) dX12_reached_37 (Or.inl rfl) rfl h
-- MourningHouseModel.enters(IIII)V
theorem dX12_enters_0 : decode mX12_enters.2.1 0 = .ok (.aload_n 0, 1) := by decide +kernel
theorem dX12_enters_1 : decode mX12_enters.2.1 1 = .ok (.getfield 496, 3) := by decide +kernel
theorem dX12_enters_4 : decode mX12_enters.2.1 4 = .ok (.istore 5, 2) := by decide +kernel
theorem dX12_enters_6 : decode mX12_enters.2.1 6 = .ok (.aload_n 0, 1) := by decide +kernel
theorem dX12_enters_7 : decode mX12_enters.2.1 7 = .ok (.aload_n 0, 1) := by decide +kernel
theorem dX12_enters_8 : decode mX12_enters.2.1 8 = .ok (.getfield 167, 3) := by decide +kernel
theorem dX12_enters_11 : decode mX12_enters.2.1 11 = .ok (.iload_n 2, 1) := by decide +kernel
theorem dX12_enters_12 : decode mX12_enters.2.1 12 = .ok (.iaload, 1) := by decide +kernel
theorem dX12_enters_13 : decode mX12_enters.2.1 13 = .ok (.iload 4, 2) := by decide +kernel
theorem dX12_enters_15 : decode mX12_enters.2.1 15 = .ok (.invokevirtual 487, 3) := by decide +kernel
theorem dX12_enters_18 : decode mX12_enters.2.1 18 = .ok (.istore 6, 2) := by decide +kernel
theorem dX12_enters_20 : decode mX12_enters.2.1 20 = .ok (.aload_n 0, 1) := by decide +kernel
theorem dX12_enters_21 : decode mX12_enters.2.1 21 = .ok (.getfield 204, 3) := by decide +kernel
theorem dX12_enters_24 : decode mX12_enters.2.1 24 = .ok (.iload 5, 2) := by decide +kernel
theorem dX12_enters_26 : decode mX12_enters.2.1 26 = .ok (.iload_n 2, 1) := by decide +kernel
theorem dX12_enters_27 : decode mX12_enters.2.1 27 = .ok (.iastore, 1) := by decide +kernel
theorem dX12_enters_28 : decode mX12_enters.2.1 28 = .ok (.aload_n 0, 1) := by decide +kernel
theorem dX12_enters_29 : decode mX12_enters.2.1 29 = .ok (.getfield 216, 3) := by decide +kernel
theorem dX12_enters_32 : decode mX12_enters.2.1 32 = .ok (.iload 5, 2) := by decide +kernel
theorem dX12_enters_34 : decode mX12_enters.2.1 34 = .ok (.iload 6, 2) := by decide +kernel
theorem dX12_enters_36 : decode mX12_enters.2.1 36 = .ok (.iastore, 1) := by decide +kernel
theorem dX12_enters_37 : decode mX12_enters.2.1 37 = .ok (.aload_n 0, 1) := by decide +kernel
theorem dX12_enters_38 : decode mX12_enters.2.1 38 = .ok (.getfield 213, 3) := by decide +kernel
theorem dX12_enters_41 : decode mX12_enters.2.1 41 = .ok (.iload 5, 2) := by decide +kernel
theorem dX12_enters_43 : decode mX12_enters.2.1 43 = .ok (.iload_n 3, 1) := by decide +kernel
theorem dX12_enters_44 : decode mX12_enters.2.1 44 = .ok (.iastore, 1) := by decide +kernel
theorem dX12_enters_45 : decode mX12_enters.2.1 45 = .ok (.aload_n 0, 1) := by decide +kernel
theorem dX12_enters_46 : decode mX12_enters.2.1 46 = .ok (.getfield 207, 3) := by decide +kernel
theorem dX12_enters_49 : decode mX12_enters.2.1 49 = .ok (.iload 5, 2) := by decide +kernel
theorem dX12_enters_51 : decode mX12_enters.2.1 51 = .ok (.aload_n 0, 1) := by decide +kernel
theorem dX12_enters_52 : decode mX12_enters.2.1 52 = .ok (.getfield 31, 3) := by decide +kernel
theorem dX12_enters_55 : decode mX12_enters.2.1 55 = .ok (.iload 6, 2) := by decide +kernel
theorem dX12_enters_57 : decode mX12_enters.2.1 57 = .ok (.aaload, 1) := by decide +kernel
theorem dX12_enters_58 : decode mX12_enters.2.1 58 = .ok (.iload_n 3, 1) := by decide +kernel
theorem dX12_enters_59 : decode mX12_enters.2.1 59 = .ok (.iaload, 1) := by decide +kernel
theorem dX12_enters_60 : decode mX12_enters.2.1 60 = .ok (.bipush 8, 2) := by decide +kernel
theorem dX12_enters_62 : decode mX12_enters.2.1 62 = .ok (.iand, 1) := by decide +kernel
theorem dX12_enters_63 : decode mX12_enters.2.1 63 = .ok (.ifCond .eq 12, 3) := by decide +kernel
theorem dX12_enters_66 : decode mX12_enters.2.1 66 = .ok (.aload_n 0, 1) := by decide +kernel
theorem dX12_enters_67 : decode mX12_enters.2.1 67 = .ok (.getfield 170, 3) := by decide +kernel
theorem dX12_enters_70 : decode mX12_enters.2.1 70 = .ok (.iload_n 2, 1) := by decide +kernel
theorem dX12_enters_71 : decode mX12_enters.2.1 71 = .ok (.iaload, 1) := by decide +kernel
theorem dX12_enters_72 : decode mX12_enters.2.1 72 = .ok (.goto 9, 3) := by decide +kernel
theorem dX12_enters_75 : decode mX12_enters.2.1 75 = .ok (.aload_n 0, 1) := by decide +kernel
theorem dX12_enters_76 : decode mX12_enters.2.1 76 = .ok (.getfield 167, 3) := by decide +kernel
theorem dX12_enters_79 : decode mX12_enters.2.1 79 = .ok (.iload_n 2, 1) := by decide +kernel
theorem dX12_enters_80 : decode mX12_enters.2.1 80 = .ok (.iaload, 1) := by decide +kernel
theorem dX12_enters_81 : decode mX12_enters.2.1 81 = .ok (.iastore, 1) := by decide +kernel
theorem dX12_enters_82 : decode mX12_enters.2.1 82 = .ok (.aload_n 0, 1) := by decide +kernel
theorem dX12_enters_83 : decode mX12_enters.2.1 83 = .ok (.getfield 207, 3) := by decide +kernel
theorem dX12_enters_86 : decode mX12_enters.2.1 86 = .ok (.iload 5, 2) := by decide +kernel
theorem dX12_enters_88 : decode mX12_enters.2.1 88 = .ok (.iaload, 1) := by decide +kernel
theorem dX12_enters_89 : decode mX12_enters.2.1 89 = .ok (.aload_n 0, 1) := by decide +kernel
theorem dX12_enters_90 : decode mX12_enters.2.1 90 = .ok (.getfield 161, 3) := by decide +kernel
theorem dX12_enters_93 : decode mX12_enters.2.1 93 = .ok (.iload_n 1, 1) := by decide +kernel
theorem dX12_enters_94 : decode mX12_enters.2.1 94 = .ok (.iaload, 1) := by decide +kernel
theorem dX12_enters_95 : decode mX12_enters.2.1 95 = .ok (.if_icmp .ge 16, 3) := by decide +kernel
theorem dX12_enters_98 : decode mX12_enters.2.1 98 = .ok (.aload_n 0, 1) := by decide +kernel
theorem dX12_enters_99 : decode mX12_enters.2.1 99 = .ok (.getfield 207, 3) := by decide +kernel
theorem dX12_enters_102 : decode mX12_enters.2.1 102 = .ok (.iload 5, 2) := by decide +kernel
theorem dX12_enters_104 : decode mX12_enters.2.1 104 = .ok (.aload_n 0, 1) := by decide +kernel
theorem dX12_enters_105 : decode mX12_enters.2.1 105 = .ok (.getfield 161, 3) := by decide +kernel
theorem dX12_enters_108 : decode mX12_enters.2.1 108 = .ok (.iload_n 1, 1) := by decide +kernel
theorem dX12_enters_109 : decode mX12_enters.2.1 109 = .ok (.iaload, 1) := by decide +kernel
theorem dX12_enters_110 : decode mX12_enters.2.1 110 = .ok (.iastore, 1) := by decide +kernel
theorem dX12_enters_111 : decode mX12_enters.2.1 111 = .ok (.aload_n 0, 1) := by decide +kernel
theorem dX12_enters_112 : decode mX12_enters.2.1 112 = .ok (.getfield 207, 3) := by decide +kernel
theorem dX12_enters_115 : decode mX12_enters.2.1 115 = .ok (.iload 5, 2) := by decide +kernel
theorem dX12_enters_117 : decode mX12_enters.2.1 117 = .ok (.iaload, 1) := by decide +kernel
theorem dX12_enters_118 : decode mX12_enters.2.1 118 = .ok (.istore 7, 2) := by decide +kernel
theorem dX12_enters_120 : decode mX12_enters.2.1 120 = .ok (.iconst 0, 1) := by decide +kernel
theorem dX12_enters_121 : decode mX12_enters.2.1 121 = .ok (.istore 8, 2) := by decide +kernel
theorem dX12_enters_123 : decode mX12_enters.2.1 123 = .ok (.iload 8, 2) := by decide +kernel
theorem dX12_enters_125 : decode mX12_enters.2.1 125 = .ok (.aload_n 0, 1) := by decide +kernel
theorem dX12_enters_126 : decode mX12_enters.2.1 126 = .ok (.getfield 28, 3) := by decide +kernel
theorem dX12_enters_129 : decode mX12_enters.2.1 129 = .ok (.iload 6, 2) := by decide +kernel
theorem dX12_enters_131 : decode mX12_enters.2.1 131 = .ok (.aaload, 1) := by decide +kernel
theorem dX12_enters_132 : decode mX12_enters.2.1 132 = .ok (.iload_n 3, 1) := by decide +kernel
theorem dX12_enters_133 : decode mX12_enters.2.1 133 = .ok (.iaload, 1) := by decide +kernel
theorem dX12_enters_134 : decode mX12_enters.2.1 134 = .ok (.if_icmp .ge 110, 3) := by decide +kernel
theorem dX12_enters_137 : decode mX12_enters.2.1 137 = .ok (.iload 7, 2) := by decide +kernel
theorem dX12_enters_139 : decode mX12_enters.2.1 139 = .ok (.aload_n 0, 1) := by decide +kernel
theorem dX12_enters_140 : decode mX12_enters.2.1 140 = .ok (.getfield 39, 3) := by decide +kernel
theorem dX12_enters_143 : decode mX12_enters.2.1 143 = .ok (.iload 6, 2) := by decide +kernel
theorem dX12_enters_145 : decode mX12_enters.2.1 145 = .ok (.aaload, 1) := by decide +kernel
theorem dX12_enters_146 : decode mX12_enters.2.1 146 = .ok (.iload_n 3, 1) := by decide +kernel
theorem dX12_enters_147 : decode mX12_enters.2.1 147 = .ok (.aaload, 1) := by decide +kernel
theorem dX12_enters_148 : decode mX12_enters.2.1 148 = .ok (.iconst 3, 1) := by decide +kernel
theorem dX12_enters_149 : decode mX12_enters.2.1 149 = .ok (.iload 8, 2) := by decide +kernel
theorem dX12_enters_151 : decode mX12_enters.2.1 151 = .ok (.imul, 1) := by decide +kernel
theorem dX12_enters_152 : decode mX12_enters.2.1 152 = .ok (.iconst 1, 1) := by decide +kernel
theorem dX12_enters_153 : decode mX12_enters.2.1 153 = .ok (.iadd, 1) := by decide +kernel
theorem dX12_enters_154 : decode mX12_enters.2.1 154 = .ok (.iaload, 1) := by decide +kernel
theorem dX12_enters_155 : decode mX12_enters.2.1 155 = .ok (.aload_n 0, 1) := by decide +kernel
theorem dX12_enters_156 : decode mX12_enters.2.1 156 = .ok (.getfield 39, 3) := by decide +kernel
theorem dX12_enters_159 : decode mX12_enters.2.1 159 = .ok (.iload 6, 2) := by decide +kernel
theorem dX12_enters_161 : decode mX12_enters.2.1 161 = .ok (.aaload, 1) := by decide +kernel
theorem dX12_enters_162 : decode mX12_enters.2.1 162 = .ok (.iload_n 3, 1) := by decide +kernel
theorem dX12_enters_163 : decode mX12_enters.2.1 163 = .ok (.aaload, 1) := by decide +kernel
theorem dX12_enters_164 : decode mX12_enters.2.1 164 = .ok (.iconst 3, 1) := by decide +kernel
theorem dX12_enters_165 : decode mX12_enters.2.1 165 = .ok (.iload 8, 2) := by decide +kernel
theorem dX12_enters_167 : decode mX12_enters.2.1 167 = .ok (.imul, 1) := by decide +kernel
theorem dX12_enters_168 : decode mX12_enters.2.1 168 = .ok (.iconst 2, 1) := by decide +kernel
theorem dX12_enters_169 : decode mX12_enters.2.1 169 = .ok (.iadd, 1) := by decide +kernel
theorem dX12_enters_170 : decode mX12_enters.2.1 170 = .ok (.iaload, 1) := by decide +kernel
theorem dX12_enters_171 : decode mX12_enters.2.1 171 = .ok (.invokestatic 499, 3) := by decide +kernel
theorem dX12_enters_174 : decode mX12_enters.2.1 174 = .ok (.istore 9, 2) := by decide +kernel
theorem dX12_enters_176 : decode mX12_enters.2.1 176 = .ok (.aload_n 0, 1) := by decide +kernel
theorem dX12_enters_177 : decode mX12_enters.2.1 177 = .ok (.getfield 219, 3) := by decide +kernel
theorem dX12_enters_180 : decode mX12_enters.2.1 180 = .ok (.iload 5, 2) := by decide +kernel
theorem dX12_enters_182 : decode mX12_enters.2.1 182 = .ok (.aaload, 1) := by decide +kernel
theorem dX12_enters_183 : decode mX12_enters.2.1 183 = .ok (.iload 8, 2) := by decide +kernel
theorem dX12_enters_185 : decode mX12_enters.2.1 185 = .ok (.iload 9, 2) := by decide +kernel
theorem dX12_enters_187 : decode mX12_enters.2.1 187 = .ok (.iload 7, 2) := by decide +kernel
theorem dX12_enters_189 : decode mX12_enters.2.1 189 = .ok (.isub, 1) := by decide +kernel
theorem dX12_enters_190 : decode mX12_enters.2.1 190 = .ok (.iastore, 1) := by decide +kernel
theorem dX12_enters_191 : decode mX12_enters.2.1 191 = .ok (.aload_n 0, 1) := by decide +kernel
theorem dX12_enters_192 : decode mX12_enters.2.1 192 = .ok (.getfield 151, 3) := by decide +kernel
theorem dX12_enters_195 : decode mX12_enters.2.1 195 = .ok (.iload_n 1, 1) := by decide +kernel
theorem dX12_enters_196 : decode mX12_enters.2.1 196 = .ok (.iaload, 1) := by decide +kernel
theorem dX12_enters_197 : decode mX12_enters.2.1 197 = .ok (.iconst 1, 1) := by decide +kernel
theorem dX12_enters_198 : decode mX12_enters.2.1 198 = .ok (.if_icmp .ne 36, 3) := by decide +kernel
theorem dX12_enters_201 : decode mX12_enters.2.1 201 = .ok (.aload_n 0, 1) := by decide +kernel
theorem dX12_enters_202 : decode mX12_enters.2.1 202 = .ok (.getfield 31, 3) := by decide +kernel
theorem dX12_enters_205 : decode mX12_enters.2.1 205 = .ok (.iload 6, 2) := by decide +kernel
theorem dX12_enters_207 : decode mX12_enters.2.1 207 = .ok (.aaload, 1) := by decide +kernel
theorem dX12_enters_208 : decode mX12_enters.2.1 208 = .ok (.iload_n 3, 1) := by decide +kernel
theorem dX12_enters_209 : decode mX12_enters.2.1 209 = .ok (.iaload, 1) := by decide +kernel
theorem dX12_enters_210 : decode mX12_enters.2.1 210 = .ok (.iconst 1, 1) := by decide +kernel
theorem dX12_enters_211 : decode mX12_enters.2.1 211 = .ok (.iand, 1) := by decide +kernel
theorem dX12_enters_212 : decode mX12_enters.2.1 212 = .ok (.ifCond .eq 22, 3) := by decide +kernel
theorem dX12_enters_215 : decode mX12_enters.2.1 215 = .ok (.aload_n 0, 1) := by decide +kernel
theorem dX12_enters_216 : decode mX12_enters.2.1 216 = .ok (.getfield 219, 3) := by decide +kernel
theorem dX12_enters_219 : decode mX12_enters.2.1 219 = .ok (.iload 5, 2) := by decide +kernel
theorem dX12_enters_221 : decode mX12_enters.2.1 221 = .ok (.aaload, 1) := by decide +kernel
theorem dX12_enters_222 : decode mX12_enters.2.1 222 = .ok (.iload 8, 2) := by decide +kernel
theorem dX12_enters_224 : decode mX12_enters.2.1 224 = .ok (.iload 9, 2) := by decide +kernel
theorem dX12_enters_226 : decode mX12_enters.2.1 226 = .ok (.iload 7, 2) := by decide +kernel
theorem dX12_enters_228 : decode mX12_enters.2.1 228 = .ok (.isub, 1) := by decide +kernel
theorem dX12_enters_229 : decode mX12_enters.2.1 229 = .ok (.iconst 1, 1) := by decide +kernel
theorem dX12_enters_230 : decode mX12_enters.2.1 230 = .ok (.iadd, 1) := by decide +kernel
theorem dX12_enters_231 : decode mX12_enters.2.1 231 = .ok (.iconst 2, 1) := by decide +kernel
theorem dX12_enters_232 : decode mX12_enters.2.1 232 = .ok (.idiv, 1) := by decide +kernel
theorem dX12_enters_233 : decode mX12_enters.2.1 233 = .ok (.iastore, 1) := by decide +kernel
theorem dX12_enters_234 : decode mX12_enters.2.1 234 = .ok (.iload 9, 2) := by decide +kernel
theorem dX12_enters_236 : decode mX12_enters.2.1 236 = .ok (.istore 7, 2) := by decide +kernel
theorem dX12_enters_238 : decode mX12_enters.2.1 238 = .ok (.iinc 8 1, 3) := by decide +kernel
theorem dX12_enters_241 : decode mX12_enters.2.1 241 = .ok (.goto (-118), 3) := by decide +kernel
theorem dX12_enters_244 : decode mX12_enters.2.1 244 = .ok (.aload_n 0, 1) := by decide +kernel
theorem dX12_enters_245 : decode mX12_enters.2.1 245 = .ok (.getfield 210, 3) := by decide +kernel
theorem dX12_enters_248 : decode mX12_enters.2.1 248 = .ok (.iload 5, 2) := by decide +kernel
theorem dX12_enters_250 : decode mX12_enters.2.1 250 = .ok (.iconst 0, 1) := by decide +kernel
theorem dX12_enters_251 : decode mX12_enters.2.1 251 = .ok (.iastore, 1) := by decide +kernel
theorem dX12_enters_252 : decode mX12_enters.2.1 252 = .ok (.aload_n 0, 1) := by decide +kernel
theorem dX12_enters_253 : decode mX12_enters.2.1 253 = .ok (.getfield 222, 3) := by decide +kernel
theorem dX12_enters_256 : decode mX12_enters.2.1 256 = .ok (.iload 5, 2) := by decide +kernel
theorem dX12_enters_258 : decode mX12_enters.2.1 258 = .ok (.iconst 0, 1) := by decide +kernel
theorem dX12_enters_259 : decode mX12_enters.2.1 259 = .ok (.bastore, 1) := by decide +kernel
theorem dX12_enters_260 : decode mX12_enters.2.1 260 = .ok (.aload_n 0, 1) := by decide +kernel
theorem dX12_enters_261 : decode mX12_enters.2.1 261 = .ok (.dup, 1) := by decide +kernel
theorem dX12_enters_262 : decode mX12_enters.2.1 262 = .ok (.getfield 496, 3) := by decide +kernel
theorem dX12_enters_265 : decode mX12_enters.2.1 265 = .ok (.iconst 1, 1) := by decide +kernel
theorem dX12_enters_266 : decode mX12_enters.2.1 266 = .ok (.iadd, 1) := by decide +kernel
theorem dX12_enters_267 : decode mX12_enters.2.1 267 = .ok (.putfield 496, 3) := by decide +kernel
theorem dX12_enters_270 : decode mX12_enters.2.1 270 = .ok (.return_, 1) := by decide +kernel
theorem bX12_enters_0 {SC : Nat → Nat} {X : mh_X} {d : Nat} {Q : Option am_V → am_W → Prop} {bc bs : Nat} {w : am_W} {x1 : Int} {x2 : Int} {x3 : Int} {x4 : Int}
    (h : (0 ≤ x2 ∧ (x2 < 40 ∧ am_M (mh_G X) SC d 0 0 mX12_lawOf [.inr (.inr (some (9, 0))), .inl (w.1 102 0 x2.toNat), .inl x4] w (fun r w1 => am_A (mh_G X) SC (d + 1) mX12_enters Q 18 [(5, .inl (w.1 9 0 62)), (0, .inr (.inr (some (9, 0)))), (1, .inl x1), (2, .inl x2), (3, .inl x3), (4, .inl x4)] (r.toList ++ []) w1 bc bs)))) :
    am_A (mh_G X) SC (d + 1) mX12_enters Q 0 [(0, .inr (.inr (some (9, 0)))), (1, .inl x1), (2, .inl x2), (3, .inl x3), (4, .inl x4)] [] w bc bs := by
  refine am_aload_n dX12_enters_0 (List.Mem.head _) ?_
  refine am_getf (f := 62) (v := .inl (w.1 9 0 62)) dX12_enters_1 hc_10 (by decide) wd_1611 (by decide) rfl rfl ?_
  refine am_istore (ls' := [(5, .inl (w.1 9 0 62)), (0, .inr (.inr (some (9, 0)))), (1, .inl x1), (2, .inl x2), (3, .inl x3), (4, .inl x4)]) dX12_enters_4 (by decide) rfl ?_
  refine am_aload_n dX12_enters_6 (List.Mem.tail _ (List.Mem.head _)) ?_
  refine am_aload_n dX12_enters_7 (List.Mem.tail _ (List.Mem.head _)) ?_
  refine am_getf (f := 40) (v := .inr (.inr (some (102, 0)))) dX12_enters_8 hc_10 (by decide) wd_1589 (by decide) rfl rfl ?_
  refine am_iload_n dX12_enters_11 (List.Mem.tail _ (List.Mem.tail _ (List.Mem.tail _ (List.Mem.head _)))) ?_
  have o1 := h.1
  replace h := h.2
  have o2 := h.1
  replace h := h.2
  refine am_iaload (v := (w.1 102 0 x2.toNat)) dX12_enters_12 (by decide) rfl o1 o2 rfl ?_
  refine am_iload dX12_enters_13 (List.Mem.tail _ (List.Mem.tail _ (List.Mem.tail _ (List.Mem.tail _ (List.Mem.tail _ (List.Mem.head _)))))) ?_
  exact am_callv (d' := d) (kc := 0) (ks := 0) (as := [.inl (w.1 102 0 x2.toNat), .inl x4]) dX12_enters_15 wc_X12_lawOf wd_2077 wd_2079 wd_82 wd_122 ds_X12_lawOf (by decide) (Nat.le_refl _) (Nat.le_of_ble_eq_true rfl) (Nat.zero_le _) (Nat.zero_le _) hc_10 (by decide) rfl rfl h
theorem bX12_enters_18 {SC : Nat → Nat} {X : mh_X} {d : Nat} {Q : Option am_V → am_W → Prop} {bc bs : Nat} {w : am_W} {x5 : Int} {x1 : Int} {x2 : Int} {x3 : Int} {x4 : Int} {xs0 : Int}
    (h : (0 ≤ x5 ∧ (x5 < 40 ∧ (0 ≤ xs0 ∧ (xs0 < 7 ∧ (0 ≤ x3 ∧ (x3 < 30 ∧ (((am_and (w.1 75 xs0.toNat x3.toNat) 8) = 0 → (0 ≤ x2 ∧ (x2 < 40 ∧ am_A (mh_G X) SC (d + 1) mX12_enters Q 81 [(0, .inr (.inr (some (9, 0)))), (1, .inl x1), (3, .inl x3), (5, .inl x5), (6, .inl xs0)] [.inl (w.1 102 0 x2.toNat), .inl x5, .inr (.inr (some (115, 0)))] ((am_up (am_up (am_up w.1 114 0 x5.toNat x2) 118 0 x5.toNat xs0) 117 0 x5.toNat x3), w.2) bc bs))) ∧ (¬ (am_and (w.1 75 xs0.toNat x3.toNat) 8) = 0 → (0 ≤ x2 ∧ (x2 < 40 ∧ am_A (mh_G X) SC (d + 1) mX12_enters Q 81 [(0, .inr (.inr (some (9, 0)))), (1, .inl x1), (3, .inl x3), (5, .inl x5), (6, .inl xs0)] [.inl (w.1 103 0 x2.toNat), .inl x5, .inr (.inr (some (115, 0)))] ((am_up (am_up (am_up w.1 114 0 x5.toNat x2) 118 0 x5.toNat xs0) 117 0 x5.toNat x3), w.2) bc bs))))))))))) :
    am_A (mh_G X) SC (d + 1) mX12_enters Q 18 [(5, .inl x5), (0, .inr (.inr (some (9, 0)))), (1, .inl x1), (2, .inl x2), (3, .inl x3), (4, .inl x4)] [.inl xs0] w bc bs := by
  refine am_istore (ls' := [(6, .inl xs0), (5, .inl x5), (0, .inr (.inr (some (9, 0)))), (1, .inl x1), (2, .inl x2), (3, .inl x3), (4, .inl x4)]) dX12_enters_18 (by decide) rfl ?_
  refine am_aload_n dX12_enters_20 (List.Mem.tail _ (List.Mem.tail _ (List.Mem.head _))) ?_
  refine am_getf (f := 55) (v := .inr (.inr (some (114, 0)))) dX12_enters_21 hc_10 (by decide) wd_1604 (by decide) rfl rfl ?_
  refine am_iload dX12_enters_24 (List.Mem.tail _ (List.Mem.head _)) ?_
  refine am_iload_n dX12_enters_26 (List.Mem.tail _ (List.Mem.tail _ (List.Mem.tail _ (List.Mem.tail _ (List.Mem.head _))))) ?_
  have o1 := h.1
  replace h := h.2
  have o2 := h.1
  replace h := h.2
  refine am_iastore dX12_enters_27 (Or.inl (by decide)) rfl o1 o2 ?_
  refine am_aload_n dX12_enters_28 (List.Mem.tail _ (List.Mem.tail _ (List.Mem.head _))) ?_
  refine am_getf (f := 59) (v := .inr (.inr (some (118, 0)))) dX12_enters_29 hc_10 (by decide) wd_1608 (by decide) rfl rfl ?_
  refine am_iload dX12_enters_32 (List.Mem.tail _ (List.Mem.head _)) ?_
  refine am_iload dX12_enters_34 (List.Mem.head _) ?_
  refine am_iastore dX12_enters_36 (Or.inl (by decide)) rfl o1 o2 ?_
  refine am_aload_n dX12_enters_37 (List.Mem.tail _ (List.Mem.tail _ (List.Mem.head _))) ?_
  refine am_getf (f := 58) (v := .inr (.inr (some (117, 0)))) dX12_enters_38 hc_10 (by decide) wd_1607 (by decide) rfl rfl ?_
  refine am_iload dX12_enters_41 (List.Mem.tail _ (List.Mem.head _)) ?_
  refine am_iload_n dX12_enters_43 (List.Mem.tail _ (List.Mem.tail _ (List.Mem.tail _ (List.Mem.tail _ (List.Mem.tail _ (List.Mem.head _)))))) ?_
  refine am_iastore dX12_enters_44 (Or.inl (by decide)) rfl o1 o2 ?_
  refine am_aload_n dX12_enters_45 (List.Mem.tail _ (List.Mem.tail _ (List.Mem.head _))) ?_
  refine am_getf (f := 56) (v := .inr (.inr (some (115, 0)))) dX12_enters_46 hc_10 (by decide) wd_1605 (by decide) rfl rfl ?_
  refine am_iload dX12_enters_49 (List.Mem.tail _ (List.Mem.head _)) ?_
  refine am_aload_n dX12_enters_51 (List.Mem.tail _ (List.Mem.tail _ (List.Mem.head _))) ?_
  refine am_getf (f := 10) (v := .inr (.inr (some (74, 0)))) dX12_enters_52 hc_10 (by decide) wd_1559 (by decide) rfl rfl ?_
  refine am_iload dX12_enters_55 (List.Mem.head _) ?_
  have o3 := h.1
  replace h := h.2
  have o4 := h.1
  replace h := h.2
  refine am_aaload (kd := 5) (r := some (75, xs0.toNat)) dX12_enters_57 (by decide) rfl (by decide) (by decide) o3 o4 rfl ?_
  refine am_iload_n dX12_enters_58 (List.Mem.tail _ (List.Mem.tail _ (List.Mem.tail _ (List.Mem.tail _ (List.Mem.tail _ (List.Mem.head _)))))) ?_
  have o5 := h.1
  replace h := h.2
  have o6 := h.1
  replace h := h.2
  refine am_iaload (v := (w.1 75 xs0.toNat x3.toNat)) dX12_enters_59 (by decide) rfl o5 o6 rfl ?_
  refine am_bipush dX12_enters_60 (by decide) (by unfold am_rg; omega) ?_
  refine am_iand dX12_enters_62 ?_
  refine am_ifeq (tgt := 75) dX12_enters_63 (by decide) (fun c7 => ?_) (fun c7 => ?_)
  · replace h := h.1 c7
    refine am_aload_n dX12_enters_75 (List.Mem.tail _ (List.Mem.tail _ (List.Mem.head _))) ?_
    refine am_getf (f := 40) (v := .inr (.inr (some (102, 0)))) dX12_enters_76 hc_10 (by decide) wd_1589 (by decide) rfl rfl ?_
    refine am_iload_n dX12_enters_79 (List.Mem.tail _ (List.Mem.tail _ (List.Mem.tail _ (List.Mem.tail _ (List.Mem.head _))))) ?_
    have o8 := h.1
    replace h := h.2
    have o9 := h.1
    replace h := h.2
    refine am_iaload (v := (w.1 102 0 x2.toNat)) dX12_enters_80 (by decide) rfl o8 o9 rfl ?_
    exact am_sub [2, 3, 5, 1, 0] rfl h
  · replace h := h.2 c7
    refine am_aload_n dX12_enters_66 (List.Mem.tail _ (List.Mem.tail _ (List.Mem.head _))) ?_
    refine am_getf (f := 41) (v := .inr (.inr (some (103, 0)))) dX12_enters_67 hc_10 (by decide) wd_1590 (by decide) rfl rfl ?_
    refine am_iload_n dX12_enters_70 (List.Mem.tail _ (List.Mem.tail _ (List.Mem.tail _ (List.Mem.tail _ (List.Mem.head _))))) ?_
    have o10 := h.1
    replace h := h.2
    have o11 := h.1
    replace h := h.2
    refine am_iaload (v := (w.1 103 0 x2.toNat)) dX12_enters_71 (by decide) rfl o10 o11 rfl ?_
    refine am_goto (tgt := 81) dX12_enters_72 (by decide) ?_
    exact am_sub [2, 3, 5, 1, 0] rfl h
theorem bX12_enters_81 {SC : Nat → Nat} {X : mh_X} {d : Nat} {Q : Option am_V → am_W → Prop} {bc bs : Nat} {w : am_W} {x1 : Int} {x3 : Int} {x5 : Int} {x6 : Int} {xs0 : Int} {xs1 : Int}
    (h : (0 ≤ xs1 ∧ (xs1 < 40 ∧ (0 ≤ x5 ∧ (x5 < 40 ∧ (0 ≤ x1 ∧ (x1 < 40 ∧ (((w.1 100 0 x1.toNat) ≤ ((am_up w.1 115 0 xs1.toNat xs0) 115 0 x5.toNat) → am_A (mh_G X) SC (d + 1) mX12_enters Q 111 [(0, .inr (.inr (some (9, 0)))), (1, .inl x1), (3, .inl x3), (5, .inl x5), (6, .inl x6)] [] ((am_up w.1 115 0 xs1.toNat xs0), w.2) bc bs) ∧ (¬ (w.1 100 0 x1.toNat) ≤ ((am_up w.1 115 0 xs1.toNat xs0) 115 0 x5.toNat) → am_A (mh_G X) SC (d + 1) mX12_enters Q 111 [(0, .inr (.inr (some (9, 0)))), (1, .inl x1), (3, .inl x3), (5, .inl x5), (6, .inl x6)] [] ((am_up (am_up w.1 115 0 xs1.toNat xs0) 115 0 x5.toNat (w.1 100 0 x1.toNat)), w.2) bc bs))))))))) :
    am_A (mh_G X) SC (d + 1) mX12_enters Q 81 [(0, .inr (.inr (some (9, 0)))), (1, .inl x1), (3, .inl x3), (5, .inl x5), (6, .inl x6)] [.inl xs0, .inl xs1, .inr (.inr (some (115, 0)))] w bc bs := by
  have o1 := h.1
  replace h := h.2
  have o2 := h.1
  replace h := h.2
  refine am_iastore dX12_enters_81 (Or.inl (by decide)) rfl o1 o2 ?_
  refine am_aload_n dX12_enters_82 (List.Mem.head _) ?_
  refine am_getf (f := 56) (v := .inr (.inr (some (115, 0)))) dX12_enters_83 hc_10 (by decide) wd_1605 (by decide) rfl rfl ?_
  refine am_iload dX12_enters_86 (List.Mem.tail _ (List.Mem.tail _ (List.Mem.tail _ (List.Mem.head _)))) ?_
  have o3 := h.1
  replace h := h.2
  have o4 := h.1
  replace h := h.2
  refine am_iaload (v := ((am_up w.1 115 0 xs1.toNat xs0) 115 0 x5.toNat)) dX12_enters_88 (by decide) rfl o3 o4 rfl ?_
  refine am_aload_n dX12_enters_89 (List.Mem.head _) ?_
  refine am_getf (f := 38) (v := .inr (.inr (some (100, 0)))) dX12_enters_90 hc_10 (by decide) wd_1587 (by decide) rfl rfl ?_
  refine am_iload_n dX12_enters_93 (List.Mem.tail _ (List.Mem.head _)) ?_
  have o5 := h.1
  replace h := h.2
  have o6 := h.1
  replace h := h.2
  refine am_iaload (v := (w.1 100 0 x1.toNat)) dX12_enters_94 (by decide) rfl o5 o6 rfl ?_
  refine am_icmpge (tgt := 111) dX12_enters_95 (by decide) (fun c7 => ?_) (fun c7 => ?_)
  · replace h := h.1 c7
    exact h
  · replace h := h.2 c7
    refine am_aload_n dX12_enters_98 (List.Mem.head _) ?_
    refine am_getf (f := 56) (v := .inr (.inr (some (115, 0)))) dX12_enters_99 hc_10 (by decide) wd_1605 (by decide) rfl rfl ?_
    refine am_iload dX12_enters_102 (List.Mem.tail _ (List.Mem.tail _ (List.Mem.tail _ (List.Mem.head _)))) ?_
    refine am_aload_n dX12_enters_104 (List.Mem.head _) ?_
    refine am_getf (f := 38) (v := .inr (.inr (some (100, 0)))) dX12_enters_105 hc_10 (by decide) wd_1587 (by decide) rfl rfl ?_
    refine am_iload_n dX12_enters_108 (List.Mem.tail _ (List.Mem.head _)) ?_
    refine am_iaload (v := (w.1 100 0 x1.toNat)) dX12_enters_109 (by decide) rfl o5 o6 rfl ?_
    refine am_iastore dX12_enters_110 (Or.inl (by decide)) rfl o3 o4 ?_
    exact h
theorem bX12_enters_111 {SC : Nat → Nat} {X : mh_X} {d : Nat} {Q : Option am_V → am_W → Prop} {bc bs : Nat} {w : am_W} {x1 : Int} {x3 : Int} {x5 : Int} {x6 : Int}
    (h : (0 ≤ x5 ∧ (x5 < 40 ∧ am_A (mh_G X) SC (d + 1) mX12_enters Q 123 [(0, .inr (.inr (some (9, 0)))), (1, .inl x1), (3, .inl x3), (5, .inl x5), (6, .inl x6), (7, .inl (w.1 115 0 x5.toNat)), (8, .inl 0)] [] w bc bs))) :
    am_A (mh_G X) SC (d + 1) mX12_enters Q 111 [(0, .inr (.inr (some (9, 0)))), (1, .inl x1), (3, .inl x3), (5, .inl x5), (6, .inl x6)] [] w bc bs := by
  refine am_aload_n dX12_enters_111 (List.Mem.head _) ?_
  refine am_getf (f := 56) (v := .inr (.inr (some (115, 0)))) dX12_enters_112 hc_10 (by decide) wd_1605 (by decide) rfl rfl ?_
  refine am_iload dX12_enters_115 (List.Mem.tail _ (List.Mem.tail _ (List.Mem.tail _ (List.Mem.head _)))) ?_
  have o1 := h.1
  replace h := h.2
  have o2 := h.1
  replace h := h.2
  refine am_iaload (v := (w.1 115 0 x5.toNat)) dX12_enters_117 (by decide) rfl o1 o2 rfl ?_
  refine am_istore (ls' := [(7, .inl (w.1 115 0 x5.toNat)), (0, .inr (.inr (some (9, 0)))), (1, .inl x1), (3, .inl x3), (5, .inl x5), (6, .inl x6)]) dX12_enters_118 (by decide) rfl ?_
  refine am_iconst dX12_enters_120 (by unfold am_rg; omega) ?_
  refine am_istore (ls' := [(8, .inl 0), (7, .inl (w.1 115 0 x5.toNat)), (0, .inr (.inr (some (9, 0)))), (1, .inl x1), (3, .inl x3), (5, .inl x5), (6, .inl x6)]) dX12_enters_121 (by decide) rfl ?_
  exact am_sub [2, 3, 4, 5, 6, 1, 0] rfl h
theorem bX12_enters_123 {SC : Nat → Nat} {X : mh_X} {d : Nat} {Q : Option am_V → am_W → Prop} {bc bs : Nat} {w : am_W} {x1 : Int} {x3 : Int} {x5 : Int} {x6 : Int} {x7 : Int} {x8 : Int}
    (h : (0 ≤ x6 ∧ (x6 < 7 ∧ (0 ≤ x3 ∧ (x3 < 30 ∧ (((w.1 73 x6.toNat x3.toNat) ≤ x8 → (0 ≤ x5 ∧ (x5 < 40 ∧ Q none ((am_up (am_up (am_up w.1 116 0 x5.toNat 0) 121 0 x5.toNat 0) 9 0 62 (am_w ((w.1 9 0 62) + 1))), w.2)))) ∧ (¬ (w.1 73 x6.toNat x3.toNat) ≤ x8 → (0 ≤ (am_w ((am_w (3 * x8)) + 1)) ∧ ((am_w ((am_w (3 * x8)) + 1)) < 12 ∧ (0 ≤ (am_w ((am_w (3 * x8)) + 2)) ∧ ((am_w ((am_w (3 * x8)) + 2)) < 12 ∧ am_M (mh_G X) SC d 0 0 mX12_reached [.inl x7, .inl (w.1 81 (30 * x6.toNat + x3.toNat) (am_w ((am_w (3 * x8)) + 1)).toNat), .inl (w.1 81 (30 * x6.toNat + x3.toNat) (am_w ((am_w (3 * x8)) + 2)).toNat)] w (fun r w1 => am_A (mh_G X) SC (d + 1) mX12_enters Q 174 [(0, .inr (.inr (some (9, 0)))), (1, .inl x1), (3, .inl x3), (5, .inl x5), (6, .inl x6), (7, .inl x7), (8, .inl x8)] (r.toList ++ []) w1 bc bs)))))))))))) :
    am_A (mh_G X) SC (d + 1) mX12_enters Q 123 [(0, .inr (.inr (some (9, 0)))), (1, .inl x1), (3, .inl x3), (5, .inl x5), (6, .inl x6), (7, .inl x7), (8, .inl x8)] [] w bc bs := by
  refine am_iload dX12_enters_123 (List.Mem.tail _ (List.Mem.tail _ (List.Mem.tail _ (List.Mem.tail _ (List.Mem.tail _ (List.Mem.tail _ (List.Mem.head _))))))) ?_
  refine am_aload_n dX12_enters_125 (List.Mem.head _) ?_
  refine am_getf (f := 9) (v := .inr (.inr (some (72, 0)))) dX12_enters_126 hc_10 (by decide) wd_1558 (by decide) rfl rfl ?_
  refine am_iload dX12_enters_129 (List.Mem.tail _ (List.Mem.tail _ (List.Mem.tail _ (List.Mem.tail _ (List.Mem.head _))))) ?_
  have o1 := h.1
  replace h := h.2
  have o2 := h.1
  replace h := h.2
  refine am_aaload (kd := 5) (r := some (73, x6.toNat)) dX12_enters_131 (by decide) rfl (by decide) (by decide) o1 o2 rfl ?_
  refine am_iload_n dX12_enters_132 (List.Mem.tail _ (List.Mem.tail _ (List.Mem.head _))) ?_
  have o3 := h.1
  replace h := h.2
  have o4 := h.1
  replace h := h.2
  refine am_iaload (v := (w.1 73 x6.toNat x3.toNat)) dX12_enters_133 (by decide) rfl o3 o4 rfl ?_
  refine am_icmpge (tgt := 244) dX12_enters_134 (by decide) (fun c5 => ?_) (fun c5 => ?_)
  · replace h := h.1 c5
    refine am_aload_n dX12_enters_244 (List.Mem.head _) ?_
    refine am_getf (f := 57) (v := .inr (.inr (some (116, 0)))) dX12_enters_245 hc_10 (by decide) wd_1606 (by decide) rfl rfl ?_
    refine am_iload dX12_enters_248 (List.Mem.tail _ (List.Mem.tail _ (List.Mem.tail _ (List.Mem.head _)))) ?_
    refine am_iconst dX12_enters_250 (by unfold am_rg; omega) ?_
    have o6 := h.1
    replace h := h.2
    have o7 := h.1
    replace h := h.2
    refine am_iastore dX12_enters_251 (Or.inl (by decide)) rfl o6 o7 ?_
    refine am_aload_n dX12_enters_252 (List.Mem.head _) ?_
    refine am_getf (f := 61) (v := .inr (.inr (some (121, 0)))) dX12_enters_253 hc_10 (by decide) wd_1610 (by decide) rfl rfl ?_
    refine am_iload dX12_enters_256 (List.Mem.tail _ (List.Mem.tail _ (List.Mem.tail _ (List.Mem.head _)))) ?_
    refine am_iconst dX12_enters_258 (by unfold am_rg; omega) ?_
    refine am_zastore (by decide) dX12_enters_259 (Or.inl (by decide)) rfl o6 o7 ?_
    refine am_aload_n dX12_enters_260 (List.Mem.head _) ?_
    refine am_dup dX12_enters_261 rfl ?_
    refine am_getf (f := 62) (v := .inl (w.1 9 0 62)) dX12_enters_262 hc_10 (by decide) wd_1611 (by decide) rfl rfl ?_
    refine am_iconst dX12_enters_265 (by unfold am_rg; omega) ?_
    refine am_iadd dX12_enters_266 ?_
    refine am_putf (f := 62) dX12_enters_267 hc_10 (by decide) wd_1611 rfl (Or.inl rfl) (Or.inl (by decide)) rfl ?_
    exact am_ret (r := none) dX12_enters_270 rfl rfl h
  · replace h := h.2 c5
    refine am_iload dX12_enters_137 (List.Mem.tail _ (List.Mem.tail _ (List.Mem.tail _ (List.Mem.tail _ (List.Mem.tail _ (List.Mem.head _)))))) ?_
    refine am_aload_n dX12_enters_139 (List.Mem.head _) ?_
    refine am_getf (f := 12) (v := .inr (.inr (some (79, 0)))) dX12_enters_140 hc_10 (by decide) wd_1561 (by decide) rfl rfl ?_
    refine am_iload dX12_enters_143 (List.Mem.tail _ (List.Mem.tail _ (List.Mem.tail _ (List.Mem.tail _ (List.Mem.head _))))) ?_
    refine am_aaload (kd := 6) (r := some (80, x6.toNat)) dX12_enters_145 (by decide) rfl (by decide) (by decide) o1 o2 rfl ?_
    refine am_iload_n dX12_enters_146 (List.Mem.tail _ (List.Mem.tail _ (List.Mem.head _))) ?_
    refine am_aaload (kd := 5) (r := some (81, (30 * x6.toNat + x3.toNat))) dX12_enters_147 (by decide) rfl (by decide) (by decide) o3 o4 rfl ?_
    refine am_iconst dX12_enters_148 (by unfold am_rg; omega) ?_
    refine am_iload dX12_enters_149 (List.Mem.tail _ (List.Mem.tail _ (List.Mem.tail _ (List.Mem.tail _ (List.Mem.tail _ (List.Mem.tail _ (List.Mem.head _))))))) ?_
    refine am_imul dX12_enters_151 ?_
    refine am_iconst dX12_enters_152 (by unfold am_rg; omega) ?_
    refine am_iadd dX12_enters_153 ?_
    have o8 := h.1
    replace h := h.2
    have o9 := h.1
    replace h := h.2
    refine am_iaload (v := (w.1 81 (30 * x6.toNat + x3.toNat) (am_w ((am_w (3 * x8)) + 1)).toNat)) dX12_enters_154 (by decide) rfl o8 o9 rfl ?_
    refine am_aload_n dX12_enters_155 (List.Mem.head _) ?_
    refine am_getf (f := 12) (v := .inr (.inr (some (79, 0)))) dX12_enters_156 hc_10 (by decide) wd_1561 (by decide) rfl rfl ?_
    refine am_iload dX12_enters_159 (List.Mem.tail _ (List.Mem.tail _ (List.Mem.tail _ (List.Mem.tail _ (List.Mem.head _))))) ?_
    refine am_aaload (kd := 6) (r := some (80, x6.toNat)) dX12_enters_161 (by decide) rfl (by decide) (by decide) o1 o2 rfl ?_
    refine am_iload_n dX12_enters_162 (List.Mem.tail _ (List.Mem.tail _ (List.Mem.head _))) ?_
    refine am_aaload (kd := 5) (r := some (81, (30 * x6.toNat + x3.toNat))) dX12_enters_163 (by decide) rfl (by decide) (by decide) o3 o4 rfl ?_
    refine am_iconst dX12_enters_164 (by unfold am_rg; omega) ?_
    refine am_iload dX12_enters_165 (List.Mem.tail _ (List.Mem.tail _ (List.Mem.tail _ (List.Mem.tail _ (List.Mem.tail _ (List.Mem.tail _ (List.Mem.head _))))))) ?_
    refine am_imul dX12_enters_167 ?_
    refine am_iconst dX12_enters_168 (by unfold am_rg; omega) ?_
    refine am_iadd dX12_enters_169 ?_
    have o10 := h.1
    replace h := h.2
    have o11 := h.1
    replace h := h.2
    refine am_iaload (v := (w.1 81 (30 * x6.toNat + x3.toNat) (am_w ((am_w (3 * x8)) + 2)).toNat)) dX12_enters_170 (by decide) rfl o10 o11 rfl ?_
    exact am_calls (d' := d) (kc := 0) (ks := 0) (as := [.inl x7, .inl (w.1 81 (30 * x6.toNat + x3.toNat) (am_w ((am_w (3 * x8)) + 1)).toNat), .inl (w.1 81 (30 * x6.toNat + x3.toNat) (am_w ((am_w (3 * x8)) + 2)).toNat)]) dX12_enters_171 wc_X12_reached wd_2101 wd_2102 wd_122 ds_X12_reached (by decide) (Nat.le_refl _) (Nat.le_of_ble_eq_true rfl) (Nat.zero_le _) (Nat.zero_le _) rfl h
theorem bX12_enters_174 {SC : Nat → Nat} {X : mh_X} {d : Nat} {Q : Option am_V → am_W → Prop} {bc bs : Nat} {w : am_W} {x1 : Int} {x3 : Int} {x5 : Int} {x6 : Int} {x7 : Int} {x8 : Int} {xs0 : Int}
    (h : (0 ≤ x5 ∧ (x5 < 40 ∧ (0 ≤ x8 ∧ (x8 < 4 ∧ (0 ≤ x1 ∧ (x1 < 40 ∧ ((¬ (w.1 96 0 x1.toNat) = 1 → am_A (mh_G X) SC (d + 1) mX12_enters Q 234 [(0, .inr (.inr (some (9, 0)))), (1, .inl x1), (3, .inl x3), (5, .inl x5), (6, .inl x6), (8, .inl x8), (9, .inl xs0)] [] ((am_up w.1 120 x5.toNat x8.toNat (am_w (xs0 - x7))), w.2) bc bs) ∧ ((w.1 96 0 x1.toNat) = 1 → (0 ≤ x6 ∧ (x6 < 7 ∧ (0 ≤ x3 ∧ (x3 < 30 ∧ (((am_and (w.1 75 x6.toNat x3.toNat) 1) = 0 → am_A (mh_G X) SC (d + 1) mX12_enters Q 234 [(0, .inr (.inr (some (9, 0)))), (1, .inl x1), (3, .inl x3), (5, .inl x5), (6, .inl x6), (8, .inl x8), (9, .inl xs0)] [] ((am_up w.1 120 x5.toNat x8.toNat (am_w (xs0 - x7))), w.2) bc bs) ∧ (¬ (am_and (w.1 75 x6.toNat x3.toNat) 1) = 0 → am_A (mh_G X) SC (d + 1) mX12_enters Q 234 [(0, .inr (.inr (some (9, 0)))), (1, .inl x1), (3, .inl x3), (5, .inl x5), (6, .inl x6), (8, .inl x8), (9, .inl xs0)] [] ((am_up (am_up w.1 120 x5.toNat x8.toNat (am_w (xs0 - x7))) 120 x5.toNat x8.toNat (am_w (Int.tdiv (am_w ((am_w (xs0 - x7)) + 1)) 2))), w.2) bc bs))))))))))))))) :
    am_A (mh_G X) SC (d + 1) mX12_enters Q 174 [(0, .inr (.inr (some (9, 0)))), (1, .inl x1), (3, .inl x3), (5, .inl x5), (6, .inl x6), (7, .inl x7), (8, .inl x8)] [.inl xs0] w bc bs := by
  refine am_istore (ls' := [(9, .inl xs0), (0, .inr (.inr (some (9, 0)))), (1, .inl x1), (3, .inl x3), (5, .inl x5), (6, .inl x6), (7, .inl x7), (8, .inl x8)]) dX12_enters_174 (by decide) rfl ?_
  refine am_aload_n dX12_enters_176 (List.Mem.tail _ (List.Mem.head _)) ?_
  refine am_getf (f := 60) (v := .inr (.inr (some (119, 0)))) dX12_enters_177 hc_10 (by decide) wd_1609 (by decide) rfl rfl ?_
  refine am_iload dX12_enters_180 (List.Mem.tail _ (List.Mem.tail _ (List.Mem.tail _ (List.Mem.tail _ (List.Mem.head _))))) ?_
  have o1 := h.1
  replace h := h.2
  have o2 := h.1
  replace h := h.2
  refine am_aaload (kd := 5) (r := some (120, x5.toNat)) dX12_enters_182 (by decide) rfl (by decide) (by decide) o1 o2 rfl ?_
  refine am_iload dX12_enters_183 (List.Mem.tail _ (List.Mem.tail _ (List.Mem.tail _ (List.Mem.tail _ (List.Mem.tail _ (List.Mem.tail _ (List.Mem.tail _ (List.Mem.head _)))))))) ?_
  refine am_iload dX12_enters_185 (List.Mem.head _) ?_
  refine am_iload dX12_enters_187 (List.Mem.tail _ (List.Mem.tail _ (List.Mem.tail _ (List.Mem.tail _ (List.Mem.tail _ (List.Mem.tail _ (List.Mem.head _))))))) ?_
  refine am_isub dX12_enters_189 ?_
  have o3 := h.1
  replace h := h.2
  have o4 := h.1
  replace h := h.2
  refine am_iastore dX12_enters_190 (Or.inl (by decide)) rfl o3 o4 ?_
  refine am_aload_n dX12_enters_191 (List.Mem.tail _ (List.Mem.head _)) ?_
  refine am_getf (f := 34) (v := .inr (.inr (some (96, 0)))) dX12_enters_192 hc_10 (by decide) wd_1583 (by decide) rfl rfl ?_
  refine am_iload_n dX12_enters_195 (List.Mem.tail _ (List.Mem.tail _ (List.Mem.head _))) ?_
  have o5 := h.1
  replace h := h.2
  have o6 := h.1
  replace h := h.2
  refine am_iaload (v := (w.1 96 0 x1.toNat)) dX12_enters_196 (by decide) rfl o5 o6 rfl ?_
  refine am_iconst dX12_enters_197 (by unfold am_rg; omega) ?_
  refine am_icmpne (tgt := 234) dX12_enters_198 (by decide) (fun c7 => ?_) (fun c7 => ?_)
  · replace h := h.1 c7
    exact am_sub [1, 2, 3, 4, 5, 7, 0] rfl h
  · replace h := h.2 c7
    refine am_aload_n dX12_enters_201 (List.Mem.tail _ (List.Mem.head _)) ?_
    refine am_getf (f := 10) (v := .inr (.inr (some (74, 0)))) dX12_enters_202 hc_10 (by decide) wd_1559 (by decide) rfl rfl ?_
    refine am_iload dX12_enters_205 (List.Mem.tail _ (List.Mem.tail _ (List.Mem.tail _ (List.Mem.tail _ (List.Mem.tail _ (List.Mem.head _)))))) ?_
    have o8 := h.1
    replace h := h.2
    have o9 := h.1
    replace h := h.2
    refine am_aaload (kd := 5) (r := some (75, x6.toNat)) dX12_enters_207 (by decide) rfl (by decide) (by decide) o8 o9 rfl ?_
    refine am_iload_n dX12_enters_208 (List.Mem.tail _ (List.Mem.tail _ (List.Mem.tail _ (List.Mem.head _)))) ?_
    have o10 := h.1
    replace h := h.2
    have o11 := h.1
    replace h := h.2
    refine am_iaload (v := (w.1 75 x6.toNat x3.toNat)) dX12_enters_209 (by decide) rfl o10 o11 rfl ?_
    refine am_iconst dX12_enters_210 (by unfold am_rg; omega) ?_
    refine am_iand dX12_enters_211 ?_
    refine am_ifeq (tgt := 234) dX12_enters_212 (by decide) (fun c12 => ?_) (fun c12 => ?_)
    · replace h := h.1 c12
      exact am_sub [1, 2, 3, 4, 5, 7, 0] rfl h
    · replace h := h.2 c12
      refine am_aload_n dX12_enters_215 (List.Mem.tail _ (List.Mem.head _)) ?_
      refine am_getf (f := 60) (v := .inr (.inr (some (119, 0)))) dX12_enters_216 hc_10 (by decide) wd_1609 (by decide) rfl rfl ?_
      refine am_iload dX12_enters_219 (List.Mem.tail _ (List.Mem.tail _ (List.Mem.tail _ (List.Mem.tail _ (List.Mem.head _))))) ?_
      refine am_aaload (kd := 5) (r := some (120, x5.toNat)) dX12_enters_221 (by decide) rfl (by decide) (by decide) o1 o2 rfl ?_
      refine am_iload dX12_enters_222 (List.Mem.tail _ (List.Mem.tail _ (List.Mem.tail _ (List.Mem.tail _ (List.Mem.tail _ (List.Mem.tail _ (List.Mem.tail _ (List.Mem.head _)))))))) ?_
      refine am_iload dX12_enters_224 (List.Mem.head _) ?_
      refine am_iload dX12_enters_226 (List.Mem.tail _ (List.Mem.tail _ (List.Mem.tail _ (List.Mem.tail _ (List.Mem.tail _ (List.Mem.tail _ (List.Mem.head _))))))) ?_
      refine am_isub dX12_enters_228 ?_
      refine am_iconst dX12_enters_229 (by unfold am_rg; omega) ?_
      refine am_iadd dX12_enters_230 ?_
      refine am_iconst dX12_enters_231 (by unfold am_rg; omega) ?_
      refine am_idiv dX12_enters_232 (by decide) ?_
      refine am_iastore dX12_enters_233 (Or.inl (by decide)) rfl o3 o4 ?_
      exact am_sub [1, 2, 3, 4, 5, 7, 0] rfl h
theorem bX12_enters_234 {SC : Nat → Nat} {X : mh_X} {d : Nat} {Q : Option am_V → am_W → Prop} {bc bs : Nat} {w : am_W} {x1 : Int} {x3 : Int} {x5 : Int} {x6 : Int} {x8 : Int} {x9 : Int}
    (h : am_A (mh_G X) SC (d + 1) mX12_enters Q 123 [(0, .inr (.inr (some (9, 0)))), (1, .inl x1), (3, .inl x3), (5, .inl x5), (6, .inl x6), (7, .inl x9), (8, .inl (am_w (x8 + 1)))] [] w bc bs) :
    am_A (mh_G X) SC (d + 1) mX12_enters Q 234 [(0, .inr (.inr (some (9, 0)))), (1, .inl x1), (3, .inl x3), (5, .inl x5), (6, .inl x6), (8, .inl x8), (9, .inl x9)] [] w bc bs := by
  refine am_iload dX12_enters_234 (List.Mem.tail _ (List.Mem.tail _ (List.Mem.tail _ (List.Mem.tail _ (List.Mem.tail _ (List.Mem.tail _ (List.Mem.head _))))))) ?_
  refine am_istore (ls' := [(7, .inl x9), (0, .inr (.inr (some (9, 0)))), (1, .inl x1), (3, .inl x3), (5, .inl x5), (6, .inl x6), (8, .inl x8), (9, .inl x9)]) dX12_enters_236 (by decide) rfl ?_
  refine am_iinc (ls' := [(8, .inl (am_w (x8 + 1))), (7, .inl x9), (0, .inr (.inr (some (9, 0)))), (1, .inl x1), (3, .inl x3), (5, .inl x5), (6, .inl x6), (9, .inl x9)]) dX12_enters_238 (List.Mem.tail _ (List.Mem.tail _ (List.Mem.tail _ (List.Mem.tail _ (List.Mem.tail _ (List.Mem.tail _ (List.Mem.head _))))))) (by decide) rfl ?_
  refine am_goto (tgt := 123) dX12_enters_241 (by decide) ?_
  exact am_sub [2, 3, 4, 5, 6, 1, 0] rfl h
-- MourningHouseModel.prepares(II)V
theorem dX12_prepares_0 : decode mX12_prepares.2.1 0 = .ok (.aload_n 0, 1) := by decide +kernel
theorem dX12_prepares_1 : decode mX12_prepares.2.1 1 = .ok (.iconst 0, 1) := by decide +kernel
theorem dX12_prepares_2 : decode mX12_prepares.2.1 2 = .ok (.putfield 496, 3) := by decide +kernel
theorem dX12_prepares_5 : decode mX12_prepares.2.1 5 = .ok (.aload_n 0, 1) := by decide +kernel
theorem dX12_prepares_6 : decode mX12_prepares.2.1 6 = .ok (.iload_n 1, 1) := by decide +kernel
theorem dX12_prepares_7 : decode mX12_prepares.2.1 7 = .ok (.putfield 502, 3) := by decide +kernel
theorem dX12_prepares_10 : decode mX12_prepares.2.1 10 = .ok (.aload_n 0, 1) := by decide +kernel
theorem dX12_prepares_11 : decode mX12_prepares.2.1 11 = .ok (.iload_n 2, 1) := by decide +kernel
theorem dX12_prepares_12 : decode mX12_prepares.2.1 12 = .ok (.putfield 505, 3) := by decide +kernel
theorem dX12_prepares_15 : decode mX12_prepares.2.1 15 = .ok (.aload_n 0, 1) := by decide +kernel
theorem dX12_prepares_16 : decode mX12_prepares.2.1 16 = .ok (.iconst 0, 1) := by decide +kernel
theorem dX12_prepares_17 : decode mX12_prepares.2.1 17 = .ok (.putfield 508, 3) := by decide +kernel
theorem dX12_prepares_20 : decode mX12_prepares.2.1 20 = .ok (.iconst 0, 1) := by decide +kernel
theorem dX12_prepares_21 : decode mX12_prepares.2.1 21 = .ok (.istore_n 3, 1) := by decide +kernel
theorem dX12_prepares_22 : decode mX12_prepares.2.1 22 = .ok (.iload_n 3, 1) := by decide +kernel
theorem dX12_prepares_23 : decode mX12_prepares.2.1 23 = .ok (.aload_n 0, 1) := by decide +kernel
theorem dX12_prepares_24 : decode mX12_prepares.2.1 24 = .ok (.getfield 447, 3) := by decide +kernel
theorem dX12_prepares_27 : decode mX12_prepares.2.1 27 = .ok (.if_icmp .ge 33, 3) := by decide +kernel
theorem dX12_prepares_30 : decode mX12_prepares.2.1 30 = .ok (.aload_n 0, 1) := by decide +kernel
theorem dX12_prepares_31 : decode mX12_prepares.2.1 31 = .ok (.iload_n 1, 1) := by decide +kernel
theorem dX12_prepares_32 : decode mX12_prepares.2.1 32 = .ok (.iload_n 3, 1) := by decide +kernel
theorem dX12_prepares_33 : decode mX12_prepares.2.1 33 = .ok (.iload_n 2, 1) := by decide +kernel
theorem dX12_prepares_34 : decode mX12_prepares.2.1 34 = .ok (.invokevirtual 493, 3) := by decide +kernel
theorem dX12_prepares_37 : decode mX12_prepares.2.1 37 = .ok (.istore 4, 2) := by decide +kernel
theorem dX12_prepares_39 : decode mX12_prepares.2.1 39 = .ok (.iload 4, 2) := by decide +kernel
theorem dX12_prepares_41 : decode mX12_prepares.2.1 41 = .ok (.iconst (-1), 1) := by decide +kernel
theorem dX12_prepares_42 : decode mX12_prepares.2.1 42 = .ok (.if_icmp .eq 12, 3) := by decide +kernel
theorem dX12_prepares_45 : decode mX12_prepares.2.1 45 = .ok (.aload_n 0, 1) := by decide +kernel
theorem dX12_prepares_46 : decode mX12_prepares.2.1 46 = .ok (.iload_n 1, 1) := by decide +kernel
theorem dX12_prepares_47 : decode mX12_prepares.2.1 47 = .ok (.iload_n 3, 1) := by decide +kernel
theorem dX12_prepares_48 : decode mX12_prepares.2.1 48 = .ok (.iload 4, 2) := by decide +kernel
theorem dX12_prepares_50 : decode mX12_prepares.2.1 50 = .ok (.iload_n 2, 1) := by decide +kernel
theorem dX12_prepares_51 : decode mX12_prepares.2.1 51 = .ok (.invokevirtual 512, 3) := by decide +kernel
theorem dX12_prepares_54 : decode mX12_prepares.2.1 54 = .ok (.iinc 3 1, 3) := by decide +kernel
theorem dX12_prepares_57 : decode mX12_prepares.2.1 57 = .ok (.goto (-35), 3) := by decide +kernel
theorem dX12_prepares_60 : decode mX12_prepares.2.1 60 = .ok (.return_, 1) := by decide +kernel
theorem bX12_prepares_0 {SC : Nat → Nat} {X : mh_X} {d : Nat} {Q : Option am_V → am_W → Prop} {bc bs : Nat} {w : am_W} {x1 : Int} {x2 : Int}
    (h : am_A (mh_G X) SC (d + 1) mX12_prepares Q 22 [(0, .inr (.inr (some (9, 0)))), (1, .inl x1), (2, .inl x2), (3, .inl 0)] [] ((am_up (am_up (am_up (am_up w.1 9 0 62 0) 9 0 63 x1) 9 0 64 x2) 9 0 66 0), w.2) bc bs) :
    am_A (mh_G X) SC (d + 1) mX12_prepares Q 0 [(0, .inr (.inr (some (9, 0)))), (1, .inl x1), (2, .inl x2)] [] w bc bs := by
  refine am_aload_n dX12_prepares_0 (List.Mem.head _) ?_
  refine am_iconst dX12_prepares_1 (by unfold am_rg; omega) ?_
  refine am_putf (f := 62) dX12_prepares_2 hc_10 (by decide) wd_1611 rfl (Or.inl rfl) (Or.inl (by decide)) rfl ?_
  refine am_aload_n dX12_prepares_5 (List.Mem.head _) ?_
  refine am_iload_n dX12_prepares_6 (List.Mem.tail _ (List.Mem.head _)) ?_
  refine am_putf (f := 63) dX12_prepares_7 hc_10 (by decide) wd_1612 rfl (Or.inl rfl) (Or.inl (by decide)) rfl ?_
  refine am_aload_n dX12_prepares_10 (List.Mem.head _) ?_
  refine am_iload_n dX12_prepares_11 (List.Mem.tail _ (List.Mem.tail _ (List.Mem.head _))) ?_
  refine am_putf (f := 64) dX12_prepares_12 hc_10 (by decide) wd_1613 rfl (Or.inl rfl) (Or.inl (by decide)) rfl ?_
  refine am_aload_n dX12_prepares_15 (List.Mem.head _) ?_
  refine am_iconst dX12_prepares_16 (by unfold am_rg; omega) ?_
  refine am_putf (f := 66) dX12_prepares_17 hc_10 (by decide) wd_1615 rfl (Or.inr (Or.inl ⟨rfl, (Or.inl rfl)⟩)) (Or.inl (by decide)) rfl ?_
  refine am_iconst dX12_prepares_20 (by unfold am_rg; omega) ?_
  refine am_istore_n (ls' := [(3, .inl 0), (0, .inr (.inr (some (9, 0)))), (1, .inl x1), (2, .inl x2)]) dX12_prepares_21 (by decide) rfl ?_
  exact am_sub [1, 2, 3, 0] rfl h
theorem bX12_prepares_22 {SC : Nat → Nat} {X : mh_X} {d : Nat} {Q : Option am_V → am_W → Prop} {bc bs : Nat} {w : am_W} {x1 : Int} {x2 : Int} {x3 : Int}
    (h : (((w.1 9 0 42) ≤ x3 → Q none w) ∧ (¬ (w.1 9 0 42) ≤ x3 → am_M (mh_G X) SC d 0 0 mX12_ruleFor [.inr (.inr (some (9, 0))), .inl x1, .inl x3, .inl x2] w (fun r w1 => am_A (mh_G X) SC (d + 1) mX12_prepares Q 37 [(0, .inr (.inr (some (9, 0)))), (1, .inl x1), (2, .inl x2), (3, .inl x3)] (r.toList ++ []) w1 bc bs)))) :
    am_A (mh_G X) SC (d + 1) mX12_prepares Q 22 [(0, .inr (.inr (some (9, 0)))), (1, .inl x1), (2, .inl x2), (3, .inl x3)] [] w bc bs := by
  refine am_iload_n dX12_prepares_22 (List.Mem.tail _ (List.Mem.tail _ (List.Mem.tail _ (List.Mem.head _)))) ?_
  refine am_aload_n dX12_prepares_23 (List.Mem.head _) ?_
  refine am_getf (f := 42) (v := .inl (w.1 9 0 42)) dX12_prepares_24 hc_10 (by decide) wd_1591 (by decide) rfl rfl ?_
  refine am_icmpge (tgt := 60) dX12_prepares_27 (by decide) (fun c1 => ?_) (fun c1 => ?_)
  · replace h := h.1 c1
    exact am_ret (r := none) dX12_prepares_60 rfl rfl h
  · replace h := h.2 c1
    refine am_aload_n dX12_prepares_30 (List.Mem.head _) ?_
    refine am_iload_n dX12_prepares_31 (List.Mem.tail _ (List.Mem.head _)) ?_
    refine am_iload_n dX12_prepares_32 (List.Mem.tail _ (List.Mem.tail _ (List.Mem.tail _ (List.Mem.head _)))) ?_
    refine am_iload_n dX12_prepares_33 (List.Mem.tail _ (List.Mem.tail _ (List.Mem.head _))) ?_
    exact am_callv (d' := d) (kc := 0) (ks := 0) (as := [.inl x1, .inl x3, .inl x2]) dX12_prepares_34 wc_X12_ruleFor wd_2073 wd_2075 wd_81 wd_122 ds_X12_ruleFor (by decide) (Nat.le_refl _) (Nat.le_of_ble_eq_true rfl) (Nat.zero_le _) (Nat.zero_le _) hc_10 (by decide) rfl rfl h
theorem bX12_prepares_37 {SC : Nat → Nat} {X : mh_X} {d : Nat} {Q : Option am_V → am_W → Prop} {bc bs : Nat} {w : am_W} {x1 : Int} {x2 : Int} {x3 : Int} {xs0 : Int}
    (h : ((xs0 = (-1) → am_A (mh_G X) SC (d + 1) mX12_prepares Q 54 [(0, .inr (.inr (some (9, 0)))), (1, .inl x1), (2, .inl x2), (3, .inl x3)] [] w bc bs) ∧ (¬ xs0 = (-1) → am_M (mh_G X) SC d 0 0 mX12_enters [.inr (.inr (some (9, 0))), .inl x1, .inl x3, .inl xs0, .inl x2] w (fun r w1 => am_A (mh_G X) SC (d + 1) mX12_prepares Q 54 [(4, .inl xs0), (0, .inr (.inr (some (9, 0)))), (1, .inl x1), (2, .inl x2), (3, .inl x3)] (r.toList ++ []) w1 bc bs)))) :
    am_A (mh_G X) SC (d + 1) mX12_prepares Q 37 [(0, .inr (.inr (some (9, 0)))), (1, .inl x1), (2, .inl x2), (3, .inl x3)] [.inl xs0] w bc bs := by
  refine am_istore (ls' := [(4, .inl xs0), (0, .inr (.inr (some (9, 0)))), (1, .inl x1), (2, .inl x2), (3, .inl x3)]) dX12_prepares_37 (by decide) rfl ?_
  refine am_iload dX12_prepares_39 (List.Mem.head _) ?_
  refine am_iconst dX12_prepares_41 (by unfold am_rg; omega) ?_
  refine am_icmpeq (tgt := 54) dX12_prepares_42 (by decide) (fun c1 => ?_) (fun c1 => ?_)
  · replace h := h.1 c1
    exact am_sub [1, 2, 3, 4] rfl h
  · replace h := h.2 c1
    refine am_aload_n dX12_prepares_45 (List.Mem.tail _ (List.Mem.head _)) ?_
    refine am_iload_n dX12_prepares_46 (List.Mem.tail _ (List.Mem.tail _ (List.Mem.head _))) ?_
    refine am_iload_n dX12_prepares_47 (List.Mem.tail _ (List.Mem.tail _ (List.Mem.tail _ (List.Mem.tail _ (List.Mem.head _))))) ?_
    refine am_iload dX12_prepares_48 (List.Mem.head _) ?_
    refine am_iload_n dX12_prepares_50 (List.Mem.tail _ (List.Mem.tail _ (List.Mem.tail _ (List.Mem.head _)))) ?_
    exact am_callv (d' := d) (kc := 0) (ks := 0) (as := [.inl x1, .inl x3, .inl xs0, .inl x2]) dX12_prepares_51 wc_X12_enters wd_2097 wd_2099 wd_86 wd_122 ds_X12_enters (by decide) (Nat.le_refl _) (Nat.le_of_ble_eq_true rfl) (Nat.zero_le _) (Nat.zero_le _) hc_10 (by decide) rfl rfl h
theorem bX12_prepares_54 {SC : Nat → Nat} {X : mh_X} {d : Nat} {Q : Option am_V → am_W → Prop} {bc bs : Nat} {w : am_W} {x1 : Int} {x2 : Int} {x3 : Int}
    (h : am_A (mh_G X) SC (d + 1) mX12_prepares Q 22 [(0, .inr (.inr (some (9, 0)))), (1, .inl x1), (2, .inl x2), (3, .inl (am_w (x3 + 1)))] [] w bc bs) :
    am_A (mh_G X) SC (d + 1) mX12_prepares Q 54 [(0, .inr (.inr (some (9, 0)))), (1, .inl x1), (2, .inl x2), (3, .inl x3)] [] w bc bs := by
  refine am_iinc (ls' := [(3, .inl (am_w (x3 + 1))), (0, .inr (.inr (some (9, 0)))), (1, .inl x1), (2, .inl x2)]) dX12_prepares_54 (List.Mem.tail _ (List.Mem.tail _ (List.Mem.tail _ (List.Mem.head _)))) (by decide) rfl ?_
  refine am_goto (tgt := 22) dX12_prepares_57 (by decide) ?_
  exact am_sub [1, 2, 3, 0] rfl h
theorem bX12_prepares_54a {SC : Nat → Nat} {X : mh_X} {d : Nat} {Q : Option am_V → am_W → Prop} {bc bs : Nat} {w : am_W} {x4 : Int} {x1 : Int} {x2 : Int} {x3 : Int}
    (h : am_A (mh_G X) SC (d + 1) mX12_prepares Q 22 [(0, .inr (.inr (some (9, 0)))), (1, .inl x1), (2, .inl x2), (3, .inl (am_w (x3 + 1)))] [] w bc bs) :
    am_A (mh_G X) SC (d + 1) mX12_prepares Q 54 [(4, .inl x4), (0, .inr (.inr (some (9, 0)))), (1, .inl x1), (2, .inl x2), (3, .inl x3)] [] w bc bs := by
  refine am_iinc (ls' := [(3, .inl (am_w (x3 + 1))), (4, .inl x4), (0, .inr (.inr (some (9, 0)))), (1, .inl x1), (2, .inl x2)]) dX12_prepares_54 (List.Mem.tail _ (List.Mem.tail _ (List.Mem.tail _ (List.Mem.tail _ (List.Mem.head _))))) (by decide) rfl ?_
  refine am_goto (tgt := 22) dX12_prepares_57 (by decide) ?_
  exact am_sub [2, 3, 4, 0] rfl h
-- MourningHouseModel.firstBegin()I
theorem dX12_firstBegin_0 : decode mX12_firstBegin.2.1 0 = .ok (.ldc_w 518, 3) := by decide +kernel
theorem dX12_firstBegin_3 : decode mX12_firstBegin.2.1 3 = .ok (.istore_n 1, 1) := by decide +kernel
theorem dX12_firstBegin_4 : decode mX12_firstBegin.2.1 4 = .ok (.iconst 0, 1) := by decide +kernel
theorem dX12_firstBegin_5 : decode mX12_firstBegin.2.1 5 = .ok (.istore_n 2, 1) := by decide +kernel
theorem dX12_firstBegin_6 : decode mX12_firstBegin.2.1 6 = .ok (.iload_n 2, 1) := by decide +kernel
theorem dX12_firstBegin_7 : decode mX12_firstBegin.2.1 7 = .ok (.aload_n 0, 1) := by decide +kernel
theorem dX12_firstBegin_8 : decode mX12_firstBegin.2.1 8 = .ok (.getfield 496, 3) := by decide +kernel
theorem dX12_firstBegin_11 : decode mX12_firstBegin.2.1 11 = .ok (.if_icmp .ge 26, 3) := by decide +kernel
theorem dX12_firstBegin_14 : decode mX12_firstBegin.2.1 14 = .ok (.aload_n 0, 1) := by decide +kernel
theorem dX12_firstBegin_15 : decode mX12_firstBegin.2.1 15 = .ok (.getfield 207, 3) := by decide +kernel
theorem dX12_firstBegin_18 : decode mX12_firstBegin.2.1 18 = .ok (.iload_n 2, 1) := by decide +kernel
theorem dX12_firstBegin_19 : decode mX12_firstBegin.2.1 19 = .ok (.iaload, 1) := by decide +kernel
theorem dX12_firstBegin_20 : decode mX12_firstBegin.2.1 20 = .ok (.iload_n 1, 1) := by decide +kernel
theorem dX12_firstBegin_21 : decode mX12_firstBegin.2.1 21 = .ok (.if_icmp .ge 10, 3) := by decide +kernel
theorem dX12_firstBegin_24 : decode mX12_firstBegin.2.1 24 = .ok (.aload_n 0, 1) := by decide +kernel
theorem dX12_firstBegin_25 : decode mX12_firstBegin.2.1 25 = .ok (.getfield 207, 3) := by decide +kernel
theorem dX12_firstBegin_28 : decode mX12_firstBegin.2.1 28 = .ok (.iload_n 2, 1) := by decide +kernel
theorem dX12_firstBegin_29 : decode mX12_firstBegin.2.1 29 = .ok (.iaload, 1) := by decide +kernel
theorem dX12_firstBegin_30 : decode mX12_firstBegin.2.1 30 = .ok (.istore_n 1, 1) := by decide +kernel
theorem dX12_firstBegin_31 : decode mX12_firstBegin.2.1 31 = .ok (.iinc 2 1, 3) := by decide +kernel
theorem dX12_firstBegin_34 : decode mX12_firstBegin.2.1 34 = .ok (.goto (-28), 3) := by decide +kernel
theorem dX12_firstBegin_37 : decode mX12_firstBegin.2.1 37 = .ok (.iload_n 1, 1) := by decide +kernel
theorem dX12_firstBegin_38 : decode mX12_firstBegin.2.1 38 = .ok (.ireturn, 1) := by decide +kernel
theorem bX12_firstBegin_0 {SC : Nat → Nat} {X : mh_X} {d : Nat} {Q : Option am_V → am_W → Prop} {bc bs : Nat} {w : am_W} 
    (h : am_A (mh_G X) SC (d + 1) mX12_firstBegin Q 6 [(0, .inr (.inr (some (9, 0)))), (1, .inl 2147483647), (2, .inl 0)] [] w bc bs) :
    am_A (mh_G X) SC (d + 1) mX12_firstBegin Q 0 [(0, .inr (.inr (some (9, 0))))] [] w bc bs := by
  refine am_ldcwV (n := 2147483647) dX12_firstBegin_0 (by decide) wd_2112 (by unfold am_rg; omega) ?_
  refine am_istore_n (ls' := [(1, .inl 2147483647), (0, .inr (.inr (some (9, 0))))]) dX12_firstBegin_3 (by decide) rfl ?_
  refine am_iconst dX12_firstBegin_4 (by unfold am_rg; omega) ?_
  refine am_istore_n (ls' := [(2, .inl 0), (1, .inl 2147483647), (0, .inr (.inr (some (9, 0))))]) dX12_firstBegin_5 (by decide) rfl ?_
  exact am_sub [2, 1, 0] rfl h
theorem bX12_firstBegin_6 {SC : Nat → Nat} {X : mh_X} {d : Nat} {Q : Option am_V → am_W → Prop} {bc bs : Nat} {w : am_W} {x1 : Int} {x2 : Int}
    (h : (((w.1 9 0 62) ≤ x2 → Q (some (.inl x1)) w) ∧ (¬ (w.1 9 0 62) ≤ x2 → (0 ≤ x2 ∧ (x2 < 40 ∧ ((x1 ≤ (w.1 115 0 x2.toNat) → am_A (mh_G X) SC (d + 1) mX12_firstBegin Q 31 [(0, .inr (.inr (some (9, 0)))), (1, .inl x1), (2, .inl x2)] [] w bc bs) ∧ (¬ x1 ≤ (w.1 115 0 x2.toNat) → am_A (mh_G X) SC (d + 1) mX12_firstBegin Q 31 [(0, .inr (.inr (some (9, 0)))), (1, .inl (w.1 115 0 x2.toNat)), (2, .inl x2)] [] w bc bs))))))) :
    am_A (mh_G X) SC (d + 1) mX12_firstBegin Q 6 [(0, .inr (.inr (some (9, 0)))), (1, .inl x1), (2, .inl x2)] [] w bc bs := by
  refine am_iload_n dX12_firstBegin_6 (List.Mem.tail _ (List.Mem.tail _ (List.Mem.head _))) ?_
  refine am_aload_n dX12_firstBegin_7 (List.Mem.head _) ?_
  refine am_getf (f := 62) (v := .inl (w.1 9 0 62)) dX12_firstBegin_8 hc_10 (by decide) wd_1611 (by decide) rfl rfl ?_
  refine am_icmpge (tgt := 37) dX12_firstBegin_11 (by decide) (fun c1 => ?_) (fun c1 => ?_)
  · replace h := h.1 c1
    refine am_iload_n dX12_firstBegin_37 (List.Mem.tail _ (List.Mem.head _)) ?_
    exact am_ret (r := some (.inl x1)) dX12_firstBegin_38 (Or.inl rfl) rfl h
  · replace h := h.2 c1
    refine am_aload_n dX12_firstBegin_14 (List.Mem.head _) ?_
    refine am_getf (f := 56) (v := .inr (.inr (some (115, 0)))) dX12_firstBegin_15 hc_10 (by decide) wd_1605 (by decide) rfl rfl ?_
    refine am_iload_n dX12_firstBegin_18 (List.Mem.tail _ (List.Mem.tail _ (List.Mem.head _))) ?_
    have o2 := h.1
    replace h := h.2
    have o3 := h.1
    replace h := h.2
    refine am_iaload (v := (w.1 115 0 x2.toNat)) dX12_firstBegin_19 (by decide) rfl o2 o3 rfl ?_
    refine am_iload_n dX12_firstBegin_20 (List.Mem.tail _ (List.Mem.head _)) ?_
    refine am_icmpge (tgt := 31) dX12_firstBegin_21 (by decide) (fun c4 => ?_) (fun c4 => ?_)
    · replace h := h.1 c4
      exact h
    · replace h := h.2 c4
      refine am_aload_n dX12_firstBegin_24 (List.Mem.head _) ?_
      refine am_getf (f := 56) (v := .inr (.inr (some (115, 0)))) dX12_firstBegin_25 hc_10 (by decide) wd_1605 (by decide) rfl rfl ?_
      refine am_iload_n dX12_firstBegin_28 (List.Mem.tail _ (List.Mem.tail _ (List.Mem.head _))) ?_
      refine am_iaload (v := (w.1 115 0 x2.toNat)) dX12_firstBegin_29 (by decide) rfl o2 o3 rfl ?_
      refine am_istore_n (ls' := [(1, .inl (w.1 115 0 x2.toNat)), (0, .inr (.inr (some (9, 0)))), (2, .inl x2)]) dX12_firstBegin_30 (by decide) rfl ?_
      exact am_sub [1, 0, 2] rfl h
theorem bX12_firstBegin_31 {SC : Nat → Nat} {X : mh_X} {d : Nat} {Q : Option am_V → am_W → Prop} {bc bs : Nat} {w : am_W} {x1 : Int} {x2 : Int}
    (h : am_A (mh_G X) SC (d + 1) mX12_firstBegin Q 6 [(0, .inr (.inr (some (9, 0)))), (1, .inl x1), (2, .inl (am_w (x2 + 1)))] [] w bc bs) :
    am_A (mh_G X) SC (d + 1) mX12_firstBegin Q 31 [(0, .inr (.inr (some (9, 0)))), (1, .inl x1), (2, .inl x2)] [] w bc bs := by
  refine am_iinc (ls' := [(2, .inl (am_w (x2 + 1))), (0, .inr (.inr (some (9, 0)))), (1, .inl x1)]) dX12_firstBegin_31 (List.Mem.tail _ (List.Mem.tail _ (List.Mem.head _))) (by decide) rfl ?_
  refine am_goto (tgt := 6) dX12_firstBegin_34 (by decide) ?_
  exact am_sub [1, 2, 0] rfl h
-- MourningHouseModel.depthOf(II)I
theorem dX12_depthOf_0 : decode mX12_depthOf.2.1 0 = .ok (.aload_n 0, 1) := by decide +kernel
theorem dX12_depthOf_1 : decode mX12_depthOf.2.1 1 = .ok (.getfield 222, 3) := by decide +kernel
theorem dX12_depthOf_4 : decode mX12_depthOf.2.1 4 = .ok (.iload_n 1, 1) := by decide +kernel
theorem dX12_depthOf_5 : decode mX12_depthOf.2.1 5 = .ok (.baload, 1) := by decide +kernel
theorem dX12_depthOf_6 : decode mX12_depthOf.2.1 6 = .ok (.ifCond .ne 13, 3) := by decide +kernel
theorem dX12_depthOf_9 : decode mX12_depthOf.2.1 9 = .ok (.iload_n 2, 1) := by decide +kernel
theorem dX12_depthOf_10 : decode mX12_depthOf.2.1 10 = .ok (.aload_n 0, 1) := by decide +kernel
theorem dX12_depthOf_11 : decode mX12_depthOf.2.1 11 = .ok (.getfield 207, 3) := by decide +kernel
theorem dX12_depthOf_14 : decode mX12_depthOf.2.1 14 = .ok (.iload_n 1, 1) := by decide +kernel
theorem dX12_depthOf_15 : decode mX12_depthOf.2.1 15 = .ok (.iaload, 1) := by decide +kernel
theorem dX12_depthOf_16 : decode mX12_depthOf.2.1 16 = .ok (.if_icmp .ge 5, 3) := by decide +kernel
theorem dX12_depthOf_19 : decode mX12_depthOf.2.1 19 = .ok (.iconst 0, 1) := by decide +kernel
theorem dX12_depthOf_20 : decode mX12_depthOf.2.1 20 = .ok (.ireturn, 1) := by decide +kernel
theorem dX12_depthOf_21 : decode mX12_depthOf.2.1 21 = .ok (.aload_n 0, 1) := by decide +kernel
theorem dX12_depthOf_22 : decode mX12_depthOf.2.1 22 = .ok (.getfield 210, 3) := by decide +kernel
theorem dX12_depthOf_25 : decode mX12_depthOf.2.1 25 = .ok (.iload_n 1, 1) := by decide +kernel
theorem dX12_depthOf_26 : decode mX12_depthOf.2.1 26 = .ok (.iaload, 1) := by decide +kernel
theorem dX12_depthOf_27 : decode mX12_depthOf.2.1 27 = .ok (.istore_n 3, 1) := by decide +kernel
theorem dX12_depthOf_28 : decode mX12_depthOf.2.1 28 = .ok (.iconst 0, 1) := by decide +kernel
theorem dX12_depthOf_29 : decode mX12_depthOf.2.1 29 = .ok (.istore 4, 2) := by decide +kernel
theorem dX12_depthOf_31 : decode mX12_depthOf.2.1 31 = .ok (.iload 4, 2) := by decide +kernel
theorem dX12_depthOf_33 : decode mX12_depthOf.2.1 33 = .ok (.aload_n 0, 1) := by decide +kernel
theorem dX12_depthOf_34 : decode mX12_depthOf.2.1 34 = .ok (.getfield 28, 3) := by decide +kernel
theorem dX12_depthOf_37 : decode mX12_depthOf.2.1 37 = .ok (.aload_n 0, 1) := by decide +kernel
theorem dX12_depthOf_38 : decode mX12_depthOf.2.1 38 = .ok (.getfield 216, 3) := by decide +kernel
theorem dX12_depthOf_41 : decode mX12_depthOf.2.1 41 = .ok (.iload_n 1, 1) := by decide +kernel
theorem dX12_depthOf_42 : decode mX12_depthOf.2.1 42 = .ok (.iaload, 1) := by decide +kernel
theorem dX12_depthOf_43 : decode mX12_depthOf.2.1 43 = .ok (.aaload, 1) := by decide +kernel
theorem dX12_depthOf_44 : decode mX12_depthOf.2.1 44 = .ok (.aload_n 0, 1) := by decide +kernel
theorem dX12_depthOf_45 : decode mX12_depthOf.2.1 45 = .ok (.getfield 213, 3) := by decide +kernel
theorem dX12_depthOf_48 : decode mX12_depthOf.2.1 48 = .ok (.iload_n 1, 1) := by decide +kernel
theorem dX12_depthOf_49 : decode mX12_depthOf.2.1 49 = .ok (.iaload, 1) := by decide +kernel
theorem dX12_depthOf_50 : decode mX12_depthOf.2.1 50 = .ok (.iaload, 1) := by decide +kernel
theorem dX12_depthOf_51 : decode mX12_depthOf.2.1 51 = .ok (.if_icmp .ge 58, 3) := by decide +kernel
theorem dX12_depthOf_54 : decode mX12_depthOf.2.1 54 = .ok (.iload_n 3, 1) := by decide +kernel
theorem dX12_depthOf_55 : decode mX12_depthOf.2.1 55 = .ok (.aload_n 0, 1) := by decide +kernel
theorem dX12_depthOf_56 : decode mX12_depthOf.2.1 56 = .ok (.getfield 219, 3) := by decide +kernel
theorem dX12_depthOf_59 : decode mX12_depthOf.2.1 59 = .ok (.iload_n 1, 1) := by decide +kernel
theorem dX12_depthOf_60 : decode mX12_depthOf.2.1 60 = .ok (.aaload, 1) := by decide +kernel
theorem dX12_depthOf_61 : decode mX12_depthOf.2.1 61 = .ok (.iload 4, 2) := by decide +kernel
theorem dX12_depthOf_63 : decode mX12_depthOf.2.1 63 = .ok (.iaload, 1) := by decide +kernel
theorem dX12_depthOf_64 : decode mX12_depthOf.2.1 64 = .ok (.if_icmp .ge 27, 3) := by decide +kernel
theorem dX12_depthOf_67 : decode mX12_depthOf.2.1 67 = .ok (.aload_n 0, 1) := by decide +kernel
theorem dX12_depthOf_68 : decode mX12_depthOf.2.1 68 = .ok (.getfield 39, 3) := by decide +kernel
theorem dX12_depthOf_71 : decode mX12_depthOf.2.1 71 = .ok (.aload_n 0, 1) := by decide +kernel
theorem dX12_depthOf_72 : decode mX12_depthOf.2.1 72 = .ok (.getfield 216, 3) := by decide +kernel
theorem dX12_depthOf_75 : decode mX12_depthOf.2.1 75 = .ok (.iload_n 1, 1) := by decide +kernel
theorem dX12_depthOf_76 : decode mX12_depthOf.2.1 76 = .ok (.iaload, 1) := by decide +kernel
theorem dX12_depthOf_77 : decode mX12_depthOf.2.1 77 = .ok (.aaload, 1) := by decide +kernel
theorem dX12_depthOf_78 : decode mX12_depthOf.2.1 78 = .ok (.aload_n 0, 1) := by decide +kernel
theorem dX12_depthOf_79 : decode mX12_depthOf.2.1 79 = .ok (.getfield 213, 3) := by decide +kernel
theorem dX12_depthOf_82 : decode mX12_depthOf.2.1 82 = .ok (.iload_n 1, 1) := by decide +kernel
theorem dX12_depthOf_83 : decode mX12_depthOf.2.1 83 = .ok (.iaload, 1) := by decide +kernel
theorem dX12_depthOf_84 : decode mX12_depthOf.2.1 84 = .ok (.aaload, 1) := by decide +kernel
theorem dX12_depthOf_85 : decode mX12_depthOf.2.1 85 = .ok (.iconst 3, 1) := by decide +kernel
theorem dX12_depthOf_86 : decode mX12_depthOf.2.1 86 = .ok (.iload 4, 2) := by decide +kernel
theorem dX12_depthOf_88 : decode mX12_depthOf.2.1 88 = .ok (.imul, 1) := by decide +kernel
theorem dX12_depthOf_89 : decode mX12_depthOf.2.1 89 = .ok (.iaload, 1) := by decide +kernel
theorem dX12_depthOf_90 : decode mX12_depthOf.2.1 90 = .ok (.ireturn, 1) := by decide +kernel
theorem dX12_depthOf_91 : decode mX12_depthOf.2.1 91 = .ok (.iload_n 3, 1) := by decide +kernel
theorem dX12_depthOf_92 : decode mX12_depthOf.2.1 92 = .ok (.aload_n 0, 1) := by decide +kernel
theorem dX12_depthOf_93 : decode mX12_depthOf.2.1 93 = .ok (.getfield 219, 3) := by decide +kernel
theorem dX12_depthOf_96 : decode mX12_depthOf.2.1 96 = .ok (.iload_n 1, 1) := by decide +kernel
theorem dX12_depthOf_97 : decode mX12_depthOf.2.1 97 = .ok (.aaload, 1) := by decide +kernel
theorem dX12_depthOf_98 : decode mX12_depthOf.2.1 98 = .ok (.iload 4, 2) := by decide +kernel
theorem dX12_depthOf_100 : decode mX12_depthOf.2.1 100 = .ok (.iaload, 1) := by decide +kernel
theorem dX12_depthOf_101 : decode mX12_depthOf.2.1 101 = .ok (.isub, 1) := by decide +kernel
theorem dX12_depthOf_102 : decode mX12_depthOf.2.1 102 = .ok (.istore_n 3, 1) := by decide +kernel
theorem dX12_depthOf_103 : decode mX12_depthOf.2.1 103 = .ok (.iinc 4 1, 3) := by decide +kernel
theorem dX12_depthOf_106 : decode mX12_depthOf.2.1 106 = .ok (.goto (-75), 3) := by decide +kernel
theorem dX12_depthOf_109 : decode mX12_depthOf.2.1 109 = .ok (.iconst 0, 1) := by decide +kernel
theorem dX12_depthOf_110 : decode mX12_depthOf.2.1 110 = .ok (.ireturn, 1) := by decide +kernel
theorem bX12_depthOf_0 {SC : Nat → Nat} {X : mh_X} {d : Nat} {Q : Option am_V → am_W → Prop} {bc bs : Nat} {w : am_W} {x1 : Int} {x2 : Int}
    (h : (0 ≤ x1 ∧ (x1 < 40 ∧ ((¬ (w.1 121 0 x1.toNat) = 0 → Q (some (.inl 0)) w) ∧ ((w.1 121 0 x1.toNat) = 0 → (((w.1 115 0 x1.toNat) ≤ x2 → am_A (mh_G X) SC (d + 1) mX12_depthOf Q 31 [(0, .inr (.inr (some (9, 0)))), (1, .inl x1), (3, .inl (w.1 116 0 x1.toNat)), (4, .inl 0)] [] w bc bs) ∧ (¬ (w.1 115 0 x1.toNat) ≤ x2 → Q (some (.inl 0)) w))))))) :
    am_A (mh_G X) SC (d + 1) mX12_depthOf Q 0 [(0, .inr (.inr (some (9, 0)))), (1, .inl x1), (2, .inl x2)] [] w bc bs := by
  refine am_aload_n dX12_depthOf_0 (List.Mem.head _) ?_
  refine am_getf (f := 61) (v := .inr (.inr (some (121, 0)))) dX12_depthOf_1 hc_10 (by decide) wd_1610 (by decide) rfl rfl ?_
  refine am_iload_n dX12_depthOf_4 (List.Mem.tail _ (List.Mem.head _)) ?_
  have o1 := h.1
  replace h := h.2
  have o2 := h.1
  replace h := h.2
  refine am_zaload (v := (w.1 121 0 x1.toNat)) dX12_depthOf_5 (by decide) rfl o1 o2 rfl ?_
  refine am_ifne (tgt := 19) dX12_depthOf_6 (by decide) (fun c3 => ?_) (fun c3 => ?_)
  · replace h := h.1 c3
    refine am_iconst dX12_depthOf_19 (by unfold am_rg; omega) ?_
    exact am_ret (r := some (.inl 0)) dX12_depthOf_20 (Or.inl rfl) rfl h
  · replace h := h.2 c3
    refine am_iload_n dX12_depthOf_9 (List.Mem.tail _ (List.Mem.tail _ (List.Mem.head _))) ?_
    refine am_aload_n dX12_depthOf_10 (List.Mem.head _) ?_
    refine am_getf (f := 56) (v := .inr (.inr (some (115, 0)))) dX12_depthOf_11 hc_10 (by decide) wd_1605 (by decide) rfl rfl ?_
    refine am_iload_n dX12_depthOf_14 (List.Mem.tail _ (List.Mem.head _)) ?_
    refine am_iaload (v := (w.1 115 0 x1.toNat)) dX12_depthOf_15 (by decide) rfl o1 o2 rfl ?_
    refine am_icmpge (tgt := 21) dX12_depthOf_16 (by decide) (fun c4 => ?_) (fun c4 => ?_)
    · replace h := h.1 c4
      refine am_aload_n dX12_depthOf_21 (List.Mem.head _) ?_
      refine am_getf (f := 57) (v := .inr (.inr (some (116, 0)))) dX12_depthOf_22 hc_10 (by decide) wd_1606 (by decide) rfl rfl ?_
      refine am_iload_n dX12_depthOf_25 (List.Mem.tail _ (List.Mem.head _)) ?_
      refine am_iaload (v := (w.1 116 0 x1.toNat)) dX12_depthOf_26 (by decide) rfl o1 o2 rfl ?_
      refine am_istore_n (ls' := [(3, .inl (w.1 116 0 x1.toNat)), (0, .inr (.inr (some (9, 0)))), (1, .inl x1), (2, .inl x2)]) dX12_depthOf_27 (by decide) rfl ?_
      refine am_iconst dX12_depthOf_28 (by unfold am_rg; omega) ?_
      refine am_istore (ls' := [(4, .inl 0), (3, .inl (w.1 116 0 x1.toNat)), (0, .inr (.inr (some (9, 0)))), (1, .inl x1), (2, .inl x2)]) dX12_depthOf_29 (by decide) rfl ?_
      exact am_sub [2, 3, 1, 0] rfl h
    · replace h := h.2 c4
      refine am_iconst dX12_depthOf_19 (by unfold am_rg; omega) ?_
      exact am_ret (r := some (.inl 0)) dX12_depthOf_20 (Or.inl rfl) rfl h
theorem bX12_depthOf_31 {SC : Nat → Nat} {X : mh_X} {d : Nat} {Q : Option am_V → am_W → Prop} {bc bs : Nat} {w : am_W} {x1 : Int} {x3 : Int} {x4 : Int}
    (h : (0 ≤ x1 ∧ (x1 < 40 ∧ (0 ≤ (w.1 118 0 x1.toNat) ∧ ((w.1 118 0 x1.toNat) < 7 ∧ (0 ≤ (w.1 117 0 x1.toNat) ∧ ((w.1 117 0 x1.toNat) < 30 ∧ (((w.1 73 (w.1 118 0 x1.toNat).toNat (w.1 117 0 x1.toNat).toNat) ≤ x4 → Q (some (.inl 0)) w) ∧ (¬ (w.1 73 (w.1 118 0 x1.toNat).toNat (w.1 117 0 x1.toNat).toNat) ≤ x4 → (0 ≤ x4 ∧ (x4 < 4 ∧ (((w.1 120 x1.toNat x4.toNat) ≤ x3 → am_A (mh_G X) SC (d + 1) mX12_depthOf Q 31 [(0, .inr (.inr (some (9, 0)))), (1, .inl x1), (3, .inl (am_w (x3 - (w.1 120 x1.toNat x4.toNat)))), (4, .inl (am_w (x4 + 1)))] [] w bc bs) ∧ (¬ (w.1 120 x1.toNat x4.toNat) ≤ x3 → (0 ≤ (am_w (3 * x4)) ∧ ((am_w (3 * x4)) < 12 ∧ Q (some (.inl (w.1 81 (30 * (w.1 118 0 x1.toNat).toNat + (w.1 117 0 x1.toNat).toNat) (am_w (3 * x4)).toNat))) w))))))))))))))) :
    am_A (mh_G X) SC (d + 1) mX12_depthOf Q 31 [(0, .inr (.inr (some (9, 0)))), (1, .inl x1), (3, .inl x3), (4, .inl x4)] [] w bc bs := by
  refine am_iload dX12_depthOf_31 (List.Mem.tail _ (List.Mem.tail _ (List.Mem.tail _ (List.Mem.head _)))) ?_
  refine am_aload_n dX12_depthOf_33 (List.Mem.head _) ?_
  refine am_getf (f := 9) (v := .inr (.inr (some (72, 0)))) dX12_depthOf_34 hc_10 (by decide) wd_1558 (by decide) rfl rfl ?_
  refine am_aload_n dX12_depthOf_37 (List.Mem.head _) ?_
  refine am_getf (f := 59) (v := .inr (.inr (some (118, 0)))) dX12_depthOf_38 hc_10 (by decide) wd_1608 (by decide) rfl rfl ?_
  refine am_iload_n dX12_depthOf_41 (List.Mem.tail _ (List.Mem.head _)) ?_
  have o1 := h.1
  replace h := h.2
  have o2 := h.1
  replace h := h.2
  refine am_iaload (v := (w.1 118 0 x1.toNat)) dX12_depthOf_42 (by decide) rfl o1 o2 rfl ?_
  have o3 := h.1
  replace h := h.2
  have o4 := h.1
  replace h := h.2
  refine am_aaload (kd := 5) (r := some (73, (w.1 118 0 x1.toNat).toNat)) dX12_depthOf_43 (by decide) rfl (by decide) (by decide) o3 o4 rfl ?_
  refine am_aload_n dX12_depthOf_44 (List.Mem.head _) ?_
  refine am_getf (f := 58) (v := .inr (.inr (some (117, 0)))) dX12_depthOf_45 hc_10 (by decide) wd_1607 (by decide) rfl rfl ?_
  refine am_iload_n dX12_depthOf_48 (List.Mem.tail _ (List.Mem.head _)) ?_
  refine am_iaload (v := (w.1 117 0 x1.toNat)) dX12_depthOf_49 (by decide) rfl o1 o2 rfl ?_
  have o5 := h.1
  replace h := h.2
  have o6 := h.1
  replace h := h.2
  refine am_iaload (v := (w.1 73 (w.1 118 0 x1.toNat).toNat (w.1 117 0 x1.toNat).toNat)) dX12_depthOf_50 (by decide) rfl o5 o6 rfl ?_
  refine am_icmpge (tgt := 109) dX12_depthOf_51 (by decide) (fun c7 => ?_) (fun c7 => ?_)
  · replace h := h.1 c7
    refine am_iconst dX12_depthOf_109 (by unfold am_rg; omega) ?_
    exact am_ret (r := some (.inl 0)) dX12_depthOf_110 (Or.inl rfl) rfl h
  · replace h := h.2 c7
    refine am_iload_n dX12_depthOf_54 (List.Mem.tail _ (List.Mem.tail _ (List.Mem.head _))) ?_
    refine am_aload_n dX12_depthOf_55 (List.Mem.head _) ?_
    refine am_getf (f := 60) (v := .inr (.inr (some (119, 0)))) dX12_depthOf_56 hc_10 (by decide) wd_1609 (by decide) rfl rfl ?_
    refine am_iload_n dX12_depthOf_59 (List.Mem.tail _ (List.Mem.head _)) ?_
    refine am_aaload (kd := 5) (r := some (120, x1.toNat)) dX12_depthOf_60 (by decide) rfl (by decide) (by decide) o1 o2 rfl ?_
    refine am_iload dX12_depthOf_61 (List.Mem.tail _ (List.Mem.tail _ (List.Mem.tail _ (List.Mem.head _)))) ?_
    have o8 := h.1
    replace h := h.2
    have o9 := h.1
    replace h := h.2
    refine am_iaload (v := (w.1 120 x1.toNat x4.toNat)) dX12_depthOf_63 (by decide) rfl o8 o9 rfl ?_
    refine am_icmpge (tgt := 91) dX12_depthOf_64 (by decide) (fun c10 => ?_) (fun c10 => ?_)
    · replace h := h.1 c10
      refine am_iload_n dX12_depthOf_91 (List.Mem.tail _ (List.Mem.tail _ (List.Mem.head _))) ?_
      refine am_aload_n dX12_depthOf_92 (List.Mem.head _) ?_
      refine am_getf (f := 60) (v := .inr (.inr (some (119, 0)))) dX12_depthOf_93 hc_10 (by decide) wd_1609 (by decide) rfl rfl ?_
      refine am_iload_n dX12_depthOf_96 (List.Mem.tail _ (List.Mem.head _)) ?_
      refine am_aaload (kd := 5) (r := some (120, x1.toNat)) dX12_depthOf_97 (by decide) rfl (by decide) (by decide) o1 o2 rfl ?_
      refine am_iload dX12_depthOf_98 (List.Mem.tail _ (List.Mem.tail _ (List.Mem.tail _ (List.Mem.head _)))) ?_
      refine am_iaload (v := (w.1 120 x1.toNat x4.toNat)) dX12_depthOf_100 (by decide) rfl o8 o9 rfl ?_
      refine am_isub dX12_depthOf_101 ?_
      refine am_istore_n (ls' := [(3, .inl (am_w (x3 - (w.1 120 x1.toNat x4.toNat)))), (0, .inr (.inr (some (9, 0)))), (1, .inl x1), (4, .inl x4)]) dX12_depthOf_102 (by decide) rfl ?_
      refine am_iinc (ls' := [(4, .inl (am_w (x4 + 1))), (3, .inl (am_w (x3 - (w.1 120 x1.toNat x4.toNat)))), (0, .inr (.inr (some (9, 0)))), (1, .inl x1)]) dX12_depthOf_103 (List.Mem.tail _ (List.Mem.tail _ (List.Mem.tail _ (List.Mem.head _)))) (by decide) rfl ?_
      refine am_goto (tgt := 31) dX12_depthOf_106 (by decide) ?_
      exact am_sub [2, 3, 1, 0] rfl h
    · replace h := h.2 c10
      refine am_aload_n dX12_depthOf_67 (List.Mem.head _) ?_
      refine am_getf (f := 12) (v := .inr (.inr (some (79, 0)))) dX12_depthOf_68 hc_10 (by decide) wd_1561 (by decide) rfl rfl ?_
      refine am_aload_n dX12_depthOf_71 (List.Mem.head _) ?_
      refine am_getf (f := 59) (v := .inr (.inr (some (118, 0)))) dX12_depthOf_72 hc_10 (by decide) wd_1608 (by decide) rfl rfl ?_
      refine am_iload_n dX12_depthOf_75 (List.Mem.tail _ (List.Mem.head _)) ?_
      refine am_iaload (v := (w.1 118 0 x1.toNat)) dX12_depthOf_76 (by decide) rfl o1 o2 rfl ?_
      refine am_aaload (kd := 6) (r := some (80, (w.1 118 0 x1.toNat).toNat)) dX12_depthOf_77 (by decide) rfl (by decide) (by decide) o3 o4 rfl ?_
      refine am_aload_n dX12_depthOf_78 (List.Mem.head _) ?_
      refine am_getf (f := 58) (v := .inr (.inr (some (117, 0)))) dX12_depthOf_79 hc_10 (by decide) wd_1607 (by decide) rfl rfl ?_
      refine am_iload_n dX12_depthOf_82 (List.Mem.tail _ (List.Mem.head _)) ?_
      refine am_iaload (v := (w.1 117 0 x1.toNat)) dX12_depthOf_83 (by decide) rfl o1 o2 rfl ?_
      refine am_aaload (kd := 5) (r := some (81, (30 * (w.1 118 0 x1.toNat).toNat + (w.1 117 0 x1.toNat).toNat))) dX12_depthOf_84 (by decide) rfl (by decide) (by decide) o5 o6 rfl ?_
      refine am_iconst dX12_depthOf_85 (by unfold am_rg; omega) ?_
      refine am_iload dX12_depthOf_86 (List.Mem.tail _ (List.Mem.tail _ (List.Mem.tail _ (List.Mem.head _)))) ?_
      refine am_imul dX12_depthOf_88 ?_
      have o11 := h.1
      replace h := h.2
      have o12 := h.1
      replace h := h.2
      refine am_iaload (v := (w.1 81 (30 * (w.1 118 0 x1.toNat).toNat + (w.1 117 0 x1.toNat).toNat) (am_w (3 * x4)).toNat)) dX12_depthOf_89 (by decide) rfl o11 o12 rfl ?_
      exact am_ret (r := some (.inl (w.1 81 (30 * (w.1 118 0 x1.toNat).toNat + (w.1 117 0 x1.toNat).toNat) (am_w (3 * x4)).toNat))) dX12_depthOf_90 (Or.inl rfl) rfl h
-- MourningHouseModel.weds(I)V
theorem dX12_weds_0 : decode mX12_weds.2.1 0 = .ok (.aload_n 0, 1) := by decide +kernel
theorem dX12_weds_1 : decode mX12_weds.2.1 1 = .ok (.iload_n 1, 1) := by decide +kernel
theorem dX12_weds_2 : decode mX12_weds.2.1 2 = .ok (.aload_n 0, 1) := by decide +kernel
theorem dX12_weds_3 : decode mX12_weds.2.1 3 = .ok (.getfield 505, 3) := by decide +kernel
theorem dX12_weds_6 : decode mX12_weds.2.1 6 = .ok (.invokevirtual 487, 3) := by decide +kernel
theorem dX12_weds_9 : decode mX12_weds.2.1 9 = .ok (.istore_n 2, 1) := by decide +kernel
theorem dX12_weds_10 : decode mX12_weds.2.1 10 = .ok (.iload_n 2, 1) := by decide +kernel
theorem dX12_weds_11 : decode mX12_weds.2.1 11 = .ok (.iconst (-1), 1) := by decide +kernel
theorem dX12_weds_12 : decode mX12_weds.2.1 12 = .ok (.if_icmp .eq 13, 3) := by decide +kernel
theorem dX12_weds_15 : decode mX12_weds.2.1 15 = .ok (.aload_n 0, 1) := by decide +kernel
theorem dX12_weds_16 : decode mX12_weds.2.1 16 = .ok (.getfield 63, 3) := by decide +kernel
theorem dX12_weds_19 : decode mX12_weds.2.1 19 = .ok (.iload_n 2, 1) := by decide +kernel
theorem dX12_weds_20 : decode mX12_weds.2.1 20 = .ok (.iaload, 1) := by decide +kernel
theorem dX12_weds_21 : decode mX12_weds.2.1 21 = .ok (.iconst (-1), 1) := by decide +kernel
theorem dX12_weds_22 : decode mX12_weds.2.1 22 = .ok (.if_icmp .ne 4, 3) := by decide +kernel
theorem dX12_weds_25 : decode mX12_weds.2.1 25 = .ok (.return_, 1) := by decide +kernel
theorem dX12_weds_26 : decode mX12_weds.2.1 26 = .ok (.iconst 0, 1) := by decide +kernel
theorem dX12_weds_27 : decode mX12_weds.2.1 27 = .ok (.istore_n 3, 1) := by decide +kernel
theorem dX12_weds_28 : decode mX12_weds.2.1 28 = .ok (.iconst 0, 1) := by decide +kernel
theorem dX12_weds_29 : decode mX12_weds.2.1 29 = .ok (.istore 4, 2) := by decide +kernel
theorem dX12_weds_31 : decode mX12_weds.2.1 31 = .ok (.iload 4, 2) := by decide +kernel
theorem dX12_weds_33 : decode mX12_weds.2.1 33 = .ok (.aload_n 0, 1) := by decide +kernel
theorem dX12_weds_34 : decode mX12_weds.2.1 34 = .ok (.getfield 456, 3) := by decide +kernel
theorem dX12_weds_37 : decode mX12_weds.2.1 37 = .ok (.if_icmp .ge 72, 3) := by decide +kernel
theorem dX12_weds_40 : decode mX12_weds.2.1 40 = .ok (.iload_n 3, 1) := by decide +kernel
theorem dX12_weds_41 : decode mX12_weds.2.1 41 = .ok (.ifCond .ne 56, 3) := by decide +kernel
theorem dX12_weds_44 : decode mX12_weds.2.1 44 = .ok (.aload_n 0, 1) := by decide +kernel
theorem dX12_weds_45 : decode mX12_weds.2.1 45 = .ok (.getfield 173, 3) := by decide +kernel
theorem dX12_weds_48 : decode mX12_weds.2.1 48 = .ok (.iload 4, 2) := by decide +kernel
theorem dX12_weds_50 : decode mX12_weds.2.1 50 = .ok (.iaload, 1) := by decide +kernel
theorem dX12_weds_51 : decode mX12_weds.2.1 51 = .ok (.aload_n 0, 1) := by decide +kernel
theorem dX12_weds_52 : decode mX12_weds.2.1 52 = .ok (.getfield 502, 3) := by decide +kernel
theorem dX12_weds_55 : decode mX12_weds.2.1 55 = .ok (.if_icmp .eq 17, 3) := by decide +kernel
theorem dX12_weds_58 : decode mX12_weds.2.1 58 = .ok (.aload_n 0, 1) := by decide +kernel
theorem dX12_weds_59 : decode mX12_weds.2.1 59 = .ok (.getfield 176, 3) := by decide +kernel
theorem dX12_weds_62 : decode mX12_weds.2.1 62 = .ok (.iload 4, 2) := by decide +kernel
theorem dX12_weds_64 : decode mX12_weds.2.1 64 = .ok (.iaload, 1) := by decide +kernel
theorem dX12_weds_65 : decode mX12_weds.2.1 65 = .ok (.aload_n 0, 1) := by decide +kernel
theorem dX12_weds_66 : decode mX12_weds.2.1 66 = .ok (.getfield 502, 3) := by decide +kernel
theorem dX12_weds_69 : decode mX12_weds.2.1 69 = .ok (.if_icmp .ne 32, 3) := by decide +kernel
theorem dX12_weds_72 : decode mX12_weds.2.1 72 = .ok (.aload_n 0, 1) := by decide +kernel
theorem dX12_weds_73 : decode mX12_weds.2.1 73 = .ok (.getfield 179, 3) := by decide +kernel
theorem dX12_weds_76 : decode mX12_weds.2.1 76 = .ok (.iload 4, 2) := by decide +kernel
theorem dX12_weds_78 : decode mX12_weds.2.1 78 = .ok (.iaload, 1) := by decide +kernel
theorem dX12_weds_79 : decode mX12_weds.2.1 79 = .ok (.iload_n 1, 1) := by decide +kernel
theorem dX12_weds_80 : decode mX12_weds.2.1 80 = .ok (.if_icmp .ne 21, 3) := by decide +kernel
theorem dX12_weds_83 : decode mX12_weds.2.1 83 = .ok (.aload_n 0, 1) := by decide +kernel
theorem dX12_weds_84 : decode mX12_weds.2.1 84 = .ok (.getfield 182, 3) := by decide +kernel
theorem dX12_weds_87 : decode mX12_weds.2.1 87 = .ok (.iload 4, 2) := by decide +kernel
theorem dX12_weds_89 : decode mX12_weds.2.1 89 = .ok (.iaload, 1) := by decide +kernel
theorem dX12_weds_90 : decode mX12_weds.2.1 90 = .ok (.aload_n 0, 1) := by decide +kernel
theorem dX12_weds_91 : decode mX12_weds.2.1 91 = .ok (.getfield 505, 3) := by decide +kernel
theorem dX12_weds_94 : decode mX12_weds.2.1 94 = .ok (.if_icmp .gt 7, 3) := by decide +kernel
theorem dX12_weds_97 : decode mX12_weds.2.1 97 = .ok (.iconst 1, 1) := by decide +kernel
theorem dX12_weds_98 : decode mX12_weds.2.1 98 = .ok (.goto 4, 3) := by decide +kernel
theorem dX12_weds_101 : decode mX12_weds.2.1 101 = .ok (.iconst 0, 1) := by decide +kernel
theorem dX12_weds_102 : decode mX12_weds.2.1 102 = .ok (.istore_n 3, 1) := by decide +kernel
theorem dX12_weds_103 : decode mX12_weds.2.1 103 = .ok (.iinc 4 1, 3) := by decide +kernel
theorem dX12_weds_106 : decode mX12_weds.2.1 106 = .ok (.goto (-75), 3) := by decide +kernel
theorem dX12_weds_109 : decode mX12_weds.2.1 109 = .ok (.iconst 0, 1) := by decide +kernel
theorem dX12_weds_110 : decode mX12_weds.2.1 110 = .ok (.istore 4, 2) := by decide +kernel
theorem dX12_weds_112 : decode mX12_weds.2.1 112 = .ok (.iload 4, 2) := by decide +kernel
theorem dX12_weds_114 : decode mX12_weds.2.1 114 = .ok (.aload_n 0, 1) := by decide +kernel
theorem dX12_weds_115 : decode mX12_weds.2.1 115 = .ok (.getfield 496, 3) := by decide +kernel
theorem dX12_weds_118 : decode mX12_weds.2.1 118 = .ok (.if_icmp .ge 48, 3) := by decide +kernel
theorem dX12_weds_121 : decode mX12_weds.2.1 121 = .ok (.iload_n 3, 1) := by decide +kernel
theorem dX12_weds_122 : decode mX12_weds.2.1 122 = .ok (.ifCond .eq 44, 3) := by decide +kernel
theorem dX12_weds_125 : decode mX12_weds.2.1 125 = .ok (.iload_n 1, 1) := by decide +kernel
theorem dX12_weds_126 : decode mX12_weds.2.1 126 = .ok (.aload_n 0, 1) := by decide +kernel
theorem dX12_weds_127 : decode mX12_weds.2.1 127 = .ok (.getfield 207, 3) := by decide +kernel
theorem dX12_weds_130 : decode mX12_weds.2.1 130 = .ok (.iload 4, 2) := by decide +kernel
theorem dX12_weds_132 : decode mX12_weds.2.1 132 = .ok (.iaload, 1) := by decide +kernel
theorem dX12_weds_133 : decode mX12_weds.2.1 133 = .ok (.if_icmp .lt 27, 3) := by decide +kernel
theorem dX12_weds_136 : decode mX12_weds.2.1 136 = .ok (.aload_n 0, 1) := by decide +kernel
theorem dX12_weds_137 : decode mX12_weds.2.1 137 = .ok (.iload 4, 2) := by decide +kernel
theorem dX12_weds_139 : decode mX12_weds.2.1 139 = .ok (.iload_n 1, 1) := by decide +kernel
theorem dX12_weds_140 : decode mX12_weds.2.1 140 = .ok (.invokevirtual 519, 3) := by decide +kernel
theorem dX12_weds_143 : decode mX12_weds.2.1 143 = .ok (.aload_n 0, 1) := by decide +kernel
theorem dX12_weds_144 : decode mX12_weds.2.1 144 = .ok (.getfield 63, 3) := by decide +kernel
theorem dX12_weds_147 : decode mX12_weds.2.1 147 = .ok (.iload_n 2, 1) := by decide +kernel
theorem dX12_weds_148 : decode mX12_weds.2.1 148 = .ok (.iaload, 1) := by decide +kernel
theorem dX12_weds_149 : decode mX12_weds.2.1 149 = .ok (.if_icmp .gt 11, 3) := by decide +kernel
theorem dX12_weds_152 : decode mX12_weds.2.1 152 = .ok (.aload_n 0, 1) := by decide +kernel
theorem dX12_weds_153 : decode mX12_weds.2.1 153 = .ok (.getfield 222, 3) := by decide +kernel
theorem dX12_weds_156 : decode mX12_weds.2.1 156 = .ok (.iload 4, 2) := by decide +kernel
theorem dX12_weds_158 : decode mX12_weds.2.1 158 = .ok (.iconst 1, 1) := by decide +kernel
theorem dX12_weds_159 : decode mX12_weds.2.1 159 = .ok (.bastore, 1) := by decide +kernel
theorem dX12_weds_160 : decode mX12_weds.2.1 160 = .ok (.iinc 4 1, 3) := by decide +kernel
theorem dX12_weds_163 : decode mX12_weds.2.1 163 = .ok (.goto (-51), 3) := by decide +kernel
theorem dX12_weds_166 : decode mX12_weds.2.1 166 = .ok (.return_, 1) := by decide +kernel
theorem bX12_weds_0 {SC : Nat → Nat} {X : mh_X} {d : Nat} {Q : Option am_V → am_W → Prop} {bc bs : Nat} {w : am_W} {x1 : Int}
    (h : am_M (mh_G X) SC d 0 0 mX12_lawOf [.inr (.inr (some (9, 0))), .inl x1, .inl (w.1 9 0 64)] w (fun r w1 => am_A (mh_G X) SC (d + 1) mX12_weds Q 9 [(0, .inr (.inr (some (9, 0)))), (1, .inl x1)] (r.toList ++ []) w1 bc bs)) :
    am_A (mh_G X) SC (d + 1) mX12_weds Q 0 [(0, .inr (.inr (some (9, 0)))), (1, .inl x1)] [] w bc bs := by
  refine am_aload_n dX12_weds_0 (List.Mem.head _) ?_
  refine am_iload_n dX12_weds_1 (List.Mem.tail _ (List.Mem.head _)) ?_
  refine am_aload_n dX12_weds_2 (List.Mem.head _) ?_
  refine am_getf (f := 64) (v := .inl (w.1 9 0 64)) dX12_weds_3 hc_10 (by decide) wd_1613 (by decide) rfl rfl ?_
  exact am_callv (d' := d) (kc := 0) (ks := 0) (as := [.inl x1, .inl (w.1 9 0 64)]) dX12_weds_6 wc_X12_lawOf wd_2077 wd_2079 wd_82 wd_122 ds_X12_lawOf (by decide) (Nat.le_refl _) (Nat.le_of_ble_eq_true rfl) (Nat.zero_le _) (Nat.zero_le _) hc_10 (by decide) rfl rfl h
theorem bX12_weds_9 {SC : Nat → Nat} {X : mh_X} {d : Nat} {Q : Option am_V → am_W → Prop} {bc bs : Nat} {w : am_W} {x1 : Int} {xs0 : Int}
    (h : ((xs0 = (-1) → Q none w) ∧ (¬ xs0 = (-1) → (0 ≤ xs0 ∧ (xs0 < 7 ∧ ((¬ (w.1 92 0 xs0.toNat) = (-1) → am_A (mh_G X) SC (d + 1) mX12_weds Q 31 [(0, .inr (.inr (some (9, 0)))), (1, .inl x1), (2, .inl xs0), (3, .inl 0), (4, .inl 0)] [] w bc bs) ∧ ((w.1 92 0 xs0.toNat) = (-1) → Q none w))))))) :
    am_A (mh_G X) SC (d + 1) mX12_weds Q 9 [(0, .inr (.inr (some (9, 0)))), (1, .inl x1)] [.inl xs0] w bc bs := by
  refine am_istore_n (ls' := [(2, .inl xs0), (0, .inr (.inr (some (9, 0)))), (1, .inl x1)]) dX12_weds_9 (by decide) rfl ?_
  refine am_iload_n dX12_weds_10 (List.Mem.head _) ?_
  refine am_iconst dX12_weds_11 (by unfold am_rg; omega) ?_
  refine am_icmpeq (tgt := 25) dX12_weds_12 (by decide) (fun c1 => ?_) (fun c1 => ?_)
  · replace h := h.1 c1
    exact am_ret (r := none) dX12_weds_25 rfl rfl h
  · replace h := h.2 c1
    refine am_aload_n dX12_weds_15 (List.Mem.tail _ (List.Mem.head _)) ?_
    refine am_getf (f := 20) (v := .inr (.inr (some (92, 0)))) dX12_weds_16 hc_10 (by decide) wd_1569 (by decide) rfl rfl ?_
    refine am_iload_n dX12_weds_19 (List.Mem.head _) ?_
    have o2 := h.1
    replace h := h.2
    have o3 := h.1
    replace h := h.2
    refine am_iaload (v := (w.1 92 0 xs0.toNat)) dX12_weds_20 (by decide) rfl o2 o3 rfl ?_
    refine am_iconst dX12_weds_21 (by unfold am_rg; omega) ?_
    refine am_icmpne (tgt := 26) dX12_weds_22 (by decide) (fun c4 => ?_) (fun c4 => ?_)
    · replace h := h.1 c4
      refine am_iconst dX12_weds_26 (by unfold am_rg; omega) ?_
      refine am_istore_n (ls' := [(3, .inl 0), (2, .inl xs0), (0, .inr (.inr (some (9, 0)))), (1, .inl x1)]) dX12_weds_27 (by decide) rfl ?_
      refine am_iconst dX12_weds_28 (by unfold am_rg; omega) ?_
      refine am_istore (ls' := [(4, .inl 0), (3, .inl 0), (2, .inl xs0), (0, .inr (.inr (some (9, 0)))), (1, .inl x1)]) dX12_weds_29 (by decide) rfl ?_
      exact am_sub [3, 4, 2, 1, 0] rfl h
    · replace h := h.2 c4
      exact am_ret (r := none) dX12_weds_25 rfl rfl h
theorem bX12_weds_31 {SC : Nat → Nat} {X : mh_X} {d : Nat} {Q : Option am_V → am_W → Prop} {bc bs : Nat} {w : am_W} {x1 : Int} {x2 : Int} {x3 : Int} {x4 : Int}
    (h : (((w.1 9 0 47) ≤ x4 → am_A (mh_G X) SC (d + 1) mX12_weds Q 112 [(0, .inr (.inr (some (9, 0)))), (1, .inl x1), (2, .inl x2), (3, .inl x3), (4, .inl 0)] [] w bc bs) ∧ (¬ (w.1 9 0 47) ≤ x4 → ((¬ x3 = 0 → am_A (mh_G X) SC (d + 1) mX12_weds Q 97 [(0, .inr (.inr (some (9, 0)))), (1, .inl x1), (2, .inl x2), (4, .inl x4)] [] w bc bs) ∧ (x3 = 0 → (0 ≤ x4 ∧ (x4 < 40 ∧ (((w.1 104 0 x4.toNat) = (w.1 9 0 63) → am_A (mh_G X) SC (d + 1) mX12_weds Q 72 [(0, .inr (.inr (some (9, 0)))), (1, .inl x1), (2, .inl x2), (4, .inl x4)] [] w bc bs) ∧ (¬ (w.1 104 0 x4.toNat) = (w.1 9 0 63) → ((¬ (w.1 105 0 x4.toNat) = (w.1 9 0 63) → am_A (mh_G X) SC (d + 1) mX12_weds Q 101 [(0, .inr (.inr (some (9, 0)))), (1, .inl x1), (2, .inl x2), (4, .inl x4)] [] w bc bs) ∧ ((w.1 105 0 x4.toNat) = (w.1 9 0 63) → am_A (mh_G X) SC (d + 1) mX12_weds Q 72 [(0, .inr (.inr (some (9, 0)))), (1, .inl x1), (2, .inl x2), (4, .inl x4)] [] w bc bs))))))))))) :
    am_A (mh_G X) SC (d + 1) mX12_weds Q 31 [(0, .inr (.inr (some (9, 0)))), (1, .inl x1), (2, .inl x2), (3, .inl x3), (4, .inl x4)] [] w bc bs := by
  refine am_iload dX12_weds_31 (List.Mem.tail _ (List.Mem.tail _ (List.Mem.tail _ (List.Mem.tail _ (List.Mem.head _))))) ?_
  refine am_aload_n dX12_weds_33 (List.Mem.head _) ?_
  refine am_getf (f := 47) (v := .inl (w.1 9 0 47)) dX12_weds_34 hc_10 (by decide) wd_1596 (by decide) rfl rfl ?_
  refine am_icmpge (tgt := 109) dX12_weds_37 (by decide) (fun c1 => ?_) (fun c1 => ?_)
  · replace h := h.1 c1
    refine am_iconst dX12_weds_109 (by unfold am_rg; omega) ?_
    refine am_istore (ls' := [(4, .inl 0), (0, .inr (.inr (some (9, 0)))), (1, .inl x1), (2, .inl x2), (3, .inl x3)]) dX12_weds_110 (by decide) rfl ?_
    exact am_sub [1, 2, 3, 4, 0] rfl h
  · replace h := h.2 c1
    refine am_iload_n dX12_weds_40 (List.Mem.tail _ (List.Mem.tail _ (List.Mem.tail _ (List.Mem.head _)))) ?_
    refine am_ifne (tgt := 97) dX12_weds_41 (by decide) (fun c2 => ?_) (fun c2 => ?_)
    · replace h := h.1 c2
      exact am_sub [0, 1, 2, 4] rfl h
    · replace h := h.2 c2
      refine am_aload_n dX12_weds_44 (List.Mem.head _) ?_
      refine am_getf (f := 43) (v := .inr (.inr (some (104, 0)))) dX12_weds_45 hc_10 (by decide) wd_1592 (by decide) rfl rfl ?_
      refine am_iload dX12_weds_48 (List.Mem.tail _ (List.Mem.tail _ (List.Mem.tail _ (List.Mem.tail _ (List.Mem.head _))))) ?_
      have o3 := h.1
      replace h := h.2
      have o4 := h.1
      replace h := h.2
      refine am_iaload (v := (w.1 104 0 x4.toNat)) dX12_weds_50 (by decide) rfl o3 o4 rfl ?_
      refine am_aload_n dX12_weds_51 (List.Mem.head _) ?_
      refine am_getf (f := 63) (v := .inl (w.1 9 0 63)) dX12_weds_52 hc_10 (by decide) wd_1612 (by decide) rfl rfl ?_
      refine am_icmpeq (tgt := 72) dX12_weds_55 (by decide) (fun c5 => ?_) (fun c5 => ?_)
      · replace h := h.1 c5
        exact am_sub [0, 1, 2, 4] rfl h
      · replace h := h.2 c5
        refine am_aload_n dX12_weds_58 (List.Mem.head _) ?_
        refine am_getf (f := 44) (v := .inr (.inr (some (105, 0)))) dX12_weds_59 hc_10 (by decide) wd_1593 (by decide) rfl rfl ?_
        refine am_iload dX12_weds_62 (List.Mem.tail _ (List.Mem.tail _ (List.Mem.tail _ (List.Mem.tail _ (List.Mem.head _))))) ?_
        refine am_iaload (v := (w.1 105 0 x4.toNat)) dX12_weds_64 (by decide) rfl o3 o4 rfl ?_
        refine am_aload_n dX12_weds_65 (List.Mem.head _) ?_
        refine am_getf (f := 63) (v := .inl (w.1 9 0 63)) dX12_weds_66 hc_10 (by decide) wd_1612 (by decide) rfl rfl ?_
        refine am_icmpne (tgt := 101) dX12_weds_69 (by decide) (fun c6 => ?_) (fun c6 => ?_)
        · replace h := h.1 c6
          exact am_sub [0, 1, 2, 4] rfl h
        · replace h := h.2 c6
          exact am_sub [0, 1, 2, 4] rfl h
theorem bX12_weds_112 {SC : Nat → Nat} {X : mh_X} {d : Nat} {Q : Option am_V → am_W → Prop} {bc bs : Nat} {w : am_W} {x1 : Int} {x2 : Int} {x3 : Int} {x4 : Int}
    (h : (((w.1 9 0 62) ≤ x4 → Q none w) ∧ (¬ (w.1 9 0 62) ≤ x4 → ((x3 = 0 → Q none w) ∧ (¬ x3 = 0 → (0 ≤ x4 ∧ (x4 < 40 ∧ ((x1 < (w.1 115 0 x4.toNat) → am_A (mh_G X) SC (d + 1) mX12_weds Q 160 [(0, .inr (.inr (some (9, 0)))), (1, .inl x1), (2, .inl x2), (3, .inl x3), (4, .inl x4)] [] w bc bs) ∧ (¬ x1 < (w.1 115 0 x4.toNat) → am_M (mh_G X) SC d 0 0 mX12_depthOf [.inr (.inr (some (9, 0))), .inl x4, .inl x1] w (fun r w1 => am_A (mh_G X) SC (d + 1) mX12_weds Q 143 [(0, .inr (.inr (some (9, 0)))), (1, .inl x1), (2, .inl x2), (3, .inl x3), (4, .inl x4)] (r.toList ++ []) w1 bc bs)))))))))) :
    am_A (mh_G X) SC (d + 1) mX12_weds Q 112 [(0, .inr (.inr (some (9, 0)))), (1, .inl x1), (2, .inl x2), (3, .inl x3), (4, .inl x4)] [] w bc bs := by
  refine am_iload dX12_weds_112 (List.Mem.tail _ (List.Mem.tail _ (List.Mem.tail _ (List.Mem.tail _ (List.Mem.head _))))) ?_
  refine am_aload_n dX12_weds_114 (List.Mem.head _) ?_
  refine am_getf (f := 62) (v := .inl (w.1 9 0 62)) dX12_weds_115 hc_10 (by decide) wd_1611 (by decide) rfl rfl ?_
  refine am_icmpge (tgt := 166) dX12_weds_118 (by decide) (fun c1 => ?_) (fun c1 => ?_)
  · replace h := h.1 c1
    exact am_ret (r := none) dX12_weds_166 rfl rfl h
  · replace h := h.2 c1
    refine am_iload_n dX12_weds_121 (List.Mem.tail _ (List.Mem.tail _ (List.Mem.tail _ (List.Mem.head _)))) ?_
    refine am_ifeq (tgt := 166) dX12_weds_122 (by decide) (fun c2 => ?_) (fun c2 => ?_)
    · replace h := h.1 c2
      exact am_ret (r := none) dX12_weds_166 rfl rfl h
    · replace h := h.2 c2
      refine am_iload_n dX12_weds_125 (List.Mem.tail _ (List.Mem.head _)) ?_
      refine am_aload_n dX12_weds_126 (List.Mem.head _) ?_
      refine am_getf (f := 56) (v := .inr (.inr (some (115, 0)))) dX12_weds_127 hc_10 (by decide) wd_1605 (by decide) rfl rfl ?_
      refine am_iload dX12_weds_130 (List.Mem.tail _ (List.Mem.tail _ (List.Mem.tail _ (List.Mem.tail _ (List.Mem.head _))))) ?_
      have o3 := h.1
      replace h := h.2
      have o4 := h.1
      replace h := h.2
      refine am_iaload (v := (w.1 115 0 x4.toNat)) dX12_weds_132 (by decide) rfl o3 o4 rfl ?_
      refine am_icmplt (tgt := 160) dX12_weds_133 (by decide) (fun c5 => ?_) (fun c5 => ?_)
      · replace h := h.1 c5
        exact h
      · replace h := h.2 c5
        refine am_aload_n dX12_weds_136 (List.Mem.head _) ?_
        refine am_iload dX12_weds_137 (List.Mem.tail _ (List.Mem.tail _ (List.Mem.tail _ (List.Mem.tail _ (List.Mem.head _))))) ?_
        refine am_iload_n dX12_weds_139 (List.Mem.tail _ (List.Mem.head _)) ?_
        exact am_callv (d' := d) (kc := 0) (ks := 0) (as := [.inl x4, .inl x1]) dX12_weds_140 wc_X12_depthOf wd_2117 wd_2119 wd_90 wd_122 ds_X12_depthOf (by decide) (Nat.le_refl _) (Nat.le_of_ble_eq_true rfl) (Nat.zero_le _) (Nat.zero_le _) hc_10 (by decide) rfl rfl h
theorem bX12_weds_97 {SC : Nat → Nat} {X : mh_X} {d : Nat} {Q : Option am_V → am_W → Prop} {bc bs : Nat} {w : am_W} {x1 : Int} {x2 : Int} {x4 : Int}
    (h : am_A (mh_G X) SC (d + 1) mX12_weds Q 102 [(0, .inr (.inr (some (9, 0)))), (1, .inl x1), (2, .inl x2), (4, .inl x4)] [.inl 1] w bc bs) :
    am_A (mh_G X) SC (d + 1) mX12_weds Q 97 [(0, .inr (.inr (some (9, 0)))), (1, .inl x1), (2, .inl x2), (4, .inl x4)] [] w bc bs := by
  refine am_iconst dX12_weds_97 (by unfold am_rg; omega) ?_
  refine am_goto (tgt := 102) dX12_weds_98 (by decide) ?_
  exact h
theorem bX12_weds_72 {SC : Nat → Nat} {X : mh_X} {d : Nat} {Q : Option am_V → am_W → Prop} {bc bs : Nat} {w : am_W} {x1 : Int} {x2 : Int} {x4 : Int}
    (h : (0 ≤ x4 ∧ (x4 < 40 ∧ ((¬ (w.1 106 0 x4.toNat) = x1 → am_A (mh_G X) SC (d + 1) mX12_weds Q 101 [(0, .inr (.inr (some (9, 0)))), (1, .inl x1), (2, .inl x2), (4, .inl x4)] [] w bc bs) ∧ ((w.1 106 0 x4.toNat) = x1 → (((w.1 9 0 64) < (w.1 107 0 x4.toNat) → am_A (mh_G X) SC (d + 1) mX12_weds Q 101 [(0, .inr (.inr (some (9, 0)))), (1, .inl x1), (2, .inl x2), (4, .inl x4)] [] w bc bs) ∧ (¬ (w.1 9 0 64) < (w.1 107 0 x4.toNat) → am_A (mh_G X) SC (d + 1) mX12_weds Q 97 [(0, .inr (.inr (some (9, 0)))), (1, .inl x1), (2, .inl x2), (4, .inl x4)] [] w bc bs))))))) :
    am_A (mh_G X) SC (d + 1) mX12_weds Q 72 [(0, .inr (.inr (some (9, 0)))), (1, .inl x1), (2, .inl x2), (4, .inl x4)] [] w bc bs := by
  refine am_aload_n dX12_weds_72 (List.Mem.head _) ?_
  refine am_getf (f := 45) (v := .inr (.inr (some (106, 0)))) dX12_weds_73 hc_10 (by decide) wd_1594 (by decide) rfl rfl ?_
  refine am_iload dX12_weds_76 (List.Mem.tail _ (List.Mem.tail _ (List.Mem.tail _ (List.Mem.head _)))) ?_
  have o1 := h.1
  replace h := h.2
  have o2 := h.1
  replace h := h.2
  refine am_iaload (v := (w.1 106 0 x4.toNat)) dX12_weds_78 (by decide) rfl o1 o2 rfl ?_
  refine am_iload_n dX12_weds_79 (List.Mem.tail _ (List.Mem.head _)) ?_
  refine am_icmpne (tgt := 101) dX12_weds_80 (by decide) (fun c3 => ?_) (fun c3 => ?_)
  · replace h := h.1 c3
    exact h
  · replace h := h.2 c3
    refine am_aload_n dX12_weds_83 (List.Mem.head _) ?_
    refine am_getf (f := 46) (v := .inr (.inr (some (107, 0)))) dX12_weds_84 hc_10 (by decide) wd_1595 (by decide) rfl rfl ?_
    refine am_iload dX12_weds_87 (List.Mem.tail _ (List.Mem.tail _ (List.Mem.tail _ (List.Mem.head _)))) ?_
    refine am_iaload (v := (w.1 107 0 x4.toNat)) dX12_weds_89 (by decide) rfl o1 o2 rfl ?_
    refine am_aload_n dX12_weds_90 (List.Mem.head _) ?_
    refine am_getf (f := 64) (v := .inl (w.1 9 0 64)) dX12_weds_91 hc_10 (by decide) wd_1613 (by decide) rfl rfl ?_
    refine am_icmpgt (tgt := 101) dX12_weds_94 (by decide) (fun c4 => ?_) (fun c4 => ?_)
    · replace h := h.1 c4
      exact h
    · replace h := h.2 c4
      exact h
theorem bX12_weds_101 {SC : Nat → Nat} {X : mh_X} {d : Nat} {Q : Option am_V → am_W → Prop} {bc bs : Nat} {w : am_W} {x1 : Int} {x2 : Int} {x4 : Int}
    (h : am_A (mh_G X) SC (d + 1) mX12_weds Q 102 [(0, .inr (.inr (some (9, 0)))), (1, .inl x1), (2, .inl x2), (4, .inl x4)] [.inl 0] w bc bs) :
    am_A (mh_G X) SC (d + 1) mX12_weds Q 101 [(0, .inr (.inr (some (9, 0)))), (1, .inl x1), (2, .inl x2), (4, .inl x4)] [] w bc bs := by
  refine am_iconst dX12_weds_101 (by unfold am_rg; omega) ?_
  exact h
theorem bX12_weds_160 {SC : Nat → Nat} {X : mh_X} {d : Nat} {Q : Option am_V → am_W → Prop} {bc bs : Nat} {w : am_W} {x1 : Int} {x2 : Int} {x3 : Int} {x4 : Int}
    (h : am_A (mh_G X) SC (d + 1) mX12_weds Q 112 [(0, .inr (.inr (some (9, 0)))), (1, .inl x1), (2, .inl x2), (3, .inl x3), (4, .inl (am_w (x4 + 1)))] [] w bc bs) :
    am_A (mh_G X) SC (d + 1) mX12_weds Q 160 [(0, .inr (.inr (some (9, 0)))), (1, .inl x1), (2, .inl x2), (3, .inl x3), (4, .inl x4)] [] w bc bs := by
  refine am_iinc (ls' := [(4, .inl (am_w (x4 + 1))), (0, .inr (.inr (some (9, 0)))), (1, .inl x1), (2, .inl x2), (3, .inl x3)]) dX12_weds_160 (List.Mem.tail _ (List.Mem.tail _ (List.Mem.tail _ (List.Mem.tail _ (List.Mem.head _))))) (by decide) rfl ?_
  refine am_goto (tgt := 112) dX12_weds_163 (by decide) ?_
  exact am_sub [1, 2, 3, 4, 0] rfl h
theorem bX12_weds_143 {SC : Nat → Nat} {X : mh_X} {d : Nat} {Q : Option am_V → am_W → Prop} {bc bs : Nat} {w : am_W} {x1 : Int} {x2 : Int} {x3 : Int} {x4 : Int} {xs0 : Int}
    (h : (0 ≤ x2 ∧ (x2 < 7 ∧ (((w.1 92 0 x2.toNat) < xs0 → am_A (mh_G X) SC (d + 1) mX12_weds Q 160 [(0, .inr (.inr (some (9, 0)))), (1, .inl x1), (2, .inl x2), (3, .inl x3), (4, .inl x4)] [] w bc bs) ∧ (¬ (w.1 92 0 x2.toNat) < xs0 → (0 ≤ x4 ∧ (x4 < 40 ∧ am_A (mh_G X) SC (d + 1) mX12_weds Q 160 [(0, .inr (.inr (some (9, 0)))), (1, .inl x1), (2, .inl x2), (3, .inl x3), (4, .inl x4)] [] ((am_up w.1 121 0 x4.toNat 1), w.2) bc bs))))))) :
    am_A (mh_G X) SC (d + 1) mX12_weds Q 143 [(0, .inr (.inr (some (9, 0)))), (1, .inl x1), (2, .inl x2), (3, .inl x3), (4, .inl x4)] [.inl xs0] w bc bs := by
  refine am_aload_n dX12_weds_143 (List.Mem.head _) ?_
  refine am_getf (f := 20) (v := .inr (.inr (some (92, 0)))) dX12_weds_144 hc_10 (by decide) wd_1569 (by decide) rfl rfl ?_
  refine am_iload_n dX12_weds_147 (List.Mem.tail _ (List.Mem.tail _ (List.Mem.head _))) ?_
  have o1 := h.1
  replace h := h.2
  have o2 := h.1
  replace h := h.2
  refine am_iaload (v := (w.1 92 0 x2.toNat)) dX12_weds_148 (by decide) rfl o1 o2 rfl ?_
  refine am_icmpgt (tgt := 160) dX12_weds_149 (by decide) (fun c3 => ?_) (fun c3 => ?_)
  · replace h := h.1 c3
    exact h
  · replace h := h.2 c3
    refine am_aload_n dX12_weds_152 (List.Mem.head _) ?_
    refine am_getf (f := 61) (v := .inr (.inr (some (121, 0)))) dX12_weds_153 hc_10 (by decide) wd_1610 (by decide) rfl rfl ?_
    refine am_iload dX12_weds_156 (List.Mem.tail _ (List.Mem.tail _ (List.Mem.tail _ (List.Mem.tail _ (List.Mem.head _))))) ?_
    refine am_iconst dX12_weds_158 (by unfold am_rg; omega) ?_
    have o4 := h.1
    replace h := h.2
    have o5 := h.1
    replace h := h.2
    refine am_zastore (by decide) dX12_weds_159 (Or.inl (by decide)) rfl o4 o5 ?_
    exact h
theorem bX12_weds_102 {SC : Nat → Nat} {X : mh_X} {d : Nat} {Q : Option am_V → am_W → Prop} {bc bs : Nat} {w : am_W} {x1 : Int} {x2 : Int} {x4 : Int} {xs0 : Int}
    (h : am_A (mh_G X) SC (d + 1) mX12_weds Q 31 [(0, .inr (.inr (some (9, 0)))), (1, .inl x1), (2, .inl x2), (3, .inl xs0), (4, .inl (am_w (x4 + 1)))] [] w bc bs) :
    am_A (mh_G X) SC (d + 1) mX12_weds Q 102 [(0, .inr (.inr (some (9, 0)))), (1, .inl x1), (2, .inl x2), (4, .inl x4)] [.inl xs0] w bc bs := by
  refine am_istore_n (ls' := [(3, .inl xs0), (0, .inr (.inr (some (9, 0)))), (1, .inl x1), (2, .inl x2), (4, .inl x4)]) dX12_weds_102 (by decide) rfl ?_
  refine am_iinc (ls' := [(4, .inl (am_w (x4 + 1))), (3, .inl xs0), (0, .inr (.inr (some (9, 0)))), (1, .inl x1), (2, .inl x2)]) dX12_weds_103 (List.Mem.tail _ (List.Mem.tail _ (List.Mem.tail _ (List.Mem.tail _ (List.Mem.head _))))) (by decide) rfl ?_
  refine am_goto (tgt := 31) dX12_weds_106 (by decide) ?_
  exact am_sub [2, 3, 4, 1, 0] rfl h
-- MourningHouseModel.advances(I)V
theorem dX12_advances_0 : decode mX12_advances.2.1 0 = .ok (.iconst 0, 1) := by decide +kernel
theorem dX12_advances_1 : decode mX12_advances.2.1 1 = .ok (.istore_n 2, 1) := by decide +kernel
theorem dX12_advances_2 : decode mX12_advances.2.1 2 = .ok (.iconst 0, 1) := by decide +kernel
theorem dX12_advances_3 : decode mX12_advances.2.1 3 = .ok (.istore_n 3, 1) := by decide +kernel
theorem dX12_advances_4 : decode mX12_advances.2.1 4 = .ok (.iload_n 3, 1) := by decide +kernel
theorem dX12_advances_5 : decode mX12_advances.2.1 5 = .ok (.aload_n 0, 1) := by decide +kernel
theorem dX12_advances_6 : decode mX12_advances.2.1 6 = .ok (.getfield 496, 3) := by decide +kernel
theorem dX12_advances_9 : decode mX12_advances.2.1 9 = .ok (.if_icmp .ge 26, 3) := by decide +kernel
theorem dX12_advances_12 : decode mX12_advances.2.1 12 = .ok (.aload_n 0, 1) := by decide +kernel
theorem dX12_advances_13 : decode mX12_advances.2.1 13 = .ok (.iload_n 3, 1) := by decide +kernel
theorem dX12_advances_14 : decode mX12_advances.2.1 14 = .ok (.iload_n 1, 1) := by decide +kernel
theorem dX12_advances_15 : decode mX12_advances.2.1 15 = .ok (.invokevirtual 519, 3) := by decide +kernel
theorem dX12_advances_18 : decode mX12_advances.2.1 18 = .ok (.iload_n 2, 1) := by decide +kernel
theorem dX12_advances_19 : decode mX12_advances.2.1 19 = .ok (.if_icmp .le 10, 3) := by decide +kernel
theorem dX12_advances_22 : decode mX12_advances.2.1 22 = .ok (.aload_n 0, 1) := by decide +kernel
theorem dX12_advances_23 : decode mX12_advances.2.1 23 = .ok (.iload_n 3, 1) := by decide +kernel
theorem dX12_advances_24 : decode mX12_advances.2.1 24 = .ok (.iload_n 1, 1) := by decide +kernel
theorem dX12_advances_25 : decode mX12_advances.2.1 25 = .ok (.invokevirtual 519, 3) := by decide +kernel
theorem dX12_advances_28 : decode mX12_advances.2.1 28 = .ok (.istore_n 2, 1) := by decide +kernel
theorem dX12_advances_29 : decode mX12_advances.2.1 29 = .ok (.iinc 3 1, 3) := by decide +kernel
theorem dX12_advances_32 : decode mX12_advances.2.1 32 = .ok (.goto (-28), 3) := by decide +kernel
theorem dX12_advances_35 : decode mX12_advances.2.1 35 = .ok (.iconst 0, 1) := by decide +kernel
theorem dX12_advances_36 : decode mX12_advances.2.1 36 = .ok (.istore_n 3, 1) := by decide +kernel
theorem dX12_advances_37 : decode mX12_advances.2.1 37 = .ok (.iload_n 3, 1) := by decide +kernel
theorem dX12_advances_38 : decode mX12_advances.2.1 38 = .ok (.aload_n 0, 1) := by decide +kernel
theorem dX12_advances_39 : decode mX12_advances.2.1 39 = .ok (.getfield 496, 3) := by decide +kernel
theorem dX12_advances_42 : decode mX12_advances.2.1 42 = .ok (.if_icmp .ge 61, 3) := by decide +kernel
theorem dX12_advances_45 : decode mX12_advances.2.1 45 = .ok (.aload_n 0, 1) := by decide +kernel
theorem dX12_advances_46 : decode mX12_advances.2.1 46 = .ok (.iload_n 3, 1) := by decide +kernel
theorem dX12_advances_47 : decode mX12_advances.2.1 47 = .ok (.iload_n 1, 1) := by decide +kernel
theorem dX12_advances_48 : decode mX12_advances.2.1 48 = .ok (.invokevirtual 519, 3) := by decide +kernel
theorem dX12_advances_51 : decode mX12_advances.2.1 51 = .ok (.istore 4, 2) := by decide +kernel
theorem dX12_advances_53 : decode mX12_advances.2.1 53 = .ok (.iload 4, 2) := by decide +kernel
theorem dX12_advances_55 : decode mX12_advances.2.1 55 = .ok (.ifCond .le 42, 3) := by decide +kernel
theorem dX12_advances_58 : decode mX12_advances.2.1 58 = .ok (.aload_n 0, 1) := by decide +kernel
theorem dX12_advances_59 : decode mX12_advances.2.1 59 = .ok (.getfield 31, 3) := by decide +kernel
theorem dX12_advances_62 : decode mX12_advances.2.1 62 = .ok (.aload_n 0, 1) := by decide +kernel
theorem dX12_advances_63 : decode mX12_advances.2.1 63 = .ok (.getfield 216, 3) := by decide +kernel
theorem dX12_advances_66 : decode mX12_advances.2.1 66 = .ok (.iload_n 3, 1) := by decide +kernel
theorem dX12_advances_67 : decode mX12_advances.2.1 67 = .ok (.iaload, 1) := by decide +kernel
theorem dX12_advances_68 : decode mX12_advances.2.1 68 = .ok (.aaload, 1) := by decide +kernel
theorem dX12_advances_69 : decode mX12_advances.2.1 69 = .ok (.aload_n 0, 1) := by decide +kernel
theorem dX12_advances_70 : decode mX12_advances.2.1 70 = .ok (.getfield 213, 3) := by decide +kernel
theorem dX12_advances_73 : decode mX12_advances.2.1 73 = .ok (.iload_n 3, 1) := by decide +kernel
theorem dX12_advances_74 : decode mX12_advances.2.1 74 = .ok (.iaload, 1) := by decide +kernel
theorem dX12_advances_75 : decode mX12_advances.2.1 75 = .ok (.iaload, 1) := by decide +kernel
theorem dX12_advances_76 : decode mX12_advances.2.1 76 = .ok (.iconst 2, 1) := by decide +kernel
theorem dX12_advances_77 : decode mX12_advances.2.1 77 = .ok (.iand, 1) := by decide +kernel
theorem dX12_advances_78 : decode mX12_advances.2.1 78 = .ok (.ifCond .eq 9, 3) := by decide +kernel
theorem dX12_advances_81 : decode mX12_advances.2.1 81 = .ok (.iload 4, 2) := by decide +kernel
theorem dX12_advances_83 : decode mX12_advances.2.1 83 = .ok (.iload_n 2, 1) := by decide +kernel
theorem dX12_advances_84 : decode mX12_advances.2.1 84 = .ok (.if_icmp .ne 13, 3) := by decide +kernel
theorem dX12_advances_87 : decode mX12_advances.2.1 87 = .ok (.aload_n 0, 1) := by decide +kernel
theorem dX12_advances_88 : decode mX12_advances.2.1 88 = .ok (.getfield 210, 3) := by decide +kernel
theorem dX12_advances_91 : decode mX12_advances.2.1 91 = .ok (.iload_n 3, 1) := by decide +kernel
theorem dX12_advances_92 : decode mX12_advances.2.1 92 = .ok (.dup2, 1) := by decide +kernel
theorem dX12_advances_93 : decode mX12_advances.2.1 93 = .ok (.iaload, 1) := by decide +kernel
theorem dX12_advances_94 : decode mX12_advances.2.1 94 = .ok (.iconst 1, 1) := by decide +kernel
theorem dX12_advances_95 : decode mX12_advances.2.1 95 = .ok (.iadd, 1) := by decide +kernel
theorem dX12_advances_96 : decode mX12_advances.2.1 96 = .ok (.iastore, 1) := by decide +kernel
theorem dX12_advances_97 : decode mX12_advances.2.1 97 = .ok (.iinc 3 1, 3) := by decide +kernel
theorem dX12_advances_100 : decode mX12_advances.2.1 100 = .ok (.goto (-63), 3) := by decide +kernel
theorem dX12_advances_103 : decode mX12_advances.2.1 103 = .ok (.return_, 1) := by decide +kernel
theorem bX12_advances_0 {SC : Nat → Nat} {X : mh_X} {d : Nat} {Q : Option am_V → am_W → Prop} {bc bs : Nat} {w : am_W} {x1 : Int}
    (h : am_A (mh_G X) SC (d + 1) mX12_advances Q 4 [(0, .inr (.inr (some (9, 0)))), (1, .inl x1), (2, .inl 0), (3, .inl 0)] [] w bc bs) :
    am_A (mh_G X) SC (d + 1) mX12_advances Q 0 [(0, .inr (.inr (some (9, 0)))), (1, .inl x1)] [] w bc bs := by
  refine am_iconst dX12_advances_0 (by unfold am_rg; omega) ?_
  refine am_istore_n (ls' := [(2, .inl 0), (0, .inr (.inr (some (9, 0)))), (1, .inl x1)]) dX12_advances_1 (by decide) rfl ?_
  refine am_iconst dX12_advances_2 (by unfold am_rg; omega) ?_
  refine am_istore_n (ls' := [(3, .inl 0), (2, .inl 0), (0, .inr (.inr (some (9, 0)))), (1, .inl x1)]) dX12_advances_3 (by decide) rfl ?_
  exact am_sub [2, 3, 1, 0] rfl h
theorem bX12_advances_4 {SC : Nat → Nat} {X : mh_X} {d : Nat} {Q : Option am_V → am_W → Prop} {bc bs : Nat} {w : am_W} {x1 : Int} {x2 : Int} {x3 : Int}
    (h : (((w.1 9 0 62) ≤ x3 → am_A (mh_G X) SC (d + 1) mX12_advances Q 37 [(0, .inr (.inr (some (9, 0)))), (1, .inl x1), (2, .inl x2), (3, .inl 0)] [] w bc bs) ∧ (¬ (w.1 9 0 62) ≤ x3 → am_M (mh_G X) SC d 0 0 mX12_depthOf [.inr (.inr (some (9, 0))), .inl x3, .inl x1] w (fun r w1 => am_A (mh_G X) SC (d + 1) mX12_advances Q 18 [(0, .inr (.inr (some (9, 0)))), (1, .inl x1), (2, .inl x2), (3, .inl x3)] (r.toList ++ []) w1 bc bs)))) :
    am_A (mh_G X) SC (d + 1) mX12_advances Q 4 [(0, .inr (.inr (some (9, 0)))), (1, .inl x1), (2, .inl x2), (3, .inl x3)] [] w bc bs := by
  refine am_iload_n dX12_advances_4 (List.Mem.tail _ (List.Mem.tail _ (List.Mem.tail _ (List.Mem.head _)))) ?_
  refine am_aload_n dX12_advances_5 (List.Mem.head _) ?_
  refine am_getf (f := 62) (v := .inl (w.1 9 0 62)) dX12_advances_6 hc_10 (by decide) wd_1611 (by decide) rfl rfl ?_
  refine am_icmpge (tgt := 35) dX12_advances_9 (by decide) (fun c1 => ?_) (fun c1 => ?_)
  · replace h := h.1 c1
    refine am_iconst dX12_advances_35 (by unfold am_rg; omega) ?_
    refine am_istore_n (ls' := [(3, .inl 0), (0, .inr (.inr (some (9, 0)))), (1, .inl x1), (2, .inl x2)]) dX12_advances_36 (by decide) rfl ?_
    exact am_sub [1, 2, 3, 0] rfl h
  · replace h := h.2 c1
    refine am_aload_n dX12_advances_12 (List.Mem.head _) ?_
    refine am_iload_n dX12_advances_13 (List.Mem.tail _ (List.Mem.tail _ (List.Mem.tail _ (List.Mem.head _)))) ?_
    refine am_iload_n dX12_advances_14 (List.Mem.tail _ (List.Mem.head _)) ?_
    exact am_callv (d' := d) (kc := 0) (ks := 0) (as := [.inl x3, .inl x1]) dX12_advances_15 wc_X12_depthOf wd_2117 wd_2119 wd_90 wd_122 ds_X12_depthOf (by decide) (Nat.le_refl _) (Nat.le_of_ble_eq_true rfl) (Nat.zero_le _) (Nat.zero_le _) hc_10 (by decide) rfl rfl h
theorem bX12_advances_37 {SC : Nat → Nat} {X : mh_X} {d : Nat} {Q : Option am_V → am_W → Prop} {bc bs : Nat} {w : am_W} {x1 : Int} {x2 : Int} {x3 : Int}
    (h : (((w.1 9 0 62) ≤ x3 → Q none w) ∧ (¬ (w.1 9 0 62) ≤ x3 → am_M (mh_G X) SC d 0 0 mX12_depthOf [.inr (.inr (some (9, 0))), .inl x3, .inl x1] w (fun r w1 => am_A (mh_G X) SC (d + 1) mX12_advances Q 51 [(0, .inr (.inr (some (9, 0)))), (1, .inl x1), (2, .inl x2), (3, .inl x3)] (r.toList ++ []) w1 bc bs)))) :
    am_A (mh_G X) SC (d + 1) mX12_advances Q 37 [(0, .inr (.inr (some (9, 0)))), (1, .inl x1), (2, .inl x2), (3, .inl x3)] [] w bc bs := by
  refine am_iload_n dX12_advances_37 (List.Mem.tail _ (List.Mem.tail _ (List.Mem.tail _ (List.Mem.head _)))) ?_
  refine am_aload_n dX12_advances_38 (List.Mem.head _) ?_
  refine am_getf (f := 62) (v := .inl (w.1 9 0 62)) dX12_advances_39 hc_10 (by decide) wd_1611 (by decide) rfl rfl ?_
  refine am_icmpge (tgt := 103) dX12_advances_42 (by decide) (fun c1 => ?_) (fun c1 => ?_)
  · replace h := h.1 c1
    exact am_ret (r := none) dX12_advances_103 rfl rfl h
  · replace h := h.2 c1
    refine am_aload_n dX12_advances_45 (List.Mem.head _) ?_
    refine am_iload_n dX12_advances_46 (List.Mem.tail _ (List.Mem.tail _ (List.Mem.tail _ (List.Mem.head _)))) ?_
    refine am_iload_n dX12_advances_47 (List.Mem.tail _ (List.Mem.head _)) ?_
    exact am_callv (d' := d) (kc := 0) (ks := 0) (as := [.inl x3, .inl x1]) dX12_advances_48 wc_X12_depthOf wd_2117 wd_2119 wd_90 wd_122 ds_X12_depthOf (by decide) (Nat.le_refl _) (Nat.le_of_ble_eq_true rfl) (Nat.zero_le _) (Nat.zero_le _) hc_10 (by decide) rfl rfl h
theorem bX12_advances_18 {SC : Nat → Nat} {X : mh_X} {d : Nat} {Q : Option am_V → am_W → Prop} {bc bs : Nat} {w : am_W} {x1 : Int} {x2 : Int} {x3 : Int} {xs0 : Int}
    (h : ((xs0 ≤ x2 → am_A (mh_G X) SC (d + 1) mX12_advances Q 29 [(0, .inr (.inr (some (9, 0)))), (1, .inl x1), (2, .inl x2), (3, .inl x3)] [] w bc bs) ∧ (¬ xs0 ≤ x2 → am_M (mh_G X) SC d 0 0 mX12_depthOf [.inr (.inr (some (9, 0))), .inl x3, .inl x1] w (fun r w1 => am_A (mh_G X) SC (d + 1) mX12_advances Q 28 [(0, .inr (.inr (some (9, 0)))), (1, .inl x1), (2, .inl x2), (3, .inl x3)] (r.toList ++ []) w1 bc bs)))) :
    am_A (mh_G X) SC (d + 1) mX12_advances Q 18 [(0, .inr (.inr (some (9, 0)))), (1, .inl x1), (2, .inl x2), (3, .inl x3)] [.inl xs0] w bc bs := by
  refine am_iload_n dX12_advances_18 (List.Mem.tail _ (List.Mem.tail _ (List.Mem.head _))) ?_
  refine am_icmple (tgt := 29) dX12_advances_19 (by decide) (fun c1 => ?_) (fun c1 => ?_)
  · replace h := h.1 c1
    exact h
  · replace h := h.2 c1
    refine am_aload_n dX12_advances_22 (List.Mem.head _) ?_
    refine am_iload_n dX12_advances_23 (List.Mem.tail _ (List.Mem.tail _ (List.Mem.tail _ (List.Mem.head _)))) ?_
    refine am_iload_n dX12_advances_24 (List.Mem.tail _ (List.Mem.head _)) ?_
    exact am_callv (d' := d) (kc := 0) (ks := 0) (as := [.inl x3, .inl x1]) dX12_advances_25 wc_X12_depthOf wd_2117 wd_2119 wd_90 wd_122 ds_X12_depthOf (by decide) (Nat.le_refl _) (Nat.le_of_ble_eq_true rfl) (Nat.zero_le _) (Nat.zero_le _) hc_10 (by decide) rfl rfl h
theorem bX12_advances_51 {SC : Nat → Nat} {X : mh_X} {d : Nat} {Q : Option am_V → am_W → Prop} {bc bs : Nat} {w : am_W} {x1 : Int} {x2 : Int} {x3 : Int} {xs0 : Int}
    (h : ((xs0 ≤ 0 → am_A (mh_G X) SC (d + 1) mX12_advances Q 97 [(0, .inr (.inr (some (9, 0)))), (1, .inl x1), (2, .inl x2), (3, .inl x3)] [] w bc bs) ∧ (¬ xs0 ≤ 0 → (0 ≤ x3 ∧ (x3 < 40 ∧ (0 ≤ (w.1 118 0 x3.toNat) ∧ ((w.1 118 0 x3.toNat) < 7 ∧ (0 ≤ (w.1 117 0 x3.toNat) ∧ ((w.1 117 0 x3.toNat) < 30 ∧ (((am_and (w.1 75 (w.1 118 0 x3.toNat).toNat (w.1 117 0 x3.toNat).toNat) 2) = 0 → am_A (mh_G X) SC (d + 1) mX12_advances Q 87 [(0, .inr (.inr (some (9, 0)))), (1, .inl x1), (2, .inl x2), (3, .inl x3)] [] w bc bs) ∧ (¬ (am_and (w.1 75 (w.1 118 0 x3.toNat).toNat (w.1 117 0 x3.toNat).toNat) 2) = 0 → ((¬ xs0 = x2 → am_A (mh_G X) SC (d + 1) mX12_advances Q 97 [(0, .inr (.inr (some (9, 0)))), (1, .inl x1), (2, .inl x2), (3, .inl x3)] [] w bc bs) ∧ (xs0 = x2 → am_A (mh_G X) SC (d + 1) mX12_advances Q 87 [(0, .inr (.inr (some (9, 0)))), (1, .inl x1), (2, .inl x2), (3, .inl x3)] [] w bc bs))))))))))))) :
    am_A (mh_G X) SC (d + 1) mX12_advances Q 51 [(0, .inr (.inr (some (9, 0)))), (1, .inl x1), (2, .inl x2), (3, .inl x3)] [.inl xs0] w bc bs := by
  refine am_istore (ls' := [(4, .inl xs0), (0, .inr (.inr (some (9, 0)))), (1, .inl x1), (2, .inl x2), (3, .inl x3)]) dX12_advances_51 (by decide) rfl ?_
  refine am_iload dX12_advances_53 (List.Mem.head _) ?_
  refine am_ifle (tgt := 97) dX12_advances_55 (by decide) (fun c1 => ?_) (fun c1 => ?_)
  · replace h := h.1 c1
    exact am_sub [1, 2, 3, 4] rfl h
  · replace h := h.2 c1
    refine am_aload_n dX12_advances_58 (List.Mem.tail _ (List.Mem.head _)) ?_
    refine am_getf (f := 10) (v := .inr (.inr (some (74, 0)))) dX12_advances_59 hc_10 (by decide) wd_1559 (by decide) rfl rfl ?_
    refine am_aload_n dX12_advances_62 (List.Mem.tail _ (List.Mem.head _)) ?_
    refine am_getf (f := 59) (v := .inr (.inr (some (118, 0)))) dX12_advances_63 hc_10 (by decide) wd_1608 (by decide) rfl rfl ?_
    refine am_iload_n dX12_advances_66 (List.Mem.tail _ (List.Mem.tail _ (List.Mem.tail _ (List.Mem.tail _ (List.Mem.head _))))) ?_
    have o2 := h.1
    replace h := h.2
    have o3 := h.1
    replace h := h.2
    refine am_iaload (v := (w.1 118 0 x3.toNat)) dX12_advances_67 (by decide) rfl o2 o3 rfl ?_
    have o4 := h.1
    replace h := h.2
    have o5 := h.1
    replace h := h.2
    refine am_aaload (kd := 5) (r := some (75, (w.1 118 0 x3.toNat).toNat)) dX12_advances_68 (by decide) rfl (by decide) (by decide) o4 o5 rfl ?_
    refine am_aload_n dX12_advances_69 (List.Mem.tail _ (List.Mem.head _)) ?_
    refine am_getf (f := 58) (v := .inr (.inr (some (117, 0)))) dX12_advances_70 hc_10 (by decide) wd_1607 (by decide) rfl rfl ?_
    refine am_iload_n dX12_advances_73 (List.Mem.tail _ (List.Mem.tail _ (List.Mem.tail _ (List.Mem.tail _ (List.Mem.head _))))) ?_
    refine am_iaload (v := (w.1 117 0 x3.toNat)) dX12_advances_74 (by decide) rfl o2 o3 rfl ?_
    have o6 := h.1
    replace h := h.2
    have o7 := h.1
    replace h := h.2
    refine am_iaload (v := (w.1 75 (w.1 118 0 x3.toNat).toNat (w.1 117 0 x3.toNat).toNat)) dX12_advances_75 (by decide) rfl o6 o7 rfl ?_
    refine am_iconst dX12_advances_76 (by unfold am_rg; omega) ?_
    refine am_iand dX12_advances_77 ?_
    refine am_ifeq (tgt := 87) dX12_advances_78 (by decide) (fun c8 => ?_) (fun c8 => ?_)
    · replace h := h.1 c8
      exact am_sub [1, 2, 3, 4] rfl h
    · replace h := h.2 c8
      refine am_iload dX12_advances_81 (List.Mem.head _) ?_
      refine am_iload_n dX12_advances_83 (List.Mem.tail _ (List.Mem.tail _ (List.Mem.tail _ (List.Mem.head _)))) ?_
      refine am_icmpne (tgt := 97) dX12_advances_84 (by decide) (fun c9 => ?_) (fun c9 => ?_)
      · replace h := h.1 c9
        exact am_sub [1, 2, 3, 4] rfl h
      · replace h := h.2 c9
        exact am_sub [1, 2, 3, 4] rfl h
theorem bX12_advances_29 {SC : Nat → Nat} {X : mh_X} {d : Nat} {Q : Option am_V → am_W → Prop} {bc bs : Nat} {w : am_W} {x1 : Int} {x2 : Int} {x3 : Int}
    (h : am_A (mh_G X) SC (d + 1) mX12_advances Q 4 [(0, .inr (.inr (some (9, 0)))), (1, .inl x1), (2, .inl x2), (3, .inl (am_w (x3 + 1)))] [] w bc bs) :
    am_A (mh_G X) SC (d + 1) mX12_advances Q 29 [(0, .inr (.inr (some (9, 0)))), (1, .inl x1), (2, .inl x2), (3, .inl x3)] [] w bc bs := by
  refine am_iinc (ls' := [(3, .inl (am_w (x3 + 1))), (0, .inr (.inr (some (9, 0)))), (1, .inl x1), (2, .inl x2)]) dX12_advances_29 (List.Mem.tail _ (List.Mem.tail _ (List.Mem.tail _ (List.Mem.head _)))) (by decide) rfl ?_
  refine am_goto (tgt := 4) dX12_advances_32 (by decide) ?_
  exact am_sub [1, 2, 3, 0] rfl h
theorem bX12_advances_28 {SC : Nat → Nat} {X : mh_X} {d : Nat} {Q : Option am_V → am_W → Prop} {bc bs : Nat} {w : am_W} {x1 : Int} {x2 : Int} {x3 : Int} {xs0 : Int}
    (h : am_A (mh_G X) SC (d + 1) mX12_advances Q 29 [(0, .inr (.inr (some (9, 0)))), (1, .inl x1), (2, .inl xs0), (3, .inl x3)] [] w bc bs) :
    am_A (mh_G X) SC (d + 1) mX12_advances Q 28 [(0, .inr (.inr (some (9, 0)))), (1, .inl x1), (2, .inl x2), (3, .inl x3)] [.inl xs0] w bc bs := by
  refine am_istore_n (ls' := [(2, .inl xs0), (0, .inr (.inr (some (9, 0)))), (1, .inl x1), (3, .inl x3)]) dX12_advances_28 (by decide) rfl ?_
  exact am_sub [1, 2, 0, 3] rfl h
theorem bX12_advances_97 {SC : Nat → Nat} {X : mh_X} {d : Nat} {Q : Option am_V → am_W → Prop} {bc bs : Nat} {w : am_W} {x1 : Int} {x2 : Int} {x3 : Int}
    (h : am_A (mh_G X) SC (d + 1) mX12_advances Q 37 [(0, .inr (.inr (some (9, 0)))), (1, .inl x1), (2, .inl x2), (3, .inl (am_w (x3 + 1)))] [] w bc bs) :
    am_A (mh_G X) SC (d + 1) mX12_advances Q 97 [(0, .inr (.inr (some (9, 0)))), (1, .inl x1), (2, .inl x2), (3, .inl x3)] [] w bc bs := by
  refine am_iinc (ls' := [(3, .inl (am_w (x3 + 1))), (0, .inr (.inr (some (9, 0)))), (1, .inl x1), (2, .inl x2)]) dX12_advances_97 (List.Mem.tail _ (List.Mem.tail _ (List.Mem.tail _ (List.Mem.head _)))) (by decide) rfl ?_
  refine am_goto (tgt := 37) dX12_advances_100 (by decide) ?_
  exact am_sub [1, 2, 3, 0] rfl h
theorem bX12_advances_87 {SC : Nat → Nat} {X : mh_X} {d : Nat} {Q : Option am_V → am_W → Prop} {bc bs : Nat} {w : am_W} {x1 : Int} {x2 : Int} {x3 : Int}
    (h : (0 ≤ x3 ∧ (x3 < 40 ∧ am_A (mh_G X) SC (d + 1) mX12_advances Q 97 [(0, .inr (.inr (some (9, 0)))), (1, .inl x1), (2, .inl x2), (3, .inl x3)] [] ((am_up w.1 116 0 x3.toNat (am_w ((w.1 116 0 x3.toNat) + 1))), w.2) bc bs))) :
    am_A (mh_G X) SC (d + 1) mX12_advances Q 87 [(0, .inr (.inr (some (9, 0)))), (1, .inl x1), (2, .inl x2), (3, .inl x3)] [] w bc bs := by
  refine am_aload_n dX12_advances_87 (List.Mem.head _) ?_
  refine am_getf (f := 57) (v := .inr (.inr (some (116, 0)))) dX12_advances_88 hc_10 (by decide) wd_1606 (by decide) rfl rfl ?_
  refine am_iload_n dX12_advances_91 (List.Mem.tail _ (List.Mem.tail _ (List.Mem.tail _ (List.Mem.head _)))) ?_
  refine am_dup2 dX12_advances_92 rfl rfl ?_
  have o1 := h.1
  replace h := h.2
  have o2 := h.1
  replace h := h.2
  refine am_iaload (v := (w.1 116 0 x3.toNat)) dX12_advances_93 (by decide) rfl o1 o2 rfl ?_
  refine am_iconst dX12_advances_94 (by unfold am_rg; omega) ?_
  refine am_iadd dX12_advances_95 ?_
  refine am_iastore dX12_advances_96 (Or.inl (by decide)) rfl o1 o2 ?_
  exact h
-- MourningHouseModel.goesTo(I)V
theorem dX12_goesTo_0 : decode mX12_goesTo.2.1 0 = .ok (.aload_n 0, 1) := by decide +kernel
theorem dX12_goesTo_1 : decode mX12_goesTo.2.1 1 = .ok (.getfield 496, 3) := by decide +kernel
theorem dX12_goesTo_4 : decode mX12_goesTo.2.1 4 = .ok (.ifCond .ne 4, 3) := by decide +kernel
theorem dX12_goesTo_7 : decode mX12_goesTo.2.1 7 = .ok (.return_, 1) := by decide +kernel
theorem dX12_goesTo_8 : decode mX12_goesTo.2.1 8 = .ok (.aload_n 0, 1) := by decide +kernel
theorem dX12_goesTo_9 : decode mX12_goesTo.2.1 9 = .ok (.getfield 508, 3) := by decide +kernel
theorem dX12_goesTo_12 : decode mX12_goesTo.2.1 12 = .ok (.ifCond .ne 33, 3) := by decide +kernel
theorem dX12_goesTo_15 : decode mX12_goesTo.2.1 15 = .ok (.iload_n 1, 1) := by decide +kernel
theorem dX12_goesTo_16 : decode mX12_goesTo.2.1 16 = .ok (.aload_n 0, 1) := by decide +kernel
theorem dX12_goesTo_17 : decode mX12_goesTo.2.1 17 = .ok (.invokevirtual 522, 3) := by decide +kernel
theorem dX12_goesTo_20 : decode mX12_goesTo.2.1 20 = .ok (.if_icmp .ge 4, 3) := by decide +kernel
theorem dX12_goesTo_23 : decode mX12_goesTo.2.1 23 = .ok (.return_, 1) := by decide +kernel
theorem dX12_goesTo_24 : decode mX12_goesTo.2.1 24 = .ok (.aload_n 0, 1) := by decide +kernel
theorem dX12_goesTo_25 : decode mX12_goesTo.2.1 25 = .ok (.aload_n 0, 1) := by decide +kernel
theorem dX12_goesTo_26 : decode mX12_goesTo.2.1 26 = .ok (.invokevirtual 522, 3) := by decide +kernel
theorem dX12_goesTo_29 : decode mX12_goesTo.2.1 29 = .ok (.putfield 525, 3) := by decide +kernel
theorem dX12_goesTo_32 : decode mX12_goesTo.2.1 32 = .ok (.aload_n 0, 1) := by decide +kernel
theorem dX12_goesTo_33 : decode mX12_goesTo.2.1 33 = .ok (.iconst 1, 1) := by decide +kernel
theorem dX12_goesTo_34 : decode mX12_goesTo.2.1 34 = .ok (.putfield 508, 3) := by decide +kernel
theorem dX12_goesTo_37 : decode mX12_goesTo.2.1 37 = .ok (.aload_n 0, 1) := by decide +kernel
theorem dX12_goesTo_38 : decode mX12_goesTo.2.1 38 = .ok (.aload_n 0, 1) := by decide +kernel
theorem dX12_goesTo_39 : decode mX12_goesTo.2.1 39 = .ok (.getfield 525, 3) := by decide +kernel
theorem dX12_goesTo_42 : decode mX12_goesTo.2.1 42 = .ok (.invokevirtual 528, 3) := by decide +kernel
theorem dX12_goesTo_45 : decode mX12_goesTo.2.1 45 = .ok (.aload_n 0, 1) := by decide +kernel
theorem dX12_goesTo_46 : decode mX12_goesTo.2.1 46 = .ok (.getfield 525, 3) := by decide +kernel
theorem dX12_goesTo_49 : decode mX12_goesTo.2.1 49 = .ok (.iload_n 1, 1) := by decide +kernel
theorem dX12_goesTo_50 : decode mX12_goesTo.2.1 50 = .ok (.if_icmp .ge 32, 3) := by decide +kernel
theorem dX12_goesTo_53 : decode mX12_goesTo.2.1 53 = .ok (.aload_n 0, 1) := by decide +kernel
theorem dX12_goesTo_54 : decode mX12_goesTo.2.1 54 = .ok (.aload_n 0, 1) := by decide +kernel
theorem dX12_goesTo_55 : decode mX12_goesTo.2.1 55 = .ok (.getfield 525, 3) := by decide +kernel
theorem dX12_goesTo_58 : decode mX12_goesTo.2.1 58 = .ok (.invokevirtual 531, 3) := by decide +kernel
theorem dX12_goesTo_61 : decode mX12_goesTo.2.1 61 = .ok (.aload_n 0, 1) := by decide +kernel
theorem dX12_goesTo_62 : decode mX12_goesTo.2.1 62 = .ok (.dup, 1) := by decide +kernel
theorem dX12_goesTo_63 : decode mX12_goesTo.2.1 63 = .ok (.getfield 525, 3) := by decide +kernel
theorem dX12_goesTo_66 : decode mX12_goesTo.2.1 66 = .ok (.iconst 1, 1) := by decide +kernel
theorem dX12_goesTo_67 : decode mX12_goesTo.2.1 67 = .ok (.iadd, 1) := by decide +kernel
theorem dX12_goesTo_68 : decode mX12_goesTo.2.1 68 = .ok (.putfield 525, 3) := by decide +kernel
theorem dX12_goesTo_71 : decode mX12_goesTo.2.1 71 = .ok (.aload_n 0, 1) := by decide +kernel
theorem dX12_goesTo_72 : decode mX12_goesTo.2.1 72 = .ok (.aload_n 0, 1) := by decide +kernel
theorem dX12_goesTo_73 : decode mX12_goesTo.2.1 73 = .ok (.getfield 525, 3) := by decide +kernel
theorem dX12_goesTo_76 : decode mX12_goesTo.2.1 76 = .ok (.invokevirtual 528, 3) := by decide +kernel
theorem dX12_goesTo_79 : decode mX12_goesTo.2.1 79 = .ok (.goto (-34), 3) := by decide +kernel
theorem dX12_goesTo_82 : decode mX12_goesTo.2.1 82 = .ok (.return_, 1) := by decide +kernel
theorem bX12_goesTo_0 {SC : Nat → Nat} {X : mh_X} {d : Nat} {Q : Option am_V → am_W → Prop} {bc bs : Nat} {w : am_W} {x1 : Int}
    (h : ((¬ (w.1 9 0 62) = 0 → ((¬ (w.1 9 0 66) = 0 → am_A (mh_G X) SC (d + 1) mX12_goesTo Q 45 [(0, .inr (.inr (some (9, 0)))), (1, .inl x1)] [] w bc bs) ∧ ((w.1 9 0 66) = 0 → am_M (mh_G X) SC d 0 0 mX12_firstBegin [.inr (.inr (some (9, 0)))] w (fun r w1 => am_A (mh_G X) SC (d + 1) mX12_goesTo Q 20 [(0, .inr (.inr (some (9, 0)))), (1, .inl x1)] (r.toList ++ [.inl x1]) w1 bc bs)))) ∧ ((w.1 9 0 62) = 0 → Q none w))) :
    am_A (mh_G X) SC (d + 1) mX12_goesTo Q 0 [(0, .inr (.inr (some (9, 0)))), (1, .inl x1)] [] w bc bs := by
  refine am_aload_n dX12_goesTo_0 (List.Mem.head _) ?_
  refine am_getf (f := 62) (v := .inl (w.1 9 0 62)) dX12_goesTo_1 hc_10 (by decide) wd_1611 (by decide) rfl rfl ?_
  refine am_ifne (tgt := 8) dX12_goesTo_4 (by decide) (fun c1 => ?_) (fun c1 => ?_)
  · replace h := h.1 c1
    refine am_aload_n dX12_goesTo_8 (List.Mem.head _) ?_
    refine am_getf (f := 66) (v := .inl (w.1 9 0 66)) dX12_goesTo_9 hc_10 (by decide) wd_1615 (by decide) rfl rfl ?_
    refine am_ifne (tgt := 45) dX12_goesTo_12 (by decide) (fun c2 => ?_) (fun c2 => ?_)
    · replace h := h.1 c2
      exact h
    · replace h := h.2 c2
      refine am_iload_n dX12_goesTo_15 (List.Mem.tail _ (List.Mem.head _)) ?_
      refine am_aload_n dX12_goesTo_16 (List.Mem.head _) ?_
      exact am_callv (d' := d) (kc := 0) (ks := 0) (as := []) dX12_goesTo_17 wc_X12_firstBegin wd_2108 wd_2110 wd_88 wd_122 ds_X12_firstBegin (by decide) (Nat.le_refl _) (Nat.le_of_ble_eq_true rfl) (Nat.zero_le _) (Nat.zero_le _) hc_10 (by decide) rfl rfl h
  · replace h := h.2 c1
    exact am_ret (r := none) dX12_goesTo_7 rfl rfl h
theorem bX12_goesTo_45 {SC : Nat → Nat} {X : mh_X} {d : Nat} {Q : Option am_V → am_W → Prop} {bc bs : Nat} {w : am_W} {x1 : Int}
    (h : ((x1 ≤ (w.1 9 0 65) → Q none w) ∧ (¬ x1 ≤ (w.1 9 0 65) → am_M (mh_G X) SC d 0 0 mX12_advances [.inr (.inr (some (9, 0))), .inl (w.1 9 0 65)] w (fun r w1 => am_A (mh_G X) SC (d + 1) mX12_goesTo Q 61 [(0, .inr (.inr (some (9, 0)))), (1, .inl x1)] (r.toList ++ []) w1 bc bs)))) :
    am_A (mh_G X) SC (d + 1) mX12_goesTo Q 45 [(0, .inr (.inr (some (9, 0)))), (1, .inl x1)] [] w bc bs := by
  refine am_aload_n dX12_goesTo_45 (List.Mem.head _) ?_
  refine am_getf (f := 65) (v := .inl (w.1 9 0 65)) dX12_goesTo_46 hc_10 (by decide) wd_1614 (by decide) rfl rfl ?_
  refine am_iload_n dX12_goesTo_49 (List.Mem.tail _ (List.Mem.head _)) ?_
  refine am_icmpge (tgt := 82) dX12_goesTo_50 (by decide) (fun c1 => ?_) (fun c1 => ?_)
  · replace h := h.1 c1
    exact am_ret (r := none) dX12_goesTo_82 rfl rfl h
  · replace h := h.2 c1
    refine am_aload_n dX12_goesTo_53 (List.Mem.head _) ?_
    refine am_aload_n dX12_goesTo_54 (List.Mem.head _) ?_
    refine am_getf (f := 65) (v := .inl (w.1 9 0 65)) dX12_goesTo_55 hc_10 (by decide) wd_1614 (by decide) rfl rfl ?_
    exact am_callv (d' := d) (kc := 0) (ks := 0) (as := [.inl (w.1 9 0 65)]) dX12_goesTo_58 wc_X12_advances wd_2121 wd_2123 wd_91 wd_122 ds_X12_advances (by decide) (Nat.le_refl _) (Nat.le_of_ble_eq_true rfl) (Nat.zero_le _) (Nat.zero_le _) hc_10 (by decide) rfl rfl h
theorem bX12_goesTo_20 {SC : Nat → Nat} {X : mh_X} {d : Nat} {Q : Option am_V → am_W → Prop} {bc bs : Nat} {w : am_W} {x1 : Int} {xs0 : Int} {xs1 : Int}
    (h : ((xs0 ≤ xs1 → am_M (mh_G X) SC d 0 0 mX12_firstBegin [.inr (.inr (some (9, 0)))] w (fun r w1 => am_A (mh_G X) SC (d + 1) mX12_goesTo Q 29 [(0, .inr (.inr (some (9, 0)))), (1, .inl x1)] (r.toList ++ [.inr (.inr (some (9, 0)))]) w1 bc bs)) ∧ (¬ xs0 ≤ xs1 → Q none w))) :
    am_A (mh_G X) SC (d + 1) mX12_goesTo Q 20 [(0, .inr (.inr (some (9, 0)))), (1, .inl x1)] [.inl xs0, .inl xs1] w bc bs := by
  refine am_icmpge (tgt := 24) dX12_goesTo_20 (by decide) (fun c1 => ?_) (fun c1 => ?_)
  · replace h := h.1 c1
    refine am_aload_n dX12_goesTo_24 (List.Mem.head _) ?_
    refine am_aload_n dX12_goesTo_25 (List.Mem.head _) ?_
    exact am_callv (d' := d) (kc := 0) (ks := 0) (as := []) dX12_goesTo_26 wc_X12_firstBegin wd_2108 wd_2110 wd_88 wd_122 ds_X12_firstBegin (by decide) (Nat.le_refl _) (Nat.le_of_ble_eq_true rfl) (Nat.zero_le _) (Nat.zero_le _) hc_10 (by decide) rfl rfl h
  · replace h := h.2 c1
    exact am_ret (r := none) dX12_goesTo_23 rfl rfl h
theorem bX12_goesTo_61 {SC : Nat → Nat} {X : mh_X} {d : Nat} {Q : Option am_V → am_W → Prop} {bc bs : Nat} {w : am_W} {x1 : Int}
    (h : am_M (mh_G X) SC d 0 0 mX12_weds [.inr (.inr (some (9, 0))), .inl ((am_up w.1 9 0 65 (am_w ((w.1 9 0 65) + 1))) 9 0 65)] ((am_up w.1 9 0 65 (am_w ((w.1 9 0 65) + 1))), w.2) (fun r w1 => am_A (mh_G X) SC (d + 1) mX12_goesTo Q 79 [(0, .inr (.inr (some (9, 0)))), (1, .inl x1)] (r.toList ++ []) w1 bc bs)) :
    am_A (mh_G X) SC (d + 1) mX12_goesTo Q 61 [(0, .inr (.inr (some (9, 0)))), (1, .inl x1)] [] w bc bs := by
  refine am_aload_n dX12_goesTo_61 (List.Mem.head _) ?_
  refine am_dup dX12_goesTo_62 rfl ?_
  refine am_getf (f := 65) (v := .inl (w.1 9 0 65)) dX12_goesTo_63 hc_10 (by decide) wd_1614 (by decide) rfl rfl ?_
  refine am_iconst dX12_goesTo_66 (by unfold am_rg; omega) ?_
  refine am_iadd dX12_goesTo_67 ?_
  refine am_putf (f := 65) dX12_goesTo_68 hc_10 (by decide) wd_1614 rfl (Or.inl rfl) (Or.inl (by decide)) rfl ?_
  refine am_aload_n dX12_goesTo_71 (List.Mem.head _) ?_
  refine am_aload_n dX12_goesTo_72 (List.Mem.head _) ?_
  refine am_getf (f := 65) (v := .inl ((am_up w.1 9 0 65 (am_w ((w.1 9 0 65) + 1))) 9 0 65)) dX12_goesTo_73 hc_10 (by decide) wd_1614 (by decide) rfl rfl ?_
  exact am_callv (d' := d) (kc := 0) (ks := 0) (as := [.inl ((am_up w.1 9 0 65 (am_w ((w.1 9 0 65) + 1))) 9 0 65)]) dX12_goesTo_76 wc_X12_weds wd_2113 wd_2115 wd_89 wd_122 ds_X12_weds (by decide) (Nat.le_refl _) (Nat.le_of_ble_eq_true rfl) (Nat.zero_le _) (Nat.zero_le _) hc_10 (by decide) rfl rfl h
theorem bX12_goesTo_29 {SC : Nat → Nat} {X : mh_X} {d : Nat} {Q : Option am_V → am_W → Prop} {bc bs : Nat} {w : am_W} {x1 : Int} {xs0 : Int}
    (h : am_M (mh_G X) SC d 0 0 mX12_weds [.inr (.inr (some (9, 0))), .inl ((am_up (am_up w.1 9 0 65 xs0) 9 0 66 1) 9 0 65)] ((am_up (am_up w.1 9 0 65 xs0) 9 0 66 1), w.2) (fun r w1 => am_A (mh_G X) SC (d + 1) mX12_goesTo Q 45 [(0, .inr (.inr (some (9, 0)))), (1, .inl x1)] (r.toList ++ []) w1 bc bs)) :
    am_A (mh_G X) SC (d + 1) mX12_goesTo Q 29 [(0, .inr (.inr (some (9, 0)))), (1, .inl x1)] [.inl xs0, .inr (.inr (some (9, 0)))] w bc bs := by
  refine am_putf (f := 65) dX12_goesTo_29 hc_10 (by decide) wd_1614 rfl (Or.inl rfl) (Or.inl (by decide)) rfl ?_
  refine am_aload_n dX12_goesTo_32 (List.Mem.head _) ?_
  refine am_iconst dX12_goesTo_33 (by unfold am_rg; omega) ?_
  refine am_putf (f := 66) dX12_goesTo_34 hc_10 (by decide) wd_1615 rfl (Or.inr (Or.inl ⟨rfl, (Or.inr rfl)⟩)) (Or.inl (by decide)) rfl ?_
  refine am_aload_n dX12_goesTo_37 (List.Mem.head _) ?_
  refine am_aload_n dX12_goesTo_38 (List.Mem.head _) ?_
  refine am_getf (f := 65) (v := .inl ((am_up (am_up w.1 9 0 65 xs0) 9 0 66 1) 9 0 65)) dX12_goesTo_39 hc_10 (by decide) wd_1614 (by decide) rfl rfl ?_
  exact am_callv (d' := d) (kc := 0) (ks := 0) (as := [.inl ((am_up (am_up w.1 9 0 65 xs0) 9 0 66 1) 9 0 65)]) dX12_goesTo_42 wc_X12_weds wd_2113 wd_2115 wd_89 wd_122 ds_X12_weds (by decide) (Nat.le_refl _) (Nat.le_of_ble_eq_true rfl) (Nat.zero_le _) (Nat.zero_le _) hc_10 (by decide) rfl rfl h
theorem bX12_goesTo_79 {SC : Nat → Nat} {X : mh_X} {d : Nat} {Q : Option am_V → am_W → Prop} {bc bs : Nat} {w : am_W} {x1 : Int}
    (h : am_A (mh_G X) SC (d + 1) mX12_goesTo Q 45 [(0, .inr (.inr (some (9, 0)))), (1, .inl x1)] [] w bc bs) :
    am_A (mh_G X) SC (d + 1) mX12_goesTo Q 79 [(0, .inr (.inr (some (9, 0)))), (1, .inl x1)] [] w bc bs := by
  refine am_goto (tgt := 45) dX12_goesTo_79 (by decide) ?_
  exact h
-- MourningHouseModel.heirCap(III)I
theorem dX12_heirCap_0 : decode mX12_heirCap.2.1 0 = .ok (.iconst 4, 1) := by decide +kernel
theorem dX12_heirCap_1 : decode mX12_heirCap.2.1 1 = .ok (.istore 4, 2) := by decide +kernel
theorem dX12_heirCap_3 : decode mX12_heirCap.2.1 3 = .ok (.iconst 0, 1) := by decide +kernel
theorem dX12_heirCap_4 : decode mX12_heirCap.2.1 4 = .ok (.istore 5, 2) := by decide +kernel
theorem dX12_heirCap_6 : decode mX12_heirCap.2.1 6 = .ok (.iload 5, 2) := by decide +kernel
theorem dX12_heirCap_8 : decode mX12_heirCap.2.1 8 = .ok (.aload_n 0, 1) := by decide +kernel
theorem dX12_heirCap_9 : decode mX12_heirCap.2.1 9 = .ok (.getfield 447, 3) := by decide +kernel
theorem dX12_heirCap_12 : decode mX12_heirCap.2.1 12 = .ok (.if_icmp .ge 94, 3) := by decide +kernel
theorem dX12_heirCap_15 : decode mX12_heirCap.2.1 15 = .ok (.iload_n 1, 1) := by decide +kernel
theorem dX12_heirCap_16 : decode mX12_heirCap.2.1 16 = .ok (.iconst (-1), 1) := by decide +kernel
theorem dX12_heirCap_17 : decode mX12_heirCap.2.1 17 = .ok (.if_icmp .eq 89, 3) := by decide +kernel
theorem dX12_heirCap_20 : decode mX12_heirCap.2.1 20 = .ok (.aload_n 0, 1) := by decide +kernel
theorem dX12_heirCap_21 : decode mX12_heirCap.2.1 21 = .ok (.getfield 51, 3) := by decide +kernel
theorem dX12_heirCap_24 : decode mX12_heirCap.2.1 24 = .ok (.iload_n 1, 1) := by decide +kernel
theorem dX12_heirCap_25 : decode mX12_heirCap.2.1 25 = .ok (.iaload, 1) := by decide +kernel
theorem dX12_heirCap_26 : decode mX12_heirCap.2.1 26 = .ok (.ifCond .le 80, 3) := by decide +kernel
theorem dX12_heirCap_29 : decode mX12_heirCap.2.1 29 = .ok (.aload_n 0, 1) := by decide +kernel
theorem dX12_heirCap_30 : decode mX12_heirCap.2.1 30 = .ok (.aload_n 0, 1) := by decide +kernel
theorem dX12_heirCap_31 : decode mX12_heirCap.2.1 31 = .ok (.getfield 502, 3) := by decide +kernel
theorem dX12_heirCap_34 : decode mX12_heirCap.2.1 34 = .ok (.iload 5, 2) := by decide +kernel
theorem dX12_heirCap_36 : decode mX12_heirCap.2.1 36 = .ok (.invokevirtual 469, 3) := by decide +kernel
theorem dX12_heirCap_39 : decode mX12_heirCap.2.1 39 = .ok (.ifCond .eq 61, 3) := by decide +kernel
theorem dX12_heirCap_42 : decode mX12_heirCap.2.1 42 = .ok (.aload_n 0, 1) := by decide +kernel
theorem dX12_heirCap_43 : decode mX12_heirCap.2.1 43 = .ok (.iload 5, 2) := by decide +kernel
theorem dX12_heirCap_45 : decode mX12_heirCap.2.1 45 = .ok (.iload_n 3, 1) := by decide +kernel
theorem dX12_heirCap_46 : decode mX12_heirCap.2.1 46 = .ok (.invokevirtual 476, 3) := by decide +kernel
theorem dX12_heirCap_49 : decode mX12_heirCap.2.1 49 = .ok (.ifCond .eq 51, 3) := by decide +kernel
theorem dX12_heirCap_52 : decode mX12_heirCap.2.1 52 = .ok (.aload_n 0, 1) := by decide +kernel
theorem dX12_heirCap_53 : decode mX12_heirCap.2.1 53 = .ok (.getfield 161, 3) := by decide +kernel
theorem dX12_heirCap_56 : decode mX12_heirCap.2.1 56 = .ok (.iload 5, 2) := by decide +kernel
theorem dX12_heirCap_58 : decode mX12_heirCap.2.1 58 = .ok (.iaload, 1) := by decide +kernel
theorem dX12_heirCap_59 : decode mX12_heirCap.2.1 59 = .ok (.iload_n 2, 1) := by decide +kernel
theorem dX12_heirCap_60 : decode mX12_heirCap.2.1 60 = .ok (.if_icmp .gt 40, 3) := by decide +kernel
theorem dX12_heirCap_63 : decode mX12_heirCap.2.1 63 = .ok (.iload_n 2, 1) := by decide +kernel
theorem dX12_heirCap_64 : decode mX12_heirCap.2.1 64 = .ok (.aload_n 0, 1) := by decide +kernel
theorem dX12_heirCap_65 : decode mX12_heirCap.2.1 65 = .ok (.getfield 161, 3) := by decide +kernel
theorem dX12_heirCap_68 : decode mX12_heirCap.2.1 68 = .ok (.iload 5, 2) := by decide +kernel
theorem dX12_heirCap_70 : decode mX12_heirCap.2.1 70 = .ok (.iaload, 1) := by decide +kernel
theorem dX12_heirCap_71 : decode mX12_heirCap.2.1 71 = .ok (.isub, 1) := by decide +kernel
theorem dX12_heirCap_72 : decode mX12_heirCap.2.1 72 = .ok (.aload_n 0, 1) := by decide +kernel
theorem dX12_heirCap_73 : decode mX12_heirCap.2.1 73 = .ok (.getfield 51, 3) := by decide +kernel
theorem dX12_heirCap_76 : decode mX12_heirCap.2.1 76 = .ok (.iload_n 1, 1) := by decide +kernel
theorem dX12_heirCap_77 : decode mX12_heirCap.2.1 77 = .ok (.iaload, 1) := by decide +kernel
theorem dX12_heirCap_78 : decode mX12_heirCap.2.1 78 = .ok (.if_icmp .ge 22, 3) := by decide +kernel
theorem dX12_heirCap_81 : decode mX12_heirCap.2.1 81 = .ok (.aload_n 0, 1) := by decide +kernel
theorem dX12_heirCap_82 : decode mX12_heirCap.2.1 82 = .ok (.getfield 54, 3) := by decide +kernel
theorem dX12_heirCap_85 : decode mX12_heirCap.2.1 85 = .ok (.iload_n 1, 1) := by decide +kernel
theorem dX12_heirCap_86 : decode mX12_heirCap.2.1 86 = .ok (.iaload, 1) := by decide +kernel
theorem dX12_heirCap_87 : decode mX12_heirCap.2.1 87 = .ok (.iload 4, 2) := by decide +kernel
theorem dX12_heirCap_89 : decode mX12_heirCap.2.1 89 = .ok (.if_icmp .ge 11, 3) := by decide +kernel
theorem dX12_heirCap_92 : decode mX12_heirCap.2.1 92 = .ok (.aload_n 0, 1) := by decide +kernel
theorem dX12_heirCap_93 : decode mX12_heirCap.2.1 93 = .ok (.getfield 54, 3) := by decide +kernel
theorem dX12_heirCap_96 : decode mX12_heirCap.2.1 96 = .ok (.iload_n 1, 1) := by decide +kernel
theorem dX12_heirCap_97 : decode mX12_heirCap.2.1 97 = .ok (.iaload, 1) := by decide +kernel
theorem dX12_heirCap_98 : decode mX12_heirCap.2.1 98 = .ok (.istore 4, 2) := by decide +kernel
theorem dX12_heirCap_100 : decode mX12_heirCap.2.1 100 = .ok (.iinc 5 1, 3) := by decide +kernel
theorem dX12_heirCap_103 : decode mX12_heirCap.2.1 103 = .ok (.goto (-97), 3) := by decide +kernel
theorem dX12_heirCap_106 : decode mX12_heirCap.2.1 106 = .ok (.iload 4, 2) := by decide +kernel
theorem dX12_heirCap_108 : decode mX12_heirCap.2.1 108 = .ok (.ireturn, 1) := by decide +kernel
theorem bX12_heirCap_0 {SC : Nat → Nat} {X : mh_X} {d : Nat} {Q : Option am_V → am_W → Prop} {bc bs : Nat} {w : am_W} {x1 : Int} {x2 : Int} {x3 : Int}
    (h : am_A (mh_G X) SC (d + 1) mX12_heirCap Q 6 [(0, .inr (.inr (some (9, 0)))), (1, .inl x1), (2, .inl x2), (3, .inl x3), (4, .inl 4), (5, .inl 0)] [] w bc bs) :
    am_A (mh_G X) SC (d + 1) mX12_heirCap Q 0 [(0, .inr (.inr (some (9, 0)))), (1, .inl x1), (2, .inl x2), (3, .inl x3)] [] w bc bs := by
  refine am_iconst dX12_heirCap_0 (by unfold am_rg; omega) ?_
  refine am_istore (ls' := [(4, .inl 4), (0, .inr (.inr (some (9, 0)))), (1, .inl x1), (2, .inl x2), (3, .inl x3)]) dX12_heirCap_1 (by decide) rfl ?_
  refine am_iconst dX12_heirCap_3 (by unfold am_rg; omega) ?_
  refine am_istore (ls' := [(5, .inl 0), (4, .inl 4), (0, .inr (.inr (some (9, 0)))), (1, .inl x1), (2, .inl x2), (3, .inl x3)]) dX12_heirCap_4 (by decide) rfl ?_
  exact am_sub [2, 3, 4, 5, 1, 0] rfl h
theorem bX12_heirCap_6 {SC : Nat → Nat} {X : mh_X} {d : Nat} {Q : Option am_V → am_W → Prop} {bc bs : Nat} {w : am_W} {x1 : Int} {x2 : Int} {x3 : Int} {x4 : Int} {x5 : Int}
    (h : (((w.1 9 0 42) ≤ x5 → Q (some (.inl x4)) w) ∧ (¬ (w.1 9 0 42) ≤ x5 → ((x1 = (-1) → Q (some (.inl x4)) w) ∧ (¬ x1 = (-1) → (0 ≤ x1 ∧ (x1 < 7 ∧ (((w.1 88 0 x1.toNat) ≤ 0 → Q (some (.inl x4)) w) ∧ (¬ (w.1 88 0 x1.toNat) ≤ 0 → am_M (mh_G X) SC d 0 0 mX12_isParent [.inr (.inr (some (9, 0))), .inl (w.1 9 0 63), .inl x5] w (fun r w1 => am_A (mh_G X) SC (d + 1) mX12_heirCap Q 39 [(0, .inr (.inr (some (9, 0)))), (1, .inl x1), (2, .inl x2), (3, .inl x3), (4, .inl x4), (5, .inl x5)] (r.toList ++ []) w1 bc bs)))))))))) :
    am_A (mh_G X) SC (d + 1) mX12_heirCap Q 6 [(0, .inr (.inr (some (9, 0)))), (1, .inl x1), (2, .inl x2), (3, .inl x3), (4, .inl x4), (5, .inl x5)] [] w bc bs := by
  refine am_iload dX12_heirCap_6 (List.Mem.tail _ (List.Mem.tail _ (List.Mem.tail _ (List.Mem.tail _ (List.Mem.tail _ (List.Mem.head _)))))) ?_
  refine am_aload_n dX12_heirCap_8 (List.Mem.head _) ?_
  refine am_getf (f := 42) (v := .inl (w.1 9 0 42)) dX12_heirCap_9 hc_10 (by decide) wd_1591 (by decide) rfl rfl ?_
  refine am_icmpge (tgt := 106) dX12_heirCap_12 (by decide) (fun c1 => ?_) (fun c1 => ?_)
  · replace h := h.1 c1
    refine am_iload dX12_heirCap_106 (List.Mem.tail _ (List.Mem.tail _ (List.Mem.tail _ (List.Mem.tail _ (List.Mem.head _))))) ?_
    exact am_ret (r := some (.inl x4)) dX12_heirCap_108 (Or.inl rfl) rfl h
  · replace h := h.2 c1
    refine am_iload_n dX12_heirCap_15 (List.Mem.tail _ (List.Mem.head _)) ?_
    refine am_iconst dX12_heirCap_16 (by unfold am_rg; omega) ?_
    refine am_icmpeq (tgt := 106) dX12_heirCap_17 (by decide) (fun c2 => ?_) (fun c2 => ?_)
    · replace h := h.1 c2
      refine am_iload dX12_heirCap_106 (List.Mem.tail _ (List.Mem.tail _ (List.Mem.tail _ (List.Mem.tail _ (List.Mem.head _))))) ?_
      exact am_ret (r := some (.inl x4)) dX12_heirCap_108 (Or.inl rfl) rfl h
    · replace h := h.2 c2
      refine am_aload_n dX12_heirCap_20 (List.Mem.head _) ?_
      refine am_getf (f := 16) (v := .inr (.inr (some (88, 0)))) dX12_heirCap_21 hc_10 (by decide) wd_1565 (by decide) rfl rfl ?_
      refine am_iload_n dX12_heirCap_24 (List.Mem.tail _ (List.Mem.head _)) ?_
      have o3 := h.1
      replace h := h.2
      have o4 := h.1
      replace h := h.2
      refine am_iaload (v := (w.1 88 0 x1.toNat)) dX12_heirCap_25 (by decide) rfl o3 o4 rfl ?_
      refine am_ifle (tgt := 106) dX12_heirCap_26 (by decide) (fun c5 => ?_) (fun c5 => ?_)
      · replace h := h.1 c5
        refine am_iload dX12_heirCap_106 (List.Mem.tail _ (List.Mem.tail _ (List.Mem.tail _ (List.Mem.tail _ (List.Mem.head _))))) ?_
        exact am_ret (r := some (.inl x4)) dX12_heirCap_108 (Or.inl rfl) rfl h
      · replace h := h.2 c5
        refine am_aload_n dX12_heirCap_29 (List.Mem.head _) ?_
        refine am_aload_n dX12_heirCap_30 (List.Mem.head _) ?_
        refine am_getf (f := 63) (v := .inl (w.1 9 0 63)) dX12_heirCap_31 hc_10 (by decide) wd_1612 (by decide) rfl rfl ?_
        refine am_iload dX12_heirCap_34 (List.Mem.tail _ (List.Mem.tail _ (List.Mem.tail _ (List.Mem.tail _ (List.Mem.tail _ (List.Mem.head _)))))) ?_
        exact am_callv (d' := d) (kc := 0) (ks := 0) (as := [.inl (w.1 9 0 63), .inl x5]) dX12_heirCap_36 wc_X12_isParent wd_2057 wd_2059 wd_78 wd_122 ds_X12_isParent (by decide) (Nat.le_refl _) (Nat.le_of_ble_eq_true rfl) (Nat.zero_le _) (Nat.zero_le _) hc_10 (by decide) rfl rfl h
theorem bX12_heirCap_39 {SC : Nat → Nat} {X : mh_X} {d : Nat} {Q : Option am_V → am_W → Prop} {bc bs : Nat} {w : am_W} {x1 : Int} {x2 : Int} {x3 : Int} {x4 : Int} {x5 : Int} {xs0 : Int}
    (h : ((xs0 = 0 → am_A (mh_G X) SC (d + 1) mX12_heirCap Q 100 [(0, .inr (.inr (some (9, 0)))), (1, .inl x1), (2, .inl x2), (3, .inl x3), (4, .inl x4), (5, .inl x5)] [] w bc bs) ∧ (¬ xs0 = 0 → am_M (mh_G X) SC d 0 0 mX12_isThere [.inr (.inr (some (9, 0))), .inl x5, .inl x3] w (fun r w1 => am_A (mh_G X) SC (d + 1) mX12_heirCap Q 49 [(0, .inr (.inr (some (9, 0)))), (1, .inl x1), (2, .inl x2), (3, .inl x3), (4, .inl x4), (5, .inl x5)] (r.toList ++ []) w1 bc bs)))) :
    am_A (mh_G X) SC (d + 1) mX12_heirCap Q 39 [(0, .inr (.inr (some (9, 0)))), (1, .inl x1), (2, .inl x2), (3, .inl x3), (4, .inl x4), (5, .inl x5)] [.inl xs0] w bc bs := by
  refine am_ifeq (tgt := 100) dX12_heirCap_39 (by decide) (fun c1 => ?_) (fun c1 => ?_)
  · replace h := h.1 c1
    exact h
  · replace h := h.2 c1
    refine am_aload_n dX12_heirCap_42 (List.Mem.head _) ?_
    refine am_iload dX12_heirCap_43 (List.Mem.tail _ (List.Mem.tail _ (List.Mem.tail _ (List.Mem.tail _ (List.Mem.tail _ (List.Mem.head _)))))) ?_
    refine am_iload_n dX12_heirCap_45 (List.Mem.tail _ (List.Mem.tail _ (List.Mem.tail _ (List.Mem.head _)))) ?_
    exact am_callv (d' := d) (kc := 0) (ks := 0) (as := [.inl x5, .inl x3]) dX12_heirCap_46 wc_X12_isThere wd_2042 wd_2044 wd_75 wd_122 ds_X12_isThere (by decide) (Nat.le_refl _) (Nat.le_of_ble_eq_true rfl) (Nat.zero_le _) (Nat.zero_le _) hc_10 (by decide) rfl rfl h
theorem bX12_heirCap_100 {SC : Nat → Nat} {X : mh_X} {d : Nat} {Q : Option am_V → am_W → Prop} {bc bs : Nat} {w : am_W} {x1 : Int} {x2 : Int} {x3 : Int} {x4 : Int} {x5 : Int}
    (h : am_A (mh_G X) SC (d + 1) mX12_heirCap Q 6 [(0, .inr (.inr (some (9, 0)))), (1, .inl x1), (2, .inl x2), (3, .inl x3), (4, .inl x4), (5, .inl (am_w (x5 + 1)))] [] w bc bs) :
    am_A (mh_G X) SC (d + 1) mX12_heirCap Q 100 [(0, .inr (.inr (some (9, 0)))), (1, .inl x1), (2, .inl x2), (3, .inl x3), (4, .inl x4), (5, .inl x5)] [] w bc bs := by
  refine am_iinc (ls' := [(5, .inl (am_w (x5 + 1))), (0, .inr (.inr (some (9, 0)))), (1, .inl x1), (2, .inl x2), (3, .inl x3), (4, .inl x4)]) dX12_heirCap_100 (List.Mem.tail _ (List.Mem.tail _ (List.Mem.tail _ (List.Mem.tail _ (List.Mem.tail _ (List.Mem.head _)))))) (by decide) rfl ?_
  refine am_goto (tgt := 6) dX12_heirCap_103 (by decide) ?_
  exact am_sub [1, 2, 3, 4, 5, 0] rfl h
theorem bX12_heirCap_49 {SC : Nat → Nat} {X : mh_X} {d : Nat} {Q : Option am_V → am_W → Prop} {bc bs : Nat} {w : am_W} {x1 : Int} {x2 : Int} {x3 : Int} {x4 : Int} {x5 : Int} {xs0 : Int}
    (h : ((xs0 = 0 → am_A (mh_G X) SC (d + 1) mX12_heirCap Q 100 [(0, .inr (.inr (some (9, 0)))), (1, .inl x1), (2, .inl x2), (3, .inl x3), (4, .inl x4), (5, .inl x5)] [] w bc bs) ∧ (¬ xs0 = 0 → (0 ≤ x5 ∧ (x5 < 40 ∧ ((x2 < (w.1 100 0 x5.toNat) → am_A (mh_G X) SC (d + 1) mX12_heirCap Q 100 [(0, .inr (.inr (some (9, 0)))), (1, .inl x1), (2, .inl x2), (3, .inl x3), (4, .inl x4), (5, .inl x5)] [] w bc bs) ∧ (¬ x2 < (w.1 100 0 x5.toNat) → (0 ≤ x1 ∧ (x1 < 7 ∧ (((w.1 88 0 x1.toNat) ≤ (am_w (x2 - (w.1 100 0 x5.toNat))) → am_A (mh_G X) SC (d + 1) mX12_heirCap Q 100 [(0, .inr (.inr (some (9, 0)))), (1, .inl x1), (2, .inl x2), (3, .inl x3), (4, .inl x4), (5, .inl x5)] [] w bc bs) ∧ (¬ (w.1 88 0 x1.toNat) ≤ (am_w (x2 - (w.1 100 0 x5.toNat))) → ((x4 ≤ (w.1 89 0 x1.toNat) → am_A (mh_G X) SC (d + 1) mX12_heirCap Q 100 [(0, .inr (.inr (some (9, 0)))), (1, .inl x1), (2, .inl x2), (3, .inl x3), (4, .inl x4), (5, .inl x5)] [] w bc bs) ∧ (¬ x4 ≤ (w.1 89 0 x1.toNat) → am_A (mh_G X) SC (d + 1) mX12_heirCap Q 100 [(0, .inr (.inr (some (9, 0)))), (1, .inl x1), (2, .inl x2), (3, .inl x3), (4, .inl (w.1 89 0 x1.toNat)), (5, .inl x5)] [] w bc bs))))))))))))) :
    am_A (mh_G X) SC (d + 1) mX12_heirCap Q 49 [(0, .inr (.inr (some (9, 0)))), (1, .inl x1), (2, .inl x2), (3, .inl x3), (4, .inl x4), (5, .inl x5)] [.inl xs0] w bc bs := by
  refine am_ifeq (tgt := 100) dX12_heirCap_49 (by decide) (fun c1 => ?_) (fun c1 => ?_)
  · replace h := h.1 c1
    exact h
  · replace h := h.2 c1
    refine am_aload_n dX12_heirCap_52 (List.Mem.head _) ?_
    refine am_getf (f := 38) (v := .inr (.inr (some (100, 0)))) dX12_heirCap_53 hc_10 (by decide) wd_1587 (by decide) rfl rfl ?_
    refine am_iload dX12_heirCap_56 (List.Mem.tail _ (List.Mem.tail _ (List.Mem.tail _ (List.Mem.tail _ (List.Mem.tail _ (List.Mem.head _)))))) ?_
    have o2 := h.1
    replace h := h.2
    have o3 := h.1
    replace h := h.2
    refine am_iaload (v := (w.1 100 0 x5.toNat)) dX12_heirCap_58 (by decide) rfl o2 o3 rfl ?_
    refine am_iload_n dX12_heirCap_59 (List.Mem.tail _ (List.Mem.tail _ (List.Mem.head _))) ?_
    refine am_icmpgt (tgt := 100) dX12_heirCap_60 (by decide) (fun c4 => ?_) (fun c4 => ?_)
    · replace h := h.1 c4
      exact h
    · replace h := h.2 c4
      refine am_iload_n dX12_heirCap_63 (List.Mem.tail _ (List.Mem.tail _ (List.Mem.head _))) ?_
      refine am_aload_n dX12_heirCap_64 (List.Mem.head _) ?_
      refine am_getf (f := 38) (v := .inr (.inr (some (100, 0)))) dX12_heirCap_65 hc_10 (by decide) wd_1587 (by decide) rfl rfl ?_
      refine am_iload dX12_heirCap_68 (List.Mem.tail _ (List.Mem.tail _ (List.Mem.tail _ (List.Mem.tail _ (List.Mem.tail _ (List.Mem.head _)))))) ?_
      refine am_iaload (v := (w.1 100 0 x5.toNat)) dX12_heirCap_70 (by decide) rfl o2 o3 rfl ?_
      refine am_isub dX12_heirCap_71 ?_
      refine am_aload_n dX12_heirCap_72 (List.Mem.head _) ?_
      refine am_getf (f := 16) (v := .inr (.inr (some (88, 0)))) dX12_heirCap_73 hc_10 (by decide) wd_1565 (by decide) rfl rfl ?_
      refine am_iload_n dX12_heirCap_76 (List.Mem.tail _ (List.Mem.head _)) ?_
      have o5 := h.1
      replace h := h.2
      have o6 := h.1
      replace h := h.2
      refine am_iaload (v := (w.1 88 0 x1.toNat)) dX12_heirCap_77 (by decide) rfl o5 o6 rfl ?_
      refine am_icmpge (tgt := 100) dX12_heirCap_78 (by decide) (fun c7 => ?_) (fun c7 => ?_)
      · replace h := h.1 c7
        exact h
      · replace h := h.2 c7
        refine am_aload_n dX12_heirCap_81 (List.Mem.head _) ?_
        refine am_getf (f := 17) (v := .inr (.inr (some (89, 0)))) dX12_heirCap_82 hc_10 (by decide) wd_1566 (by decide) rfl rfl ?_
        refine am_iload_n dX12_heirCap_85 (List.Mem.tail _ (List.Mem.head _)) ?_
        refine am_iaload (v := (w.1 89 0 x1.toNat)) dX12_heirCap_86 (by decide) rfl o5 o6 rfl ?_
        refine am_iload dX12_heirCap_87 (List.Mem.tail _ (List.Mem.tail _ (List.Mem.tail _ (List.Mem.tail _ (List.Mem.head _))))) ?_
        refine am_icmpge (tgt := 100) dX12_heirCap_89 (by decide) (fun c8 => ?_) (fun c8 => ?_)
        · replace h := h.1 c8
          exact h
        · replace h := h.2 c8
          refine am_aload_n dX12_heirCap_92 (List.Mem.head _) ?_
          refine am_getf (f := 17) (v := .inr (.inr (some (89, 0)))) dX12_heirCap_93 hc_10 (by decide) wd_1566 (by decide) rfl rfl ?_
          refine am_iload_n dX12_heirCap_96 (List.Mem.tail _ (List.Mem.head _)) ?_
          refine am_iaload (v := (w.1 89 0 x1.toNat)) dX12_heirCap_97 (by decide) rfl o5 o6 rfl ?_
          refine am_istore (ls' := [(4, .inl (w.1 89 0 x1.toNat)), (0, .inr (.inr (some (9, 0)))), (1, .inl x1), (2, .inl x2), (3, .inl x3), (5, .inl x5)]) dX12_heirCap_98 (by decide) rfl ?_
          exact am_sub [1, 2, 3, 4, 0, 5] rfl h
-- MourningHouseModel.feastCap(II)I
theorem dX12_feastCap_0 : decode mX12_feastCap.2.1 0 = .ok (.iconst 4, 1) := by decide +kernel
theorem dX12_feastCap_1 : decode mX12_feastCap.2.1 1 = .ok (.istore_n 3, 1) := by decide +kernel
theorem dX12_feastCap_2 : decode mX12_feastCap.2.1 2 = .ok (.iload_n 2, 1) := by decide +kernel
theorem dX12_feastCap_3 : decode mX12_feastCap.2.1 3 = .ok (.invokestatic 313, 3) := by decide +kernel
theorem dX12_feastCap_6 : decode mX12_feastCap.2.1 6 = .ok (.sipush 10000, 3) := by decide +kernel
theorem dX12_feastCap_9 : decode mX12_feastCap.2.1 9 = .ok (.irem, 1) := by decide +kernel
theorem dX12_feastCap_10 : decode mX12_feastCap.2.1 10 = .ok (.istore 4, 2) := by decide +kernel
theorem dX12_feastCap_12 : decode mX12_feastCap.2.1 12 = .ok (.iconst 0, 1) := by decide +kernel
theorem dX12_feastCap_13 : decode mX12_feastCap.2.1 13 = .ok (.istore 5, 2) := by decide +kernel
theorem dX12_feastCap_15 : decode mX12_feastCap.2.1 15 = .ok (.iload_n 1, 1) := by decide +kernel
theorem dX12_feastCap_16 : decode mX12_feastCap.2.1 16 = .ok (.iconst (-1), 1) := by decide +kernel
theorem dX12_feastCap_17 : decode mX12_feastCap.2.1 17 = .ok (.if_icmp .eq 57, 3) := by decide +kernel
theorem dX12_feastCap_20 : decode mX12_feastCap.2.1 20 = .ok (.iload 5, 2) := by decide +kernel
theorem dX12_feastCap_22 : decode mX12_feastCap.2.1 22 = .ok (.aload_n 0, 1) := by decide +kernel
theorem dX12_feastCap_23 : decode mX12_feastCap.2.1 23 = .ok (.getfield 20, 3) := by decide +kernel
theorem dX12_feastCap_26 : decode mX12_feastCap.2.1 26 = .ok (.iload_n 1, 1) := by decide +kernel
theorem dX12_feastCap_27 : decode mX12_feastCap.2.1 27 = .ok (.iaload, 1) := by decide +kernel
theorem dX12_feastCap_28 : decode mX12_feastCap.2.1 28 = .ok (.if_icmp .ge 46, 3) := by decide +kernel
theorem dX12_feastCap_31 : decode mX12_feastCap.2.1 31 = .ok (.aload_n 0, 1) := by decide +kernel
theorem dX12_feastCap_32 : decode mX12_feastCap.2.1 32 = .ok (.getfield 45, 3) := by decide +kernel
theorem dX12_feastCap_35 : decode mX12_feastCap.2.1 35 = .ok (.iload_n 1, 1) := by decide +kernel
theorem dX12_feastCap_36 : decode mX12_feastCap.2.1 36 = .ok (.aaload, 1) := by decide +kernel
theorem dX12_feastCap_37 : decode mX12_feastCap.2.1 37 = .ok (.iload 5, 2) := by decide +kernel
theorem dX12_feastCap_39 : decode mX12_feastCap.2.1 39 = .ok (.iaload, 1) := by decide +kernel
theorem dX12_feastCap_40 : decode mX12_feastCap.2.1 40 = .ok (.iload 4, 2) := by decide +kernel
theorem dX12_feastCap_42 : decode mX12_feastCap.2.1 42 = .ok (.if_icmp .ne 26, 3) := by decide +kernel
theorem dX12_feastCap_45 : decode mX12_feastCap.2.1 45 = .ok (.aload_n 0, 1) := by decide +kernel
theorem dX12_feastCap_46 : decode mX12_feastCap.2.1 46 = .ok (.getfield 48, 3) := by decide +kernel
theorem dX12_feastCap_49 : decode mX12_feastCap.2.1 49 = .ok (.iload_n 1, 1) := by decide +kernel
theorem dX12_feastCap_50 : decode mX12_feastCap.2.1 50 = .ok (.aaload, 1) := by decide +kernel
theorem dX12_feastCap_51 : decode mX12_feastCap.2.1 51 = .ok (.iload 5, 2) := by decide +kernel
theorem dX12_feastCap_53 : decode mX12_feastCap.2.1 53 = .ok (.iaload, 1) := by decide +kernel
theorem dX12_feastCap_54 : decode mX12_feastCap.2.1 54 = .ok (.iload_n 3, 1) := by decide +kernel
theorem dX12_feastCap_55 : decode mX12_feastCap.2.1 55 = .ok (.if_icmp .ge 13, 3) := by decide +kernel
theorem dX12_feastCap_58 : decode mX12_feastCap.2.1 58 = .ok (.aload_n 0, 1) := by decide +kernel
theorem dX12_feastCap_59 : decode mX12_feastCap.2.1 59 = .ok (.getfield 48, 3) := by decide +kernel
theorem dX12_feastCap_62 : decode mX12_feastCap.2.1 62 = .ok (.iload_n 1, 1) := by decide +kernel
theorem dX12_feastCap_63 : decode mX12_feastCap.2.1 63 = .ok (.aaload, 1) := by decide +kernel
theorem dX12_feastCap_64 : decode mX12_feastCap.2.1 64 = .ok (.iload 5, 2) := by decide +kernel
theorem dX12_feastCap_66 : decode mX12_feastCap.2.1 66 = .ok (.iaload, 1) := by decide +kernel
theorem dX12_feastCap_67 : decode mX12_feastCap.2.1 67 = .ok (.istore_n 3, 1) := by decide +kernel
theorem dX12_feastCap_68 : decode mX12_feastCap.2.1 68 = .ok (.iinc 5 1, 3) := by decide +kernel
theorem dX12_feastCap_71 : decode mX12_feastCap.2.1 71 = .ok (.goto (-56), 3) := by decide +kernel
theorem dX12_feastCap_74 : decode mX12_feastCap.2.1 74 = .ok (.iload_n 3, 1) := by decide +kernel
theorem dX12_feastCap_75 : decode mX12_feastCap.2.1 75 = .ok (.ireturn, 1) := by decide +kernel
theorem bX12_feastCap_0 {SC : Nat → Nat} {X : mh_X} {d : Nat} {Q : Option am_V → am_W → Prop} {bc bs : Nat} {w : am_W} {x1 : Int} {x2 : Int}
    (h : am_M (mh_G X) SC d 0 0 mX12_dateOf [.inl x2] w (fun r w1 => am_A (mh_G X) SC (d + 1) mX12_feastCap Q 6 [(3, .inl 4), (0, .inr (.inr (some (9, 0)))), (1, .inl x1), (2, .inl x2)] (r.toList ++ []) w1 bc bs)) :
    am_A (mh_G X) SC (d + 1) mX12_feastCap Q 0 [(0, .inr (.inr (some (9, 0)))), (1, .inl x1), (2, .inl x2)] [] w bc bs := by
  refine am_iconst dX12_feastCap_0 (by unfold am_rg; omega) ?_
  refine am_istore_n (ls' := [(3, .inl 4), (0, .inr (.inr (some (9, 0)))), (1, .inl x1), (2, .inl x2)]) dX12_feastCap_1 (by decide) rfl ?_
  refine am_iload_n dX12_feastCap_2 (List.Mem.tail _ (List.Mem.tail _ (List.Mem.tail _ (List.Mem.head _)))) ?_
  exact am_calls (d' := d) (kc := 0) (ks := 0) (as := [.inl x2]) dX12_feastCap_3 wc_X12_dateOf wd_1862 wd_1863 wd_122 ds_X12_dateOf (by decide) (Nat.le_refl _) (Nat.le_of_ble_eq_true rfl) (Nat.zero_le _) (Nat.zero_le _) rfl h
theorem bX12_feastCap_6 {SC : Nat → Nat} {X : mh_X} {d : Nat} {Q : Option am_V → am_W → Prop} {bc bs : Nat} {w : am_W} {x3 : Int} {x1 : Int} {x2 : Int} {xs0 : Int}
    (h : am_A (mh_G X) SC (d + 1) mX12_feastCap Q 15 [(0, .inr (.inr (some (9, 0)))), (1, .inl x1), (3, .inl x3), (4, .inl (am_w (Int.tmod xs0 10000))), (5, .inl 0)] [] w bc bs) :
    am_A (mh_G X) SC (d + 1) mX12_feastCap Q 6 [(3, .inl x3), (0, .inr (.inr (some (9, 0)))), (1, .inl x1), (2, .inl x2)] [.inl xs0] w bc bs := by
  refine am_sipush dX12_feastCap_6 (by decide) (by unfold am_rg; omega) ?_
  refine am_irem dX12_feastCap_9 (by decide) ?_
  refine am_istore (ls' := [(4, .inl (am_w (Int.tmod xs0 10000))), (3, .inl x3), (0, .inr (.inr (some (9, 0)))), (1, .inl x1), (2, .inl x2)]) dX12_feastCap_10 (by decide) rfl ?_
  refine am_iconst dX12_feastCap_12 (by unfold am_rg; omega) ?_
  refine am_istore (ls' := [(5, .inl 0), (4, .inl (am_w (Int.tmod xs0 10000))), (3, .inl x3), (0, .inr (.inr (some (9, 0)))), (1, .inl x1), (2, .inl x2)]) dX12_feastCap_13 (by decide) rfl ?_
  exact am_sub [3, 4, 2, 1, 0] rfl h
theorem bX12_feastCap_15 {SC : Nat → Nat} {X : mh_X} {d : Nat} {Q : Option am_V → am_W → Prop} {bc bs : Nat} {w : am_W} {x1 : Int} {x3 : Int} {x4 : Int} {x5 : Int}
    (h : ((x1 = (-1) → Q (some (.inl x3)) w) ∧ (¬ x1 = (-1) → (0 ≤ x1 ∧ (x1 < 7 ∧ (((w.1 69 0 x1.toNat) ≤ x5 → Q (some (.inl x3)) w) ∧ (¬ (w.1 69 0 x1.toNat) ≤ x5 → (0 ≤ x5 ∧ (x5 < 8 ∧ ((¬ (w.1 85 x1.toNat x5.toNat) = x4 → am_A (mh_G X) SC (d + 1) mX12_feastCap Q 68 [(0, .inr (.inr (some (9, 0)))), (1, .inl x1), (3, .inl x3), (4, .inl x4), (5, .inl x5)] [] w bc bs) ∧ ((w.1 85 x1.toNat x5.toNat) = x4 → ((x3 ≤ (w.1 87 x1.toNat x5.toNat) → am_A (mh_G X) SC (d + 1) mX12_feastCap Q 68 [(0, .inr (.inr (some (9, 0)))), (1, .inl x1), (3, .inl x3), (4, .inl x4), (5, .inl x5)] [] w bc bs) ∧ (¬ x3 ≤ (w.1 87 x1.toNat x5.toNat) → am_A (mh_G X) SC (d + 1) mX12_feastCap Q 68 [(0, .inr (.inr (some (9, 0)))), (1, .inl x1), (3, .inl (w.1 87 x1.toNat x5.toNat)), (4, .inl x4), (5, .inl x5)] [] w bc bs))))))))))))) :
    am_A (mh_G X) SC (d + 1) mX12_feastCap Q 15 [(0, .inr (.inr (some (9, 0)))), (1, .inl x1), (3, .inl x3), (4, .inl x4), (5, .inl x5)] [] w bc bs := by
  refine am_iload_n dX12_feastCap_15 (List.Mem.tail _ (List.Mem.head _)) ?_
  refine am_iconst dX12_feastCap_16 (by unfold am_rg; omega) ?_
  refine am_icmpeq (tgt := 74) dX12_feastCap_17 (by decide) (fun c1 => ?_) (fun c1 => ?_)
  · replace h := h.1 c1
    refine am_iload_n dX12_feastCap_74 (List.Mem.tail _ (List.Mem.tail _ (List.Mem.head _))) ?_
    exact am_ret (r := some (.inl x3)) dX12_feastCap_75 (Or.inl rfl) rfl h
  · replace h := h.2 c1
    refine am_iload dX12_feastCap_20 (List.Mem.tail _ (List.Mem.tail _ (List.Mem.tail _ (List.Mem.tail _ (List.Mem.head _))))) ?_
    refine am_aload_n dX12_feastCap_22 (List.Mem.head _) ?_
    refine am_getf (f := 7) (v := .inr (.inr (some (69, 0)))) dX12_feastCap_23 hc_10 (by decide) wd_1556 (by decide) rfl rfl ?_
    refine am_iload_n dX12_feastCap_26 (List.Mem.tail _ (List.Mem.head _)) ?_
    have o2 := h.1
    replace h := h.2
    have o3 := h.1
    replace h := h.2
    refine am_iaload (v := (w.1 69 0 x1.toNat)) dX12_feastCap_27 (by decide) rfl o2 o3 rfl ?_
    refine am_icmpge (tgt := 74) dX12_feastCap_28 (by decide) (fun c4 => ?_) (fun c4 => ?_)
    · replace h := h.1 c4
      refine am_iload_n dX12_feastCap_74 (List.Mem.tail _ (List.Mem.tail _ (List.Mem.head _))) ?_
      exact am_ret (r := some (.inl x3)) dX12_feastCap_75 (Or.inl rfl) rfl h
    · replace h := h.2 c4
      refine am_aload_n dX12_feastCap_31 (List.Mem.head _) ?_
      refine am_getf (f := 14) (v := .inr (.inr (some (84, 0)))) dX12_feastCap_32 hc_10 (by decide) wd_1563 (by decide) rfl rfl ?_
      refine am_iload_n dX12_feastCap_35 (List.Mem.tail _ (List.Mem.head _)) ?_
      refine am_aaload (kd := 5) (r := some (85, x1.toNat)) dX12_feastCap_36 (by decide) rfl (by decide) (by decide) o2 o3 rfl ?_
      refine am_iload dX12_feastCap_37 (List.Mem.tail _ (List.Mem.tail _ (List.Mem.tail _ (List.Mem.tail _ (List.Mem.head _))))) ?_
      have o5 := h.1
      replace h := h.2
      have o6 := h.1
      replace h := h.2
      refine am_iaload (v := (w.1 85 x1.toNat x5.toNat)) dX12_feastCap_39 (by decide) rfl o5 o6 rfl ?_
      refine am_iload dX12_feastCap_40 (List.Mem.tail _ (List.Mem.tail _ (List.Mem.tail _ (List.Mem.head _)))) ?_
      refine am_icmpne (tgt := 68) dX12_feastCap_42 (by decide) (fun c7 => ?_) (fun c7 => ?_)
      · replace h := h.1 c7
        exact h
      · replace h := h.2 c7
        refine am_aload_n dX12_feastCap_45 (List.Mem.head _) ?_
        refine am_getf (f := 15) (v := .inr (.inr (some (86, 0)))) dX12_feastCap_46 hc_10 (by decide) wd_1564 (by decide) rfl rfl ?_
        refine am_iload_n dX12_feastCap_49 (List.Mem.tail _ (List.Mem.head _)) ?_
        refine am_aaload (kd := 5) (r := some (87, x1.toNat)) dX12_feastCap_50 (by decide) rfl (by decide) (by decide) o2 o3 rfl ?_
        refine am_iload dX12_feastCap_51 (List.Mem.tail _ (List.Mem.tail _ (List.Mem.tail _ (List.Mem.tail _ (List.Mem.head _))))) ?_
        refine am_iaload (v := (w.1 87 x1.toNat x5.toNat)) dX12_feastCap_53 (by decide) rfl o5 o6 rfl ?_
        refine am_iload_n dX12_feastCap_54 (List.Mem.tail _ (List.Mem.tail _ (List.Mem.head _))) ?_
        refine am_icmpge (tgt := 68) dX12_feastCap_55 (by decide) (fun c8 => ?_) (fun c8 => ?_)
        · replace h := h.1 c8
          exact h
        · replace h := h.2 c8
          refine am_aload_n dX12_feastCap_58 (List.Mem.head _) ?_
          refine am_getf (f := 15) (v := .inr (.inr (some (86, 0)))) dX12_feastCap_59 hc_10 (by decide) wd_1564 (by decide) rfl rfl ?_
          refine am_iload_n dX12_feastCap_62 (List.Mem.tail _ (List.Mem.head _)) ?_
          refine am_aaload (kd := 5) (r := some (87, x1.toNat)) dX12_feastCap_63 (by decide) rfl (by decide) (by decide) o2 o3 rfl ?_
          refine am_iload dX12_feastCap_64 (List.Mem.tail _ (List.Mem.tail _ (List.Mem.tail _ (List.Mem.tail _ (List.Mem.head _))))) ?_
          refine am_iaload (v := (w.1 87 x1.toNat x5.toNat)) dX12_feastCap_66 (by decide) rfl o5 o6 rfl ?_
          refine am_istore_n (ls' := [(3, .inl (w.1 87 x1.toNat x5.toNat)), (0, .inr (.inr (some (9, 0)))), (1, .inl x1), (4, .inl x4), (5, .inl x5)]) dX12_feastCap_67 (by decide) rfl ?_
          exact am_sub [1, 2, 0, 3, 4] rfl h
theorem bX12_feastCap_68 {SC : Nat → Nat} {X : mh_X} {d : Nat} {Q : Option am_V → am_W → Prop} {bc bs : Nat} {w : am_W} {x1 : Int} {x3 : Int} {x4 : Int} {x5 : Int}
    (h : am_A (mh_G X) SC (d + 1) mX12_feastCap Q 15 [(0, .inr (.inr (some (9, 0)))), (1, .inl x1), (3, .inl x3), (4, .inl x4), (5, .inl (am_w (x5 + 1)))] [] w bc bs) :
    am_A (mh_G X) SC (d + 1) mX12_feastCap Q 68 [(0, .inr (.inr (some (9, 0)))), (1, .inl x1), (3, .inl x3), (4, .inl x4), (5, .inl x5)] [] w bc bs := by
  refine am_iinc (ls' := [(5, .inl (am_w (x5 + 1))), (0, .inr (.inr (some (9, 0)))), (1, .inl x1), (3, .inl x3), (4, .inl x4)]) dX12_feastCap_68 (List.Mem.tail _ (List.Mem.tail _ (List.Mem.tail _ (List.Mem.tail _ (List.Mem.head _))))) (by decide) rfl ?_
  refine am_goto (tgt := 15) dX12_feastCap_71 (by decide) ?_
  exact am_sub [1, 2, 3, 4, 0] rfl h
-- MourningHouseModel.depthNow(I)I
theorem dX12_depthNow_0 : decode mX12_depthNow.2.1 0 = .ok (.aload_n 0, 1) := by decide +kernel
theorem dX12_depthNow_1 : decode mX12_depthNow.2.1 1 = .ok (.iload_n 1, 1) := by decide +kernel
theorem dX12_depthNow_2 : decode mX12_depthNow.2.1 2 = .ok (.aload_n 0, 1) := by decide +kernel
theorem dX12_depthNow_3 : decode mX12_depthNow.2.1 3 = .ok (.getfield 505, 3) := by decide +kernel
theorem dX12_depthNow_6 : decode mX12_depthNow.2.1 6 = .ok (.invokevirtual 487, 3) := by decide +kernel
theorem dX12_depthNow_9 : decode mX12_depthNow.2.1 9 = .ok (.istore_n 2, 1) := by decide +kernel
theorem dX12_depthNow_10 : decode mX12_depthNow.2.1 10 = .ok (.aload_n 0, 1) := by decide +kernel
theorem dX12_depthNow_11 : decode mX12_depthNow.2.1 11 = .ok (.iload_n 2, 1) := by decide +kernel
theorem dX12_depthNow_12 : decode mX12_depthNow.2.1 12 = .ok (.iload_n 1, 1) := by decide +kernel
theorem dX12_depthNow_13 : decode mX12_depthNow.2.1 13 = .ok (.invokevirtual 534, 3) := by decide +kernel
theorem dX12_depthNow_16 : decode mX12_depthNow.2.1 16 = .ok (.aload_n 0, 1) := by decide +kernel
theorem dX12_depthNow_17 : decode mX12_depthNow.2.1 17 = .ok (.iload_n 2, 1) := by decide +kernel
theorem dX12_depthNow_18 : decode mX12_depthNow.2.1 18 = .ok (.iload_n 1, 1) := by decide +kernel
theorem dX12_depthNow_19 : decode mX12_depthNow.2.1 19 = .ok (.aload_n 0, 1) := by decide +kernel
theorem dX12_depthNow_20 : decode mX12_depthNow.2.1 20 = .ok (.getfield 505, 3) := by decide +kernel
theorem dX12_depthNow_23 : decode mX12_depthNow.2.1 23 = .ok (.invokevirtual 537, 3) := by decide +kernel
theorem dX12_depthNow_26 : decode mX12_depthNow.2.1 26 = .ok (.invokestatic 540, 3) := by decide +kernel
theorem dX12_depthNow_29 : decode mX12_depthNow.2.1 29 = .ok (.istore_n 3, 1) := by decide +kernel
theorem dX12_depthNow_30 : decode mX12_depthNow.2.1 30 = .ok (.iconst 0, 1) := by decide +kernel
theorem dX12_depthNow_31 : decode mX12_depthNow.2.1 31 = .ok (.istore 4, 2) := by decide +kernel
theorem dX12_depthNow_33 : decode mX12_depthNow.2.1 33 = .ok (.iconst 0, 1) := by decide +kernel
theorem dX12_depthNow_34 : decode mX12_depthNow.2.1 34 = .ok (.istore 5, 2) := by decide +kernel
theorem dX12_depthNow_36 : decode mX12_depthNow.2.1 36 = .ok (.iload 5, 2) := by decide +kernel
theorem dX12_depthNow_38 : decode mX12_depthNow.2.1 38 = .ok (.aload_n 0, 1) := by decide +kernel
theorem dX12_depthNow_39 : decode mX12_depthNow.2.1 39 = .ok (.getfield 496, 3) := by decide +kernel
theorem dX12_depthNow_42 : decode mX12_depthNow.2.1 42 = .ok (.if_icmp .ge 73, 3) := by decide +kernel
theorem dX12_depthNow_45 : decode mX12_depthNow.2.1 45 = .ok (.aload_n 0, 1) := by decide +kernel
theorem dX12_depthNow_46 : decode mX12_depthNow.2.1 46 = .ok (.getfield 31, 3) := by decide +kernel
theorem dX12_depthNow_49 : decode mX12_depthNow.2.1 49 = .ok (.aload_n 0, 1) := by decide +kernel
theorem dX12_depthNow_50 : decode mX12_depthNow.2.1 50 = .ok (.getfield 216, 3) := by decide +kernel
theorem dX12_depthNow_53 : decode mX12_depthNow.2.1 53 = .ok (.iload 5, 2) := by decide +kernel
theorem dX12_depthNow_55 : decode mX12_depthNow.2.1 55 = .ok (.iaload, 1) := by decide +kernel
theorem dX12_depthNow_56 : decode mX12_depthNow.2.1 56 = .ok (.aaload, 1) := by decide +kernel
theorem dX12_depthNow_57 : decode mX12_depthNow.2.1 57 = .ok (.aload_n 0, 1) := by decide +kernel
theorem dX12_depthNow_58 : decode mX12_depthNow.2.1 58 = .ok (.getfield 213, 3) := by decide +kernel
theorem dX12_depthNow_61 : decode mX12_depthNow.2.1 61 = .ok (.iload 5, 2) := by decide +kernel
theorem dX12_depthNow_63 : decode mX12_depthNow.2.1 63 = .ok (.iaload, 1) := by decide +kernel
theorem dX12_depthNow_64 : decode mX12_depthNow.2.1 64 = .ok (.iaload, 1) := by decide +kernel
theorem dX12_depthNow_65 : decode mX12_depthNow.2.1 65 = .ok (.iconst 4, 1) := by decide +kernel
theorem dX12_depthNow_66 : decode mX12_depthNow.2.1 66 = .ok (.iand, 1) := by decide +kernel
theorem dX12_depthNow_67 : decode mX12_depthNow.2.1 67 = .ok (.ifCond .eq 7, 3) := by decide +kernel
theorem dX12_depthNow_70 : decode mX12_depthNow.2.1 70 = .ok (.iconst 1, 1) := by decide +kernel
theorem dX12_depthNow_71 : decode mX12_depthNow.2.1 71 = .ok (.goto 4, 3) := by decide +kernel
theorem dX12_depthNow_74 : decode mX12_depthNow.2.1 74 = .ok (.iconst 0, 1) := by decide +kernel
theorem dX12_depthNow_75 : decode mX12_depthNow.2.1 75 = .ok (.istore 6, 2) := by decide +kernel
theorem dX12_depthNow_77 : decode mX12_depthNow.2.1 77 = .ok (.aload_n 0, 1) := by decide +kernel
theorem dX12_depthNow_78 : decode mX12_depthNow.2.1 78 = .ok (.iload 5, 2) := by decide +kernel
theorem dX12_depthNow_80 : decode mX12_depthNow.2.1 80 = .ok (.iload_n 1, 1) := by decide +kernel
theorem dX12_depthNow_81 : decode mX12_depthNow.2.1 81 = .ok (.invokevirtual 519, 3) := by decide +kernel
theorem dX12_depthNow_84 : decode mX12_depthNow.2.1 84 = .ok (.istore 7, 2) := by decide +kernel
theorem dX12_depthNow_86 : decode mX12_depthNow.2.1 86 = .ok (.iload 4, 2) := by decide +kernel
theorem dX12_depthNow_88 : decode mX12_depthNow.2.1 88 = .ok (.iload 6, 2) := by decide +kernel
theorem dX12_depthNow_90 : decode mX12_depthNow.2.1 90 = .ok (.ifCond .eq 8, 3) := by decide +kernel
theorem dX12_depthNow_93 : decode mX12_depthNow.2.1 93 = .ok (.iload 7, 2) := by decide +kernel
theorem dX12_depthNow_95 : decode mX12_depthNow.2.1 95 = .ok (.goto 9, 3) := by decide +kernel
theorem dX12_depthNow_98 : decode mX12_depthNow.2.1 98 = .ok (.iload 7, 2) := by decide +kernel
theorem dX12_depthNow_100 : decode mX12_depthNow.2.1 100 = .ok (.iload_n 3, 1) := by decide +kernel
theorem dX12_depthNow_101 : decode mX12_depthNow.2.1 101 = .ok (.invokestatic 540, 3) := by decide +kernel
theorem dX12_depthNow_104 : decode mX12_depthNow.2.1 104 = .ok (.invokestatic 545, 3) := by decide +kernel
theorem dX12_depthNow_107 : decode mX12_depthNow.2.1 107 = .ok (.istore 4, 2) := by decide +kernel
theorem dX12_depthNow_109 : decode mX12_depthNow.2.1 109 = .ok (.iinc 5 1, 3) := by decide +kernel
theorem dX12_depthNow_112 : decode mX12_depthNow.2.1 112 = .ok (.goto (-76), 3) := by decide +kernel
theorem dX12_depthNow_115 : decode mX12_depthNow.2.1 115 = .ok (.iconst 0, 1) := by decide +kernel
theorem dX12_depthNow_116 : decode mX12_depthNow.2.1 116 = .ok (.istore 5, 2) := by decide +kernel
theorem dX12_depthNow_118 : decode mX12_depthNow.2.1 118 = .ok (.iload 5, 2) := by decide +kernel
theorem dX12_depthNow_120 : decode mX12_depthNow.2.1 120 = .ok (.aload_n 0, 1) := by decide +kernel
theorem dX12_depthNow_121 : decode mX12_depthNow.2.1 121 = .ok (.getfield 459, 3) := by decide +kernel
theorem dX12_depthNow_124 : decode mX12_depthNow.2.1 124 = .ok (.if_icmp .ge 67, 3) := by decide +kernel
theorem dX12_depthNow_127 : decode mX12_depthNow.2.1 127 = .ok (.aload_n 0, 1) := by decide +kernel
theorem dX12_depthNow_128 : decode mX12_depthNow.2.1 128 = .ok (.getfield 194, 3) := by decide +kernel
theorem dX12_depthNow_131 : decode mX12_depthNow.2.1 131 = .ok (.iload 5, 2) := by decide +kernel
theorem dX12_depthNow_133 : decode mX12_depthNow.2.1 133 = .ok (.iaload, 1) := by decide +kernel
theorem dX12_depthNow_134 : decode mX12_depthNow.2.1 134 = .ok (.aload_n 0, 1) := by decide +kernel
theorem dX12_depthNow_135 : decode mX12_depthNow.2.1 135 = .ok (.getfield 505, 3) := by decide +kernel
theorem dX12_depthNow_138 : decode mX12_depthNow.2.1 138 = .ok (.if_icmp .gt 47, 3) := by decide +kernel
theorem dX12_depthNow_141 : decode mX12_depthNow.2.1 141 = .ok (.iload_n 1, 1) := by decide +kernel
theorem dX12_depthNow_142 : decode mX12_depthNow.2.1 142 = .ok (.aload_n 0, 1) := by decide +kernel
theorem dX12_depthNow_143 : decode mX12_depthNow.2.1 143 = .ok (.getfield 185, 3) := by decide +kernel
theorem dX12_depthNow_146 : decode mX12_depthNow.2.1 146 = .ok (.iload 5, 2) := by decide +kernel
theorem dX12_depthNow_148 : decode mX12_depthNow.2.1 148 = .ok (.iaload, 1) := by decide +kernel
theorem dX12_depthNow_149 : decode mX12_depthNow.2.1 149 = .ok (.if_icmp .lt 36, 3) := by decide +kernel
theorem dX12_depthNow_152 : decode mX12_depthNow.2.1 152 = .ok (.iload_n 1, 1) := by decide +kernel
theorem dX12_depthNow_153 : decode mX12_depthNow.2.1 153 = .ok (.aload_n 0, 1) := by decide +kernel
theorem dX12_depthNow_154 : decode mX12_depthNow.2.1 154 = .ok (.getfield 185, 3) := by decide +kernel
theorem dX12_depthNow_157 : decode mX12_depthNow.2.1 157 = .ok (.iload 5, 2) := by decide +kernel
theorem dX12_depthNow_159 : decode mX12_depthNow.2.1 159 = .ok (.iaload, 1) := by decide +kernel
theorem dX12_depthNow_160 : decode mX12_depthNow.2.1 160 = .ok (.isub, 1) := by decide +kernel
theorem dX12_depthNow_161 : decode mX12_depthNow.2.1 161 = .ok (.aload_n 0, 1) := by decide +kernel
theorem dX12_depthNow_162 : decode mX12_depthNow.2.1 162 = .ok (.getfield 188, 3) := by decide +kernel
theorem dX12_depthNow_165 : decode mX12_depthNow.2.1 165 = .ok (.iload 5, 2) := by decide +kernel
theorem dX12_depthNow_167 : decode mX12_depthNow.2.1 167 = .ok (.iaload, 1) := by decide +kernel
theorem dX12_depthNow_168 : decode mX12_depthNow.2.1 168 = .ok (.if_icmp .ge 17, 3) := by decide +kernel
theorem dX12_depthNow_171 : decode mX12_depthNow.2.1 171 = .ok (.iload 4, 2) := by decide +kernel
theorem dX12_depthNow_173 : decode mX12_depthNow.2.1 173 = .ok (.aload_n 0, 1) := by decide +kernel
theorem dX12_depthNow_174 : decode mX12_depthNow.2.1 174 = .ok (.getfield 191, 3) := by decide +kernel
theorem dX12_depthNow_177 : decode mX12_depthNow.2.1 177 = .ok (.iload 5, 2) := by decide +kernel
theorem dX12_depthNow_179 : decode mX12_depthNow.2.1 179 = .ok (.iaload, 1) := by decide +kernel
theorem dX12_depthNow_180 : decode mX12_depthNow.2.1 180 = .ok (.invokestatic 545, 3) := by decide +kernel
theorem dX12_depthNow_183 : decode mX12_depthNow.2.1 183 = .ok (.istore 4, 2) := by decide +kernel
theorem dX12_depthNow_185 : decode mX12_depthNow.2.1 185 = .ok (.iinc 5 1, 3) := by decide +kernel
theorem dX12_depthNow_188 : decode mX12_depthNow.2.1 188 = .ok (.goto (-70), 3) := by decide +kernel
theorem dX12_depthNow_191 : decode mX12_depthNow.2.1 191 = .ok (.iload_n 2, 1) := by decide +kernel
theorem dX12_depthNow_192 : decode mX12_depthNow.2.1 192 = .ok (.iconst (-1), 1) := by decide +kernel
theorem dX12_depthNow_193 : decode mX12_depthNow.2.1 193 = .ok (.if_icmp .eq 50, 3) := by decide +kernel
theorem dX12_depthNow_196 : decode mX12_depthNow.2.1 196 = .ok (.aload_n 0, 1) := by decide +kernel
theorem dX12_depthNow_197 : decode mX12_depthNow.2.1 197 = .ok (.getfield 57, 3) := by decide +kernel
theorem dX12_depthNow_200 : decode mX12_depthNow.2.1 200 = .ok (.iload_n 2, 1) := by decide +kernel
theorem dX12_depthNow_201 : decode mX12_depthNow.2.1 201 = .ok (.iaload, 1) := by decide +kernel
theorem dX12_depthNow_202 : decode mX12_depthNow.2.1 202 = .ok (.ifCond .le 41, 3) := by decide +kernel
theorem dX12_depthNow_205 : decode mX12_depthNow.2.1 205 = .ok (.aload_n 0, 1) := by decide +kernel
theorem dX12_depthNow_206 : decode mX12_depthNow.2.1 206 = .ok (.getfield 161, 3) := by decide +kernel
theorem dX12_depthNow_209 : decode mX12_depthNow.2.1 209 = .ok (.aload_n 0, 1) := by decide +kernel
theorem dX12_depthNow_210 : decode mX12_depthNow.2.1 210 = .ok (.getfield 502, 3) := by decide +kernel
theorem dX12_depthNow_213 : decode mX12_depthNow.2.1 213 = .ok (.iaload, 1) := by decide +kernel
theorem dX12_depthNow_214 : decode mX12_depthNow.2.1 214 = .ok (.bipush 12, 2) := by decide +kernel
theorem dX12_depthNow_216 : decode mX12_depthNow.2.1 216 = .ok (.aload_n 0, 1) := by decide +kernel
theorem dX12_depthNow_217 : decode mX12_depthNow.2.1 217 = .ok (.getfield 57, 3) := by decide +kernel
theorem dX12_depthNow_220 : decode mX12_depthNow.2.1 220 = .ok (.iload_n 2, 1) := by decide +kernel
theorem dX12_depthNow_221 : decode mX12_depthNow.2.1 221 = .ok (.iaload, 1) := by decide +kernel
theorem dX12_depthNow_222 : decode mX12_depthNow.2.1 222 = .ok (.imul, 1) := by decide +kernel
theorem dX12_depthNow_223 : decode mX12_depthNow.2.1 223 = .ok (.invokestatic 326, 3) := by decide +kernel
theorem dX12_depthNow_226 : decode mX12_depthNow.2.1 226 = .ok (.iload_n 1, 1) := by decide +kernel
theorem dX12_depthNow_227 : decode mX12_depthNow.2.1 227 = .ok (.if_icmp .le 16, 3) := by decide +kernel
theorem dX12_depthNow_230 : decode mX12_depthNow.2.1 230 = .ok (.iload 4, 2) := by decide +kernel
theorem dX12_depthNow_232 : decode mX12_depthNow.2.1 232 = .ok (.aload_n 0, 1) := by decide +kernel
theorem dX12_depthNow_233 : decode mX12_depthNow.2.1 233 = .ok (.getfield 60, 3) := by decide +kernel
theorem dX12_depthNow_236 : decode mX12_depthNow.2.1 236 = .ok (.iload_n 2, 1) := by decide +kernel
theorem dX12_depthNow_237 : decode mX12_depthNow.2.1 237 = .ok (.iaload, 1) := by decide +kernel
theorem dX12_depthNow_238 : decode mX12_depthNow.2.1 238 = .ok (.invokestatic 540, 3) := by decide +kernel
theorem dX12_depthNow_241 : decode mX12_depthNow.2.1 241 = .ok (.istore 4, 2) := by decide +kernel
theorem dX12_depthNow_243 : decode mX12_depthNow.2.1 243 = .ok (.iload 4, 2) := by decide +kernel
theorem dX12_depthNow_245 : decode mX12_depthNow.2.1 245 = .ok (.ireturn, 1) := by decide +kernel
theorem bX12_depthNow_0 {SC : Nat → Nat} {X : mh_X} {d : Nat} {Q : Option am_V → am_W → Prop} {bc bs : Nat} {w : am_W} {x1 : Int}
    (h : am_M (mh_G X) SC d 0 0 mX12_lawOf [.inr (.inr (some (9, 0))), .inl x1, .inl (w.1 9 0 64)] w (fun r w1 => am_A (mh_G X) SC (d + 1) mX12_depthNow Q 9 [(0, .inr (.inr (some (9, 0)))), (1, .inl x1)] (r.toList ++ []) w1 bc bs)) :
    am_A (mh_G X) SC (d + 1) mX12_depthNow Q 0 [(0, .inr (.inr (some (9, 0)))), (1, .inl x1)] [] w bc bs := by
  refine am_aload_n dX12_depthNow_0 (List.Mem.head _) ?_
  refine am_iload_n dX12_depthNow_1 (List.Mem.tail _ (List.Mem.head _)) ?_
  refine am_aload_n dX12_depthNow_2 (List.Mem.head _) ?_
  refine am_getf (f := 64) (v := .inl (w.1 9 0 64)) dX12_depthNow_3 hc_10 (by decide) wd_1613 (by decide) rfl rfl ?_
  exact am_callv (d' := d) (kc := 0) (ks := 0) (as := [.inl x1, .inl (w.1 9 0 64)]) dX12_depthNow_6 wc_X12_lawOf wd_2077 wd_2079 wd_82 wd_122 ds_X12_lawOf (by decide) (Nat.le_refl _) (Nat.le_of_ble_eq_true rfl) (Nat.zero_le _) (Nat.zero_le _) hc_10 (by decide) rfl rfl h
theorem bX12_depthNow_9 {SC : Nat → Nat} {X : mh_X} {d : Nat} {Q : Option am_V → am_W → Prop} {bc bs : Nat} {w : am_W} {x1 : Int} {xs0 : Int}
    (h : am_M (mh_G X) SC d 0 0 mX12_feastCap [.inr (.inr (some (9, 0))), .inl xs0, .inl x1] w (fun r w1 => am_A (mh_G X) SC (d + 1) mX12_depthNow Q 16 [(2, .inl xs0), (0, .inr (.inr (some (9, 0)))), (1, .inl x1)] (r.toList ++ []) w1 bc bs)) :
    am_A (mh_G X) SC (d + 1) mX12_depthNow Q 9 [(0, .inr (.inr (some (9, 0)))), (1, .inl x1)] [.inl xs0] w bc bs := by
  refine am_istore_n (ls' := [(2, .inl xs0), (0, .inr (.inr (some (9, 0)))), (1, .inl x1)]) dX12_depthNow_9 (by decide) rfl ?_
  refine am_aload_n dX12_depthNow_10 (List.Mem.tail _ (List.Mem.head _)) ?_
  refine am_iload_n dX12_depthNow_11 (List.Mem.head _) ?_
  refine am_iload_n dX12_depthNow_12 (List.Mem.tail _ (List.Mem.tail _ (List.Mem.head _))) ?_
  exact am_callv (d' := d) (kc := 0) (ks := 0) (as := [.inl xs0, .inl x1]) dX12_depthNow_13 wc_X12_feastCap wd_2129 wd_2131 wd_93 wd_122 ds_X12_feastCap (by decide) (Nat.le_refl _) (Nat.le_of_ble_eq_true rfl) (Nat.zero_le _) (Nat.zero_le _) hc_10 (by decide) rfl rfl h
theorem bX12_depthNow_16 {SC : Nat → Nat} {X : mh_X} {d : Nat} {Q : Option am_V → am_W → Prop} {bc bs : Nat} {w : am_W} {x2 : Int} {x1 : Int} {xs0 : Int}
    (h : am_M (mh_G X) SC d 0 0 mX12_heirCap [.inr (.inr (some (9, 0))), .inl x2, .inl x1, .inl (w.1 9 0 64)] w (fun r w1 => am_A (mh_G X) SC (d + 1) mX12_depthNow Q 26 [(2, .inl x2), (0, .inr (.inr (some (9, 0)))), (1, .inl x1)] (r.toList ++ [.inl xs0]) w1 bc bs)) :
    am_A (mh_G X) SC (d + 1) mX12_depthNow Q 16 [(2, .inl x2), (0, .inr (.inr (some (9, 0)))), (1, .inl x1)] [.inl xs0] w bc bs := by
  refine am_aload_n dX12_depthNow_16 (List.Mem.tail _ (List.Mem.head _)) ?_
  refine am_iload_n dX12_depthNow_17 (List.Mem.head _) ?_
  refine am_iload_n dX12_depthNow_18 (List.Mem.tail _ (List.Mem.tail _ (List.Mem.head _))) ?_
  refine am_aload_n dX12_depthNow_19 (List.Mem.tail _ (List.Mem.head _)) ?_
  refine am_getf (f := 64) (v := .inl (w.1 9 0 64)) dX12_depthNow_20 hc_10 (by decide) wd_1613 (by decide) rfl rfl ?_
  exact am_callv (d' := d) (kc := 0) (ks := 0) (as := [.inl x2, .inl x1, .inl (w.1 9 0 64)]) dX12_depthNow_23 wc_X12_heirCap wd_2133 wd_2135 wd_94 wd_122 ds_X12_heirCap (by decide) (Nat.le_refl _) (Nat.le_of_ble_eq_true rfl) (Nat.zero_le _) (Nat.zero_le _) hc_10 (by decide) rfl rfl h
theorem bX12_depthNow_26 {SC : Nat → Nat} {X : mh_X} {d : Nat} {Q : Option am_V → am_W → Prop} {bc bs : Nat} {w : am_W} {x2 : Int} {x1 : Int} {xs0 : Int} {xs1 : Int}
    (h : am_M (mh_G X) SC d 0 0 mJ9_min_7cf53 [.inl xs1, .inl xs0] w (fun r w1 => am_A (mh_G X) SC (d + 1) mX12_depthNow Q 29 [(2, .inl x2), (0, .inr (.inr (some (9, 0)))), (1, .inl x1)] (r.toList ++ []) w1 bc bs)) :
    am_A (mh_G X) SC (d + 1) mX12_depthNow Q 26 [(2, .inl x2), (0, .inr (.inr (some (9, 0)))), (1, .inl x1)] [.inl xs0, .inl xs1] w bc bs := by
  exact am_calls (d' := d) (kc := 0) (ks := 0) (as := [.inl xs1, .inl xs0]) dX12_depthNow_26 wc_J9_min_7cf53 wd_2137 wd_782 wd_128 ds_J9_min_7cf53 (by decide) (Nat.le_refl _) (Nat.le_of_ble_eq_true rfl) (Nat.zero_le _) (Nat.zero_le _) rfl h
theorem bX12_depthNow_29 {SC : Nat → Nat} {X : mh_X} {d : Nat} {Q : Option am_V → am_W → Prop} {bc bs : Nat} {w : am_W} {x2 : Int} {x1 : Int} {xs0 : Int}
    (h : am_A (mh_G X) SC (d + 1) mX12_depthNow Q 36 [(0, .inr (.inr (some (9, 0)))), (1, .inl x1), (2, .inl x2), (3, .inl xs0), (4, .inl 0), (5, .inl 0)] [] w bc bs) :
    am_A (mh_G X) SC (d + 1) mX12_depthNow Q 29 [(2, .inl x2), (0, .inr (.inr (some (9, 0)))), (1, .inl x1)] [.inl xs0] w bc bs := by
  refine am_istore_n (ls' := [(3, .inl xs0), (2, .inl x2), (0, .inr (.inr (some (9, 0)))), (1, .inl x1)]) dX12_depthNow_29 (by decide) rfl ?_
  refine am_iconst dX12_depthNow_30 (by unfold am_rg; omega) ?_
  refine am_istore (ls' := [(4, .inl 0), (3, .inl xs0), (2, .inl x2), (0, .inr (.inr (some (9, 0)))), (1, .inl x1)]) dX12_depthNow_31 (by decide) rfl ?_
  refine am_iconst dX12_depthNow_33 (by unfold am_rg; omega) ?_
  refine am_istore (ls' := [(5, .inl 0), (4, .inl 0), (3, .inl xs0), (2, .inl x2), (0, .inr (.inr (some (9, 0)))), (1, .inl x1)]) dX12_depthNow_34 (by decide) rfl ?_
  exact am_sub [4, 5, 3, 2, 1, 0] rfl h
theorem bX12_depthNow_36 {SC : Nat → Nat} {X : mh_X} {d : Nat} {Q : Option am_V → am_W → Prop} {bc bs : Nat} {w : am_W} {x1 : Int} {x2 : Int} {x3 : Int} {x4 : Int} {x5 : Int}
    (h : (((w.1 9 0 62) ≤ x5 → am_A (mh_G X) SC (d + 1) mX12_depthNow Q 118 [(0, .inr (.inr (some (9, 0)))), (1, .inl x1), (2, .inl x2), (4, .inl x4), (5, .inl 0)] [] w bc bs) ∧ (¬ (w.1 9 0 62) ≤ x5 → (0 ≤ x5 ∧ (x5 < 40 ∧ (0 ≤ (w.1 118 0 x5.toNat) ∧ ((w.1 118 0 x5.toNat) < 7 ∧ (0 ≤ (w.1 117 0 x5.toNat) ∧ ((w.1 117 0 x5.toNat) < 30 ∧ (((am_and (w.1 75 (w.1 118 0 x5.toNat).toNat (w.1 117 0 x5.toNat).toNat) 4) = 0 → am_A (mh_G X) SC (d + 1) mX12_depthNow Q 75 [(0, .inr (.inr (some (9, 0)))), (1, .inl x1), (2, .inl x2), (3, .inl x3), (4, .inl x4), (5, .inl x5)] [.inl 0] w bc bs) ∧ (¬ (am_and (w.1 75 (w.1 118 0 x5.toNat).toNat (w.1 117 0 x5.toNat).toNat) 4) = 0 → am_A (mh_G X) SC (d + 1) mX12_depthNow Q 75 [(0, .inr (.inr (some (9, 0)))), (1, .inl x1), (2, .inl x2), (3, .inl x3), (4, .inl x4), (5, .inl x5)] [.inl 1] w bc bs))))))))))) :
    am_A (mh_G X) SC (d + 1) mX12_depthNow Q 36 [(0, .inr (.inr (some (9, 0)))), (1, .inl x1), (2, .inl x2), (3, .inl x3), (4, .inl x4), (5, .inl x5)] [] w bc bs := by
  refine am_iload dX12_depthNow_36 (List.Mem.tail _ (List.Mem.tail _ (List.Mem.tail _ (List.Mem.tail _ (List.Mem.tail _ (List.Mem.head _)))))) ?_
  refine am_aload_n dX12_depthNow_38 (List.Mem.head _) ?_
  refine am_getf (f := 62) (v := .inl (w.1 9 0 62)) dX12_depthNow_39 hc_10 (by decide) wd_1611 (by decide) rfl rfl ?_
  refine am_icmpge (tgt := 115) dX12_depthNow_42 (by decide) (fun c1 => ?_) (fun c1 => ?_)
  · replace h := h.1 c1
    refine am_iconst dX12_depthNow_115 (by unfold am_rg; omega) ?_
    refine am_istore (ls' := [(5, .inl 0), (0, .inr (.inr (some (9, 0)))), (1, .inl x1), (2, .inl x2), (3, .inl x3), (4, .inl x4)]) dX12_depthNow_116 (by decide) rfl ?_
    exact am_sub [1, 2, 3, 5, 0] rfl h
  · replace h := h.2 c1
    refine am_aload_n dX12_depthNow_45 (List.Mem.head _) ?_
    refine am_getf (f := 10) (v := .inr (.inr (some (74, 0)))) dX12_depthNow_46 hc_10 (by decide) wd_1559 (by decide) rfl rfl ?_
    refine am_aload_n dX12_depthNow_49 (List.Mem.head _) ?_
    refine am_getf (f := 59) (v := .inr (.inr (some (118, 0)))) dX12_depthNow_50 hc_10 (by decide) wd_1608 (by decide) rfl rfl ?_
    refine am_iload dX12_depthNow_53 (List.Mem.tail _ (List.Mem.tail _ (List.Mem.tail _ (List.Mem.tail _ (List.Mem.tail _ (List.Mem.head _)))))) ?_
    have o2 := h.1
    replace h := h.2
    have o3 := h.1
    replace h := h.2
    refine am_iaload (v := (w.1 118 0 x5.toNat)) dX12_depthNow_55 (by decide) rfl o2 o3 rfl ?_
    have o4 := h.1
    replace h := h.2
    have o5 := h.1
    replace h := h.2
    refine am_aaload (kd := 5) (r := some (75, (w.1 118 0 x5.toNat).toNat)) dX12_depthNow_56 (by decide) rfl (by decide) (by decide) o4 o5 rfl ?_
    refine am_aload_n dX12_depthNow_57 (List.Mem.head _) ?_
    refine am_getf (f := 58) (v := .inr (.inr (some (117, 0)))) dX12_depthNow_58 hc_10 (by decide) wd_1607 (by decide) rfl rfl ?_
    refine am_iload dX12_depthNow_61 (List.Mem.tail _ (List.Mem.tail _ (List.Mem.tail _ (List.Mem.tail _ (List.Mem.tail _ (List.Mem.head _)))))) ?_
    refine am_iaload (v := (w.1 117 0 x5.toNat)) dX12_depthNow_63 (by decide) rfl o2 o3 rfl ?_
    have o6 := h.1
    replace h := h.2
    have o7 := h.1
    replace h := h.2
    refine am_iaload (v := (w.1 75 (w.1 118 0 x5.toNat).toNat (w.1 117 0 x5.toNat).toNat)) dX12_depthNow_64 (by decide) rfl o6 o7 rfl ?_
    refine am_iconst dX12_depthNow_65 (by unfold am_rg; omega) ?_
    refine am_iand dX12_depthNow_66 ?_
    refine am_ifeq (tgt := 74) dX12_depthNow_67 (by decide) (fun c8 => ?_) (fun c8 => ?_)
    · replace h := h.1 c8
      refine am_iconst dX12_depthNow_74 (by unfold am_rg; omega) ?_
      exact h
    · replace h := h.2 c8
      refine am_iconst dX12_depthNow_70 (by unfold am_rg; omega) ?_
      refine am_goto (tgt := 75) dX12_depthNow_71 (by decide) ?_
      exact h
theorem bX12_depthNow_118 {SC : Nat → Nat} {X : mh_X} {d : Nat} {Q : Option am_V → am_W → Prop} {bc bs : Nat} {w : am_W} {x1 : Int} {x2 : Int} {x4 : Int} {x5 : Int}
    (h : (((w.1 9 0 52) ≤ x5 → ((x2 = (-1) → Q (some (.inl x4)) w) ∧ (¬ x2 = (-1) → (0 ≤ x2 ∧ (x2 < 7 ∧ (((w.1 90 0 x2.toNat) ≤ 0 → Q (some (.inl x4)) w) ∧ (¬ (w.1 90 0 x2.toNat) ≤ 0 → (0 ≤ (w.1 9 0 63) ∧ ((w.1 9 0 63) < 40 ∧ am_M (mh_G X) SC d 0 0 mX12_behind [.inl (w.1 100 0 (w.1 9 0 63).toNat), .inl (am_w (12 * (w.1 90 0 x2.toNat)))] w (fun r w1 => am_A (mh_G X) SC (d + 1) mX12_depthNow Q 226 [(0, .inr (.inr (some (9, 0)))), (1, .inl x1), (2, .inl x2), (4, .inl x4), (5, .inl x5)] (r.toList ++ []) w1 bc bs)))))))))) ∧ (¬ (w.1 9 0 52) ≤ x5 → (0 ≤ x5 ∧ (x5 < 10 ∧ (((w.1 9 0 64) < (w.1 111 0 x5.toNat) → am_A (mh_G X) SC (d + 1) mX12_depthNow Q 185 [(0, .inr (.inr (some (9, 0)))), (1, .inl x1), (2, .inl x2), (4, .inl x4), (5, .inl x5)] [] w bc bs) ∧ (¬ (w.1 9 0 64) < (w.1 111 0 x5.toNat) → ((x1 < (w.1 108 0 x5.toNat) → am_A (mh_G X) SC (d + 1) mX12_depthNow Q 185 [(0, .inr (.inr (some (9, 0)))), (1, .inl x1), (2, .inl x2), (4, .inl x4), (5, .inl x5)] [] w bc bs) ∧ (¬ x1 < (w.1 108 0 x5.toNat) → (((w.1 109 0 x5.toNat) ≤ (am_w (x1 - (w.1 108 0 x5.toNat))) → am_A (mh_G X) SC (d + 1) mX12_depthNow Q 185 [(0, .inr (.inr (some (9, 0)))), (1, .inl x1), (2, .inl x2), (4, .inl x4), (5, .inl x5)] [] w bc bs) ∧ (¬ (w.1 109 0 x5.toNat) ≤ (am_w (x1 - (w.1 108 0 x5.toNat))) → am_M (mh_G X) SC d 0 0 mJ9_max_7cf53 [.inl x4, .inl (w.1 110 0 x5.toNat)] w (fun r w1 => am_A (mh_G X) SC (d + 1) mX12_depthNow Q 183 [(0, .inr (.inr (some (9, 0)))), (1, .inl x1), (2, .inl x2), (4, .inl x4), (5, .inl x5)] (r.toList ++ []) w1 bc bs)))))))))))) :
    am_A (mh_G X) SC (d + 1) mX12_depthNow Q 118 [(0, .inr (.inr (some (9, 0)))), (1, .inl x1), (2, .inl x2), (4, .inl x4), (5, .inl x5)] [] w bc bs := by
  refine am_iload dX12_depthNow_118 (List.Mem.tail _ (List.Mem.tail _ (List.Mem.tail _ (List.Mem.tail _ (List.Mem.head _))))) ?_
  refine am_aload_n dX12_depthNow_120 (List.Mem.head _) ?_
  refine am_getf (f := 52) (v := .inl (w.1 9 0 52)) dX12_depthNow_121 hc_10 (by decide) wd_1601 (by decide) rfl rfl ?_
  refine am_icmpge (tgt := 191) dX12_depthNow_124 (by decide) (fun c1 => ?_) (fun c1 => ?_)
  · replace h := h.1 c1
    refine am_iload_n dX12_depthNow_191 (List.Mem.tail _ (List.Mem.tail _ (List.Mem.head _))) ?_
    refine am_iconst dX12_depthNow_192 (by unfold am_rg; omega) ?_
    refine am_icmpeq (tgt := 243) dX12_depthNow_193 (by decide) (fun c2 => ?_) (fun c2 => ?_)
    · replace h := h.1 c2
      refine am_iload dX12_depthNow_243 (List.Mem.tail _ (List.Mem.tail _ (List.Mem.tail _ (List.Mem.head _)))) ?_
      exact am_ret (r := some (.inl x4)) dX12_depthNow_245 (Or.inl rfl) rfl h
    · replace h := h.2 c2
      refine am_aload_n dX12_depthNow_196 (List.Mem.head _) ?_
      refine am_getf (f := 18) (v := .inr (.inr (some (90, 0)))) dX12_depthNow_197 hc_10 (by decide) wd_1567 (by decide) rfl rfl ?_
      refine am_iload_n dX12_depthNow_200 (List.Mem.tail _ (List.Mem.tail _ (List.Mem.head _))) ?_
      have o3 := h.1
      replace h := h.2
      have o4 := h.1
      replace h := h.2
      refine am_iaload (v := (w.1 90 0 x2.toNat)) dX12_depthNow_201 (by decide) rfl o3 o4 rfl ?_
      refine am_ifle (tgt := 243) dX12_depthNow_202 (by decide) (fun c5 => ?_) (fun c5 => ?_)
      · replace h := h.1 c5
        refine am_iload dX12_depthNow_243 (List.Mem.tail _ (List.Mem.tail _ (List.Mem.tail _ (List.Mem.head _)))) ?_
        exact am_ret (r := some (.inl x4)) dX12_depthNow_245 (Or.inl rfl) rfl h
      · replace h := h.2 c5
        refine am_aload_n dX12_depthNow_205 (List.Mem.head _) ?_
        refine am_getf (f := 38) (v := .inr (.inr (some (100, 0)))) dX12_depthNow_206 hc_10 (by decide) wd_1587 (by decide) rfl rfl ?_
        refine am_aload_n dX12_depthNow_209 (List.Mem.head _) ?_
        refine am_getf (f := 63) (v := .inl (w.1 9 0 63)) dX12_depthNow_210 hc_10 (by decide) wd_1612 (by decide) rfl rfl ?_
        have o6 := h.1
        replace h := h.2
        have o7 := h.1
        replace h := h.2
        refine am_iaload (v := (w.1 100 0 (w.1 9 0 63).toNat)) dX12_depthNow_213 (by decide) rfl o6 o7 rfl ?_
        refine am_bipush dX12_depthNow_214 (by decide) (by unfold am_rg; omega) ?_
        refine am_aload_n dX12_depthNow_216 (List.Mem.head _) ?_
        refine am_getf (f := 18) (v := .inr (.inr (some (90, 0)))) dX12_depthNow_217 hc_10 (by decide) wd_1567 (by decide) rfl rfl ?_
        refine am_iload_n dX12_depthNow_220 (List.Mem.tail _ (List.Mem.tail _ (List.Mem.head _))) ?_
        refine am_iaload (v := (w.1 90 0 x2.toNat)) dX12_depthNow_221 (by decide) rfl o3 o4 rfl ?_
        refine am_imul dX12_depthNow_222 ?_
        exact am_calls (d' := d) (kc := 0) (ks := 0) (as := [.inl (w.1 100 0 (w.1 9 0 63).toNat), .inl (am_w (12 * (w.1 90 0 x2.toNat)))]) dX12_depthNow_223 wc_X12_behind wd_1892 wd_1893 wd_122 ds_X12_behind (by decide) (Nat.le_refl _) (Nat.le_of_ble_eq_true rfl) (Nat.zero_le _) (Nat.zero_le _) rfl h
  · replace h := h.2 c1
    refine am_aload_n dX12_depthNow_127 (List.Mem.head _) ?_
    refine am_getf (f := 51) (v := .inr (.inr (some (111, 0)))) dX12_depthNow_128 hc_10 (by decide) wd_1600 (by decide) rfl rfl ?_
    refine am_iload dX12_depthNow_131 (List.Mem.tail _ (List.Mem.tail _ (List.Mem.tail _ (List.Mem.tail _ (List.Mem.head _))))) ?_
    have o8 := h.1
    replace h := h.2
    have o9 := h.1
    replace h := h.2
    refine am_iaload (v := (w.1 111 0 x5.toNat)) dX12_depthNow_133 (by decide) rfl o8 o9 rfl ?_
    refine am_aload_n dX12_depthNow_134 (List.Mem.head _) ?_
    refine am_getf (f := 64) (v := .inl (w.1 9 0 64)) dX12_depthNow_135 hc_10 (by decide) wd_1613 (by decide) rfl rfl ?_
    refine am_icmpgt (tgt := 185) dX12_depthNow_138 (by decide) (fun c10 => ?_) (fun c10 => ?_)
    · replace h := h.1 c10
      exact h
    · replace h := h.2 c10
      refine am_iload_n dX12_depthNow_141 (List.Mem.tail _ (List.Mem.head _)) ?_
      refine am_aload_n dX12_depthNow_142 (List.Mem.head _) ?_
      refine am_getf (f := 48) (v := .inr (.inr (some (108, 0)))) dX12_depthNow_143 hc_10 (by decide) wd_1597 (by decide) rfl rfl ?_
      refine am_iload dX12_depthNow_146 (List.Mem.tail _ (List.Mem.tail _ (List.Mem.tail _ (List.Mem.tail _ (List.Mem.head _))))) ?_
      refine am_iaload (v := (w.1 108 0 x5.toNat)) dX12_depthNow_148 (by decide) rfl o8 o9 rfl ?_
      refine am_icmplt (tgt := 185) dX12_depthNow_149 (by decide) (fun c11 => ?_) (fun c11 => ?_)
      · replace h := h.1 c11
        exact h
      · replace h := h.2 c11
        refine am_iload_n dX12_depthNow_152 (List.Mem.tail _ (List.Mem.head _)) ?_
        refine am_aload_n dX12_depthNow_153 (List.Mem.head _) ?_
        refine am_getf (f := 48) (v := .inr (.inr (some (108, 0)))) dX12_depthNow_154 hc_10 (by decide) wd_1597 (by decide) rfl rfl ?_
        refine am_iload dX12_depthNow_157 (List.Mem.tail _ (List.Mem.tail _ (List.Mem.tail _ (List.Mem.tail _ (List.Mem.head _))))) ?_
        refine am_iaload (v := (w.1 108 0 x5.toNat)) dX12_depthNow_159 (by decide) rfl o8 o9 rfl ?_
        refine am_isub dX12_depthNow_160 ?_
        refine am_aload_n dX12_depthNow_161 (List.Mem.head _) ?_
        refine am_getf (f := 49) (v := .inr (.inr (some (109, 0)))) dX12_depthNow_162 hc_10 (by decide) wd_1598 (by decide) rfl rfl ?_
        refine am_iload dX12_depthNow_165 (List.Mem.tail _ (List.Mem.tail _ (List.Mem.tail _ (List.Mem.tail _ (List.Mem.head _))))) ?_
        refine am_iaload (v := (w.1 109 0 x5.toNat)) dX12_depthNow_167 (by decide) rfl o8 o9 rfl ?_
        refine am_icmpge (tgt := 185) dX12_depthNow_168 (by decide) (fun c12 => ?_) (fun c12 => ?_)
        · replace h := h.1 c12
          exact h
        · replace h := h.2 c12
          refine am_iload dX12_depthNow_171 (List.Mem.tail _ (List.Mem.tail _ (List.Mem.tail _ (List.Mem.head _)))) ?_
          refine am_aload_n dX12_depthNow_173 (List.Mem.head _) ?_
          refine am_getf (f := 50) (v := .inr (.inr (some (110, 0)))) dX12_depthNow_174 hc_10 (by decide) wd_1599 (by decide) rfl rfl ?_
          refine am_iload dX12_depthNow_177 (List.Mem.tail _ (List.Mem.tail _ (List.Mem.tail _ (List.Mem.tail _ (List.Mem.head _))))) ?_
          refine am_iaload (v := (w.1 110 0 x5.toNat)) dX12_depthNow_179 (by decide) rfl o8 o9 rfl ?_
          exact am_calls (d' := d) (kc := 0) (ks := 0) (as := [.inl x4, .inl (w.1 110 0 x5.toNat)]) dX12_depthNow_180 wc_J9_max_7cf53 wd_2138 wd_785 wd_128 ds_J9_max_7cf53 (by decide) (Nat.le_refl _) (Nat.le_of_ble_eq_true rfl) (Nat.zero_le _) (Nat.zero_le _) rfl h
theorem bX12_depthNow_75 {SC : Nat → Nat} {X : mh_X} {d : Nat} {Q : Option am_V → am_W → Prop} {bc bs : Nat} {w : am_W} {x1 : Int} {x2 : Int} {x3 : Int} {x4 : Int} {x5 : Int} {xs0 : Int}
    (h : am_M (mh_G X) SC d 0 0 mX12_depthOf [.inr (.inr (some (9, 0))), .inl x5, .inl x1] w (fun r w1 => am_A (mh_G X) SC (d + 1) mX12_depthNow Q 84 [(6, .inl xs0), (0, .inr (.inr (some (9, 0)))), (1, .inl x1), (2, .inl x2), (3, .inl x3), (4, .inl x4), (5, .inl x5)] (r.toList ++ []) w1 bc bs)) :
    am_A (mh_G X) SC (d + 1) mX12_depthNow Q 75 [(0, .inr (.inr (some (9, 0)))), (1, .inl x1), (2, .inl x2), (3, .inl x3), (4, .inl x4), (5, .inl x5)] [.inl xs0] w bc bs := by
  refine am_istore (ls' := [(6, .inl xs0), (0, .inr (.inr (some (9, 0)))), (1, .inl x1), (2, .inl x2), (3, .inl x3), (4, .inl x4), (5, .inl x5)]) dX12_depthNow_75 (by decide) rfl ?_
  refine am_aload_n dX12_depthNow_77 (List.Mem.tail _ (List.Mem.head _)) ?_
  refine am_iload dX12_depthNow_78 (List.Mem.tail _ (List.Mem.tail _ (List.Mem.tail _ (List.Mem.tail _ (List.Mem.tail _ (List.Mem.tail _ (List.Mem.head _))))))) ?_
  refine am_iload_n dX12_depthNow_80 (List.Mem.tail _ (List.Mem.tail _ (List.Mem.head _))) ?_
  exact am_callv (d' := d) (kc := 0) (ks := 0) (as := [.inl x5, .inl x1]) dX12_depthNow_81 wc_X12_depthOf wd_2117 wd_2119 wd_90 wd_122 ds_X12_depthOf (by decide) (Nat.le_refl _) (Nat.le_of_ble_eq_true rfl) (Nat.zero_le _) (Nat.zero_le _) hc_10 (by decide) rfl rfl h
theorem bX12_depthNow_226 {SC : Nat → Nat} {X : mh_X} {d : Nat} {Q : Option am_V → am_W → Prop} {bc bs : Nat} {w : am_W} {x1 : Int} {x2 : Int} {x4 : Int} {x5 : Int} {xs0 : Int}
    (h : ((xs0 ≤ x1 → Q (some (.inl x4)) w) ∧ (¬ xs0 ≤ x1 → (0 ≤ x2 ∧ (x2 < 7 ∧ am_M (mh_G X) SC d 0 0 mJ9_min_7cf53 [.inl x4, .inl (w.1 91 0 x2.toNat)] w (fun r w1 => am_A (mh_G X) SC (d + 1) mX12_depthNow Q 241 [(0, .inr (.inr (some (9, 0)))), (1, .inl x1), (2, .inl x2), (4, .inl x4), (5, .inl x5)] (r.toList ++ []) w1 bc bs)))))) :
    am_A (mh_G X) SC (d + 1) mX12_depthNow Q 226 [(0, .inr (.inr (some (9, 0)))), (1, .inl x1), (2, .inl x2), (4, .inl x4), (5, .inl x5)] [.inl xs0] w bc bs := by
  refine am_iload_n dX12_depthNow_226 (List.Mem.tail _ (List.Mem.head _)) ?_
  refine am_icmple (tgt := 243) dX12_depthNow_227 (by decide) (fun c1 => ?_) (fun c1 => ?_)
  · replace h := h.1 c1
    refine am_iload dX12_depthNow_243 (List.Mem.tail _ (List.Mem.tail _ (List.Mem.tail _ (List.Mem.head _)))) ?_
    exact am_ret (r := some (.inl x4)) dX12_depthNow_245 (Or.inl rfl) rfl h
  · replace h := h.2 c1
    refine am_iload dX12_depthNow_230 (List.Mem.tail _ (List.Mem.tail _ (List.Mem.tail _ (List.Mem.head _)))) ?_
    refine am_aload_n dX12_depthNow_232 (List.Mem.head _) ?_
    refine am_getf (f := 19) (v := .inr (.inr (some (91, 0)))) dX12_depthNow_233 hc_10 (by decide) wd_1568 (by decide) rfl rfl ?_
    refine am_iload_n dX12_depthNow_236 (List.Mem.tail _ (List.Mem.tail _ (List.Mem.head _))) ?_
    have o2 := h.1
    replace h := h.2
    have o3 := h.1
    replace h := h.2
    refine am_iaload (v := (w.1 91 0 x2.toNat)) dX12_depthNow_237 (by decide) rfl o2 o3 rfl ?_
    exact am_calls (d' := d) (kc := 0) (ks := 0) (as := [.inl x4, .inl (w.1 91 0 x2.toNat)]) dX12_depthNow_238 wc_J9_min_7cf53 wd_2137 wd_782 wd_128 ds_J9_min_7cf53 (by decide) (Nat.le_refl _) (Nat.le_of_ble_eq_true rfl) (Nat.zero_le _) (Nat.zero_le _) rfl h
theorem bX12_depthNow_185 {SC : Nat → Nat} {X : mh_X} {d : Nat} {Q : Option am_V → am_W → Prop} {bc bs : Nat} {w : am_W} {x1 : Int} {x2 : Int} {x4 : Int} {x5 : Int}
    (h : am_A (mh_G X) SC (d + 1) mX12_depthNow Q 118 [(0, .inr (.inr (some (9, 0)))), (1, .inl x1), (2, .inl x2), (4, .inl x4), (5, .inl (am_w (x5 + 1)))] [] w bc bs) :
    am_A (mh_G X) SC (d + 1) mX12_depthNow Q 185 [(0, .inr (.inr (some (9, 0)))), (1, .inl x1), (2, .inl x2), (4, .inl x4), (5, .inl x5)] [] w bc bs := by
  refine am_iinc (ls' := [(5, .inl (am_w (x5 + 1))), (0, .inr (.inr (some (9, 0)))), (1, .inl x1), (2, .inl x2), (4, .inl x4)]) dX12_depthNow_185 (List.Mem.tail _ (List.Mem.tail _ (List.Mem.tail _ (List.Mem.tail _ (List.Mem.head _))))) (by decide) rfl ?_
  refine am_goto (tgt := 118) dX12_depthNow_188 (by decide) ?_
  exact am_sub [1, 2, 3, 4, 0] rfl h
theorem bX12_depthNow_183 {SC : Nat → Nat} {X : mh_X} {d : Nat} {Q : Option am_V → am_W → Prop} {bc bs : Nat} {w : am_W} {x1 : Int} {x2 : Int} {x4 : Int} {x5 : Int} {xs0 : Int}
    (h : am_A (mh_G X) SC (d + 1) mX12_depthNow Q 185 [(0, .inr (.inr (some (9, 0)))), (1, .inl x1), (2, .inl x2), (4, .inl xs0), (5, .inl x5)] [] w bc bs) :
    am_A (mh_G X) SC (d + 1) mX12_depthNow Q 183 [(0, .inr (.inr (some (9, 0)))), (1, .inl x1), (2, .inl x2), (4, .inl x4), (5, .inl x5)] [.inl xs0] w bc bs := by
  refine am_istore (ls' := [(4, .inl xs0), (0, .inr (.inr (some (9, 0)))), (1, .inl x1), (2, .inl x2), (5, .inl x5)]) dX12_depthNow_183 (by decide) rfl ?_
  exact am_sub [1, 2, 3, 0, 4] rfl h
theorem bX12_depthNow_84 {SC : Nat → Nat} {X : mh_X} {d : Nat} {Q : Option am_V → am_W → Prop} {bc bs : Nat} {w : am_W} {x6 : Int} {x1 : Int} {x2 : Int} {x3 : Int} {x4 : Int} {x5 : Int} {xs0 : Int}
    (h : ((x6 = 0 → am_M (mh_G X) SC d 0 0 mJ9_min_7cf53 [.inl xs0, .inl x3] w (fun r w1 => am_A (mh_G X) SC (d + 1) mX12_depthNow Q 104 [(7, .inl xs0), (6, .inl x6), (0, .inr (.inr (some (9, 0)))), (1, .inl x1), (2, .inl x2), (3, .inl x3), (4, .inl x4), (5, .inl x5)] (r.toList ++ [.inl x4]) w1 bc bs)) ∧ (¬ x6 = 0 → am_A (mh_G X) SC (d + 1) mX12_depthNow Q 104 [(0, .inr (.inr (some (9, 0)))), (1, .inl x1), (2, .inl x2), (3, .inl x3), (5, .inl x5)] [.inl xs0, .inl x4] w bc bs))) :
    am_A (mh_G X) SC (d + 1) mX12_depthNow Q 84 [(6, .inl x6), (0, .inr (.inr (some (9, 0)))), (1, .inl x1), (2, .inl x2), (3, .inl x3), (4, .inl x4), (5, .inl x5)] [.inl xs0] w bc bs := by
  refine am_istore (ls' := [(7, .inl xs0), (6, .inl x6), (0, .inr (.inr (some (9, 0)))), (1, .inl x1), (2, .inl x2), (3, .inl x3), (4, .inl x4), (5, .inl x5)]) dX12_depthNow_84 (by decide) rfl ?_
  refine am_iload dX12_depthNow_86 (List.Mem.tail _ (List.Mem.tail _ (List.Mem.tail _ (List.Mem.tail _ (List.Mem.tail _ (List.Mem.tail _ (List.Mem.head _))))))) ?_
  refine am_iload dX12_depthNow_88 (List.Mem.tail _ (List.Mem.head _)) ?_
  refine am_ifeq (tgt := 98) dX12_depthNow_90 (by decide) (fun c1 => ?_) (fun c1 => ?_)
  · replace h := h.1 c1
    refine am_iload dX12_depthNow_98 (List.Mem.head _) ?_
    refine am_iload_n dX12_depthNow_100 (List.Mem.tail _ (List.Mem.tail _ (List.Mem.tail _ (List.Mem.tail _ (List.Mem.tail _ (List.Mem.head _)))))) ?_
    exact am_calls (d' := d) (kc := 0) (ks := 0) (as := [.inl xs0, .inl x3]) dX12_depthNow_101 wc_J9_min_7cf53 wd_2137 wd_782 wd_128 ds_J9_min_7cf53 (by decide) (Nat.le_refl _) (Nat.le_of_ble_eq_true rfl) (Nat.zero_le _) (Nat.zero_le _) rfl h
  · replace h := h.2 c1
    refine am_iload dX12_depthNow_93 (List.Mem.head _) ?_
    refine am_goto (tgt := 104) dX12_depthNow_95 (by decide) ?_
    exact am_sub [2, 3, 4, 5, 7] rfl h
theorem bX12_depthNow_241 {SC : Nat → Nat} {X : mh_X} {d : Nat} {Q : Option am_V → am_W → Prop} {bc bs : Nat} {w : am_W} {x1 : Int} {x2 : Int} {x4 : Int} {x5 : Int} {xs0 : Int}
    (h : Q (some (.inl xs0)) w) :
    am_A (mh_G X) SC (d + 1) mX12_depthNow Q 241 [(0, .inr (.inr (some (9, 0)))), (1, .inl x1), (2, .inl x2), (4, .inl x4), (5, .inl x5)] [.inl xs0] w bc bs := by
  refine am_istore (ls' := [(4, .inl xs0), (0, .inr (.inr (some (9, 0)))), (1, .inl x1), (2, .inl x2), (5, .inl x5)]) dX12_depthNow_241 (by decide) rfl ?_
  refine am_iload dX12_depthNow_243 (List.Mem.head _) ?_
  exact am_ret (r := some (.inl xs0)) dX12_depthNow_245 (Or.inl rfl) rfl h
theorem bX12_depthNow_104 {SC : Nat → Nat} {X : mh_X} {d : Nat} {Q : Option am_V → am_W → Prop} {bc bs : Nat} {w : am_W} {x7 : Int} {x6 : Int} {x1 : Int} {x2 : Int} {x3 : Int} {x4 : Int} {x5 : Int} {xs0 : Int} {xs1 : Int}
    (h : am_M (mh_G X) SC d 0 0 mJ9_max_7cf53 [.inl xs1, .inl xs0] w (fun r w1 => am_A (mh_G X) SC (d + 1) mX12_depthNow Q 107 [(7, .inl x7), (6, .inl x6), (0, .inr (.inr (some (9, 0)))), (1, .inl x1), (2, .inl x2), (3, .inl x3), (4, .inl x4), (5, .inl x5)] (r.toList ++ []) w1 bc bs)) :
    am_A (mh_G X) SC (d + 1) mX12_depthNow Q 104 [(7, .inl x7), (6, .inl x6), (0, .inr (.inr (some (9, 0)))), (1, .inl x1), (2, .inl x2), (3, .inl x3), (4, .inl x4), (5, .inl x5)] [.inl xs0, .inl xs1] w bc bs := by
  exact am_calls (d' := d) (kc := 0) (ks := 0) (as := [.inl xs1, .inl xs0]) dX12_depthNow_104 wc_J9_max_7cf53 wd_2138 wd_785 wd_128 ds_J9_max_7cf53 (by decide) (Nat.le_refl _) (Nat.le_of_ble_eq_true rfl) (Nat.zero_le _) (Nat.zero_le _) rfl h
theorem bX12_depthNow_104a {SC : Nat → Nat} {X : mh_X} {d : Nat} {Q : Option am_V → am_W → Prop} {bc bs : Nat} {w : am_W} {x1 : Int} {x2 : Int} {x3 : Int} {x5 : Int} {xs0 : Int} {xs1 : Int}
    (h : am_M (mh_G X) SC d 0 0 mJ9_max_7cf53 [.inl xs1, .inl xs0] w (fun r w1 => am_A (mh_G X) SC (d + 1) mX12_depthNow Q 107 [(0, .inr (.inr (some (9, 0)))), (1, .inl x1), (2, .inl x2), (3, .inl x3), (5, .inl x5)] (r.toList ++ []) w1 bc bs)) :
    am_A (mh_G X) SC (d + 1) mX12_depthNow Q 104 [(0, .inr (.inr (some (9, 0)))), (1, .inl x1), (2, .inl x2), (3, .inl x3), (5, .inl x5)] [.inl xs0, .inl xs1] w bc bs := by
  exact am_calls (d' := d) (kc := 0) (ks := 0) (as := [.inl xs1, .inl xs0]) dX12_depthNow_104 wc_J9_max_7cf53 wd_2138 wd_785 wd_128 ds_J9_max_7cf53 (by decide) (Nat.le_refl _) (Nat.le_of_ble_eq_true rfl) (Nat.zero_le _) (Nat.zero_le _) rfl h
theorem bX12_depthNow_107 {SC : Nat → Nat} {X : mh_X} {d : Nat} {Q : Option am_V → am_W → Prop} {bc bs : Nat} {w : am_W} {x7 : Int} {x6 : Int} {x1 : Int} {x2 : Int} {x3 : Int} {x4 : Int} {x5 : Int} {xs0 : Int}
    (h : am_A (mh_G X) SC (d + 1) mX12_depthNow Q 36 [(0, .inr (.inr (some (9, 0)))), (1, .inl x1), (2, .inl x2), (3, .inl x3), (4, .inl xs0), (5, .inl (am_w (x5 + 1)))] [] w bc bs) :
    am_A (mh_G X) SC (d + 1) mX12_depthNow Q 107 [(7, .inl x7), (6, .inl x6), (0, .inr (.inr (some (9, 0)))), (1, .inl x1), (2, .inl x2), (3, .inl x3), (4, .inl x4), (5, .inl x5)] [.inl xs0] w bc bs := by
  refine am_istore (ls' := [(4, .inl xs0), (7, .inl x7), (6, .inl x6), (0, .inr (.inr (some (9, 0)))), (1, .inl x1), (2, .inl x2), (3, .inl x3), (5, .inl x5)]) dX12_depthNow_107 (by decide) rfl ?_
  refine am_iinc (ls' := [(5, .inl (am_w (x5 + 1))), (4, .inl xs0), (7, .inl x7), (6, .inl x6), (0, .inr (.inr (some (9, 0)))), (1, .inl x1), (2, .inl x2), (3, .inl x3)]) dX12_depthNow_109 (List.Mem.tail _ (List.Mem.tail _ (List.Mem.tail _ (List.Mem.tail _ (List.Mem.tail _ (List.Mem.tail _ (List.Mem.tail _ (List.Mem.head _)))))))) (by decide) rfl ?_
  refine am_goto (tgt := 36) dX12_depthNow_112 (by decide) ?_
  exact am_sub [4, 5, 6, 7, 1, 0] rfl h
theorem bX12_depthNow_107a {SC : Nat → Nat} {X : mh_X} {d : Nat} {Q : Option am_V → am_W → Prop} {bc bs : Nat} {w : am_W} {x1 : Int} {x2 : Int} {x3 : Int} {x5 : Int} {xs0 : Int}
    (h : am_A (mh_G X) SC (d + 1) mX12_depthNow Q 36 [(0, .inr (.inr (some (9, 0)))), (1, .inl x1), (2, .inl x2), (3, .inl x3), (4, .inl xs0), (5, .inl (am_w (x5 + 1)))] [] w bc bs) :
    am_A (mh_G X) SC (d + 1) mX12_depthNow Q 107 [(0, .inr (.inr (some (9, 0)))), (1, .inl x1), (2, .inl x2), (3, .inl x3), (5, .inl x5)] [.inl xs0] w bc bs := by
  refine am_istore (ls' := [(4, .inl xs0), (0, .inr (.inr (some (9, 0)))), (1, .inl x1), (2, .inl x2), (3, .inl x3), (5, .inl x5)]) dX12_depthNow_107 (by decide) rfl ?_
  refine am_iinc (ls' := [(5, .inl (am_w (x5 + 1))), (4, .inl xs0), (0, .inr (.inr (some (9, 0)))), (1, .inl x1), (2, .inl x2), (3, .inl x3)]) dX12_depthNow_109 (List.Mem.tail _ (List.Mem.tail _ (List.Mem.tail _ (List.Mem.tail _ (List.Mem.tail _ (List.Mem.head _)))))) (by decide) rfl ?_
  refine am_goto (tgt := 36) dX12_depthNow_112 (by decide) ?_
  exact am_sub [2, 3, 4, 5, 1, 0] rfl h
-- MourningHouseModel.isAlive(III)Z
theorem dX12_isAlive_0 : decode mX12_isAlive.2.1 0 = .ok (.aload_n 0, 1) := by decide +kernel
theorem dX12_isAlive_1 : decode mX12_isAlive.2.1 1 = .ok (.getfield 167, 3) := by decide +kernel
theorem dX12_isAlive_4 : decode mX12_isAlive.2.1 4 = .ok (.iload_n 1, 1) := by decide +kernel
theorem dX12_isAlive_5 : decode mX12_isAlive.2.1 5 = .ok (.iaload, 1) := by decide +kernel
theorem dX12_isAlive_6 : decode mX12_isAlive.2.1 6 = .ok (.ldc_w 325, 3) := by decide +kernel
theorem dX12_isAlive_9 : decode mX12_isAlive.2.1 9 = .ok (.if_icmp .eq 27, 3) := by decide +kernel
theorem dX12_isAlive_12 : decode mX12_isAlive.2.1 12 = .ok (.aload_n 0, 1) := by decide +kernel
theorem dX12_isAlive_13 : decode mX12_isAlive.2.1 13 = .ok (.getfield 170, 3) := by decide +kernel
theorem dX12_isAlive_16 : decode mX12_isAlive.2.1 16 = .ok (.iload_n 1, 1) := by decide +kernel
theorem dX12_isAlive_17 : decode mX12_isAlive.2.1 17 = .ok (.iaload, 1) := by decide +kernel
theorem dX12_isAlive_18 : decode mX12_isAlive.2.1 18 = .ok (.iload_n 3, 1) := by decide +kernel
theorem dX12_isAlive_19 : decode mX12_isAlive.2.1 19 = .ok (.if_icmp .gt 17, 3) := by decide +kernel
theorem dX12_isAlive_22 : decode mX12_isAlive.2.1 22 = .ok (.iload_n 2, 1) := by decide +kernel
theorem dX12_isAlive_23 : decode mX12_isAlive.2.1 23 = .ok (.aload_n 0, 1) := by decide +kernel
theorem dX12_isAlive_24 : decode mX12_isAlive.2.1 24 = .ok (.getfield 167, 3) := by decide +kernel
theorem dX12_isAlive_27 : decode mX12_isAlive.2.1 27 = .ok (.iload_n 1, 1) := by decide +kernel
theorem dX12_isAlive_28 : decode mX12_isAlive.2.1 28 = .ok (.iaload, 1) := by decide +kernel
theorem dX12_isAlive_29 : decode mX12_isAlive.2.1 29 = .ok (.if_icmp .le 7, 3) := by decide +kernel
theorem dX12_isAlive_32 : decode mX12_isAlive.2.1 32 = .ok (.iconst 1, 1) := by decide +kernel
theorem dX12_isAlive_33 : decode mX12_isAlive.2.1 33 = .ok (.goto 4, 3) := by decide +kernel
theorem dX12_isAlive_36 : decode mX12_isAlive.2.1 36 = .ok (.iconst 0, 1) := by decide +kernel
theorem dX12_isAlive_37 : decode mX12_isAlive.2.1 37 = .ok (.istore 4, 2) := by decide +kernel
theorem dX12_isAlive_39 : decode mX12_isAlive.2.1 39 = .ok (.aload_n 0, 1) := by decide +kernel
theorem dX12_isAlive_40 : decode mX12_isAlive.2.1 40 = .ok (.iload_n 1, 1) := by decide +kernel
theorem dX12_isAlive_41 : decode mX12_isAlive.2.1 41 = .ok (.iload_n 3, 1) := by decide +kernel
theorem dX12_isAlive_42 : decode mX12_isAlive.2.1 42 = .ok (.invokevirtual 476, 3) := by decide +kernel
theorem dX12_isAlive_45 : decode mX12_isAlive.2.1 45 = .ok (.ifCond .eq 22, 3) := by decide +kernel
theorem dX12_isAlive_48 : decode mX12_isAlive.2.1 48 = .ok (.iload_n 2, 1) := by decide +kernel
theorem dX12_isAlive_49 : decode mX12_isAlive.2.1 49 = .ok (.aload_n 0, 1) := by decide +kernel
theorem dX12_isAlive_50 : decode mX12_isAlive.2.1 50 = .ok (.getfield 161, 3) := by decide +kernel
theorem dX12_isAlive_53 : decode mX12_isAlive.2.1 53 = .ok (.iload_n 1, 1) := by decide +kernel
theorem dX12_isAlive_54 : decode mX12_isAlive.2.1 54 = .ok (.iaload, 1) := by decide +kernel
theorem dX12_isAlive_55 : decode mX12_isAlive.2.1 55 = .ok (.if_icmp .lt 12, 3) := by decide +kernel
theorem dX12_isAlive_58 : decode mX12_isAlive.2.1 58 = .ok (.iload 4, 2) := by decide +kernel
theorem dX12_isAlive_60 : decode mX12_isAlive.2.1 60 = .ok (.ifCond .ne 7, 3) := by decide +kernel
theorem dX12_isAlive_63 : decode mX12_isAlive.2.1 63 = .ok (.iconst 1, 1) := by decide +kernel
theorem dX12_isAlive_64 : decode mX12_isAlive.2.1 64 = .ok (.goto 4, 3) := by decide +kernel
theorem dX12_isAlive_67 : decode mX12_isAlive.2.1 67 = .ok (.iconst 0, 1) := by decide +kernel
theorem dX12_isAlive_68 : decode mX12_isAlive.2.1 68 = .ok (.ireturn, 1) := by decide +kernel
theorem bX12_isAlive_0 {SC : Nat → Nat} {X : mh_X} {d : Nat} {Q : Option am_V → am_W → Prop} {bc bs : Nat} {w : am_W} {x1 : Int} {x2 : Int} {x3 : Int}
    (h : (0 ≤ x1 ∧ (x1 < 40 ∧ (((w.1 102 0 x1.toNat) = (-2147483648) → am_A (mh_G X) SC (d + 1) mX12_isAlive Q 36 [(0, .inr (.inr (some (9, 0)))), (1, .inl x1), (2, .inl x2), (3, .inl x3)] [] w bc bs) ∧ (¬ (w.1 102 0 x1.toNat) = (-2147483648) → ((x3 < (w.1 103 0 x1.toNat) → am_A (mh_G X) SC (d + 1) mX12_isAlive Q 36 [(0, .inr (.inr (some (9, 0)))), (1, .inl x1), (2, .inl x2), (3, .inl x3)] [] w bc bs) ∧ (¬ x3 < (w.1 103 0 x1.toNat) → ((x2 ≤ (w.1 102 0 x1.toNat) → am_A (mh_G X) SC (d + 1) mX12_isAlive Q 36 [(0, .inr (.inr (some (9, 0)))), (1, .inl x1), (2, .inl x2), (3, .inl x3)] [] w bc bs) ∧ (¬ x2 ≤ (w.1 102 0 x1.toNat) → am_A (mh_G X) SC (d + 1) mX12_isAlive Q 37 [(0, .inr (.inr (some (9, 0)))), (1, .inl x1), (2, .inl x2), (3, .inl x3)] [.inl 1] w bc bs))))))))) :
    am_A (mh_G X) SC (d + 1) mX12_isAlive Q 0 [(0, .inr (.inr (some (9, 0)))), (1, .inl x1), (2, .inl x2), (3, .inl x3)] [] w bc bs := by
  refine am_aload_n dX12_isAlive_0 (List.Mem.head _) ?_
  refine am_getf (f := 40) (v := .inr (.inr (some (102, 0)))) dX12_isAlive_1 hc_10 (by decide) wd_1589 (by decide) rfl rfl ?_
  refine am_iload_n dX12_isAlive_4 (List.Mem.tail _ (List.Mem.head _)) ?_
  have o1 := h.1
  replace h := h.2
  have o2 := h.1
  replace h := h.2
  refine am_iaload (v := (w.1 102 0 x1.toNat)) dX12_isAlive_5 (by decide) rfl o1 o2 rfl ?_
  refine am_ldcwV (n := (-2147483648)) dX12_isAlive_6 (by decide) wd_1887 (by unfold am_rg; omega) ?_
  refine am_icmpeq (tgt := 36) dX12_isAlive_9 (by decide) (fun c3 => ?_) (fun c3 => ?_)
  · replace h := h.1 c3
    exact h
  · replace h := h.2 c3
    refine am_aload_n dX12_isAlive_12 (List.Mem.head _) ?_
    refine am_getf (f := 41) (v := .inr (.inr (some (103, 0)))) dX12_isAlive_13 hc_10 (by decide) wd_1590 (by decide) rfl rfl ?_
    refine am_iload_n dX12_isAlive_16 (List.Mem.tail _ (List.Mem.head _)) ?_
    refine am_iaload (v := (w.1 103 0 x1.toNat)) dX12_isAlive_17 (by decide) rfl o1 o2 rfl ?_
    refine am_iload_n dX12_isAlive_18 (List.Mem.tail _ (List.Mem.tail _ (List.Mem.tail _ (List.Mem.head _)))) ?_
    refine am_icmpgt (tgt := 36) dX12_isAlive_19 (by decide) (fun c4 => ?_) (fun c4 => ?_)
    · replace h := h.1 c4
      exact h
    · replace h := h.2 c4
      refine am_iload_n dX12_isAlive_22 (List.Mem.tail _ (List.Mem.tail _ (List.Mem.head _))) ?_
      refine am_aload_n dX12_isAlive_23 (List.Mem.head _) ?_
      refine am_getf (f := 40) (v := .inr (.inr (some (102, 0)))) dX12_isAlive_24 hc_10 (by decide) wd_1589 (by decide) rfl rfl ?_
      refine am_iload_n dX12_isAlive_27 (List.Mem.tail _ (List.Mem.head _)) ?_
      refine am_iaload (v := (w.1 102 0 x1.toNat)) dX12_isAlive_28 (by decide) rfl o1 o2 rfl ?_
      refine am_icmple (tgt := 36) dX12_isAlive_29 (by decide) (fun c5 => ?_) (fun c5 => ?_)
      · replace h := h.1 c5
        exact h
      · replace h := h.2 c5
        refine am_iconst dX12_isAlive_32 (by unfold am_rg; omega) ?_
        refine am_goto (tgt := 37) dX12_isAlive_33 (by decide) ?_
        exact h
theorem bX12_isAlive_36 {SC : Nat → Nat} {X : mh_X} {d : Nat} {Q : Option am_V → am_W → Prop} {bc bs : Nat} {w : am_W} {x1 : Int} {x2 : Int} {x3 : Int}
    (h : am_A (mh_G X) SC (d + 1) mX12_isAlive Q 37 [(0, .inr (.inr (some (9, 0)))), (1, .inl x1), (2, .inl x2), (3, .inl x3)] [.inl 0] w bc bs) :
    am_A (mh_G X) SC (d + 1) mX12_isAlive Q 36 [(0, .inr (.inr (some (9, 0)))), (1, .inl x1), (2, .inl x2), (3, .inl x3)] [] w bc bs := by
  refine am_iconst dX12_isAlive_36 (by unfold am_rg; omega) ?_
  exact h
theorem bX12_isAlive_37 {SC : Nat → Nat} {X : mh_X} {d : Nat} {Q : Option am_V → am_W → Prop} {bc bs : Nat} {w : am_W} {x1 : Int} {x2 : Int} {x3 : Int} {xs0 : Int}
    (h : am_M (mh_G X) SC d 0 0 mX12_isThere [.inr (.inr (some (9, 0))), .inl x1, .inl x3] w (fun r w1 => am_A (mh_G X) SC (d + 1) mX12_isAlive Q 45 [(4, .inl xs0), (0, .inr (.inr (some (9, 0)))), (1, .inl x1), (2, .inl x2), (3, .inl x3)] (r.toList ++ []) w1 bc bs)) :
    am_A (mh_G X) SC (d + 1) mX12_isAlive Q 37 [(0, .inr (.inr (some (9, 0)))), (1, .inl x1), (2, .inl x2), (3, .inl x3)] [.inl xs0] w bc bs := by
  refine am_istore (ls' := [(4, .inl xs0), (0, .inr (.inr (some (9, 0)))), (1, .inl x1), (2, .inl x2), (3, .inl x3)]) dX12_isAlive_37 (by decide) rfl ?_
  refine am_aload_n dX12_isAlive_39 (List.Mem.tail _ (List.Mem.head _)) ?_
  refine am_iload_n dX12_isAlive_40 (List.Mem.tail _ (List.Mem.tail _ (List.Mem.head _))) ?_
  refine am_iload_n dX12_isAlive_41 (List.Mem.tail _ (List.Mem.tail _ (List.Mem.tail _ (List.Mem.tail _ (List.Mem.head _))))) ?_
  exact am_callv (d' := d) (kc := 0) (ks := 0) (as := [.inl x1, .inl x3]) dX12_isAlive_42 wc_X12_isThere wd_2042 wd_2044 wd_75 wd_122 ds_X12_isThere (by decide) (Nat.le_refl _) (Nat.le_of_ble_eq_true rfl) (Nat.zero_le _) (Nat.zero_le _) hc_10 (by decide) rfl rfl h
theorem bX12_isAlive_45 {SC : Nat → Nat} {X : mh_X} {d : Nat} {Q : Option am_V → am_W → Prop} {bc bs : Nat} {w : am_W} {x4 : Int} {x1 : Int} {x2 : Int} {x3 : Int} {xs0 : Int}
    (h : ((xs0 = 0 → Q (some (.inl 0)) w) ∧ (¬ xs0 = 0 → (0 ≤ x1 ∧ (x1 < 40 ∧ ((x2 < (w.1 100 0 x1.toNat) → Q (some (.inl 0)) w) ∧ (¬ x2 < (w.1 100 0 x1.toNat) → ((¬ x4 = 0 → Q (some (.inl 0)) w) ∧ (x4 = 0 → Q (some (.inl 1)) w))))))))) :
    am_A (mh_G X) SC (d + 1) mX12_isAlive Q 45 [(4, .inl x4), (0, .inr (.inr (some (9, 0)))), (1, .inl x1), (2, .inl x2), (3, .inl x3)] [.inl xs0] w bc bs := by
  refine am_ifeq (tgt := 67) dX12_isAlive_45 (by decide) (fun c1 => ?_) (fun c1 => ?_)
  · replace h := h.1 c1
    refine am_iconst dX12_isAlive_67 (by unfold am_rg; omega) ?_
    exact am_ret (r := some (.inl 0)) dX12_isAlive_68 (Or.inr (Or.inl ⟨rfl, (Or.inl rfl)⟩)) rfl h
  · replace h := h.2 c1
    refine am_iload_n dX12_isAlive_48 (List.Mem.tail _ (List.Mem.tail _ (List.Mem.tail _ (List.Mem.head _)))) ?_
    refine am_aload_n dX12_isAlive_49 (List.Mem.tail _ (List.Mem.head _)) ?_
    refine am_getf (f := 38) (v := .inr (.inr (some (100, 0)))) dX12_isAlive_50 hc_10 (by decide) wd_1587 (by decide) rfl rfl ?_
    refine am_iload_n dX12_isAlive_53 (List.Mem.tail _ (List.Mem.tail _ (List.Mem.head _))) ?_
    have o2 := h.1
    replace h := h.2
    have o3 := h.1
    replace h := h.2
    refine am_iaload (v := (w.1 100 0 x1.toNat)) dX12_isAlive_54 (by decide) rfl o2 o3 rfl ?_
    refine am_icmplt (tgt := 67) dX12_isAlive_55 (by decide) (fun c4 => ?_) (fun c4 => ?_)
    · replace h := h.1 c4
      refine am_iconst dX12_isAlive_67 (by unfold am_rg; omega) ?_
      exact am_ret (r := some (.inl 0)) dX12_isAlive_68 (Or.inr (Or.inl ⟨rfl, (Or.inl rfl)⟩)) rfl h
    · replace h := h.2 c4
      refine am_iload dX12_isAlive_58 (List.Mem.head _) ?_
      refine am_ifne (tgt := 67) dX12_isAlive_60 (by decide) (fun c5 => ?_) (fun c5 => ?_)
      · replace h := h.1 c5
        refine am_iconst dX12_isAlive_67 (by unfold am_rg; omega) ?_
        exact am_ret (r := some (.inl 0)) dX12_isAlive_68 (Or.inr (Or.inl ⟨rfl, (Or.inl rfl)⟩)) rfl h
      · replace h := h.2 c5
        refine am_iconst dX12_isAlive_63 (by unfold am_rg; omega) ?_
        refine am_goto (tgt := 68) dX12_isAlive_64 (by decide) ?_
        exact am_ret (r := some (.inl 1)) dX12_isAlive_68 (Or.inr (Or.inl ⟨rfl, (Or.inr rfl)⟩)) rfl h
-- MourningHouseModel.depthAt(III)I
theorem dX12_depthAt_0 : decode mX12_depthAt.2.1 0 = .ok (.aload_n 0, 1) := by decide +kernel
theorem dX12_depthAt_1 : decode mX12_depthAt.2.1 1 = .ok (.iload_n 1, 1) := by decide +kernel
theorem dX12_depthAt_2 : decode mX12_depthAt.2.1 2 = .ok (.iload_n 2, 1) := by decide +kernel
theorem dX12_depthAt_3 : decode mX12_depthAt.2.1 3 = .ok (.iload_n 3, 1) := by decide +kernel
theorem dX12_depthAt_4 : decode mX12_depthAt.2.1 4 = .ok (.invokevirtual 548, 3) := by decide +kernel
theorem dX12_depthAt_7 : decode mX12_depthAt.2.1 7 = .ok (.ifCond .ne 5, 3) := by decide +kernel
theorem dX12_depthAt_10 : decode mX12_depthAt.2.1 10 = .ok (.iconst (-1), 1) := by decide +kernel
theorem dX12_depthAt_11 : decode mX12_depthAt.2.1 11 = .ok (.ireturn, 1) := by decide +kernel
theorem dX12_depthAt_12 : decode mX12_depthAt.2.1 12 = .ok (.aload_n 0, 1) := by decide +kernel
theorem dX12_depthAt_13 : decode mX12_depthAt.2.1 13 = .ok (.iload_n 1, 1) := by decide +kernel
theorem dX12_depthAt_14 : decode mX12_depthAt.2.1 14 = .ok (.iload_n 3, 1) := by decide +kernel
theorem dX12_depthAt_15 : decode mX12_depthAt.2.1 15 = .ok (.invokevirtual 551, 3) := by decide +kernel
theorem dX12_depthAt_18 : decode mX12_depthAt.2.1 18 = .ok (.aload_n 0, 1) := by decide +kernel
theorem dX12_depthAt_19 : decode mX12_depthAt.2.1 19 = .ok (.iload_n 2, 1) := by decide +kernel
theorem dX12_depthAt_20 : decode mX12_depthAt.2.1 20 = .ok (.invokevirtual 554, 3) := by decide +kernel
theorem dX12_depthAt_23 : decode mX12_depthAt.2.1 23 = .ok (.aload_n 0, 1) := by decide +kernel
theorem dX12_depthAt_24 : decode mX12_depthAt.2.1 24 = .ok (.iload_n 2, 1) := by decide +kernel
theorem dX12_depthAt_25 : decode mX12_depthAt.2.1 25 = .ok (.invokevirtual 557, 3) := by decide +kernel
theorem dX12_depthAt_28 : decode mX12_depthAt.2.1 28 = .ok (.ireturn, 1) := by decide +kernel
theorem bX12_depthAt_0 {SC : Nat → Nat} {X : mh_X} {d : Nat} {Q : Option am_V → am_W → Prop} {bc bs : Nat} {w : am_W} {x1 : Int} {x2 : Int} {x3 : Int}
    (h : am_M (mh_G X) SC d 0 0 mX12_isAlive [.inr (.inr (some (9, 0))), .inl x1, .inl x2, .inl x3] w (fun r w1 => am_A (mh_G X) SC (d + 1) mX12_depthAt Q 7 [(0, .inr (.inr (some (9, 0)))), (1, .inl x1), (2, .inl x2), (3, .inl x3)] (r.toList ++ []) w1 bc bs)) :
    am_A (mh_G X) SC (d + 1) mX12_depthAt Q 0 [(0, .inr (.inr (some (9, 0)))), (1, .inl x1), (2, .inl x2), (3, .inl x3)] [] w bc bs := by
  refine am_aload_n dX12_depthAt_0 (List.Mem.head _) ?_
  refine am_iload_n dX12_depthAt_1 (List.Mem.tail _ (List.Mem.head _)) ?_
  refine am_iload_n dX12_depthAt_2 (List.Mem.tail _ (List.Mem.tail _ (List.Mem.head _))) ?_
  refine am_iload_n dX12_depthAt_3 (List.Mem.tail _ (List.Mem.tail _ (List.Mem.tail _ (List.Mem.head _)))) ?_
  exact am_callv (d' := d) (kc := 0) (ks := 0) (as := [.inl x1, .inl x2, .inl x3]) dX12_depthAt_4 wc_X12_isAlive wd_2089 wd_2091 wd_84 wd_122 ds_X12_isAlive (by decide) (Nat.le_refl _) (Nat.le_of_ble_eq_true rfl) (Nat.zero_le _) (Nat.zero_le _) hc_10 (by decide) rfl rfl h
theorem bX12_depthAt_7 {SC : Nat → Nat} {X : mh_X} {d : Nat} {Q : Option am_V → am_W → Prop} {bc bs : Nat} {w : am_W} {x1 : Int} {x2 : Int} {x3 : Int} {xs0 : Int}
    (h : ((¬ xs0 = 0 → am_M (mh_G X) SC d 0 0 mX12_prepares [.inr (.inr (some (9, 0))), .inl x1, .inl x3] w (fun r w1 => am_A (mh_G X) SC (d + 1) mX12_depthAt Q 18 [(0, .inr (.inr (some (9, 0)))), (1, .inl x1), (2, .inl x2), (3, .inl x3)] (r.toList ++ []) w1 bc bs)) ∧ (xs0 = 0 → Q (some (.inl (-1))) w))) :
    am_A (mh_G X) SC (d + 1) mX12_depthAt Q 7 [(0, .inr (.inr (some (9, 0)))), (1, .inl x1), (2, .inl x2), (3, .inl x3)] [.inl xs0] w bc bs := by
  refine am_ifne (tgt := 12) dX12_depthAt_7 (by decide) (fun c1 => ?_) (fun c1 => ?_)
  · replace h := h.1 c1
    refine am_aload_n dX12_depthAt_12 (List.Mem.head _) ?_
    refine am_iload_n dX12_depthAt_13 (List.Mem.tail _ (List.Mem.head _)) ?_
    refine am_iload_n dX12_depthAt_14 (List.Mem.tail _ (List.Mem.tail _ (List.Mem.tail _ (List.Mem.head _)))) ?_
    exact am_callv (d' := d) (kc := 0) (ks := 0) (as := [.inl x1, .inl x3]) dX12_depthAt_15 wc_X12_prepares wd_2093 wd_2095 wd_85 wd_122 ds_X12_prepares (by decide) (Nat.le_refl _) (Nat.le_of_ble_eq_true rfl) (Nat.zero_le _) (Nat.zero_le _) hc_10 (by decide) rfl rfl h
  · replace h := h.2 c1
    refine am_iconst dX12_depthAt_10 (by unfold am_rg; omega) ?_
    exact am_ret (r := some (.inl (-1))) dX12_depthAt_11 (Or.inl rfl) rfl h
theorem bX12_depthAt_18 {SC : Nat → Nat} {X : mh_X} {d : Nat} {Q : Option am_V → am_W → Prop} {bc bs : Nat} {w : am_W} {x1 : Int} {x2 : Int} {x3 : Int}
    (h : am_M (mh_G X) SC d 0 0 mX12_goesTo [.inr (.inr (some (9, 0))), .inl x2] w (fun r w1 => am_A (mh_G X) SC (d + 1) mX12_depthAt Q 23 [(0, .inr (.inr (some (9, 0)))), (1, .inl x1), (2, .inl x2), (3, .inl x3)] (r.toList ++ []) w1 bc bs)) :
    am_A (mh_G X) SC (d + 1) mX12_depthAt Q 18 [(0, .inr (.inr (some (9, 0)))), (1, .inl x1), (2, .inl x2), (3, .inl x3)] [] w bc bs := by
  refine am_aload_n dX12_depthAt_18 (List.Mem.head _) ?_
  refine am_iload_n dX12_depthAt_19 (List.Mem.tail _ (List.Mem.tail _ (List.Mem.head _))) ?_
  exact am_callv (d' := d) (kc := 0) (ks := 0) (as := [.inl x2]) dX12_depthAt_20 wc_X12_goesTo wd_2104 wd_2106 wd_87 wd_122 ds_X12_goesTo (by decide) (Nat.le_refl _) (Nat.le_of_ble_eq_true rfl) (Nat.zero_le _) (Nat.zero_le _) hc_10 (by decide) rfl rfl h
theorem bX12_depthAt_23 {SC : Nat → Nat} {X : mh_X} {d : Nat} {Q : Option am_V → am_W → Prop} {bc bs : Nat} {w : am_W} {x1 : Int} {x2 : Int} {x3 : Int}
    (h : am_M (mh_G X) SC d 0 0 mX12_depthNow [.inr (.inr (some (9, 0))), .inl x2] w (fun r w1 => am_A (mh_G X) SC (d + 1) mX12_depthAt Q 28 [(0, .inr (.inr (some (9, 0)))), (1, .inl x1), (2, .inl x2), (3, .inl x3)] (r.toList ++ []) w1 bc bs)) :
    am_A (mh_G X) SC (d + 1) mX12_depthAt Q 23 [(0, .inr (.inr (some (9, 0)))), (1, .inl x1), (2, .inl x2), (3, .inl x3)] [] w bc bs := by
  refine am_aload_n dX12_depthAt_23 (List.Mem.head _) ?_
  refine am_iload_n dX12_depthAt_24 (List.Mem.tail _ (List.Mem.tail _ (List.Mem.head _))) ?_
  exact am_callv (d' := d) (kc := 0) (ks := 0) (as := [.inl x2]) dX12_depthAt_25 wc_X12_depthNow wd_2125 wd_2127 wd_92 wd_122 ds_X12_depthNow (by decide) (Nat.le_refl _) (Nat.le_of_ble_eq_true rfl) (Nat.zero_le _) (Nat.zero_le _) hc_10 (by decide) rfl rfl h
theorem bX12_depthAt_28 {SC : Nat → Nat} {X : mh_X} {d : Nat} {Q : Option am_V → am_W → Prop} {bc bs : Nat} {w : am_W} {x1 : Int} {x2 : Int} {x3 : Int} {xs0 : Int}
    (h : Q (some (.inl xs0)) w) :
    am_A (mh_G X) SC (d + 1) mX12_depthAt Q 28 [(0, .inr (.inr (some (9, 0)))), (1, .inl x1), (2, .inl x2), (3, .inl x3)] [.inl xs0] w bc bs := by
  exact am_ret (r := some (.inl xs0)) dX12_depthAt_28 (Or.inl rfl) rfl h
-- MourningHouseModel.depth(III)I
theorem dX12_depth_0 : decode mX12_depth.2.1 0 = .ok (.aload_n 0, 1) := by decide +kernel
theorem dX12_depth_1 : decode mX12_depth.2.1 1 = .ok (.iload_n 1, 1) := by decide +kernel
theorem dX12_depth_2 : decode mX12_depth.2.1 2 = .ok (.invokevirtual 453, 3) := by decide +kernel
theorem dX12_depth_5 : decode mX12_depth.2.1 5 = .ok (.ifCond .eq 28, 3) := by decide +kernel
theorem dX12_depth_8 : decode mX12_depth.2.1 8 = .ok (.iload_n 2, 1) := by decide +kernel
theorem dX12_depth_9 : decode mX12_depth.2.1 9 = .ok (.invokestatic 322, 3) := by decide +kernel
theorem dX12_depth_12 : decode mX12_depth.2.1 12 = .ok (.ifCond .eq 21, 3) := by decide +kernel
theorem dX12_depth_15 : decode mX12_depth.2.1 15 = .ok (.aload_n 0, 1) := by decide +kernel
theorem dX12_depth_16 : decode mX12_depth.2.1 16 = .ok (.iload_n 3, 1) := by decide +kernel
theorem dX12_depth_17 : decode mX12_depth.2.1 17 = .ok (.invokevirtual 490, 3) := by decide +kernel
theorem dX12_depth_20 : decode mX12_depth.2.1 20 = .ok (.ifCond .eq 13, 3) := by decide +kernel
theorem dX12_depth_23 : decode mX12_depth.2.1 23 = .ok (.aload_n 0, 1) := by decide +kernel
theorem dX12_depth_24 : decode mX12_depth.2.1 24 = .ok (.iload_n 1, 1) := by decide +kernel
theorem dX12_depth_25 : decode mX12_depth.2.1 25 = .ok (.iload_n 2, 1) := by decide +kernel
theorem dX12_depth_26 : decode mX12_depth.2.1 26 = .ok (.iload_n 3, 1) := by decide +kernel
theorem dX12_depth_27 : decode mX12_depth.2.1 27 = .ok (.invokevirtual 560, 3) := by decide +kernel
theorem dX12_depth_30 : decode mX12_depth.2.1 30 = .ok (.goto 4, 3) := by decide +kernel
theorem dX12_depth_33 : decode mX12_depth.2.1 33 = .ok (.iconst (-1), 1) := by decide +kernel
theorem dX12_depth_34 : decode mX12_depth.2.1 34 = .ok (.ireturn, 1) := by decide +kernel
theorem bX12_depth_0 {SC : Nat → Nat} {X : mh_X} {d : Nat} {Q : Option am_V → am_W → Prop} {bc bs : Nat} {w : am_W} {x1 : Int} {x2 : Int} {x3 : Int}
    (h : am_M (mh_G X) SC d 0 0 mX12_isPerson [.inr (.inr (some (9, 0))), .inl x1] w (fun r w1 => am_A (mh_G X) SC (d + 1) mX12_depth Q 5 [(0, .inr (.inr (some (9, 0)))), (1, .inl x1), (2, .inl x2), (3, .inl x3)] (r.toList ++ []) w1 bc bs)) :
    am_A (mh_G X) SC (d + 1) mX12_depth Q 0 [(0, .inr (.inr (some (9, 0)))), (1, .inl x1), (2, .inl x2), (3, .inl x3)] [] w bc bs := by
  refine am_aload_n dX12_depth_0 (List.Mem.head _) ?_
  refine am_iload_n dX12_depth_1 (List.Mem.tail _ (List.Mem.head _)) ?_
  exact am_callv (d' := d) (kc := 0) (ks := 0) (as := [.inl x1]) dX12_depth_2 wc_X12_isPerson wd_2018 wd_2020 wd_73 wd_122 ds_X12_isPerson (by decide) (Nat.le_refl _) (Nat.le_of_ble_eq_true rfl) (Nat.zero_le _) (Nat.zero_le _) hc_10 (by decide) rfl rfl h
theorem bX12_depth_5 {SC : Nat → Nat} {X : mh_X} {d : Nat} {Q : Option am_V → am_W → Prop} {bc bs : Nat} {w : am_W} {x1 : Int} {x2 : Int} {x3 : Int} {xs0 : Int}
    (h : ((xs0 = 0 → Q (some (.inl (-1))) w) ∧ (¬ xs0 = 0 → am_M (mh_G X) SC d 0 0 mX12_isDay [.inl x2] w (fun r w1 => am_A (mh_G X) SC (d + 1) mX12_depth Q 12 [(0, .inr (.inr (some (9, 0)))), (1, .inl x1), (2, .inl x2), (3, .inl x3)] (r.toList ++ []) w1 bc bs)))) :
    am_A (mh_G X) SC (d + 1) mX12_depth Q 5 [(0, .inr (.inr (some (9, 0)))), (1, .inl x1), (2, .inl x2), (3, .inl x3)] [.inl xs0] w bc bs := by
  refine am_ifeq (tgt := 33) dX12_depth_5 (by decide) (fun c1 => ?_) (fun c1 => ?_)
  · replace h := h.1 c1
    refine am_iconst dX12_depth_33 (by unfold am_rg; omega) ?_
    exact am_ret (r := some (.inl (-1))) dX12_depth_34 (Or.inl rfl) rfl h
  · replace h := h.2 c1
    refine am_iload_n dX12_depth_8 (List.Mem.tail _ (List.Mem.tail _ (List.Mem.head _))) ?_
    exact am_calls (d' := d) (kc := 0) (ks := 0) (as := [.inl x2]) dX12_depth_9 wc_X12_isDay wd_1854 wd_1855 wd_122 ds_X12_isDay (by decide) (Nat.le_refl _) (Nat.le_of_ble_eq_true rfl) (Nat.zero_le _) (Nat.zero_le _) rfl h
theorem bX12_depth_12 {SC : Nat → Nat} {X : mh_X} {d : Nat} {Q : Option am_V → am_W → Prop} {bc bs : Nat} {w : am_W} {x1 : Int} {x2 : Int} {x3 : Int} {xs0 : Int}
    (h : ((xs0 = 0 → Q (some (.inl (-1))) w) ∧ (¬ xs0 = 0 → am_M (mh_G X) SC d 0 0 mX12_isKnownDay [.inr (.inr (some (9, 0))), .inl x3] w (fun r w1 => am_A (mh_G X) SC (d + 1) mX12_depth Q 20 [(0, .inr (.inr (some (9, 0)))), (1, .inl x1), (2, .inl x2), (3, .inl x3)] (r.toList ++ []) w1 bc bs)))) :
    am_A (mh_G X) SC (d + 1) mX12_depth Q 12 [(0, .inr (.inr (some (9, 0)))), (1, .inl x1), (2, .inl x2), (3, .inl x3)] [.inl xs0] w bc bs := by
  refine am_ifeq (tgt := 33) dX12_depth_12 (by decide) (fun c1 => ?_) (fun c1 => ?_)
  · replace h := h.1 c1
    refine am_iconst dX12_depth_33 (by unfold am_rg; omega) ?_
    exact am_ret (r := some (.inl (-1))) dX12_depth_34 (Or.inl rfl) rfl h
  · replace h := h.2 c1
    refine am_aload_n dX12_depth_15 (List.Mem.head _) ?_
    refine am_iload_n dX12_depth_16 (List.Mem.tail _ (List.Mem.tail _ (List.Mem.tail _ (List.Mem.head _)))) ?_
    exact am_callv (d' := d) (kc := 0) (ks := 0) (as := [.inl x3]) dX12_depth_17 wc_X12_isKnownDay wd_2069 wd_2071 wd_80 wd_122 ds_X12_isKnownDay (by decide) (Nat.le_refl _) (Nat.le_of_ble_eq_true rfl) (Nat.zero_le _) (Nat.zero_le _) hc_10 (by decide) rfl rfl h
theorem bX12_depth_20 {SC : Nat → Nat} {X : mh_X} {d : Nat} {Q : Option am_V → am_W → Prop} {bc bs : Nat} {w : am_W} {x1 : Int} {x2 : Int} {x3 : Int} {xs0 : Int}
    (h : ((xs0 = 0 → Q (some (.inl (-1))) w) ∧ (¬ xs0 = 0 → am_M (mh_G X) SC d 0 0 mX12_depthAt [.inr (.inr (some (9, 0))), .inl x1, .inl x2, .inl x3] w (fun r w1 => am_A (mh_G X) SC (d + 1) mX12_depth Q 30 [(0, .inr (.inr (some (9, 0)))), (1, .inl x1), (2, .inl x2), (3, .inl x3)] (r.toList ++ []) w1 bc bs)))) :
    am_A (mh_G X) SC (d + 1) mX12_depth Q 20 [(0, .inr (.inr (some (9, 0)))), (1, .inl x1), (2, .inl x2), (3, .inl x3)] [.inl xs0] w bc bs := by
  refine am_ifeq (tgt := 33) dX12_depth_20 (by decide) (fun c1 => ?_) (fun c1 => ?_)
  · replace h := h.1 c1
    refine am_iconst dX12_depth_33 (by unfold am_rg; omega) ?_
    exact am_ret (r := some (.inl (-1))) dX12_depth_34 (Or.inl rfl) rfl h
  · replace h := h.2 c1
    refine am_aload_n dX12_depth_23 (List.Mem.head _) ?_
    refine am_iload_n dX12_depth_24 (List.Mem.tail _ (List.Mem.head _)) ?_
    refine am_iload_n dX12_depth_25 (List.Mem.tail _ (List.Mem.tail _ (List.Mem.head _))) ?_
    refine am_iload_n dX12_depth_26 (List.Mem.tail _ (List.Mem.tail _ (List.Mem.tail _ (List.Mem.head _)))) ?_
    exact am_callv (d' := d) (kc := 0) (ks := 0) (as := [.inl x1, .inl x2, .inl x3]) dX12_depth_27 wc_X12_depthAt wd_2085 wd_2087 wd_83 wd_122 ds_X12_depthAt (by decide) (Nat.le_refl _) (Nat.le_of_ble_eq_true rfl) (Nat.zero_le _) (Nat.zero_le _) hc_10 (by decide) rfl rfl h
theorem bX12_depth_30 {SC : Nat → Nat} {X : mh_X} {d : Nat} {Q : Option am_V → am_W → Prop} {bc bs : Nat} {w : am_W} {x1 : Int} {x2 : Int} {x3 : Int} {xs0 : Int}
    (h : Q (some (.inl xs0)) w) :
    am_A (mh_G X) SC (d + 1) mX12_depth Q 30 [(0, .inr (.inr (some (9, 0)))), (1, .inl x1), (2, .inl x2), (3, .inl x3)] [.inl xs0] w bc bs := by
  refine am_goto (tgt := 34) dX12_depth_30 (by decide) ?_
  exact am_ret (r := some (.inl xs0)) dX12_depth_34 (Or.inl rfl) rfl h
-- MourningHouseModel.last(II)I
theorem dX12_last_0 : decode mX12_last.2.1 0 = .ok (.aload_n 0, 1) := by decide +kernel
theorem dX12_last_1 : decode mX12_last.2.1 1 = .ok (.iload_n 1, 1) := by decide +kernel
theorem dX12_last_2 : decode mX12_last.2.1 2 = .ok (.invokevirtual 453, 3) := by decide +kernel
theorem dX12_last_5 : decode mX12_last.2.1 5 = .ok (.ifCond .eq 25, 3) := by decide +kernel
theorem dX12_last_8 : decode mX12_last.2.1 8 = .ok (.aload_n 0, 1) := by decide +kernel
theorem dX12_last_9 : decode mX12_last.2.1 9 = .ok (.iload_n 2, 1) := by decide +kernel
theorem dX12_last_10 : decode mX12_last.2.1 10 = .ok (.invokevirtual 453, 3) := by decide +kernel
theorem dX12_last_13 : decode mX12_last.2.1 13 = .ok (.ifCond .eq 17, 3) := by decide +kernel
theorem dX12_last_16 : decode mX12_last.2.1 16 = .ok (.aload_n 0, 1) := by decide +kernel
theorem dX12_last_17 : decode mX12_last.2.1 17 = .ok (.iload_n 1, 1) := by decide +kernel
theorem dX12_last_18 : decode mX12_last.2.1 18 = .ok (.iload_n 2, 1) := by decide +kernel
theorem dX12_last_19 : decode mX12_last.2.1 19 = .ok (.aload_n 0, 1) := by decide +kernel
theorem dX12_last_20 : decode mX12_last.2.1 20 = .ok (.getfield 444, 3) := by decide +kernel
theorem dX12_last_23 : decode mX12_last.2.1 23 = .ok (.invokevirtual 493, 3) := by decide +kernel
theorem dX12_last_26 : decode mX12_last.2.1 26 = .ok (.iconst (-1), 1) := by decide +kernel
theorem dX12_last_27 : decode mX12_last.2.1 27 = .ok (.if_icmp .ne 7, 3) := by decide +kernel
theorem dX12_last_30 : decode mX12_last.2.1 30 = .ok (.ldc_w 325, 3) := by decide +kernel
theorem dX12_last_33 : decode mX12_last.2.1 33 = .ok (.ireturn, 1) := by decide +kernel
theorem dX12_last_34 : decode mX12_last.2.1 34 = .ok (.aload_n 0, 1) := by decide +kernel
theorem dX12_last_35 : decode mX12_last.2.1 35 = .ok (.iload_n 1, 1) := by decide +kernel
theorem dX12_last_36 : decode mX12_last.2.1 36 = .ok (.aload_n 0, 1) := by decide +kernel
theorem dX12_last_37 : decode mX12_last.2.1 37 = .ok (.getfield 444, 3) := by decide +kernel
theorem dX12_last_40 : decode mX12_last.2.1 40 = .ok (.invokevirtual 551, 3) := by decide +kernel
theorem dX12_last_43 : decode mX12_last.2.1 43 = .ok (.iconst 0, 1) := by decide +kernel
theorem dX12_last_44 : decode mX12_last.2.1 44 = .ok (.istore_n 3, 1) := by decide +kernel
theorem dX12_last_45 : decode mX12_last.2.1 45 = .ok (.aload_n 0, 1) := by decide +kernel
theorem dX12_last_46 : decode mX12_last.2.1 46 = .ok (.getfield 204, 3) := by decide +kernel
theorem dX12_last_49 : decode mX12_last.2.1 49 = .ok (.iload_n 3, 1) := by decide +kernel
theorem dX12_last_50 : decode mX12_last.2.1 50 = .ok (.iaload, 1) := by decide +kernel
theorem dX12_last_51 : decode mX12_last.2.1 51 = .ok (.iload_n 2, 1) := by decide +kernel
theorem dX12_last_52 : decode mX12_last.2.1 52 = .ok (.if_icmp .eq 9, 3) := by decide +kernel
theorem dX12_last_55 : decode mX12_last.2.1 55 = .ok (.iinc 3 1, 3) := by decide +kernel
theorem dX12_last_58 : decode mX12_last.2.1 58 = .ok (.goto (-13), 3) := by decide +kernel
theorem dX12_last_61 : decode mX12_last.2.1 61 = .ok (.ldc_w 325, 3) := by decide +kernel
theorem dX12_last_64 : decode mX12_last.2.1 64 = .ok (.istore 4, 2) := by decide +kernel
theorem dX12_last_66 : decode mX12_last.2.1 66 = .ok (.aload_n 0, 1) := by decide +kernel
theorem dX12_last_67 : decode mX12_last.2.1 67 = .ok (.getfield 207, 3) := by decide +kernel
theorem dX12_last_70 : decode mX12_last.2.1 70 = .ok (.iload_n 3, 1) := by decide +kernel
theorem dX12_last_71 : decode mX12_last.2.1 71 = .ok (.iaload, 1) := by decide +kernel
theorem dX12_last_72 : decode mX12_last.2.1 72 = .ok (.istore 5, 2) := by decide +kernel
theorem dX12_last_74 : decode mX12_last.2.1 74 = .ok (.iload 5, 2) := by decide +kernel
theorem dX12_last_76 : decode mX12_last.2.1 76 = .ok (.ldc_w 563, 3) := by decide +kernel
theorem dX12_last_79 : decode mX12_last.2.1 79 = .ok (.if_icmp .gt 32, 3) := by decide +kernel
theorem dX12_last_82 : decode mX12_last.2.1 82 = .ok (.aload_n 0, 1) := by decide +kernel
theorem dX12_last_83 : decode mX12_last.2.1 83 = .ok (.iload 5, 2) := by decide +kernel
theorem dX12_last_85 : decode mX12_last.2.1 85 = .ok (.invokevirtual 554, 3) := by decide +kernel
theorem dX12_last_88 : decode mX12_last.2.1 88 = .ok (.aload_n 0, 1) := by decide +kernel
theorem dX12_last_89 : decode mX12_last.2.1 89 = .ok (.iload_n 3, 1) := by decide +kernel
theorem dX12_last_90 : decode mX12_last.2.1 90 = .ok (.iload 5, 2) := by decide +kernel
theorem dX12_last_92 : decode mX12_last.2.1 92 = .ok (.invokevirtual 519, 3) := by decide +kernel
theorem dX12_last_95 : decode mX12_last.2.1 95 = .ok (.ifCond .ne 6, 3) := by decide +kernel
theorem dX12_last_98 : decode mX12_last.2.1 98 = .ok (.iload 4, 2) := by decide +kernel
theorem dX12_last_100 : decode mX12_last.2.1 100 = .ok (.ireturn, 1) := by decide +kernel
theorem dX12_last_101 : decode mX12_last.2.1 101 = .ok (.iload 5, 2) := by decide +kernel
theorem dX12_last_103 : decode mX12_last.2.1 103 = .ok (.istore 4, 2) := by decide +kernel
theorem dX12_last_105 : decode mX12_last.2.1 105 = .ok (.iinc 5 1, 3) := by decide +kernel
theorem dX12_last_108 : decode mX12_last.2.1 108 = .ok (.goto (-34), 3) := by decide +kernel
theorem dX12_last_111 : decode mX12_last.2.1 111 = .ok (.iload 4, 2) := by decide +kernel
theorem dX12_last_113 : decode mX12_last.2.1 113 = .ok (.ireturn, 1) := by decide +kernel
theorem bX12_last_0 {SC : Nat → Nat} {X : mh_X} {d : Nat} {Q : Option am_V → am_W → Prop} {bc bs : Nat} {w : am_W} {x1 : Int} {x2 : Int}
    (h : am_M (mh_G X) SC d 0 0 mX12_isPerson [.inr (.inr (some (9, 0))), .inl x1] w (fun r w1 => am_A (mh_G X) SC (d + 1) mX12_last Q 5 [(0, .inr (.inr (some (9, 0)))), (1, .inl x1), (2, .inl x2)] (r.toList ++ []) w1 bc bs)) :
    am_A (mh_G X) SC (d + 1) mX12_last Q 0 [(0, .inr (.inr (some (9, 0)))), (1, .inl x1), (2, .inl x2)] [] w bc bs := by
  refine am_aload_n dX12_last_0 (List.Mem.head _) ?_
  refine am_iload_n dX12_last_1 (List.Mem.tail _ (List.Mem.head _)) ?_
  exact am_callv (d' := d) (kc := 0) (ks := 0) (as := [.inl x1]) dX12_last_2 wc_X12_isPerson wd_2018 wd_2020 wd_73 wd_122 ds_X12_isPerson (by decide) (Nat.le_refl _) (Nat.le_of_ble_eq_true rfl) (Nat.zero_le _) (Nat.zero_le _) hc_10 (by decide) rfl rfl h
theorem bX12_last_5 {SC : Nat → Nat} {X : mh_X} {d : Nat} {Q : Option am_V → am_W → Prop} {bc bs : Nat} {w : am_W} {x1 : Int} {x2 : Int} {xs0 : Int}
    (h : ((xs0 = 0 → Q (some (.inl (-2147483648))) w) ∧ (¬ xs0 = 0 → am_M (mh_G X) SC d 0 0 mX12_isPerson [.inr (.inr (some (9, 0))), .inl x2] w (fun r w1 => am_A (mh_G X) SC (d + 1) mX12_last Q 13 [(0, .inr (.inr (some (9, 0)))), (1, .inl x1), (2, .inl x2)] (r.toList ++ []) w1 bc bs)))) :
    am_A (mh_G X) SC (d + 1) mX12_last Q 5 [(0, .inr (.inr (some (9, 0)))), (1, .inl x1), (2, .inl x2)] [.inl xs0] w bc bs := by
  refine am_ifeq (tgt := 30) dX12_last_5 (by decide) (fun c1 => ?_) (fun c1 => ?_)
  · replace h := h.1 c1
    refine am_ldcwV (n := (-2147483648)) dX12_last_30 (by decide) wd_1887 (by unfold am_rg; omega) ?_
    exact am_ret (r := some (.inl (-2147483648))) dX12_last_33 (Or.inl rfl) rfl h
  · replace h := h.2 c1
    refine am_aload_n dX12_last_8 (List.Mem.head _) ?_
    refine am_iload_n dX12_last_9 (List.Mem.tail _ (List.Mem.tail _ (List.Mem.head _))) ?_
    exact am_callv (d' := d) (kc := 0) (ks := 0) (as := [.inl x2]) dX12_last_10 wc_X12_isPerson wd_2018 wd_2020 wd_73 wd_122 ds_X12_isPerson (by decide) (Nat.le_refl _) (Nat.le_of_ble_eq_true rfl) (Nat.zero_le _) (Nat.zero_le _) hc_10 (by decide) rfl rfl h
theorem bX12_last_13 {SC : Nat → Nat} {X : mh_X} {d : Nat} {Q : Option am_V → am_W → Prop} {bc bs : Nat} {w : am_W} {x1 : Int} {x2 : Int} {xs0 : Int}
    (h : ((xs0 = 0 → Q (some (.inl (-2147483648))) w) ∧ (¬ xs0 = 0 → am_M (mh_G X) SC d 0 0 mX12_ruleFor [.inr (.inr (some (9, 0))), .inl x1, .inl x2, .inl (w.1 9 0 33)] w (fun r w1 => am_A (mh_G X) SC (d + 1) mX12_last Q 26 [(0, .inr (.inr (some (9, 0)))), (1, .inl x1), (2, .inl x2)] (r.toList ++ []) w1 bc bs)))) :
    am_A (mh_G X) SC (d + 1) mX12_last Q 13 [(0, .inr (.inr (some (9, 0)))), (1, .inl x1), (2, .inl x2)] [.inl xs0] w bc bs := by
  refine am_ifeq (tgt := 30) dX12_last_13 (by decide) (fun c1 => ?_) (fun c1 => ?_)
  · replace h := h.1 c1
    refine am_ldcwV (n := (-2147483648)) dX12_last_30 (by decide) wd_1887 (by unfold am_rg; omega) ?_
    exact am_ret (r := some (.inl (-2147483648))) dX12_last_33 (Or.inl rfl) rfl h
  · replace h := h.2 c1
    refine am_aload_n dX12_last_16 (List.Mem.head _) ?_
    refine am_iload_n dX12_last_17 (List.Mem.tail _ (List.Mem.head _)) ?_
    refine am_iload_n dX12_last_18 (List.Mem.tail _ (List.Mem.tail _ (List.Mem.head _))) ?_
    refine am_aload_n dX12_last_19 (List.Mem.head _) ?_
    refine am_getf (f := 33) (v := .inl (w.1 9 0 33)) dX12_last_20 hc_10 (by decide) wd_1582 (by decide) rfl rfl ?_
    exact am_callv (d' := d) (kc := 0) (ks := 0) (as := [.inl x1, .inl x2, .inl (w.1 9 0 33)]) dX12_last_23 wc_X12_ruleFor wd_2073 wd_2075 wd_81 wd_122 ds_X12_ruleFor (by decide) (Nat.le_refl _) (Nat.le_of_ble_eq_true rfl) (Nat.zero_le _) (Nat.zero_le _) hc_10 (by decide) rfl rfl h
theorem bX12_last_26 {SC : Nat → Nat} {X : mh_X} {d : Nat} {Q : Option am_V → am_W → Prop} {bc bs : Nat} {w : am_W} {x1 : Int} {x2 : Int} {xs0 : Int}
    (h : ((¬ xs0 = (-1) → am_M (mh_G X) SC d 0 0 mX12_prepares [.inr (.inr (some (9, 0))), .inl x1, .inl (w.1 9 0 33)] w (fun r w1 => am_A (mh_G X) SC (d + 1) mX12_last Q 43 [(0, .inr (.inr (some (9, 0)))), (1, .inl x1), (2, .inl x2)] (r.toList ++ []) w1 bc bs)) ∧ (xs0 = (-1) → Q (some (.inl (-2147483648))) w))) :
    am_A (mh_G X) SC (d + 1) mX12_last Q 26 [(0, .inr (.inr (some (9, 0)))), (1, .inl x1), (2, .inl x2)] [.inl xs0] w bc bs := by
  refine am_iconst dX12_last_26 (by unfold am_rg; omega) ?_
  refine am_icmpne (tgt := 34) dX12_last_27 (by decide) (fun c1 => ?_) (fun c1 => ?_)
  · replace h := h.1 c1
    refine am_aload_n dX12_last_34 (List.Mem.head _) ?_
    refine am_iload_n dX12_last_35 (List.Mem.tail _ (List.Mem.head _)) ?_
    refine am_aload_n dX12_last_36 (List.Mem.head _) ?_
    refine am_getf (f := 33) (v := .inl (w.1 9 0 33)) dX12_last_37 hc_10 (by decide) wd_1582 (by decide) rfl rfl ?_
    exact am_callv (d' := d) (kc := 0) (ks := 0) (as := [.inl x1, .inl (w.1 9 0 33)]) dX12_last_40 wc_X12_prepares wd_2093 wd_2095 wd_85 wd_122 ds_X12_prepares (by decide) (Nat.le_refl _) (Nat.le_of_ble_eq_true rfl) (Nat.zero_le _) (Nat.zero_le _) hc_10 (by decide) rfl rfl h
  · replace h := h.2 c1
    refine am_ldcwV (n := (-2147483648)) dX12_last_30 (by decide) wd_1887 (by unfold am_rg; omega) ?_
    exact am_ret (r := some (.inl (-2147483648))) dX12_last_33 (Or.inl rfl) rfl h
theorem bX12_last_43 {SC : Nat → Nat} {X : mh_X} {d : Nat} {Q : Option am_V → am_W → Prop} {bc bs : Nat} {w : am_W} {x1 : Int} {x2 : Int}
    (h : am_A (mh_G X) SC (d + 1) mX12_last Q 45 [(0, .inr (.inr (some (9, 0)))), (2, .inl x2), (3, .inl 0)] [] w bc bs) :
    am_A (mh_G X) SC (d + 1) mX12_last Q 43 [(0, .inr (.inr (some (9, 0)))), (1, .inl x1), (2, .inl x2)] [] w bc bs := by
  refine am_iconst dX12_last_43 (by unfold am_rg; omega) ?_
  refine am_istore_n (ls' := [(3, .inl 0), (0, .inr (.inr (some (9, 0)))), (1, .inl x1), (2, .inl x2)]) dX12_last_44 (by decide) rfl ?_
  exact am_sub [1, 3, 0] rfl h
theorem bX12_last_45 {SC : Nat → Nat} {X : mh_X} {d : Nat} {Q : Option am_V → am_W → Prop} {bc bs : Nat} {w : am_W} {x2 : Int} {x3 : Int}
    (h : (0 ≤ x3 ∧ (x3 < 40 ∧ (((w.1 114 0 x3.toNat) = x2 → am_A (mh_G X) SC (d + 1) mX12_last Q 74 [(0, .inr (.inr (some (9, 0)))), (3, .inl x3), (4, .inl (-2147483648)), (5, .inl (w.1 115 0 x3.toNat))] [] w bc bs) ∧ (¬ (w.1 114 0 x3.toNat) = x2 → am_A (mh_G X) SC (d + 1) mX12_last Q 45 [(0, .inr (.inr (some (9, 0)))), (2, .inl x2), (3, .inl (am_w (x3 + 1)))] [] w bc bs))))) :
    am_A (mh_G X) SC (d + 1) mX12_last Q 45 [(0, .inr (.inr (some (9, 0)))), (2, .inl x2), (3, .inl x3)] [] w bc bs := by
  refine am_aload_n dX12_last_45 (List.Mem.head _) ?_
  refine am_getf (f := 55) (v := .inr (.inr (some (114, 0)))) dX12_last_46 hc_10 (by decide) wd_1604 (by decide) rfl rfl ?_
  refine am_iload_n dX12_last_49 (List.Mem.tail _ (List.Mem.tail _ (List.Mem.head _))) ?_
  have o1 := h.1
  replace h := h.2
  have o2 := h.1
  replace h := h.2
  refine am_iaload (v := (w.1 114 0 x3.toNat)) dX12_last_50 (by decide) rfl o1 o2 rfl ?_
  refine am_iload_n dX12_last_51 (List.Mem.tail _ (List.Mem.head _)) ?_
  refine am_icmpeq (tgt := 61) dX12_last_52 (by decide) (fun c3 => ?_) (fun c3 => ?_)
  · replace h := h.1 c3
    refine am_ldcwV (n := (-2147483648)) dX12_last_61 (by decide) wd_1887 (by unfold am_rg; omega) ?_
    refine am_istore (ls' := [(4, .inl (-2147483648)), (0, .inr (.inr (some (9, 0)))), (2, .inl x2), (3, .inl x3)]) dX12_last_64 (by decide) rfl ?_
    refine am_aload_n dX12_last_66 (List.Mem.tail _ (List.Mem.head _)) ?_
    refine am_getf (f := 56) (v := .inr (.inr (some (115, 0)))) dX12_last_67 hc_10 (by decide) wd_1605 (by decide) rfl rfl ?_
    refine am_iload_n dX12_last_70 (List.Mem.tail _ (List.Mem.tail _ (List.Mem.tail _ (List.Mem.head _)))) ?_
    refine am_iaload (v := (w.1 115 0 x3.toNat)) dX12_last_71 (by decide) rfl o1 o2 rfl ?_
    refine am_istore (ls' := [(5, .inl (w.1 115 0 x3.toNat)), (4, .inl (-2147483648)), (0, .inr (.inr (some (9, 0)))), (2, .inl x2), (3, .inl x3)]) dX12_last_72 (by decide) rfl ?_
    exact am_sub [2, 4, 1, 0] rfl h
  · replace h := h.2 c3
    refine am_iinc (ls' := [(3, .inl (am_w (x3 + 1))), (0, .inr (.inr (some (9, 0)))), (2, .inl x2)]) dX12_last_55 (List.Mem.tail _ (List.Mem.tail _ (List.Mem.head _))) (by decide) rfl ?_
    refine am_goto (tgt := 45) dX12_last_58 (by decide) ?_
    exact am_sub [1, 2, 0] rfl h
theorem bX12_last_74 {SC : Nat → Nat} {X : mh_X} {d : Nat} {Q : Option am_V → am_W → Prop} {bc bs : Nat} {w : am_W} {x3 : Int} {x4 : Int} {x5 : Int}
    (h : ((73048 < x5 → Q (some (.inl x4)) w) ∧ (¬ 73048 < x5 → am_M (mh_G X) SC d 0 0 mX12_goesTo [.inr (.inr (some (9, 0))), .inl x5] w (fun r w1 => am_A (mh_G X) SC (d + 1) mX12_last Q 88 [(0, .inr (.inr (some (9, 0)))), (3, .inl x3), (4, .inl x4), (5, .inl x5)] (r.toList ++ []) w1 bc bs)))) :
    am_A (mh_G X) SC (d + 1) mX12_last Q 74 [(0, .inr (.inr (some (9, 0)))), (3, .inl x3), (4, .inl x4), (5, .inl x5)] [] w bc bs := by
  refine am_iload dX12_last_74 (List.Mem.tail _ (List.Mem.tail _ (List.Mem.tail _ (List.Mem.head _)))) ?_
  refine am_ldcwV (n := 73048) dX12_last_76 (by decide) wd_2143 (by unfold am_rg; omega) ?_
  refine am_icmpgt (tgt := 111) dX12_last_79 (by decide) (fun c1 => ?_) (fun c1 => ?_)
  · replace h := h.1 c1
    refine am_iload dX12_last_111 (List.Mem.tail _ (List.Mem.tail _ (List.Mem.head _))) ?_
    exact am_ret (r := some (.inl x4)) dX12_last_113 (Or.inl rfl) rfl h
  · replace h := h.2 c1
    refine am_aload_n dX12_last_82 (List.Mem.head _) ?_
    refine am_iload dX12_last_83 (List.Mem.tail _ (List.Mem.tail _ (List.Mem.tail _ (List.Mem.head _)))) ?_
    exact am_callv (d' := d) (kc := 0) (ks := 0) (as := [.inl x5]) dX12_last_85 wc_X12_goesTo wd_2104 wd_2106 wd_87 wd_122 ds_X12_goesTo (by decide) (Nat.le_refl _) (Nat.le_of_ble_eq_true rfl) (Nat.zero_le _) (Nat.zero_le _) hc_10 (by decide) rfl rfl h
theorem bX12_last_88 {SC : Nat → Nat} {X : mh_X} {d : Nat} {Q : Option am_V → am_W → Prop} {bc bs : Nat} {w : am_W} {x3 : Int} {x4 : Int} {x5 : Int}
    (h : am_M (mh_G X) SC d 0 0 mX12_depthOf [.inr (.inr (some (9, 0))), .inl x3, .inl x5] w (fun r w1 => am_A (mh_G X) SC (d + 1) mX12_last Q 95 [(0, .inr (.inr (some (9, 0)))), (3, .inl x3), (4, .inl x4), (5, .inl x5)] (r.toList ++ []) w1 bc bs)) :
    am_A (mh_G X) SC (d + 1) mX12_last Q 88 [(0, .inr (.inr (some (9, 0)))), (3, .inl x3), (4, .inl x4), (5, .inl x5)] [] w bc bs := by
  refine am_aload_n dX12_last_88 (List.Mem.head _) ?_
  refine am_iload_n dX12_last_89 (List.Mem.tail _ (List.Mem.head _)) ?_
  refine am_iload dX12_last_90 (List.Mem.tail _ (List.Mem.tail _ (List.Mem.tail _ (List.Mem.head _)))) ?_
  exact am_callv (d' := d) (kc := 0) (ks := 0) (as := [.inl x3, .inl x5]) dX12_last_92 wc_X12_depthOf wd_2117 wd_2119 wd_90 wd_122 ds_X12_depthOf (by decide) (Nat.le_refl _) (Nat.le_of_ble_eq_true rfl) (Nat.zero_le _) (Nat.zero_le _) hc_10 (by decide) rfl rfl h
theorem bX12_last_95 {SC : Nat → Nat} {X : mh_X} {d : Nat} {Q : Option am_V → am_W → Prop} {bc bs : Nat} {w : am_W} {x3 : Int} {x4 : Int} {x5 : Int} {xs0 : Int}
    (h : ((¬ xs0 = 0 → am_A (mh_G X) SC (d + 1) mX12_last Q 74 [(0, .inr (.inr (some (9, 0)))), (3, .inl x3), (4, .inl x5), (5, .inl (am_w (x5 + 1)))] [] w bc bs) ∧ (xs0 = 0 → Q (some (.inl x4)) w))) :
    am_A (mh_G X) SC (d + 1) mX12_last Q 95 [(0, .inr (.inr (some (9, 0)))), (3, .inl x3), (4, .inl x4), (5, .inl x5)] [.inl xs0] w bc bs := by
  refine am_ifne (tgt := 101) dX12_last_95 (by decide) (fun c1 => ?_) (fun c1 => ?_)
  · replace h := h.1 c1
    refine am_iload dX12_last_101 (List.Mem.tail _ (List.Mem.tail _ (List.Mem.tail _ (List.Mem.head _)))) ?_
    refine am_istore (ls' := [(4, .inl x5), (0, .inr (.inr (some (9, 0)))), (3, .inl x3), (5, .inl x5)]) dX12_last_103 (by decide) rfl ?_
    refine am_iinc (ls' := [(5, .inl (am_w (x5 + 1))), (4, .inl x5), (0, .inr (.inr (some (9, 0)))), (3, .inl x3)]) dX12_last_105 (List.Mem.tail _ (List.Mem.tail _ (List.Mem.tail _ (List.Mem.head _)))) (by decide) rfl ?_
    refine am_goto (tgt := 74) dX12_last_108 (by decide) ?_
    exact am_sub [2, 3, 1, 0] rfl h
  · replace h := h.2 c1
    refine am_iload dX12_last_98 (List.Mem.tail _ (List.Mem.tail _ (List.Mem.head _))) ?_
    exact am_ret (r := some (.inl x4)) dX12_last_100 (Or.inl rfl) rfl h
-- MourningHouseModel.edge(II)I
theorem dX12_edge_0 : decode mX12_edge.2.1 0 = .ok (.aload_n 0, 1) := by decide +kernel
theorem dX12_edge_1 : decode mX12_edge.2.1 1 = .ok (.iload_n 1, 1) := by decide +kernel
theorem dX12_edge_2 : decode mX12_edge.2.1 2 = .ok (.invokevirtual 453, 3) := by decide +kernel
theorem dX12_edge_5 : decode mX12_edge.2.1 5 = .ok (.ifCond .eq 10, 3) := by decide +kernel
theorem dX12_edge_8 : decode mX12_edge.2.1 8 = .ok (.iload_n 2, 1) := by decide +kernel
theorem dX12_edge_9 : decode mX12_edge.2.1 9 = .ok (.invokestatic 322, 3) := by decide +kernel
theorem dX12_edge_12 : decode mX12_edge.2.1 12 = .ok (.ifCond .ne 5, 3) := by decide +kernel
theorem dX12_edge_15 : decode mX12_edge.2.1 15 = .ok (.iconst (-1), 1) := by decide +kernel
theorem dX12_edge_16 : decode mX12_edge.2.1 16 = .ok (.ireturn, 1) := by decide +kernel
theorem dX12_edge_17 : decode mX12_edge.2.1 17 = .ok (.aload_n 0, 1) := by decide +kernel
theorem dX12_edge_18 : decode mX12_edge.2.1 18 = .ok (.iload_n 1, 1) := by decide +kernel
theorem dX12_edge_19 : decode mX12_edge.2.1 19 = .ok (.iload_n 2, 1) := by decide +kernel
theorem dX12_edge_20 : decode mX12_edge.2.1 20 = .ok (.aload_n 0, 1) := by decide +kernel
theorem dX12_edge_21 : decode mX12_edge.2.1 21 = .ok (.getfield 444, 3) := by decide +kernel
theorem dX12_edge_24 : decode mX12_edge.2.1 24 = .ok (.invokevirtual 560, 3) := by decide +kernel
theorem dX12_edge_27 : decode mX12_edge.2.1 27 = .ok (.istore_n 3, 1) := by decide +kernel
theorem dX12_edge_28 : decode mX12_edge.2.1 28 = .ok (.iload_n 3, 1) := by decide +kernel
theorem dX12_edge_29 : decode mX12_edge.2.1 29 = .ok (.ifCond .gt 5, 3) := by decide +kernel
theorem dX12_edge_32 : decode mX12_edge.2.1 32 = .ok (.iload_n 3, 1) := by decide +kernel
theorem dX12_edge_33 : decode mX12_edge.2.1 33 = .ok (.ireturn, 1) := by decide +kernel
theorem dX12_edge_34 : decode mX12_edge.2.1 34 = .ok (.iconst 0, 1) := by decide +kernel
theorem dX12_edge_35 : decode mX12_edge.2.1 35 = .ok (.istore 4, 2) := by decide +kernel
theorem dX12_edge_37 : decode mX12_edge.2.1 37 = .ok (.iconst 0, 1) := by decide +kernel
theorem dX12_edge_38 : decode mX12_edge.2.1 38 = .ok (.istore 5, 2) := by decide +kernel
theorem dX12_edge_40 : decode mX12_edge.2.1 40 = .ok (.iload 5, 2) := by decide +kernel
theorem dX12_edge_42 : decode mX12_edge.2.1 42 = .ok (.aload_n 0, 1) := by decide +kernel
theorem dX12_edge_43 : decode mX12_edge.2.1 43 = .ok (.getfield 496, 3) := by decide +kernel
theorem dX12_edge_46 : decode mX12_edge.2.1 46 = .ok (.if_icmp .ge 46, 3) := by decide +kernel
theorem dX12_edge_49 : decode mX12_edge.2.1 49 = .ok (.iload 4, 2) := by decide +kernel
theorem dX12_edge_51 : decode mX12_edge.2.1 51 = .ok (.ifCond .ne 28, 3) := by decide +kernel
theorem dX12_edge_54 : decode mX12_edge.2.1 54 = .ok (.iload_n 2, 1) := by decide +kernel
theorem dX12_edge_55 : decode mX12_edge.2.1 55 = .ok (.aload_n 0, 1) := by decide +kernel
theorem dX12_edge_56 : decode mX12_edge.2.1 56 = .ok (.getfield 207, 3) := by decide +kernel
theorem dX12_edge_59 : decode mX12_edge.2.1 59 = .ok (.iload 5, 2) := by decide +kernel
theorem dX12_edge_61 : decode mX12_edge.2.1 61 = .ok (.iaload, 1) := by decide +kernel
theorem dX12_edge_62 : decode mX12_edge.2.1 62 = .ok (.if_icmp .lt 21, 3) := by decide +kernel
theorem dX12_edge_65 : decode mX12_edge.2.1 65 = .ok (.iload_n 2, 1) := by decide +kernel
theorem dX12_edge_66 : decode mX12_edge.2.1 66 = .ok (.aload_n 0, 1) := by decide +kernel
theorem dX12_edge_67 : decode mX12_edge.2.1 67 = .ok (.getfield 207, 3) := by decide +kernel
theorem dX12_edge_70 : decode mX12_edge.2.1 70 = .ok (.iload 5, 2) := by decide +kernel
theorem dX12_edge_72 : decode mX12_edge.2.1 72 = .ok (.iaload, 1) := by decide +kernel
theorem dX12_edge_73 : decode mX12_edge.2.1 73 = .ok (.isub, 1) := by decide +kernel
theorem dX12_edge_74 : decode mX12_edge.2.1 74 = .ok (.bipush 30, 2) := by decide +kernel
theorem dX12_edge_76 : decode mX12_edge.2.1 76 = .ok (.if_icmp .ge 7, 3) := by decide +kernel
theorem dX12_edge_79 : decode mX12_edge.2.1 79 = .ok (.iconst 1, 1) := by decide +kernel
theorem dX12_edge_80 : decode mX12_edge.2.1 80 = .ok (.goto 4, 3) := by decide +kernel
theorem dX12_edge_83 : decode mX12_edge.2.1 83 = .ok (.iconst 0, 1) := by decide +kernel
theorem dX12_edge_84 : decode mX12_edge.2.1 84 = .ok (.istore 4, 2) := by decide +kernel
theorem dX12_edge_86 : decode mX12_edge.2.1 86 = .ok (.iinc 5 1, 3) := by decide +kernel
theorem dX12_edge_89 : decode mX12_edge.2.1 89 = .ok (.goto (-49), 3) := by decide +kernel
theorem dX12_edge_92 : decode mX12_edge.2.1 92 = .ok (.iconst 2, 1) := by decide +kernel
theorem dX12_edge_93 : decode mX12_edge.2.1 93 = .ok (.iload_n 3, 1) := by decide +kernel
theorem dX12_edge_94 : decode mX12_edge.2.1 94 = .ok (.imul, 1) := by decide +kernel
theorem dX12_edge_95 : decode mX12_edge.2.1 95 = .ok (.iload 4, 2) := by decide +kernel
theorem dX12_edge_97 : decode mX12_edge.2.1 97 = .ok (.ifCond .eq 7, 3) := by decide +kernel
theorem dX12_edge_100 : decode mX12_edge.2.1 100 = .ok (.iconst 2, 1) := by decide +kernel
theorem dX12_edge_101 : decode mX12_edge.2.1 101 = .ok (.goto 4, 3) := by decide +kernel
theorem dX12_edge_104 : decode mX12_edge.2.1 104 = .ok (.iconst 0, 1) := by decide +kernel
theorem dX12_edge_105 : decode mX12_edge.2.1 105 = .ok (.iadd, 1) := by decide +kernel
theorem dX12_edge_106 : decode mX12_edge.2.1 106 = .ok (.ireturn, 1) := by decide +kernel
theorem bX12_edge_0 {SC : Nat → Nat} {X : mh_X} {d : Nat} {Q : Option am_V → am_W → Prop} {bc bs : Nat} {w : am_W} {x1 : Int} {x2 : Int}
    (h : am_M (mh_G X) SC d 0 0 mX12_isPerson [.inr (.inr (some (9, 0))), .inl x1] w (fun r w1 => am_A (mh_G X) SC (d + 1) mX12_edge Q 5 [(0, .inr (.inr (some (9, 0)))), (1, .inl x1), (2, .inl x2)] (r.toList ++ []) w1 bc bs)) :
    am_A (mh_G X) SC (d + 1) mX12_edge Q 0 [(0, .inr (.inr (some (9, 0)))), (1, .inl x1), (2, .inl x2)] [] w bc bs := by
  refine am_aload_n dX12_edge_0 (List.Mem.head _) ?_
  refine am_iload_n dX12_edge_1 (List.Mem.tail _ (List.Mem.head _)) ?_
  exact am_callv (d' := d) (kc := 0) (ks := 0) (as := [.inl x1]) dX12_edge_2 wc_X12_isPerson wd_2018 wd_2020 wd_73 wd_122 ds_X12_isPerson (by decide) (Nat.le_refl _) (Nat.le_of_ble_eq_true rfl) (Nat.zero_le _) (Nat.zero_le _) hc_10 (by decide) rfl rfl h
theorem bX12_edge_5 {SC : Nat → Nat} {X : mh_X} {d : Nat} {Q : Option am_V → am_W → Prop} {bc bs : Nat} {w : am_W} {x1 : Int} {x2 : Int} {xs0 : Int}
    (h : ((xs0 = 0 → Q (some (.inl (-1))) w) ∧ (¬ xs0 = 0 → am_M (mh_G X) SC d 0 0 mX12_isDay [.inl x2] w (fun r w1 => am_A (mh_G X) SC (d + 1) mX12_edge Q 12 [(0, .inr (.inr (some (9, 0)))), (1, .inl x1), (2, .inl x2)] (r.toList ++ []) w1 bc bs)))) :
    am_A (mh_G X) SC (d + 1) mX12_edge Q 5 [(0, .inr (.inr (some (9, 0)))), (1, .inl x1), (2, .inl x2)] [.inl xs0] w bc bs := by
  refine am_ifeq (tgt := 15) dX12_edge_5 (by decide) (fun c1 => ?_) (fun c1 => ?_)
  · replace h := h.1 c1
    refine am_iconst dX12_edge_15 (by unfold am_rg; omega) ?_
    exact am_ret (r := some (.inl (-1))) dX12_edge_16 (Or.inl rfl) rfl h
  · replace h := h.2 c1
    refine am_iload_n dX12_edge_8 (List.Mem.tail _ (List.Mem.tail _ (List.Mem.head _))) ?_
    exact am_calls (d' := d) (kc := 0) (ks := 0) (as := [.inl x2]) dX12_edge_9 wc_X12_isDay wd_1854 wd_1855 wd_122 ds_X12_isDay (by decide) (Nat.le_refl _) (Nat.le_of_ble_eq_true rfl) (Nat.zero_le _) (Nat.zero_le _) rfl h
theorem bX12_edge_12 {SC : Nat → Nat} {X : mh_X} {d : Nat} {Q : Option am_V → am_W → Prop} {bc bs : Nat} {w : am_W} {x1 : Int} {x2 : Int} {xs0 : Int}
    (h : ((¬ xs0 = 0 → am_M (mh_G X) SC d 0 0 mX12_depthAt [.inr (.inr (some (9, 0))), .inl x1, .inl x2, .inl (w.1 9 0 33)] w (fun r w1 => am_A (mh_G X) SC (d + 1) mX12_edge Q 27 [(0, .inr (.inr (some (9, 0)))), (1, .inl x1), (2, .inl x2)] (r.toList ++ []) w1 bc bs)) ∧ (xs0 = 0 → Q (some (.inl (-1))) w))) :
    am_A (mh_G X) SC (d + 1) mX12_edge Q 12 [(0, .inr (.inr (some (9, 0)))), (1, .inl x1), (2, .inl x2)] [.inl xs0] w bc bs := by
  refine am_ifne (tgt := 17) dX12_edge_12 (by decide) (fun c1 => ?_) (fun c1 => ?_)
  · replace h := h.1 c1
    refine am_aload_n dX12_edge_17 (List.Mem.head _) ?_
    refine am_iload_n dX12_edge_18 (List.Mem.tail _ (List.Mem.head _)) ?_
    refine am_iload_n dX12_edge_19 (List.Mem.tail _ (List.Mem.tail _ (List.Mem.head _))) ?_
    refine am_aload_n dX12_edge_20 (List.Mem.head _) ?_
    refine am_getf (f := 33) (v := .inl (w.1 9 0 33)) dX12_edge_21 hc_10 (by decide) wd_1582 (by decide) rfl rfl ?_
    exact am_callv (d' := d) (kc := 0) (ks := 0) (as := [.inl x1, .inl x2, .inl (w.1 9 0 33)]) dX12_edge_24 wc_X12_depthAt wd_2085 wd_2087 wd_83 wd_122 ds_X12_depthAt (by decide) (Nat.le_refl _) (Nat.le_of_ble_eq_true rfl) (Nat.zero_le _) (Nat.zero_le _) hc_10 (by decide) rfl rfl h
  · replace h := h.2 c1
    refine am_iconst dX12_edge_15 (by unfold am_rg; omega) ?_
    exact am_ret (r := some (.inl (-1))) dX12_edge_16 (Or.inl rfl) rfl h
theorem bX12_edge_27 {SC : Nat → Nat} {X : mh_X} {d : Nat} {Q : Option am_V → am_W → Prop} {bc bs : Nat} {w : am_W} {x1 : Int} {x2 : Int} {xs0 : Int}
    (h : ((0 < xs0 → am_A (mh_G X) SC (d + 1) mX12_edge Q 40 [(0, .inr (.inr (some (9, 0)))), (2, .inl x2), (3, .inl xs0), (4, .inl 0), (5, .inl 0)] [] w bc bs) ∧ (¬ 0 < xs0 → Q (some (.inl xs0)) w))) :
    am_A (mh_G X) SC (d + 1) mX12_edge Q 27 [(0, .inr (.inr (some (9, 0)))), (1, .inl x1), (2, .inl x2)] [.inl xs0] w bc bs := by
  refine am_istore_n (ls' := [(3, .inl xs0), (0, .inr (.inr (some (9, 0)))), (1, .inl x1), (2, .inl x2)]) dX12_edge_27 (by decide) rfl ?_
  refine am_iload_n dX12_edge_28 (List.Mem.head _) ?_
  refine am_ifgt (tgt := 34) dX12_edge_29 (by decide) (fun c1 => ?_) (fun c1 => ?_)
  · replace h := h.1 c1
    refine am_iconst dX12_edge_34 (by unfold am_rg; omega) ?_
    refine am_istore (ls' := [(4, .inl 0), (3, .inl xs0), (0, .inr (.inr (some (9, 0)))), (1, .inl x1), (2, .inl x2)]) dX12_edge_35 (by decide) rfl ?_
    refine am_iconst dX12_edge_37 (by unfold am_rg; omega) ?_
    refine am_istore (ls' := [(5, .inl 0), (4, .inl 0), (3, .inl xs0), (0, .inr (.inr (some (9, 0)))), (1, .inl x1), (2, .inl x2)]) dX12_edge_38 (by decide) rfl ?_
    exact am_sub [3, 5, 2, 1, 0] rfl h
  · replace h := h.2 c1
    refine am_iload_n dX12_edge_32 (List.Mem.head _) ?_
    exact am_ret (r := some (.inl xs0)) dX12_edge_33 (Or.inl rfl) rfl h
theorem bX12_edge_40 {SC : Nat → Nat} {X : mh_X} {d : Nat} {Q : Option am_V → am_W → Prop} {bc bs : Nat} {w : am_W} {x2 : Int} {x3 : Int} {x4 : Int} {x5 : Int}
    (h : (((w.1 9 0 62) ≤ x5 → ((x4 = 0 → Q (some (.inl (am_w ((am_w (2 * x3)) + 0)))) w) ∧ (¬ x4 = 0 → Q (some (.inl (am_w ((am_w (2 * x3)) + 2)))) w))) ∧ (¬ (w.1 9 0 62) ≤ x5 → ((¬ x4 = 0 → am_A (mh_G X) SC (d + 1) mX12_edge Q 79 [(0, .inr (.inr (some (9, 0)))), (2, .inl x2), (3, .inl x3), (5, .inl x5)] [] w bc bs) ∧ (x4 = 0 → (0 ≤ x5 ∧ (x5 < 40 ∧ ((x2 < (w.1 115 0 x5.toNat) → am_A (mh_G X) SC (d + 1) mX12_edge Q 83 [(0, .inr (.inr (some (9, 0)))), (2, .inl x2), (3, .inl x3), (5, .inl x5)] [] w bc bs) ∧ (¬ x2 < (w.1 115 0 x5.toNat) → ((30 ≤ (am_w (x2 - (w.1 115 0 x5.toNat))) → am_A (mh_G X) SC (d + 1) mX12_edge Q 83 [(0, .inr (.inr (some (9, 0)))), (2, .inl x2), (3, .inl x3), (5, .inl x5)] [] w bc bs) ∧ (¬ 30 ≤ (am_w (x2 - (w.1 115 0 x5.toNat))) → am_A (mh_G X) SC (d + 1) mX12_edge Q 79 [(0, .inr (.inr (some (9, 0)))), (2, .inl x2), (3, .inl x3), (5, .inl x5)] [] w bc bs))))))))))) :
    am_A (mh_G X) SC (d + 1) mX12_edge Q 40 [(0, .inr (.inr (some (9, 0)))), (2, .inl x2), (3, .inl x3), (4, .inl x4), (5, .inl x5)] [] w bc bs := by
  refine am_iload dX12_edge_40 (List.Mem.tail _ (List.Mem.tail _ (List.Mem.tail _ (List.Mem.tail _ (List.Mem.head _))))) ?_
  refine am_aload_n dX12_edge_42 (List.Mem.head _) ?_
  refine am_getf (f := 62) (v := .inl (w.1 9 0 62)) dX12_edge_43 hc_10 (by decide) wd_1611 (by decide) rfl rfl ?_
  refine am_icmpge (tgt := 92) dX12_edge_46 (by decide) (fun c1 => ?_) (fun c1 => ?_)
  · replace h := h.1 c1
    refine am_iconst dX12_edge_92 (by unfold am_rg; omega) ?_
    refine am_iload_n dX12_edge_93 (List.Mem.tail _ (List.Mem.tail _ (List.Mem.head _))) ?_
    refine am_imul dX12_edge_94 ?_
    refine am_iload dX12_edge_95 (List.Mem.tail _ (List.Mem.tail _ (List.Mem.tail _ (List.Mem.head _)))) ?_
    refine am_ifeq (tgt := 104) dX12_edge_97 (by decide) (fun c2 => ?_) (fun c2 => ?_)
    · replace h := h.1 c2
      refine am_iconst dX12_edge_104 (by unfold am_rg; omega) ?_
      refine am_iadd dX12_edge_105 ?_
      exact am_ret (r := some (.inl (am_w ((am_w (2 * x3)) + 0)))) dX12_edge_106 (Or.inl rfl) rfl h
    · replace h := h.2 c2
      refine am_iconst dX12_edge_100 (by unfold am_rg; omega) ?_
      refine am_goto (tgt := 105) dX12_edge_101 (by decide) ?_
      refine am_iadd dX12_edge_105 ?_
      exact am_ret (r := some (.inl (am_w ((am_w (2 * x3)) + 2)))) dX12_edge_106 (Or.inl rfl) rfl h
  · replace h := h.2 c1
    refine am_iload dX12_edge_49 (List.Mem.tail _ (List.Mem.tail _ (List.Mem.tail _ (List.Mem.head _)))) ?_
    refine am_ifne (tgt := 79) dX12_edge_51 (by decide) (fun c3 => ?_) (fun c3 => ?_)
    · replace h := h.1 c3
      exact am_sub [0, 1, 2, 4] rfl h
    · replace h := h.2 c3
      refine am_iload_n dX12_edge_54 (List.Mem.tail _ (List.Mem.head _)) ?_
      refine am_aload_n dX12_edge_55 (List.Mem.head _) ?_
      refine am_getf (f := 56) (v := .inr (.inr (some (115, 0)))) dX12_edge_56 hc_10 (by decide) wd_1605 (by decide) rfl rfl ?_
      refine am_iload dX12_edge_59 (List.Mem.tail _ (List.Mem.tail _ (List.Mem.tail _ (List.Mem.tail _ (List.Mem.head _))))) ?_
      have o4 := h.1
      replace h := h.2
      have o5 := h.1
      replace h := h.2
      refine am_iaload (v := (w.1 115 0 x5.toNat)) dX12_edge_61 (by decide) rfl o4 o5 rfl ?_
      refine am_icmplt (tgt := 83) dX12_edge_62 (by decide) (fun c6 => ?_) (fun c6 => ?_)
      · replace h := h.1 c6
        exact am_sub [0, 1, 2, 4] rfl h
      · replace h := h.2 c6
        refine am_iload_n dX12_edge_65 (List.Mem.tail _ (List.Mem.head _)) ?_
        refine am_aload_n dX12_edge_66 (List.Mem.head _) ?_
        refine am_getf (f := 56) (v := .inr (.inr (some (115, 0)))) dX12_edge_67 hc_10 (by decide) wd_1605 (by decide) rfl rfl ?_
        refine am_iload dX12_edge_70 (List.Mem.tail _ (List.Mem.tail _ (List.Mem.tail _ (List.Mem.tail _ (List.Mem.head _))))) ?_
        refine am_iaload (v := (w.1 115 0 x5.toNat)) dX12_edge_72 (by decide) rfl o4 o5 rfl ?_
        refine am_isub dX12_edge_73 ?_
        refine am_bipush dX12_edge_74 (by decide) (by unfold am_rg; omega) ?_
        refine am_icmpge (tgt := 83) dX12_edge_76 (by decide) (fun c7 => ?_) (fun c7 => ?_)
        · replace h := h.1 c7
          exact am_sub [0, 1, 2, 4] rfl h
        · replace h := h.2 c7
          exact am_sub [0, 1, 2, 4] rfl h
theorem bX12_edge_79 {SC : Nat → Nat} {X : mh_X} {d : Nat} {Q : Option am_V → am_W → Prop} {bc bs : Nat} {w : am_W} {x2 : Int} {x3 : Int} {x5 : Int}
    (h : am_A (mh_G X) SC (d + 1) mX12_edge Q 84 [(0, .inr (.inr (some (9, 0)))), (2, .inl x2), (3, .inl x3), (5, .inl x5)] [.inl 1] w bc bs) :
    am_A (mh_G X) SC (d + 1) mX12_edge Q 79 [(0, .inr (.inr (some (9, 0)))), (2, .inl x2), (3, .inl x3), (5, .inl x5)] [] w bc bs := by
  refine am_iconst dX12_edge_79 (by unfold am_rg; omega) ?_
  refine am_goto (tgt := 84) dX12_edge_80 (by decide) ?_
  exact h
theorem bX12_edge_83 {SC : Nat → Nat} {X : mh_X} {d : Nat} {Q : Option am_V → am_W → Prop} {bc bs : Nat} {w : am_W} {x2 : Int} {x3 : Int} {x5 : Int}
    (h : am_A (mh_G X) SC (d + 1) mX12_edge Q 84 [(0, .inr (.inr (some (9, 0)))), (2, .inl x2), (3, .inl x3), (5, .inl x5)] [.inl 0] w bc bs) :
    am_A (mh_G X) SC (d + 1) mX12_edge Q 83 [(0, .inr (.inr (some (9, 0)))), (2, .inl x2), (3, .inl x3), (5, .inl x5)] [] w bc bs := by
  refine am_iconst dX12_edge_83 (by unfold am_rg; omega) ?_
  exact h
theorem bX12_edge_84 {SC : Nat → Nat} {X : mh_X} {d : Nat} {Q : Option am_V → am_W → Prop} {bc bs : Nat} {w : am_W} {x2 : Int} {x3 : Int} {x5 : Int} {xs0 : Int}
    (h : am_A (mh_G X) SC (d + 1) mX12_edge Q 40 [(0, .inr (.inr (some (9, 0)))), (2, .inl x2), (3, .inl x3), (4, .inl xs0), (5, .inl (am_w (x5 + 1)))] [] w bc bs) :
    am_A (mh_G X) SC (d + 1) mX12_edge Q 84 [(0, .inr (.inr (some (9, 0)))), (2, .inl x2), (3, .inl x3), (5, .inl x5)] [.inl xs0] w bc bs := by
  refine am_istore (ls' := [(4, .inl xs0), (0, .inr (.inr (some (9, 0)))), (2, .inl x2), (3, .inl x3), (5, .inl x5)]) dX12_edge_84 (by decide) rfl ?_
  refine am_iinc (ls' := [(5, .inl (am_w (x5 + 1))), (4, .inl xs0), (0, .inr (.inr (some (9, 0)))), (2, .inl x2), (3, .inl x3)]) dX12_edge_86 (List.Mem.tail _ (List.Mem.tail _ (List.Mem.tail _ (List.Mem.tail _ (List.Mem.head _))))) (by decide) rfl ?_
  refine am_goto (tgt := 40) dX12_edge_89 (by decide) ?_
  exact am_sub [2, 3, 4, 1, 0] rfl h
-- MourningHouseModel.isAct(I)Z
theorem dX12_isAct_0 : decode mX12_isAct.2.1 0 = .ok (.iload_n 0, 1) := by decide +kernel
theorem dX12_isAct_1 : decode mX12_isAct.2.1 1 = .ok (.iconst 0, 1) := by decide +kernel
theorem dX12_isAct_2 : decode mX12_isAct.2.1 2 = .ok (.iconst 3, 1) := by decide +kernel
theorem dX12_isAct_3 : decode mX12_isAct.2.1 3 = .ok (.invokestatic 318, 3) := by decide +kernel
theorem dX12_isAct_6 : decode mX12_isAct.2.1 6 = .ok (.ireturn, 1) := by decide +kernel
theorem bX12_isAct_0 {SC : Nat → Nat} {X : mh_X} {d : Nat} {Q : Option am_V → am_W → Prop} {bc bs : Nat} {w : am_W} {x0 : Int}
    (h : am_M (mh_G X) SC d 0 0 mX12_in [.inl x0, .inl 0, .inl 3] w (fun r w1 => am_A (mh_G X) SC (d + 1) mX12_isAct Q 6 [(0, .inl x0)] (r.toList ++ []) w1 bc bs)) :
    am_A (mh_G X) SC (d + 1) mX12_isAct Q 0 [(0, .inl x0)] [] w bc bs := by
  refine am_iload_n dX12_isAct_0 (List.Mem.head _) ?_
  refine am_iconst dX12_isAct_1 (by unfold am_rg; omega) ?_
  refine am_iconst dX12_isAct_2 (by unfold am_rg; omega) ?_
  exact am_calls (d' := d) (kc := 0) (ks := 0) (as := [.inl x0, .inl 0, .inl 3]) dX12_isAct_3 wc_X12_in wd_1859 wd_1860 wd_122 ds_X12_in (by decide) (Nat.le_refl _) (Nat.le_of_ble_eq_true rfl) (Nat.zero_le _) (Nat.zero_le _) rfl h
theorem bX12_isAct_6 {SC : Nat → Nat} {X : mh_X} {d : Nat} {Q : Option am_V → am_W → Prop} {bc bs : Nat} {w : am_W} {x0 : Int} {xs0 : Int}
    (h : ((xs0 = 0 ∨ xs0 = 1) ∧ Q (some (.inl xs0)) w)) :
    am_A (mh_G X) SC (d + 1) mX12_isAct Q 6 [(0, .inl x0)] [.inl xs0] w bc bs := by
  have o1 := h.1
  replace h := h.2
  exact am_ret (r := some (.inl xs0)) dX12_isAct_6 (Or.inr (Or.inl ⟨rfl, o1⟩)) rfl h
-- MourningHouseModel.mayBe(II)Z
theorem dX12_mayBe_0 : decode mX12_mayBe.2.1 0 = .ok (.aload_n 0, 1) := by decide +kernel
theorem dX12_mayBe_1 : decode mX12_mayBe.2.1 1 = .ok (.iload_n 2, 1) := by decide +kernel
theorem dX12_mayBe_2 : decode mX12_mayBe.2.1 2 = .ok (.aload_n 0, 1) := by decide +kernel
theorem dX12_mayBe_3 : decode mX12_mayBe.2.1 3 = .ok (.getfield 505, 3) := by decide +kernel
theorem dX12_mayBe_6 : decode mX12_mayBe.2.1 6 = .ok (.invokevirtual 487, 3) := by decide +kernel
theorem dX12_mayBe_9 : decode mX12_mayBe.2.1 9 = .ok (.istore_n 3, 1) := by decide +kernel
theorem dX12_mayBe_10 : decode mX12_mayBe.2.1 10 = .ok (.iload_n 3, 1) := by decide +kernel
theorem dX12_mayBe_11 : decode mX12_mayBe.2.1 11 = .ok (.iconst (-1), 1) := by decide +kernel
theorem dX12_mayBe_12 : decode mX12_mayBe.2.1 12 = .ok (.if_icmp .eq 19, 3) := by decide +kernel
theorem dX12_mayBe_15 : decode mX12_mayBe.2.1 15 = .ok (.aload_n 0, 1) := by decide +kernel
theorem dX12_mayBe_16 : decode mX12_mayBe.2.1 16 = .ok (.iload_n 2, 1) := by decide +kernel
theorem dX12_mayBe_17 : decode mX12_mayBe.2.1 17 = .ok (.invokevirtual 557, 3) := by decide +kernel
theorem dX12_mayBe_20 : decode mX12_mayBe.2.1 20 = .ok (.aload_n 0, 1) := by decide +kernel
theorem dX12_mayBe_21 : decode mX12_mayBe.2.1 21 = .ok (.getfield 42, 3) := by decide +kernel
theorem dX12_mayBe_24 : decode mX12_mayBe.2.1 24 = .ok (.iload_n 3, 1) := by decide +kernel
theorem dX12_mayBe_25 : decode mX12_mayBe.2.1 25 = .ok (.aaload, 1) := by decide +kernel
theorem dX12_mayBe_26 : decode mX12_mayBe.2.1 26 = .ok (.iload_n 1, 1) := by decide +kernel
theorem dX12_mayBe_27 : decode mX12_mayBe.2.1 27 = .ok (.iaload, 1) := by decide +kernel
theorem dX12_mayBe_28 : decode mX12_mayBe.2.1 28 = .ok (.if_icmp .gt 7, 3) := by decide +kernel
theorem dX12_mayBe_31 : decode mX12_mayBe.2.1 31 = .ok (.iconst 1, 1) := by decide +kernel
theorem dX12_mayBe_32 : decode mX12_mayBe.2.1 32 = .ok (.goto 4, 3) := by decide +kernel
theorem dX12_mayBe_35 : decode mX12_mayBe.2.1 35 = .ok (.iconst 0, 1) := by decide +kernel
theorem dX12_mayBe_36 : decode mX12_mayBe.2.1 36 = .ok (.ireturn, 1) := by decide +kernel
theorem bX12_mayBe_0 {SC : Nat → Nat} {X : mh_X} {d : Nat} {Q : Option am_V → am_W → Prop} {bc bs : Nat} {w : am_W} {x1 : Int} {x2 : Int}
    (h : am_M (mh_G X) SC d 0 0 mX12_lawOf [.inr (.inr (some (9, 0))), .inl x2, .inl (w.1 9 0 64)] w (fun r w1 => am_A (mh_G X) SC (d + 1) mX12_mayBe Q 9 [(0, .inr (.inr (some (9, 0)))), (1, .inl x1), (2, .inl x2)] (r.toList ++ []) w1 bc bs)) :
    am_A (mh_G X) SC (d + 1) mX12_mayBe Q 0 [(0, .inr (.inr (some (9, 0)))), (1, .inl x1), (2, .inl x2)] [] w bc bs := by
  refine am_aload_n dX12_mayBe_0 (List.Mem.head _) ?_
  refine am_iload_n dX12_mayBe_1 (List.Mem.tail _ (List.Mem.tail _ (List.Mem.head _))) ?_
  refine am_aload_n dX12_mayBe_2 (List.Mem.head _) ?_
  refine am_getf (f := 64) (v := .inl (w.1 9 0 64)) dX12_mayBe_3 hc_10 (by decide) wd_1613 (by decide) rfl rfl ?_
  exact am_callv (d' := d) (kc := 0) (ks := 0) (as := [.inl x2, .inl (w.1 9 0 64)]) dX12_mayBe_6 wc_X12_lawOf wd_2077 wd_2079 wd_82 wd_122 ds_X12_lawOf (by decide) (Nat.le_refl _) (Nat.le_of_ble_eq_true rfl) (Nat.zero_le _) (Nat.zero_le _) hc_10 (by decide) rfl rfl h
theorem bX12_mayBe_9 {SC : Nat → Nat} {X : mh_X} {d : Nat} {Q : Option am_V → am_W → Prop} {bc bs : Nat} {w : am_W} {x1 : Int} {x2 : Int} {xs0 : Int}
    (h : ((xs0 = (-1) → Q (some (.inl 1)) w) ∧ (¬ xs0 = (-1) → am_M (mh_G X) SC d 0 0 mX12_depthNow [.inr (.inr (some (9, 0))), .inl x2] w (fun r w1 => am_A (mh_G X) SC (d + 1) mX12_mayBe Q 20 [(3, .inl xs0), (0, .inr (.inr (some (9, 0)))), (1, .inl x1), (2, .inl x2)] (r.toList ++ []) w1 bc bs)))) :
    am_A (mh_G X) SC (d + 1) mX12_mayBe Q 9 [(0, .inr (.inr (some (9, 0)))), (1, .inl x1), (2, .inl x2)] [.inl xs0] w bc bs := by
  refine am_istore_n (ls' := [(3, .inl xs0), (0, .inr (.inr (some (9, 0)))), (1, .inl x1), (2, .inl x2)]) dX12_mayBe_9 (by decide) rfl ?_
  refine am_iload_n dX12_mayBe_10 (List.Mem.head _) ?_
  refine am_iconst dX12_mayBe_11 (by unfold am_rg; omega) ?_
  refine am_icmpeq (tgt := 31) dX12_mayBe_12 (by decide) (fun c1 => ?_) (fun c1 => ?_)
  · replace h := h.1 c1
    refine am_iconst dX12_mayBe_31 (by unfold am_rg; omega) ?_
    refine am_goto (tgt := 36) dX12_mayBe_32 (by decide) ?_
    exact am_ret (r := some (.inl 1)) dX12_mayBe_36 (Or.inr (Or.inl ⟨rfl, (Or.inr rfl)⟩)) rfl h
  · replace h := h.2 c1
    refine am_aload_n dX12_mayBe_15 (List.Mem.tail _ (List.Mem.head _)) ?_
    refine am_iload_n dX12_mayBe_16 (List.Mem.tail _ (List.Mem.tail _ (List.Mem.tail _ (List.Mem.head _)))) ?_
    exact am_callv (d' := d) (kc := 0) (ks := 0) (as := [.inl x2]) dX12_mayBe_17 wc_X12_depthNow wd_2125 wd_2127 wd_92 wd_122 ds_X12_depthNow (by decide) (Nat.le_refl _) (Nat.le_of_ble_eq_true rfl) (Nat.zero_le _) (Nat.zero_le _) hc_10 (by decide) rfl rfl h
theorem bX12_mayBe_20 {SC : Nat → Nat} {X : mh_X} {d : Nat} {Q : Option am_V → am_W → Prop} {bc bs : Nat} {w : am_W} {x3 : Int} {x1 : Int} {x2 : Int} {xs0 : Int}
    (h : (0 ≤ x3 ∧ (x3 < 7 ∧ (0 ≤ x1 ∧ (x1 < 4 ∧ (((w.1 83 x3.toNat x1.toNat) < xs0 → Q (some (.inl 0)) w) ∧ (¬ (w.1 83 x3.toNat x1.toNat) < xs0 → Q (some (.inl 1)) w))))))) :
    am_A (mh_G X) SC (d + 1) mX12_mayBe Q 20 [(3, .inl x3), (0, .inr (.inr (some (9, 0)))), (1, .inl x1), (2, .inl x2)] [.inl xs0] w bc bs := by
  refine am_aload_n dX12_mayBe_20 (List.Mem.tail _ (List.Mem.head _)) ?_
  refine am_getf (f := 13) (v := .inr (.inr (some (82, 0)))) dX12_mayBe_21 hc_10 (by decide) wd_1562 (by decide) rfl rfl ?_
  refine am_iload_n dX12_mayBe_24 (List.Mem.head _) ?_
  have o1 := h.1
  replace h := h.2
  have o2 := h.1
  replace h := h.2
  refine am_aaload (kd := 5) (r := some (83, x3.toNat)) dX12_mayBe_25 (by decide) rfl (by decide) (by decide) o1 o2 rfl ?_
  refine am_iload_n dX12_mayBe_26 (List.Mem.tail _ (List.Mem.tail _ (List.Mem.head _))) ?_
  have o3 := h.1
  replace h := h.2
  have o4 := h.1
  replace h := h.2
  refine am_iaload (v := (w.1 83 x3.toNat x1.toNat)) dX12_mayBe_27 (by decide) rfl o3 o4 rfl ?_
  refine am_icmpgt (tgt := 35) dX12_mayBe_28 (by decide) (fun c5 => ?_) (fun c5 => ?_)
  · replace h := h.1 c5
    refine am_iconst dX12_mayBe_35 (by unfold am_rg; omega) ?_
    exact am_ret (r := some (.inl 0)) dX12_mayBe_36 (Or.inr (Or.inl ⟨rfl, (Or.inl rfl)⟩)) rfl h
  · replace h := h.2 c5
    refine am_iconst dX12_mayBe_31 (by unfold am_rg; omega) ?_
    refine am_goto (tgt := 36) dX12_mayBe_32 (by decide) ?_
    exact am_ret (r := some (.inl 1)) dX12_mayBe_36 (Or.inr (Or.inl ⟨rfl, (Or.inr rfl)⟩)) rfl h
-- MourningHouseModel.mayAt(IIII)Z
theorem dX12_mayAt_0 : decode mX12_mayAt.2.1 0 = .ok (.aload_n 0, 1) := by decide +kernel
theorem dX12_mayAt_1 : decode mX12_mayAt.2.1 1 = .ok (.iload_n 1, 1) := by decide +kernel
theorem dX12_mayAt_2 : decode mX12_mayAt.2.1 2 = .ok (.iload_n 3, 1) := by decide +kernel
theorem dX12_mayAt_3 : decode mX12_mayAt.2.1 3 = .ok (.iload 4, 2) := by decide +kernel
theorem dX12_mayAt_5 : decode mX12_mayAt.2.1 5 = .ok (.invokevirtual 560, 3) := by decide +kernel
theorem dX12_mayAt_8 : decode mX12_mayAt.2.1 8 = .ok (.iconst (-1), 1) := by decide +kernel
theorem dX12_mayAt_9 : decode mX12_mayAt.2.1 9 = .ok (.if_icmp .ne 5, 3) := by decide +kernel
theorem dX12_mayAt_12 : decode mX12_mayAt.2.1 12 = .ok (.iconst 0, 1) := by decide +kernel
theorem dX12_mayAt_13 : decode mX12_mayAt.2.1 13 = .ok (.ireturn, 1) := by decide +kernel
theorem dX12_mayAt_14 : decode mX12_mayAt.2.1 14 = .ok (.aload_n 0, 1) := by decide +kernel
theorem dX12_mayAt_15 : decode mX12_mayAt.2.1 15 = .ok (.iload_n 2, 1) := by decide +kernel
theorem dX12_mayAt_16 : decode mX12_mayAt.2.1 16 = .ok (.iload_n 3, 1) := by decide +kernel
theorem dX12_mayAt_17 : decode mX12_mayAt.2.1 17 = .ok (.invokevirtual 564, 3) := by decide +kernel
theorem dX12_mayAt_20 : decode mX12_mayAt.2.1 20 = .ok (.ireturn, 1) := by decide +kernel
theorem bX12_mayAt_0 {SC : Nat → Nat} {X : mh_X} {d : Nat} {Q : Option am_V → am_W → Prop} {bc bs : Nat} {w : am_W} {x1 : Int} {x2 : Int} {x3 : Int} {x4 : Int}
    (h : am_M (mh_G X) SC d 0 0 mX12_depthAt [.inr (.inr (some (9, 0))), .inl x1, .inl x3, .inl x4] w (fun r w1 => am_A (mh_G X) SC (d + 1) mX12_mayAt Q 8 [(0, .inr (.inr (some (9, 0)))), (1, .inl x1), (2, .inl x2), (3, .inl x3), (4, .inl x4)] (r.toList ++ []) w1 bc bs)) :
    am_A (mh_G X) SC (d + 1) mX12_mayAt Q 0 [(0, .inr (.inr (some (9, 0)))), (1, .inl x1), (2, .inl x2), (3, .inl x3), (4, .inl x4)] [] w bc bs := by
  refine am_aload_n dX12_mayAt_0 (List.Mem.head _) ?_
  refine am_iload_n dX12_mayAt_1 (List.Mem.tail _ (List.Mem.head _)) ?_
  refine am_iload_n dX12_mayAt_2 (List.Mem.tail _ (List.Mem.tail _ (List.Mem.tail _ (List.Mem.head _)))) ?_
  refine am_iload dX12_mayAt_3 (List.Mem.tail _ (List.Mem.tail _ (List.Mem.tail _ (List.Mem.tail _ (List.Mem.head _))))) ?_
  exact am_callv (d' := d) (kc := 0) (ks := 0) (as := [.inl x1, .inl x3, .inl x4]) dX12_mayAt_5 wc_X12_depthAt wd_2085 wd_2087 wd_83 wd_122 ds_X12_depthAt (by decide) (Nat.le_refl _) (Nat.le_of_ble_eq_true rfl) (Nat.zero_le _) (Nat.zero_le _) hc_10 (by decide) rfl rfl h
theorem bX12_mayAt_8 {SC : Nat → Nat} {X : mh_X} {d : Nat} {Q : Option am_V → am_W → Prop} {bc bs : Nat} {w : am_W} {x1 : Int} {x2 : Int} {x3 : Int} {x4 : Int} {xs0 : Int}
    (h : ((¬ xs0 = (-1) → am_M (mh_G X) SC d 0 0 mX12_mayBe [.inr (.inr (some (9, 0))), .inl x2, .inl x3] w (fun r w1 => am_A (mh_G X) SC (d + 1) mX12_mayAt Q 20 [(0, .inr (.inr (some (9, 0)))), (1, .inl x1), (2, .inl x2), (3, .inl x3), (4, .inl x4)] (r.toList ++ []) w1 bc bs)) ∧ (xs0 = (-1) → Q (some (.inl 0)) w))) :
    am_A (mh_G X) SC (d + 1) mX12_mayAt Q 8 [(0, .inr (.inr (some (9, 0)))), (1, .inl x1), (2, .inl x2), (3, .inl x3), (4, .inl x4)] [.inl xs0] w bc bs := by
  refine am_iconst dX12_mayAt_8 (by unfold am_rg; omega) ?_
  refine am_icmpne (tgt := 14) dX12_mayAt_9 (by decide) (fun c1 => ?_) (fun c1 => ?_)
  · replace h := h.1 c1
    refine am_aload_n dX12_mayAt_14 (List.Mem.head _) ?_
    refine am_iload_n dX12_mayAt_15 (List.Mem.tail _ (List.Mem.tail _ (List.Mem.head _))) ?_
    refine am_iload_n dX12_mayAt_16 (List.Mem.tail _ (List.Mem.tail _ (List.Mem.tail _ (List.Mem.head _)))) ?_
    exact am_callv (d' := d) (kc := 0) (ks := 0) (as := [.inl x2, .inl x3]) dX12_mayAt_17 wc_X12_mayBe wd_2159 wd_2161 wd_96 wd_122 ds_X12_mayBe (by decide) (Nat.le_refl _) (Nat.le_of_ble_eq_true rfl) (Nat.zero_le _) (Nat.zero_le _) hc_10 (by decide) rfl rfl h
  · replace h := h.2 c1
    refine am_iconst dX12_mayAt_12 (by unfold am_rg; omega) ?_
    exact am_ret (r := some (.inl 0)) dX12_mayAt_13 (Or.inr (Or.inl ⟨rfl, (Or.inl rfl)⟩)) rfl h
theorem bX12_mayAt_20 {SC : Nat → Nat} {X : mh_X} {d : Nat} {Q : Option am_V → am_W → Prop} {bc bs : Nat} {w : am_W} {x1 : Int} {x2 : Int} {x3 : Int} {x4 : Int} {xs0 : Int}
    (h : ((xs0 = 0 ∨ xs0 = 1) ∧ Q (some (.inl xs0)) w)) :
    am_A (mh_G X) SC (d + 1) mX12_mayAt Q 20 [(0, .inr (.inr (some (9, 0)))), (1, .inl x1), (2, .inl x2), (3, .inl x3), (4, .inl x4)] [.inl xs0] w bc bs := by
  have o1 := h.1
  replace h := h.2
  exact am_ret (r := some (.inl xs0)) dX12_mayAt_20 (Or.inr (Or.inl ⟨rfl, o1⟩)) rfl h
-- MourningHouseModel.may(IIII)Z
theorem dX12_may_0 : decode mX12_may.2.1 0 = .ok (.aload_n 0, 1) := by decide +kernel
theorem dX12_may_1 : decode mX12_may.2.1 1 = .ok (.iload_n 1, 1) := by decide +kernel
theorem dX12_may_2 : decode mX12_may.2.1 2 = .ok (.invokevirtual 453, 3) := by decide +kernel
theorem dX12_may_5 : decode mX12_may.2.1 5 = .ok (.ifCond .eq 42, 3) := by decide +kernel
theorem dX12_may_8 : decode mX12_may.2.1 8 = .ok (.iload_n 2, 1) := by decide +kernel
theorem dX12_may_9 : decode mX12_may.2.1 9 = .ok (.invokestatic 567, 3) := by decide +kernel
theorem dX12_may_12 : decode mX12_may.2.1 12 = .ok (.ifCond .eq 35, 3) := by decide +kernel
theorem dX12_may_15 : decode mX12_may.2.1 15 = .ok (.iload_n 3, 1) := by decide +kernel
theorem dX12_may_16 : decode mX12_may.2.1 16 = .ok (.invokestatic 322, 3) := by decide +kernel
theorem dX12_may_19 : decode mX12_may.2.1 19 = .ok (.ifCond .eq 28, 3) := by decide +kernel
theorem dX12_may_22 : decode mX12_may.2.1 22 = .ok (.aload_n 0, 1) := by decide +kernel
theorem dX12_may_23 : decode mX12_may.2.1 23 = .ok (.iload 4, 2) := by decide +kernel
theorem dX12_may_25 : decode mX12_may.2.1 25 = .ok (.invokevirtual 490, 3) := by decide +kernel
theorem dX12_may_28 : decode mX12_may.2.1 28 = .ok (.ifCond .eq 19, 3) := by decide +kernel
theorem dX12_may_31 : decode mX12_may.2.1 31 = .ok (.aload_n 0, 1) := by decide +kernel
theorem dX12_may_32 : decode mX12_may.2.1 32 = .ok (.iload_n 1, 1) := by decide +kernel
theorem dX12_may_33 : decode mX12_may.2.1 33 = .ok (.iload_n 2, 1) := by decide +kernel
theorem dX12_may_34 : decode mX12_may.2.1 34 = .ok (.iload_n 3, 1) := by decide +kernel
theorem dX12_may_35 : decode mX12_may.2.1 35 = .ok (.iload 4, 2) := by decide +kernel
theorem dX12_may_37 : decode mX12_may.2.1 37 = .ok (.invokevirtual 570, 3) := by decide +kernel
theorem dX12_may_40 : decode mX12_may.2.1 40 = .ok (.ifCond .eq 7, 3) := by decide +kernel
theorem dX12_may_43 : decode mX12_may.2.1 43 = .ok (.iconst 1, 1) := by decide +kernel
theorem dX12_may_44 : decode mX12_may.2.1 44 = .ok (.goto 4, 3) := by decide +kernel
theorem dX12_may_47 : decode mX12_may.2.1 47 = .ok (.iconst 0, 1) := by decide +kernel
theorem dX12_may_48 : decode mX12_may.2.1 48 = .ok (.ireturn, 1) := by decide +kernel
theorem bX12_may_0 {SC : Nat → Nat} {X : mh_X} {d : Nat} {Q : Option am_V → am_W → Prop} {bc bs : Nat} {w : am_W} {x1 : Int} {x2 : Int} {x3 : Int} {x4 : Int}
    (h : am_M (mh_G X) SC d 0 0 mX12_isPerson [.inr (.inr (some (9, 0))), .inl x1] w (fun r w1 => am_A (mh_G X) SC (d + 1) mX12_may Q 5 [(0, .inr (.inr (some (9, 0)))), (1, .inl x1), (2, .inl x2), (3, .inl x3), (4, .inl x4)] (r.toList ++ []) w1 bc bs)) :
    am_A (mh_G X) SC (d + 1) mX12_may Q 0 [(0, .inr (.inr (some (9, 0)))), (1, .inl x1), (2, .inl x2), (3, .inl x3), (4, .inl x4)] [] w bc bs := by
  refine am_aload_n dX12_may_0 (List.Mem.head _) ?_
  refine am_iload_n dX12_may_1 (List.Mem.tail _ (List.Mem.head _)) ?_
  exact am_callv (d' := d) (kc := 0) (ks := 0) (as := [.inl x1]) dX12_may_2 wc_X12_isPerson wd_2018 wd_2020 wd_73 wd_122 ds_X12_isPerson (by decide) (Nat.le_refl _) (Nat.le_of_ble_eq_true rfl) (Nat.zero_le _) (Nat.zero_le _) hc_10 (by decide) rfl rfl h
theorem bX12_may_5 {SC : Nat → Nat} {X : mh_X} {d : Nat} {Q : Option am_V → am_W → Prop} {bc bs : Nat} {w : am_W} {x1 : Int} {x2 : Int} {x3 : Int} {x4 : Int} {xs0 : Int}
    (h : ((xs0 = 0 → Q (some (.inl 0)) w) ∧ (¬ xs0 = 0 → am_M (mh_G X) SC d 0 0 mX12_isAct [.inl x2] w (fun r w1 => am_A (mh_G X) SC (d + 1) mX12_may Q 12 [(0, .inr (.inr (some (9, 0)))), (1, .inl x1), (2, .inl x2), (3, .inl x3), (4, .inl x4)] (r.toList ++ []) w1 bc bs)))) :
    am_A (mh_G X) SC (d + 1) mX12_may Q 5 [(0, .inr (.inr (some (9, 0)))), (1, .inl x1), (2, .inl x2), (3, .inl x3), (4, .inl x4)] [.inl xs0] w bc bs := by
  refine am_ifeq (tgt := 47) dX12_may_5 (by decide) (fun c1 => ?_) (fun c1 => ?_)
  · replace h := h.1 c1
    refine am_iconst dX12_may_47 (by unfold am_rg; omega) ?_
    exact am_ret (r := some (.inl 0)) dX12_may_48 (Or.inr (Or.inl ⟨rfl, (Or.inl rfl)⟩)) rfl h
  · replace h := h.2 c1
    refine am_iload_n dX12_may_8 (List.Mem.tail _ (List.Mem.tail _ (List.Mem.head _))) ?_
    exact am_calls (d' := d) (kc := 0) (ks := 0) (as := [.inl x2]) dX12_may_9 wc_X12_isAct wd_2152 wd_2153 wd_122 ds_X12_isAct (by decide) (Nat.le_refl _) (Nat.le_of_ble_eq_true rfl) (Nat.zero_le _) (Nat.zero_le _) rfl h
theorem bX12_may_12 {SC : Nat → Nat} {X : mh_X} {d : Nat} {Q : Option am_V → am_W → Prop} {bc bs : Nat} {w : am_W} {x1 : Int} {x2 : Int} {x3 : Int} {x4 : Int} {xs0 : Int}
    (h : ((xs0 = 0 → Q (some (.inl 0)) w) ∧ (¬ xs0 = 0 → am_M (mh_G X) SC d 0 0 mX12_isDay [.inl x3] w (fun r w1 => am_A (mh_G X) SC (d + 1) mX12_may Q 19 [(0, .inr (.inr (some (9, 0)))), (1, .inl x1), (2, .inl x2), (3, .inl x3), (4, .inl x4)] (r.toList ++ []) w1 bc bs)))) :
    am_A (mh_G X) SC (d + 1) mX12_may Q 12 [(0, .inr (.inr (some (9, 0)))), (1, .inl x1), (2, .inl x2), (3, .inl x3), (4, .inl x4)] [.inl xs0] w bc bs := by
  refine am_ifeq (tgt := 47) dX12_may_12 (by decide) (fun c1 => ?_) (fun c1 => ?_)
  · replace h := h.1 c1
    refine am_iconst dX12_may_47 (by unfold am_rg; omega) ?_
    exact am_ret (r := some (.inl 0)) dX12_may_48 (Or.inr (Or.inl ⟨rfl, (Or.inl rfl)⟩)) rfl h
  · replace h := h.2 c1
    refine am_iload_n dX12_may_15 (List.Mem.tail _ (List.Mem.tail _ (List.Mem.tail _ (List.Mem.head _)))) ?_
    exact am_calls (d' := d) (kc := 0) (ks := 0) (as := [.inl x3]) dX12_may_16 wc_X12_isDay wd_1854 wd_1855 wd_122 ds_X12_isDay (by decide) (Nat.le_refl _) (Nat.le_of_ble_eq_true rfl) (Nat.zero_le _) (Nat.zero_le _) rfl h
theorem bX12_may_19 {SC : Nat → Nat} {X : mh_X} {d : Nat} {Q : Option am_V → am_W → Prop} {bc bs : Nat} {w : am_W} {x1 : Int} {x2 : Int} {x3 : Int} {x4 : Int} {xs0 : Int}
    (h : ((xs0 = 0 → Q (some (.inl 0)) w) ∧ (¬ xs0 = 0 → am_M (mh_G X) SC d 0 0 mX12_isKnownDay [.inr (.inr (some (9, 0))), .inl x4] w (fun r w1 => am_A (mh_G X) SC (d + 1) mX12_may Q 28 [(0, .inr (.inr (some (9, 0)))), (1, .inl x1), (2, .inl x2), (3, .inl x3), (4, .inl x4)] (r.toList ++ []) w1 bc bs)))) :
    am_A (mh_G X) SC (d + 1) mX12_may Q 19 [(0, .inr (.inr (some (9, 0)))), (1, .inl x1), (2, .inl x2), (3, .inl x3), (4, .inl x4)] [.inl xs0] w bc bs := by
  refine am_ifeq (tgt := 47) dX12_may_19 (by decide) (fun c1 => ?_) (fun c1 => ?_)
  · replace h := h.1 c1
    refine am_iconst dX12_may_47 (by unfold am_rg; omega) ?_
    exact am_ret (r := some (.inl 0)) dX12_may_48 (Or.inr (Or.inl ⟨rfl, (Or.inl rfl)⟩)) rfl h
  · replace h := h.2 c1
    refine am_aload_n dX12_may_22 (List.Mem.head _) ?_
    refine am_iload dX12_may_23 (List.Mem.tail _ (List.Mem.tail _ (List.Mem.tail _ (List.Mem.tail _ (List.Mem.head _))))) ?_
    exact am_callv (d' := d) (kc := 0) (ks := 0) (as := [.inl x4]) dX12_may_25 wc_X12_isKnownDay wd_2069 wd_2071 wd_80 wd_122 ds_X12_isKnownDay (by decide) (Nat.le_refl _) (Nat.le_of_ble_eq_true rfl) (Nat.zero_le _) (Nat.zero_le _) hc_10 (by decide) rfl rfl h
theorem bX12_may_28 {SC : Nat → Nat} {X : mh_X} {d : Nat} {Q : Option am_V → am_W → Prop} {bc bs : Nat} {w : am_W} {x1 : Int} {x2 : Int} {x3 : Int} {x4 : Int} {xs0 : Int}
    (h : ((xs0 = 0 → Q (some (.inl 0)) w) ∧ (¬ xs0 = 0 → am_M (mh_G X) SC d 0 0 mX12_mayAt [.inr (.inr (some (9, 0))), .inl x1, .inl x2, .inl x3, .inl x4] w (fun r w1 => am_A (mh_G X) SC (d + 1) mX12_may Q 40 [(0, .inr (.inr (some (9, 0)))), (1, .inl x1), (2, .inl x2), (3, .inl x3), (4, .inl x4)] (r.toList ++ []) w1 bc bs)))) :
    am_A (mh_G X) SC (d + 1) mX12_may Q 28 [(0, .inr (.inr (some (9, 0)))), (1, .inl x1), (2, .inl x2), (3, .inl x3), (4, .inl x4)] [.inl xs0] w bc bs := by
  refine am_ifeq (tgt := 47) dX12_may_28 (by decide) (fun c1 => ?_) (fun c1 => ?_)
  · replace h := h.1 c1
    refine am_iconst dX12_may_47 (by unfold am_rg; omega) ?_
    exact am_ret (r := some (.inl 0)) dX12_may_48 (Or.inr (Or.inl ⟨rfl, (Or.inl rfl)⟩)) rfl h
  · replace h := h.2 c1
    refine am_aload_n dX12_may_31 (List.Mem.head _) ?_
    refine am_iload_n dX12_may_32 (List.Mem.tail _ (List.Mem.head _)) ?_
    refine am_iload_n dX12_may_33 (List.Mem.tail _ (List.Mem.tail _ (List.Mem.head _))) ?_
    refine am_iload_n dX12_may_34 (List.Mem.tail _ (List.Mem.tail _ (List.Mem.tail _ (List.Mem.head _)))) ?_
    refine am_iload dX12_may_35 (List.Mem.tail _ (List.Mem.tail _ (List.Mem.tail _ (List.Mem.tail _ (List.Mem.head _))))) ?_
    exact am_callv (d' := d) (kc := 0) (ks := 0) (as := [.inl x1, .inl x2, .inl x3, .inl x4]) dX12_may_37 wc_X12_mayAt wd_2155 wd_2157 wd_95 wd_122 ds_X12_mayAt (by decide) (Nat.le_refl _) (Nat.le_of_ble_eq_true rfl) (Nat.zero_le _) (Nat.zero_le _) hc_10 (by decide) rfl rfl h
theorem bX12_may_40 {SC : Nat → Nat} {X : mh_X} {d : Nat} {Q : Option am_V → am_W → Prop} {bc bs : Nat} {w : am_W} {x1 : Int} {x2 : Int} {x3 : Int} {x4 : Int} {xs0 : Int}
    (h : ((xs0 = 0 → Q (some (.inl 0)) w) ∧ (¬ xs0 = 0 → Q (some (.inl 1)) w))) :
    am_A (mh_G X) SC (d + 1) mX12_may Q 40 [(0, .inr (.inr (some (9, 0)))), (1, .inl x1), (2, .inl x2), (3, .inl x3), (4, .inl x4)] [.inl xs0] w bc bs := by
  refine am_ifeq (tgt := 47) dX12_may_40 (by decide) (fun c1 => ?_) (fun c1 => ?_)
  · replace h := h.1 c1
    refine am_iconst dX12_may_47 (by unfold am_rg; omega) ?_
    exact am_ret (r := some (.inl 0)) dX12_may_48 (Or.inr (Or.inl ⟨rfl, (Or.inl rfl)⟩)) rfl h
  · replace h := h.2 c1
    refine am_iconst dX12_may_43 (by unfold am_rg; omega) ?_
    refine am_goto (tgt := 48) dX12_may_44 (by decide) ?_
    exact am_ret (r := some (.inl 1)) dX12_may_48 (Or.inr (Or.inl ⟨rfl, (Or.inr rfl)⟩)) rfl h
-- MourningHouseModel.deed(II)I
theorem dX12_deed_0 : decode mX12_deed.2.1 0 = .ok (.aload_n 0, 1) := by decide +kernel
theorem dX12_deed_1 : decode mX12_deed.2.1 1 = .ok (.iload_n 1, 1) := by decide +kernel
theorem dX12_deed_2 : decode mX12_deed.2.1 2 = .ok (.invokevirtual 453, 3) := by decide +kernel
theorem dX12_deed_5 : decode mX12_deed.2.1 5 = .ok (.ifCond .eq 36, 3) := by decide +kernel
theorem dX12_deed_8 : decode mX12_deed.2.1 8 = .ok (.iload_n 2, 1) := by decide +kernel
theorem dX12_deed_9 : decode mX12_deed.2.1 9 = .ok (.invokestatic 567, 3) := by decide +kernel
theorem dX12_deed_12 : decode mX12_deed.2.1 12 = .ok (.ifCond .eq 29, 3) := by decide +kernel
theorem dX12_deed_15 : decode mX12_deed.2.1 15 = .ok (.aload_n 0, 1) := by decide +kernel
theorem dX12_deed_16 : decode mX12_deed.2.1 16 = .ok (.getfield 573, 3) := by decide +kernel
theorem dX12_deed_19 : decode mX12_deed.2.1 19 = .ok (.bipush 100, 2) := by decide +kernel
theorem dX12_deed_21 : decode mX12_deed.2.1 21 = .ok (.if_icmp .eq 20, 3) := by decide +kernel
theorem dX12_deed_24 : decode mX12_deed.2.1 24 = .ok (.aload_n 0, 1) := by decide +kernel
theorem dX12_deed_25 : decode mX12_deed.2.1 25 = .ok (.iload_n 1, 1) := by decide +kernel
theorem dX12_deed_26 : decode mX12_deed.2.1 26 = .ok (.aload_n 0, 1) := by decide +kernel
theorem dX12_deed_27 : decode mX12_deed.2.1 27 = .ok (.getfield 444, 3) := by decide +kernel
theorem dX12_deed_30 : decode mX12_deed.2.1 30 = .ok (.aload_n 0, 1) := by decide +kernel
theorem dX12_deed_31 : decode mX12_deed.2.1 31 = .ok (.getfield 444, 3) := by decide +kernel
theorem dX12_deed_34 : decode mX12_deed.2.1 34 = .ok (.invokevirtual 560, 3) := by decide +kernel
theorem dX12_deed_37 : decode mX12_deed.2.1 37 = .ok (.iconst (-1), 1) := by decide +kernel
theorem dX12_deed_38 : decode mX12_deed.2.1 38 = .ok (.if_icmp .ne 5, 3) := by decide +kernel
theorem dX12_deed_41 : decode mX12_deed.2.1 41 = .ok (.iconst (-1), 1) := by decide +kernel
theorem dX12_deed_42 : decode mX12_deed.2.1 42 = .ok (.ireturn, 1) := by decide +kernel
theorem dX12_deed_43 : decode mX12_deed.2.1 43 = .ok (.aload_n 0, 1) := by decide +kernel
theorem dX12_deed_44 : decode mX12_deed.2.1 44 = .ok (.getfield 225, 3) := by decide +kernel
theorem dX12_deed_47 : decode mX12_deed.2.1 47 = .ok (.aload_n 0, 1) := by decide +kernel
theorem dX12_deed_48 : decode mX12_deed.2.1 48 = .ok (.getfield 573, 3) := by decide +kernel
theorem dX12_deed_51 : decode mX12_deed.2.1 51 = .ok (.iload_n 1, 1) := by decide +kernel
theorem dX12_deed_52 : decode mX12_deed.2.1 52 = .ok (.iastore, 1) := by decide +kernel
theorem dX12_deed_53 : decode mX12_deed.2.1 53 = .ok (.aload_n 0, 1) := by decide +kernel
theorem dX12_deed_54 : decode mX12_deed.2.1 54 = .ok (.getfield 228, 3) := by decide +kernel
theorem dX12_deed_57 : decode mX12_deed.2.1 57 = .ok (.aload_n 0, 1) := by decide +kernel
theorem dX12_deed_58 : decode mX12_deed.2.1 58 = .ok (.getfield 573, 3) := by decide +kernel
theorem dX12_deed_61 : decode mX12_deed.2.1 61 = .ok (.iload_n 2, 1) := by decide +kernel
theorem dX12_deed_62 : decode mX12_deed.2.1 62 = .ok (.iastore, 1) := by decide +kernel
theorem dX12_deed_63 : decode mX12_deed.2.1 63 = .ok (.aload_n 0, 1) := by decide +kernel
theorem dX12_deed_64 : decode mX12_deed.2.1 64 = .ok (.getfield 231, 3) := by decide +kernel
theorem dX12_deed_67 : decode mX12_deed.2.1 67 = .ok (.aload_n 0, 1) := by decide +kernel
theorem dX12_deed_68 : decode mX12_deed.2.1 68 = .ok (.getfield 573, 3) := by decide +kernel
theorem dX12_deed_71 : decode mX12_deed.2.1 71 = .ok (.aload_n 0, 1) := by decide +kernel
theorem dX12_deed_72 : decode mX12_deed.2.1 72 = .ok (.getfield 444, 3) := by decide +kernel
theorem dX12_deed_75 : decode mX12_deed.2.1 75 = .ok (.iastore, 1) := by decide +kernel
theorem dX12_deed_76 : decode mX12_deed.2.1 76 = .ok (.aload_n 0, 1) := by decide +kernel
theorem dX12_deed_77 : decode mX12_deed.2.1 77 = .ok (.dup, 1) := by decide +kernel
theorem dX12_deed_78 : decode mX12_deed.2.1 78 = .ok (.getfield 573, 3) := by decide +kernel
theorem dX12_deed_81 : decode mX12_deed.2.1 81 = .ok (.iconst 1, 1) := by decide +kernel
theorem dX12_deed_82 : decode mX12_deed.2.1 82 = .ok (.iadd, 1) := by decide +kernel
theorem dX12_deed_83 : decode mX12_deed.2.1 83 = .ok (.putfield 573, 3) := by decide +kernel
theorem dX12_deed_86 : decode mX12_deed.2.1 86 = .ok (.aload_n 0, 1) := by decide +kernel
theorem dX12_deed_87 : decode mX12_deed.2.1 87 = .ok (.getfield 573, 3) := by decide +kernel
theorem dX12_deed_90 : decode mX12_deed.2.1 90 = .ok (.iconst 1, 1) := by decide +kernel
theorem dX12_deed_91 : decode mX12_deed.2.1 91 = .ok (.isub, 1) := by decide +kernel
theorem dX12_deed_92 : decode mX12_deed.2.1 92 = .ok (.ireturn, 1) := by decide +kernel
theorem bX12_deed_0 {SC : Nat → Nat} {X : mh_X} {d : Nat} {Q : Option am_V → am_W → Prop} {bc bs : Nat} {w : am_W} {x1 : Int} {x2 : Int}
    (h : am_M (mh_G X) SC d 0 0 mX12_isPerson [.inr (.inr (some (9, 0))), .inl x1] w (fun r w1 => am_A (mh_G X) SC (d + 1) mX12_deed Q 5 [(0, .inr (.inr (some (9, 0)))), (1, .inl x1), (2, .inl x2)] (r.toList ++ []) w1 bc bs)) :
    am_A (mh_G X) SC (d + 1) mX12_deed Q 0 [(0, .inr (.inr (some (9, 0)))), (1, .inl x1), (2, .inl x2)] [] w bc bs := by
  refine am_aload_n dX12_deed_0 (List.Mem.head _) ?_
  refine am_iload_n dX12_deed_1 (List.Mem.tail _ (List.Mem.head _)) ?_
  exact am_callv (d' := d) (kc := 0) (ks := 0) (as := [.inl x1]) dX12_deed_2 wc_X12_isPerson wd_2018 wd_2020 wd_73 wd_122 ds_X12_isPerson (by decide) (Nat.le_refl _) (Nat.le_of_ble_eq_true rfl) (Nat.zero_le _) (Nat.zero_le _) hc_10 (by decide) rfl rfl h
theorem bX12_deed_5 {SC : Nat → Nat} {X : mh_X} {d : Nat} {Q : Option am_V → am_W → Prop} {bc bs : Nat} {w : am_W} {x1 : Int} {x2 : Int} {xs0 : Int}
    (h : ((xs0 = 0 → Q (some (.inl (-1))) w) ∧ (¬ xs0 = 0 → am_M (mh_G X) SC d 0 0 mX12_isAct [.inl x2] w (fun r w1 => am_A (mh_G X) SC (d + 1) mX12_deed Q 12 [(0, .inr (.inr (some (9, 0)))), (1, .inl x1), (2, .inl x2)] (r.toList ++ []) w1 bc bs)))) :
    am_A (mh_G X) SC (d + 1) mX12_deed Q 5 [(0, .inr (.inr (some (9, 0)))), (1, .inl x1), (2, .inl x2)] [.inl xs0] w bc bs := by
  refine am_ifeq (tgt := 41) dX12_deed_5 (by decide) (fun c1 => ?_) (fun c1 => ?_)
  · replace h := h.1 c1
    refine am_iconst dX12_deed_41 (by unfold am_rg; omega) ?_
    exact am_ret (r := some (.inl (-1))) dX12_deed_42 (Or.inl rfl) rfl h
  · replace h := h.2 c1
    refine am_iload_n dX12_deed_8 (List.Mem.tail _ (List.Mem.tail _ (List.Mem.head _))) ?_
    exact am_calls (d' := d) (kc := 0) (ks := 0) (as := [.inl x2]) dX12_deed_9 wc_X12_isAct wd_2152 wd_2153 wd_122 ds_X12_isAct (by decide) (Nat.le_refl _) (Nat.le_of_ble_eq_true rfl) (Nat.zero_le _) (Nat.zero_le _) rfl h
theorem bX12_deed_12 {SC : Nat → Nat} {X : mh_X} {d : Nat} {Q : Option am_V → am_W → Prop} {bc bs : Nat} {w : am_W} {x1 : Int} {x2 : Int} {xs0 : Int}
    (h : ((xs0 = 0 → Q (some (.inl (-1))) w) ∧ (¬ xs0 = 0 → (((w.1 9 0 70) = 100 → Q (some (.inl (-1))) w) ∧ (¬ (w.1 9 0 70) = 100 → am_M (mh_G X) SC d 0 0 mX12_depthAt [.inr (.inr (some (9, 0))), .inl x1, .inl (w.1 9 0 33), .inl (w.1 9 0 33)] w (fun r w1 => am_A (mh_G X) SC (d + 1) mX12_deed Q 37 [(0, .inr (.inr (some (9, 0)))), (1, .inl x1), (2, .inl x2)] (r.toList ++ []) w1 bc bs)))))) :
    am_A (mh_G X) SC (d + 1) mX12_deed Q 12 [(0, .inr (.inr (some (9, 0)))), (1, .inl x1), (2, .inl x2)] [.inl xs0] w bc bs := by
  refine am_ifeq (tgt := 41) dX12_deed_12 (by decide) (fun c1 => ?_) (fun c1 => ?_)
  · replace h := h.1 c1
    refine am_iconst dX12_deed_41 (by unfold am_rg; omega) ?_
    exact am_ret (r := some (.inl (-1))) dX12_deed_42 (Or.inl rfl) rfl h
  · replace h := h.2 c1
    refine am_aload_n dX12_deed_15 (List.Mem.head _) ?_
    refine am_getf (f := 70) (v := .inl (w.1 9 0 70)) dX12_deed_16 hc_10 (by decide) wd_1619 (by decide) rfl rfl ?_
    refine am_bipush dX12_deed_19 (by decide) (by unfold am_rg; omega) ?_
    refine am_icmpeq (tgt := 41) dX12_deed_21 (by decide) (fun c2 => ?_) (fun c2 => ?_)
    · replace h := h.1 c2
      refine am_iconst dX12_deed_41 (by unfold am_rg; omega) ?_
      exact am_ret (r := some (.inl (-1))) dX12_deed_42 (Or.inl rfl) rfl h
    · replace h := h.2 c2
      refine am_aload_n dX12_deed_24 (List.Mem.head _) ?_
      refine am_iload_n dX12_deed_25 (List.Mem.tail _ (List.Mem.head _)) ?_
      refine am_aload_n dX12_deed_26 (List.Mem.head _) ?_
      refine am_getf (f := 33) (v := .inl (w.1 9 0 33)) dX12_deed_27 hc_10 (by decide) wd_1582 (by decide) rfl rfl ?_
      refine am_aload_n dX12_deed_30 (List.Mem.head _) ?_
      refine am_getf (f := 33) (v := .inl (w.1 9 0 33)) dX12_deed_31 hc_10 (by decide) wd_1582 (by decide) rfl rfl ?_
      exact am_callv (d' := d) (kc := 0) (ks := 0) (as := [.inl x1, .inl (w.1 9 0 33), .inl (w.1 9 0 33)]) dX12_deed_34 wc_X12_depthAt wd_2085 wd_2087 wd_83 wd_122 ds_X12_depthAt (by decide) (Nat.le_refl _) (Nat.le_of_ble_eq_true rfl) (Nat.zero_le _) (Nat.zero_le _) hc_10 (by decide) rfl rfl h
theorem bX12_deed_37 {SC : Nat → Nat} {X : mh_X} {d : Nat} {Q : Option am_V → am_W → Prop} {bc bs : Nat} {w : am_W} {x1 : Int} {x2 : Int} {xs0 : Int}
    (h : ((¬ xs0 = (-1) → (0 ≤ (w.1 9 0 70) ∧ ((w.1 9 0 70) < 100 ∧ Q (some (.inl (am_w (((am_up w.1 9 0 70 (am_w ((w.1 9 0 70) + 1))) 9 0 70) - 1)))) ((am_up (am_up (am_up (am_up w.1 122 0 (w.1 9 0 70).toNat x1) 123 0 (w.1 9 0 70).toNat x2) 124 0 (w.1 9 0 70).toNat (w.1 9 0 33)) 9 0 70 (am_w ((w.1 9 0 70) + 1))), w.2)))) ∧ (xs0 = (-1) → Q (some (.inl (-1))) w))) :
    am_A (mh_G X) SC (d + 1) mX12_deed Q 37 [(0, .inr (.inr (some (9, 0)))), (1, .inl x1), (2, .inl x2)] [.inl xs0] w bc bs := by
  refine am_iconst dX12_deed_37 (by unfold am_rg; omega) ?_
  refine am_icmpne (tgt := 43) dX12_deed_38 (by decide) (fun c1 => ?_) (fun c1 => ?_)
  · replace h := h.1 c1
    refine am_aload_n dX12_deed_43 (List.Mem.head _) ?_
    refine am_getf (f := 67) (v := .inr (.inr (some (122, 0)))) dX12_deed_44 hc_10 (by decide) wd_1616 (by decide) rfl rfl ?_
    refine am_aload_n dX12_deed_47 (List.Mem.head _) ?_
    refine am_getf (f := 70) (v := .inl (w.1 9 0 70)) dX12_deed_48 hc_10 (by decide) wd_1619 (by decide) rfl rfl ?_
    refine am_iload_n dX12_deed_51 (List.Mem.tail _ (List.Mem.head _)) ?_
    have o2 := h.1
    replace h := h.2
    have o3 := h.1
    replace h := h.2
    refine am_iastore dX12_deed_52 (Or.inl (by decide)) rfl o2 o3 ?_
    refine am_aload_n dX12_deed_53 (List.Mem.head _) ?_
    refine am_getf (f := 68) (v := .inr (.inr (some (123, 0)))) dX12_deed_54 hc_10 (by decide) wd_1617 (by decide) rfl rfl ?_
    refine am_aload_n dX12_deed_57 (List.Mem.head _) ?_
    refine am_getf (f := 70) (v := .inl (w.1 9 0 70)) dX12_deed_58 hc_10 (by decide) wd_1619 (by decide) rfl rfl ?_
    refine am_iload_n dX12_deed_61 (List.Mem.tail _ (List.Mem.tail _ (List.Mem.head _))) ?_
    refine am_iastore dX12_deed_62 (Or.inl (by decide)) rfl o2 o3 ?_
    refine am_aload_n dX12_deed_63 (List.Mem.head _) ?_
    refine am_getf (f := 69) (v := .inr (.inr (some (124, 0)))) dX12_deed_64 hc_10 (by decide) wd_1618 (by decide) rfl rfl ?_
    refine am_aload_n dX12_deed_67 (List.Mem.head _) ?_
    refine am_getf (f := 70) (v := .inl (w.1 9 0 70)) dX12_deed_68 hc_10 (by decide) wd_1619 (by decide) rfl rfl ?_
    refine am_aload_n dX12_deed_71 (List.Mem.head _) ?_
    refine am_getf (f := 33) (v := .inl (w.1 9 0 33)) dX12_deed_72 hc_10 (by decide) wd_1582 (by decide) rfl rfl ?_
    refine am_iastore dX12_deed_75 (Or.inl (by decide)) rfl o2 o3 ?_
    refine am_aload_n dX12_deed_76 (List.Mem.head _) ?_
    refine am_dup dX12_deed_77 rfl ?_
    refine am_getf (f := 70) (v := .inl (w.1 9 0 70)) dX12_deed_78 hc_10 (by decide) wd_1619 (by decide) rfl rfl ?_
    refine am_iconst dX12_deed_81 (by unfold am_rg; omega) ?_
    refine am_iadd dX12_deed_82 ?_
    refine am_putf (f := 70) dX12_deed_83 hc_10 (by decide) wd_1619 rfl (Or.inl rfl) (Or.inl (by decide)) rfl ?_
    refine am_aload_n dX12_deed_86 (List.Mem.head _) ?_
    refine am_getf (f := 70) (v := .inl ((am_up w.1 9 0 70 (am_w ((w.1 9 0 70) + 1))) 9 0 70)) dX12_deed_87 hc_10 (by decide) wd_1619 (by decide) rfl rfl ?_
    refine am_iconst dX12_deed_90 (by unfold am_rg; omega) ?_
    refine am_isub dX12_deed_91 ?_
    exact am_ret (r := some (.inl (am_w (((am_up w.1 9 0 70 (am_w ((w.1 9 0 70) + 1))) 9 0 70) - 1)))) dX12_deed_92 (Or.inl rfl) rfl h
  · replace h := h.2 c1
    refine am_iconst dX12_deed_41 (by unfold am_rg; omega) ?_
    exact am_ret (r := some (.inl (-1))) dX12_deed_42 (Or.inl rfl) rfl h
-- MourningHouseModel.stands(II)I
theorem dX12_stands_0 : decode mX12_stands.2.1 0 = .ok (.iload_n 1, 1) := by decide +kernel
theorem dX12_stands_1 : decode mX12_stands.2.1 1 = .ok (.iconst 0, 1) := by decide +kernel
theorem dX12_stands_2 : decode mX12_stands.2.1 2 = .ok (.aload_n 0, 1) := by decide +kernel
theorem dX12_stands_3 : decode mX12_stands.2.1 3 = .ok (.getfield 573, 3) := by decide +kernel
theorem dX12_stands_6 : decode mX12_stands.2.1 6 = .ok (.iconst 1, 1) := by decide +kernel
theorem dX12_stands_7 : decode mX12_stands.2.1 7 = .ok (.isub, 1) := by decide +kernel
theorem dX12_stands_8 : decode mX12_stands.2.1 8 = .ok (.invokestatic 318, 3) := by decide +kernel
theorem dX12_stands_11 : decode mX12_stands.2.1 11 = .ok (.ifCond .ne 5, 3) := by decide +kernel
theorem dX12_stands_14 : decode mX12_stands.2.1 14 = .ok (.iconst (-1), 1) := by decide +kernel
theorem dX12_stands_15 : decode mX12_stands.2.1 15 = .ok (.ireturn, 1) := by decide +kernel
theorem dX12_stands_16 : decode mX12_stands.2.1 16 = .ok (.iload_n 2, 1) := by decide +kernel
theorem dX12_stands_17 : decode mX12_stands.2.1 17 = .ok (.tableswitch 137 0 3 #[31, 38, 45, 52], 31) := by decide +kernel
theorem dX12_stands_48 : decode mX12_stands.2.1 48 = .ok (.aload_n 0, 1) := by decide +kernel
theorem dX12_stands_49 : decode mX12_stands.2.1 49 = .ok (.getfield 225, 3) := by decide +kernel
theorem dX12_stands_52 : decode mX12_stands.2.1 52 = .ok (.iload_n 1, 1) := by decide +kernel
theorem dX12_stands_53 : decode mX12_stands.2.1 53 = .ok (.iaload, 1) := by decide +kernel
theorem dX12_stands_54 : decode mX12_stands.2.1 54 = .ok (.ireturn, 1) := by decide +kernel
theorem dX12_stands_55 : decode mX12_stands.2.1 55 = .ok (.aload_n 0, 1) := by decide +kernel
theorem dX12_stands_56 : decode mX12_stands.2.1 56 = .ok (.getfield 228, 3) := by decide +kernel
theorem dX12_stands_59 : decode mX12_stands.2.1 59 = .ok (.iload_n 1, 1) := by decide +kernel
theorem dX12_stands_60 : decode mX12_stands.2.1 60 = .ok (.iaload, 1) := by decide +kernel
theorem dX12_stands_61 : decode mX12_stands.2.1 61 = .ok (.ireturn, 1) := by decide +kernel
theorem dX12_stands_62 : decode mX12_stands.2.1 62 = .ok (.aload_n 0, 1) := by decide +kernel
theorem dX12_stands_63 : decode mX12_stands.2.1 63 = .ok (.getfield 231, 3) := by decide +kernel
theorem dX12_stands_66 : decode mX12_stands.2.1 66 = .ok (.iload_n 1, 1) := by decide +kernel
theorem dX12_stands_67 : decode mX12_stands.2.1 67 = .ok (.iaload, 1) := by decide +kernel
theorem dX12_stands_68 : decode mX12_stands.2.1 68 = .ok (.ireturn, 1) := by decide +kernel
theorem dX12_stands_69 : decode mX12_stands.2.1 69 = .ok (.aload_n 0, 1) := by decide +kernel
theorem dX12_stands_70 : decode mX12_stands.2.1 70 = .ok (.aload_n 0, 1) := by decide +kernel
theorem dX12_stands_71 : decode mX12_stands.2.1 71 = .ok (.getfield 225, 3) := by decide +kernel
theorem dX12_stands_74 : decode mX12_stands.2.1 74 = .ok (.iload_n 1, 1) := by decide +kernel
theorem dX12_stands_75 : decode mX12_stands.2.1 75 = .ok (.iaload, 1) := by decide +kernel
theorem dX12_stands_76 : decode mX12_stands.2.1 76 = .ok (.aload_n 0, 1) := by decide +kernel
theorem dX12_stands_77 : decode mX12_stands.2.1 77 = .ok (.getfield 228, 3) := by decide +kernel
theorem dX12_stands_80 : decode mX12_stands.2.1 80 = .ok (.iload_n 1, 1) := by decide +kernel
theorem dX12_stands_81 : decode mX12_stands.2.1 81 = .ok (.iaload, 1) := by decide +kernel
theorem dX12_stands_82 : decode mX12_stands.2.1 82 = .ok (.aload_n 0, 1) := by decide +kernel
theorem dX12_stands_83 : decode mX12_stands.2.1 83 = .ok (.getfield 231, 3) := by decide +kernel
theorem dX12_stands_86 : decode mX12_stands.2.1 86 = .ok (.iload_n 1, 1) := by decide +kernel
theorem dX12_stands_87 : decode mX12_stands.2.1 87 = .ok (.iaload, 1) := by decide +kernel
theorem dX12_stands_88 : decode mX12_stands.2.1 88 = .ok (.aload_n 0, 1) := by decide +kernel
theorem dX12_stands_89 : decode mX12_stands.2.1 89 = .ok (.getfield 231, 3) := by decide +kernel
theorem dX12_stands_92 : decode mX12_stands.2.1 92 = .ok (.iload_n 1, 1) := by decide +kernel
theorem dX12_stands_93 : decode mX12_stands.2.1 93 = .ok (.iaload, 1) := by decide +kernel
theorem dX12_stands_94 : decode mX12_stands.2.1 94 = .ok (.invokevirtual 570, 3) := by decide +kernel
theorem dX12_stands_97 : decode mX12_stands.2.1 97 = .ok (.istore_n 3, 1) := by decide +kernel
theorem dX12_stands_98 : decode mX12_stands.2.1 98 = .ok (.aload_n 0, 1) := by decide +kernel
theorem dX12_stands_99 : decode mX12_stands.2.1 99 = .ok (.aload_n 0, 1) := by decide +kernel
theorem dX12_stands_100 : decode mX12_stands.2.1 100 = .ok (.getfield 225, 3) := by decide +kernel
theorem dX12_stands_103 : decode mX12_stands.2.1 103 = .ok (.iload_n 1, 1) := by decide +kernel
theorem dX12_stands_104 : decode mX12_stands.2.1 104 = .ok (.iaload, 1) := by decide +kernel
theorem dX12_stands_105 : decode mX12_stands.2.1 105 = .ok (.aload_n 0, 1) := by decide +kernel
theorem dX12_stands_106 : decode mX12_stands.2.1 106 = .ok (.getfield 228, 3) := by decide +kernel
theorem dX12_stands_109 : decode mX12_stands.2.1 109 = .ok (.iload_n 1, 1) := by decide +kernel
theorem dX12_stands_110 : decode mX12_stands.2.1 110 = .ok (.iaload, 1) := by decide +kernel
theorem dX12_stands_111 : decode mX12_stands.2.1 111 = .ok (.aload_n 0, 1) := by decide +kernel
theorem dX12_stands_112 : decode mX12_stands.2.1 112 = .ok (.getfield 231, 3) := by decide +kernel
theorem dX12_stands_115 : decode mX12_stands.2.1 115 = .ok (.iload_n 1, 1) := by decide +kernel
theorem dX12_stands_116 : decode mX12_stands.2.1 116 = .ok (.iaload, 1) := by decide +kernel
theorem dX12_stands_117 : decode mX12_stands.2.1 117 = .ok (.aload_n 0, 1) := by decide +kernel
theorem dX12_stands_118 : decode mX12_stands.2.1 118 = .ok (.getfield 444, 3) := by decide +kernel
theorem dX12_stands_121 : decode mX12_stands.2.1 121 = .ok (.invokevirtual 570, 3) := by decide +kernel
theorem dX12_stands_124 : decode mX12_stands.2.1 124 = .ok (.istore 4, 2) := by decide +kernel
theorem dX12_stands_126 : decode mX12_stands.2.1 126 = .ok (.iload_n 3, 1) := by decide +kernel
theorem dX12_stands_127 : decode mX12_stands.2.1 127 = .ok (.ifCond .eq 16, 3) := by decide +kernel
theorem dX12_stands_130 : decode mX12_stands.2.1 130 = .ok (.iload 4, 2) := by decide +kernel
theorem dX12_stands_132 : decode mX12_stands.2.1 132 = .ok (.ifCond .eq 7, 3) := by decide +kernel
theorem dX12_stands_135 : decode mX12_stands.2.1 135 = .ok (.iconst 0, 1) := by decide +kernel
theorem dX12_stands_136 : decode mX12_stands.2.1 136 = .ok (.goto 17, 3) := by decide +kernel
theorem dX12_stands_139 : decode mX12_stands.2.1 139 = .ok (.iconst 2, 1) := by decide +kernel
theorem dX12_stands_140 : decode mX12_stands.2.1 140 = .ok (.goto 13, 3) := by decide +kernel
theorem dX12_stands_143 : decode mX12_stands.2.1 143 = .ok (.iload 4, 2) := by decide +kernel
theorem dX12_stands_145 : decode mX12_stands.2.1 145 = .ok (.ifCond .eq 7, 3) := by decide +kernel
theorem dX12_stands_148 : decode mX12_stands.2.1 148 = .ok (.iconst 3, 1) := by decide +kernel
theorem dX12_stands_149 : decode mX12_stands.2.1 149 = .ok (.goto 4, 3) := by decide +kernel
theorem dX12_stands_152 : decode mX12_stands.2.1 152 = .ok (.iconst 1, 1) := by decide +kernel
theorem dX12_stands_153 : decode mX12_stands.2.1 153 = .ok (.ireturn, 1) := by decide +kernel
theorem dX12_stands_154 : decode mX12_stands.2.1 154 = .ok (.iconst (-1), 1) := by decide +kernel
theorem dX12_stands_155 : decode mX12_stands.2.1 155 = .ok (.ireturn, 1) := by decide +kernel
theorem bX12_stands_0 {SC : Nat → Nat} {X : mh_X} {d : Nat} {Q : Option am_V → am_W → Prop} {bc bs : Nat} {w : am_W} {x1 : Int} {x2 : Int}
    (h : am_M (mh_G X) SC d 0 0 mX12_in [.inl x1, .inl 0, .inl (am_w ((w.1 9 0 70) - 1))] w (fun r w1 => am_A (mh_G X) SC (d + 1) mX12_stands Q 11 [(0, .inr (.inr (some (9, 0)))), (1, .inl x1), (2, .inl x2)] (r.toList ++ []) w1 bc bs)) :
    am_A (mh_G X) SC (d + 1) mX12_stands Q 0 [(0, .inr (.inr (some (9, 0)))), (1, .inl x1), (2, .inl x2)] [] w bc bs := by
  refine am_iload_n dX12_stands_0 (List.Mem.tail _ (List.Mem.head _)) ?_
  refine am_iconst dX12_stands_1 (by unfold am_rg; omega) ?_
  refine am_aload_n dX12_stands_2 (List.Mem.head _) ?_
  refine am_getf (f := 70) (v := .inl (w.1 9 0 70)) dX12_stands_3 hc_10 (by decide) wd_1619 (by decide) rfl rfl ?_
  refine am_iconst dX12_stands_6 (by unfold am_rg; omega) ?_
  refine am_isub dX12_stands_7 ?_
  exact am_calls (d' := d) (kc := 0) (ks := 0) (as := [.inl x1, .inl 0, .inl (am_w ((w.1 9 0 70) - 1))]) dX12_stands_8 wc_X12_in wd_1859 wd_1860 wd_122 ds_X12_in (by decide) (Nat.le_refl _) (Nat.le_of_ble_eq_true rfl) (Nat.zero_le _) (Nat.zero_le _) rfl h
theorem bX12_stands_11 {SC : Nat → Nat} {X : mh_X} {d : Nat} {Q : Option am_V → am_W → Prop} {bc bs : Nat} {w : am_W} {x1 : Int} {x2 : Int} {xs0 : Int}
    (h : ((¬ xs0 = 0 → (((x2 < 0 ∨ 3 < x2) → Q (some (.inl (-1))) w) ∧ (x2 = 0 → (0 ≤ x1 ∧ (x1 < 100 ∧ Q (some (.inl (w.1 122 0 x1.toNat))) w))) ∧ (x2 = 1 → (0 ≤ x1 ∧ (x1 < 100 ∧ Q (some (.inl (w.1 123 0 x1.toNat))) w))) ∧ (x2 = 2 → (0 ≤ x1 ∧ (x1 < 100 ∧ Q (some (.inl (w.1 124 0 x1.toNat))) w))) ∧ (x2 = 3 → (0 ≤ x1 ∧ (x1 < 100 ∧ am_M (mh_G X) SC d 0 0 mX12_mayAt [.inr (.inr (some (9, 0))), .inl (w.1 122 0 x1.toNat), .inl (w.1 123 0 x1.toNat), .inl (w.1 124 0 x1.toNat), .inl (w.1 124 0 x1.toNat)] w (fun r w1 => am_A (mh_G X) SC (d + 1) mX12_stands Q 97 [(0, .inr (.inr (some (9, 0)))), (1, .inl x1), (2, .inl x2)] (r.toList ++ []) w1 bc bs)))))) ∧ (xs0 = 0 → Q (some (.inl (-1))) w))) :
    am_A (mh_G X) SC (d + 1) mX12_stands Q 11 [(0, .inr (.inr (some (9, 0)))), (1, .inl x1), (2, .inl x2)] [.inl xs0] w bc bs := by
  refine am_ifne (tgt := 16) dX12_stands_11 (by decide) (fun c1 => ?_) (fun c1 => ?_)
  · replace h := h.1 c1
    refine am_iload_n dX12_stands_16 (List.Mem.tail _ (List.Mem.tail _ (List.Mem.head _))) ?_
    by_cases c2 : x2 < 0 ∨ 3 < x2
    · replace h := h.1 c2
      refine am_tswOut (tgt := 154) dX12_stands_17 c2 (by decide) ?_
      refine am_iconst dX12_stands_154 (by unfold am_rg; omega) ?_
      exact am_ret (r := some (.inl (-1))) dX12_stands_155 (Or.inl rfl) rfl h
    · replace h := h.2
      rcases (show x2 = 0 ∨ x2 = 1 ∨ x2 = 2 ∨ x2 = 3 by omega) with c2 | c2 | c2 | c2
      · replace h := h.1 c2
        refine am_tswIn (off := 31) (tgt := 48) dX12_stands_17 (by omega) (by omega) (by rw [c2]; decide) (by decide) ?_
        refine am_aload_n dX12_stands_48 (List.Mem.head _) ?_
        refine am_getf (f := 67) (v := .inr (.inr (some (122, 0)))) dX12_stands_49 hc_10 (by decide) wd_1616 (by decide) rfl rfl ?_
        refine am_iload_n dX12_stands_52 (List.Mem.tail _ (List.Mem.head _)) ?_
        have o3 := h.1
        replace h := h.2
        have o4 := h.1
        replace h := h.2
        refine am_iaload (v := (w.1 122 0 x1.toNat)) dX12_stands_53 (by decide) rfl o3 o4 rfl ?_
        exact am_ret (r := some (.inl (w.1 122 0 x1.toNat))) dX12_stands_54 (Or.inl rfl) rfl h
      · replace h := h.2.1 c2
        refine am_tswIn (off := 38) (tgt := 55) dX12_stands_17 (by omega) (by omega) (by rw [c2]; decide) (by decide) ?_
        refine am_aload_n dX12_stands_55 (List.Mem.head _) ?_
        refine am_getf (f := 68) (v := .inr (.inr (some (123, 0)))) dX12_stands_56 hc_10 (by decide) wd_1617 (by decide) rfl rfl ?_
        refine am_iload_n dX12_stands_59 (List.Mem.tail _ (List.Mem.head _)) ?_
        have o5 := h.1
        replace h := h.2
        have o6 := h.1
        replace h := h.2
        refine am_iaload (v := (w.1 123 0 x1.toNat)) dX12_stands_60 (by decide) rfl o5 o6 rfl ?_
        exact am_ret (r := some (.inl (w.1 123 0 x1.toNat))) dX12_stands_61 (Or.inl rfl) rfl h
      · replace h := h.2.2.1 c2
        refine am_tswIn (off := 45) (tgt := 62) dX12_stands_17 (by omega) (by omega) (by rw [c2]; decide) (by decide) ?_
        refine am_aload_n dX12_stands_62 (List.Mem.head _) ?_
        refine am_getf (f := 69) (v := .inr (.inr (some (124, 0)))) dX12_stands_63 hc_10 (by decide) wd_1618 (by decide) rfl rfl ?_
        refine am_iload_n dX12_stands_66 (List.Mem.tail _ (List.Mem.head _)) ?_
        have o7 := h.1
        replace h := h.2
        have o8 := h.1
        replace h := h.2
        refine am_iaload (v := (w.1 124 0 x1.toNat)) dX12_stands_67 (by decide) rfl o7 o8 rfl ?_
        exact am_ret (r := some (.inl (w.1 124 0 x1.toNat))) dX12_stands_68 (Or.inl rfl) rfl h
      · replace h := h.2.2.2 c2
        refine am_tswIn (off := 52) (tgt := 69) dX12_stands_17 (by omega) (by omega) (by rw [c2]; decide) (by decide) ?_
        refine am_aload_n dX12_stands_69 (List.Mem.head _) ?_
        refine am_aload_n dX12_stands_70 (List.Mem.head _) ?_
        refine am_getf (f := 67) (v := .inr (.inr (some (122, 0)))) dX12_stands_71 hc_10 (by decide) wd_1616 (by decide) rfl rfl ?_
        refine am_iload_n dX12_stands_74 (List.Mem.tail _ (List.Mem.head _)) ?_
        have o9 := h.1
        replace h := h.2
        have o10 := h.1
        replace h := h.2
        refine am_iaload (v := (w.1 122 0 x1.toNat)) dX12_stands_75 (by decide) rfl o9 o10 rfl ?_
        refine am_aload_n dX12_stands_76 (List.Mem.head _) ?_
        refine am_getf (f := 68) (v := .inr (.inr (some (123, 0)))) dX12_stands_77 hc_10 (by decide) wd_1617 (by decide) rfl rfl ?_
        refine am_iload_n dX12_stands_80 (List.Mem.tail _ (List.Mem.head _)) ?_
        refine am_iaload (v := (w.1 123 0 x1.toNat)) dX12_stands_81 (by decide) rfl o9 o10 rfl ?_
        refine am_aload_n dX12_stands_82 (List.Mem.head _) ?_
        refine am_getf (f := 69) (v := .inr (.inr (some (124, 0)))) dX12_stands_83 hc_10 (by decide) wd_1618 (by decide) rfl rfl ?_
        refine am_iload_n dX12_stands_86 (List.Mem.tail _ (List.Mem.head _)) ?_
        refine am_iaload (v := (w.1 124 0 x1.toNat)) dX12_stands_87 (by decide) rfl o9 o10 rfl ?_
        refine am_aload_n dX12_stands_88 (List.Mem.head _) ?_
        refine am_getf (f := 69) (v := .inr (.inr (some (124, 0)))) dX12_stands_89 hc_10 (by decide) wd_1618 (by decide) rfl rfl ?_
        refine am_iload_n dX12_stands_92 (List.Mem.tail _ (List.Mem.head _)) ?_
        refine am_iaload (v := (w.1 124 0 x1.toNat)) dX12_stands_93 (by decide) rfl o9 o10 rfl ?_
        exact am_callv (d' := d) (kc := 0) (ks := 0) (as := [.inl (w.1 122 0 x1.toNat), .inl (w.1 123 0 x1.toNat), .inl (w.1 124 0 x1.toNat), .inl (w.1 124 0 x1.toNat)]) dX12_stands_94 wc_X12_mayAt wd_2155 wd_2157 wd_95 wd_122 ds_X12_mayAt (by decide) (Nat.le_refl _) (Nat.le_of_ble_eq_true rfl) (Nat.zero_le _) (Nat.zero_le _) hc_10 (by decide) rfl rfl h
  · replace h := h.2 c1
    refine am_iconst dX12_stands_14 (by unfold am_rg; omega) ?_
    exact am_ret (r := some (.inl (-1))) dX12_stands_15 (Or.inl rfl) rfl h
theorem bX12_stands_97 {SC : Nat → Nat} {X : mh_X} {d : Nat} {Q : Option am_V → am_W → Prop} {bc bs : Nat} {w : am_W} {x1 : Int} {x2 : Int} {xs0 : Int}
    (h : (0 ≤ x1 ∧ (x1 < 100 ∧ am_M (mh_G X) SC d 0 0 mX12_mayAt [.inr (.inr (some (9, 0))), .inl (w.1 122 0 x1.toNat), .inl (w.1 123 0 x1.toNat), .inl (w.1 124 0 x1.toNat), .inl (w.1 9 0 33)] w (fun r w1 => am_A (mh_G X) SC (d + 1) mX12_stands Q 124 [(3, .inl xs0), (0, .inr (.inr (some (9, 0)))), (1, .inl x1), (2, .inl x2)] (r.toList ++ []) w1 bc bs)))) :
    am_A (mh_G X) SC (d + 1) mX12_stands Q 97 [(0, .inr (.inr (some (9, 0)))), (1, .inl x1), (2, .inl x2)] [.inl xs0] w bc bs := by
  refine am_istore_n (ls' := [(3, .inl xs0), (0, .inr (.inr (some (9, 0)))), (1, .inl x1), (2, .inl x2)]) dX12_stands_97 (by decide) rfl ?_
  refine am_aload_n dX12_stands_98 (List.Mem.tail _ (List.Mem.head _)) ?_
  refine am_aload_n dX12_stands_99 (List.Mem.tail _ (List.Mem.head _)) ?_
  refine am_getf (f := 67) (v := .inr (.inr (some (122, 0)))) dX12_stands_100 hc_10 (by decide) wd_1616 (by decide) rfl rfl ?_
  refine am_iload_n dX12_stands_103 (List.Mem.tail _ (List.Mem.tail _ (List.Mem.head _))) ?_
  have o1 := h.1
  replace h := h.2
  have o2 := h.1
  replace h := h.2
  refine am_iaload (v := (w.1 122 0 x1.toNat)) dX12_stands_104 (by decide) rfl o1 o2 rfl ?_
  refine am_aload_n dX12_stands_105 (List.Mem.tail _ (List.Mem.head _)) ?_
  refine am_getf (f := 68) (v := .inr (.inr (some (123, 0)))) dX12_stands_106 hc_10 (by decide) wd_1617 (by decide) rfl rfl ?_
  refine am_iload_n dX12_stands_109 (List.Mem.tail _ (List.Mem.tail _ (List.Mem.head _))) ?_
  refine am_iaload (v := (w.1 123 0 x1.toNat)) dX12_stands_110 (by decide) rfl o1 o2 rfl ?_
  refine am_aload_n dX12_stands_111 (List.Mem.tail _ (List.Mem.head _)) ?_
  refine am_getf (f := 69) (v := .inr (.inr (some (124, 0)))) dX12_stands_112 hc_10 (by decide) wd_1618 (by decide) rfl rfl ?_
  refine am_iload_n dX12_stands_115 (List.Mem.tail _ (List.Mem.tail _ (List.Mem.head _))) ?_
  refine am_iaload (v := (w.1 124 0 x1.toNat)) dX12_stands_116 (by decide) rfl o1 o2 rfl ?_
  refine am_aload_n dX12_stands_117 (List.Mem.tail _ (List.Mem.head _)) ?_
  refine am_getf (f := 33) (v := .inl (w.1 9 0 33)) dX12_stands_118 hc_10 (by decide) wd_1582 (by decide) rfl rfl ?_
  exact am_callv (d' := d) (kc := 0) (ks := 0) (as := [.inl (w.1 122 0 x1.toNat), .inl (w.1 123 0 x1.toNat), .inl (w.1 124 0 x1.toNat), .inl (w.1 9 0 33)]) dX12_stands_121 wc_X12_mayAt wd_2155 wd_2157 wd_95 wd_122 ds_X12_mayAt (by decide) (Nat.le_refl _) (Nat.le_of_ble_eq_true rfl) (Nat.zero_le _) (Nat.zero_le _) hc_10 (by decide) rfl rfl h
theorem bX12_stands_124 {SC : Nat → Nat} {X : mh_X} {d : Nat} {Q : Option am_V → am_W → Prop} {bc bs : Nat} {w : am_W} {x3 : Int} {x1 : Int} {x2 : Int} {xs0 : Int}
    (h : ((x3 = 0 → ((xs0 = 0 → Q (some (.inl 1)) w) ∧ (¬ xs0 = 0 → Q (some (.inl 3)) w))) ∧ (¬ x3 = 0 → ((xs0 = 0 → Q (some (.inl 2)) w) ∧ (¬ xs0 = 0 → Q (some (.inl 0)) w))))) :
    am_A (mh_G X) SC (d + 1) mX12_stands Q 124 [(3, .inl x3), (0, .inr (.inr (some (9, 0)))), (1, .inl x1), (2, .inl x2)] [.inl xs0] w bc bs := by
  refine am_istore (ls' := [(4, .inl xs0), (3, .inl x3), (0, .inr (.inr (some (9, 0)))), (1, .inl x1), (2, .inl x2)]) dX12_stands_124 (by decide) rfl ?_
  refine am_iload_n dX12_stands_126 (List.Mem.tail _ (List.Mem.head _)) ?_
  refine am_ifeq (tgt := 143) dX12_stands_127 (by decide) (fun c1 => ?_) (fun c1 => ?_)
  · replace h := h.1 c1
    refine am_iload dX12_stands_143 (List.Mem.head _) ?_
    refine am_ifeq (tgt := 152) dX12_stands_145 (by decide) (fun c2 => ?_) (fun c2 => ?_)
    · replace h := h.1 c2
      refine am_iconst dX12_stands_152 (by unfold am_rg; omega) ?_
      exact am_ret (r := some (.inl 1)) dX12_stands_153 (Or.inl rfl) rfl h
    · replace h := h.2 c2
      refine am_iconst dX12_stands_148 (by unfold am_rg; omega) ?_
      refine am_goto (tgt := 153) dX12_stands_149 (by decide) ?_
      exact am_ret (r := some (.inl 3)) dX12_stands_153 (Or.inl rfl) rfl h
  · replace h := h.2 c1
    refine am_iload dX12_stands_130 (List.Mem.head _) ?_
    refine am_ifeq (tgt := 139) dX12_stands_132 (by decide) (fun c3 => ?_) (fun c3 => ?_)
    · replace h := h.1 c3
      refine am_iconst dX12_stands_139 (by unfold am_rg; omega) ?_
      refine am_goto (tgt := 153) dX12_stands_140 (by decide) ?_
      exact am_ret (r := some (.inl 2)) dX12_stands_153 (Or.inl rfl) rfl h
    · replace h := h.2 c3
      refine am_iconst dX12_stands_135 (by unfold am_rg; omega) ?_
      refine am_goto (tgt := 153) dX12_stands_136 (by decide) ?_
      exact am_ret (r := some (.inl 0)) dX12_stands_153 (Or.inl rfl) rfl h
-- MourningHouseModel.best(IIII)I
theorem dX12_best_0 : decode mX12_best.2.1 0 = .ok (.iload_n 1, 1) := by decide +kernel
theorem dX12_best_1 : decode mX12_best.2.1 1 = .ok (.invokestatic 567, 3) := by decide +kernel
theorem dX12_best_4 : decode mX12_best.2.1 4 = .ok (.ifCond .eq 40, 3) := by decide +kernel
theorem dX12_best_7 : decode mX12_best.2.1 7 = .ok (.iload_n 2, 1) := by decide +kernel
theorem dX12_best_8 : decode mX12_best.2.1 8 = .ok (.invokestatic 322, 3) := by decide +kernel
theorem dX12_best_11 : decode mX12_best.2.1 11 = .ok (.ifCond .eq 33, 3) := by decide +kernel
theorem dX12_best_14 : decode mX12_best.2.1 14 = .ok (.iload_n 3, 1) := by decide +kernel
theorem dX12_best_15 : decode mX12_best.2.1 15 = .ok (.invokestatic 322, 3) := by decide +kernel
theorem dX12_best_18 : decode mX12_best.2.1 18 = .ok (.ifCond .eq 26, 3) := by decide +kernel
theorem dX12_best_21 : decode mX12_best.2.1 21 = .ok (.iload_n 3, 1) := by decide +kernel
theorem dX12_best_22 : decode mX12_best.2.1 22 = .ok (.iload_n 2, 1) := by decide +kernel
theorem dX12_best_23 : decode mX12_best.2.1 23 = .ok (.if_icmp .lt 21, 3) := by decide +kernel
theorem dX12_best_26 : decode mX12_best.2.1 26 = .ok (.iload_n 3, 1) := by decide +kernel
theorem dX12_best_27 : decode mX12_best.2.1 27 = .ok (.iload_n 2, 1) := by decide +kernel
theorem dX12_best_28 : decode mX12_best.2.1 28 = .ok (.isub, 1) := by decide +kernel
theorem dX12_best_29 : decode mX12_best.2.1 29 = .ok (.bipush 59, 2) := by decide +kernel
theorem dX12_best_31 : decode mX12_best.2.1 31 = .ok (.if_icmp .gt 13, 3) := by decide +kernel
theorem dX12_best_34 : decode mX12_best.2.1 34 = .ok (.iload 4, 2) := by decide +kernel
theorem dX12_best_36 : decode mX12_best.2.1 36 = .ok (.iconst 0, 1) := by decide +kernel
theorem dX12_best_37 : decode mX12_best.2.1 37 = .ok (.iconst 1, 1) := by decide +kernel
theorem dX12_best_38 : decode mX12_best.2.1 38 = .ok (.invokestatic 318, 3) := by decide +kernel
theorem dX12_best_41 : decode mX12_best.2.1 41 = .ok (.ifCond .ne 7, 3) := by decide +kernel
theorem dX12_best_44 : decode mX12_best.2.1 44 = .ok (.ldc_w 325, 3) := by decide +kernel
theorem dX12_best_47 : decode mX12_best.2.1 47 = .ok (.ireturn, 1) := by decide +kernel
theorem dX12_best_48 : decode mX12_best.2.1 48 = .ok (.iconst 0, 1) := by decide +kernel
theorem dX12_best_49 : decode mX12_best.2.1 49 = .ok (.istore 5, 2) := by decide +kernel
theorem dX12_best_51 : decode mX12_best.2.1 51 = .ok (.iload 5, 2) := by decide +kernel
theorem dX12_best_53 : decode mX12_best.2.1 53 = .ok (.bipush 60, 2) := by decide +kernel
theorem dX12_best_55 : decode mX12_best.2.1 55 = .ok (.if_icmp .ge 17, 3) := by decide +kernel
theorem dX12_best_58 : decode mX12_best.2.1 58 = .ok (.aload_n 0, 1) := by decide +kernel
theorem dX12_best_59 : decode mX12_best.2.1 59 = .ok (.getfield 234, 3) := by decide +kernel
theorem dX12_best_62 : decode mX12_best.2.1 62 = .ok (.iload 5, 2) := by decide +kernel
theorem dX12_best_64 : decode mX12_best.2.1 64 = .ok (.iconst 0, 1) := by decide +kernel
theorem dX12_best_65 : decode mX12_best.2.1 65 = .ok (.iastore, 1) := by decide +kernel
theorem dX12_best_66 : decode mX12_best.2.1 66 = .ok (.iinc 5 1, 3) := by decide +kernel
theorem dX12_best_69 : decode mX12_best.2.1 69 = .ok (.goto (-18), 3) := by decide +kernel
theorem dX12_best_72 : decode mX12_best.2.1 72 = .ok (.iconst 0, 1) := by decide +kernel
theorem dX12_best_73 : decode mX12_best.2.1 73 = .ok (.istore 5, 2) := by decide +kernel
theorem dX12_best_75 : decode mX12_best.2.1 75 = .ok (.iload 5, 2) := by decide +kernel
theorem dX12_best_77 : decode mX12_best.2.1 77 = .ok (.aload_n 0, 1) := by decide +kernel
theorem dX12_best_78 : decode mX12_best.2.1 78 = .ok (.getfield 447, 3) := by decide +kernel
theorem dX12_best_81 : decode mX12_best.2.1 81 = .ok (.if_icmp .ge 81, 3) := by decide +kernel
theorem dX12_best_84 : decode mX12_best.2.1 84 = .ok (.aload_n 0, 1) := by decide +kernel
theorem dX12_best_85 : decode mX12_best.2.1 85 = .ok (.iload 5, 2) := by decide +kernel
theorem dX12_best_87 : decode mX12_best.2.1 87 = .ok (.aload_n 0, 1) := by decide +kernel
theorem dX12_best_88 : decode mX12_best.2.1 88 = .ok (.getfield 444, 3) := by decide +kernel
theorem dX12_best_91 : decode mX12_best.2.1 91 = .ok (.invokevirtual 551, 3) := by decide +kernel
theorem dX12_best_94 : decode mX12_best.2.1 94 = .ok (.iload_n 2, 1) := by decide +kernel
theorem dX12_best_95 : decode mX12_best.2.1 95 = .ok (.istore 6, 2) := by decide +kernel
theorem dX12_best_97 : decode mX12_best.2.1 97 = .ok (.iload 6, 2) := by decide +kernel
theorem dX12_best_99 : decode mX12_best.2.1 99 = .ok (.iload_n 3, 1) := by decide +kernel
theorem dX12_best_100 : decode mX12_best.2.1 100 = .ok (.if_icmp .gt 56, 3) := by decide +kernel
theorem dX12_best_103 : decode mX12_best.2.1 103 = .ok (.aload_n 0, 1) := by decide +kernel
theorem dX12_best_104 : decode mX12_best.2.1 104 = .ok (.iload 5, 2) := by decide +kernel
theorem dX12_best_106 : decode mX12_best.2.1 106 = .ok (.iload 6, 2) := by decide +kernel
theorem dX12_best_108 : decode mX12_best.2.1 108 = .ok (.aload_n 0, 1) := by decide +kernel
theorem dX12_best_109 : decode mX12_best.2.1 109 = .ok (.getfield 444, 3) := by decide +kernel
theorem dX12_best_112 : decode mX12_best.2.1 112 = .ok (.invokevirtual 548, 3) := by decide +kernel
theorem dX12_best_115 : decode mX12_best.2.1 115 = .ok (.ifCond .ne 6, 3) := by decide +kernel
theorem dX12_best_118 : decode mX12_best.2.1 118 = .ok (.goto 32, 3) := by decide +kernel
theorem dX12_best_121 : decode mX12_best.2.1 121 = .ok (.aload_n 0, 1) := by decide +kernel
theorem dX12_best_122 : decode mX12_best.2.1 122 = .ok (.iload 6, 2) := by decide +kernel
theorem dX12_best_124 : decode mX12_best.2.1 124 = .ok (.invokevirtual 554, 3) := by decide +kernel
theorem dX12_best_127 : decode mX12_best.2.1 127 = .ok (.aload_n 0, 1) := by decide +kernel
theorem dX12_best_128 : decode mX12_best.2.1 128 = .ok (.iload_n 1, 1) := by decide +kernel
theorem dX12_best_129 : decode mX12_best.2.1 129 = .ok (.iload 6, 2) := by decide +kernel
theorem dX12_best_131 : decode mX12_best.2.1 131 = .ok (.invokevirtual 564, 3) := by decide +kernel
theorem dX12_best_134 : decode mX12_best.2.1 134 = .ok (.ifCond .eq 16, 3) := by decide +kernel
theorem dX12_best_137 : decode mX12_best.2.1 137 = .ok (.aload_n 0, 1) := by decide +kernel
theorem dX12_best_138 : decode mX12_best.2.1 138 = .ok (.getfield 234, 3) := by decide +kernel
theorem dX12_best_141 : decode mX12_best.2.1 141 = .ok (.iload 6, 2) := by decide +kernel
theorem dX12_best_143 : decode mX12_best.2.1 143 = .ok (.iload_n 2, 1) := by decide +kernel
theorem dX12_best_144 : decode mX12_best.2.1 144 = .ok (.isub, 1) := by decide +kernel
theorem dX12_best_145 : decode mX12_best.2.1 145 = .ok (.dup2, 1) := by decide +kernel
theorem dX12_best_146 : decode mX12_best.2.1 146 = .ok (.iaload, 1) := by decide +kernel
theorem dX12_best_147 : decode mX12_best.2.1 147 = .ok (.iconst 1, 1) := by decide +kernel
theorem dX12_best_148 : decode mX12_best.2.1 148 = .ok (.iadd, 1) := by decide +kernel
theorem dX12_best_149 : decode mX12_best.2.1 149 = .ok (.iastore, 1) := by decide +kernel
theorem dX12_best_150 : decode mX12_best.2.1 150 = .ok (.iinc 6 1, 3) := by decide +kernel
theorem dX12_best_153 : decode mX12_best.2.1 153 = .ok (.goto (-56), 3) := by decide +kernel
theorem dX12_best_156 : decode mX12_best.2.1 156 = .ok (.iinc 5 1, 3) := by decide +kernel
theorem dX12_best_159 : decode mX12_best.2.1 159 = .ok (.goto (-84), 3) := by decide +kernel
theorem dX12_best_162 : decode mX12_best.2.1 162 = .ok (.iconst 0, 1) := by decide +kernel
theorem dX12_best_163 : decode mX12_best.2.1 163 = .ok (.istore 5, 2) := by decide +kernel
theorem dX12_best_165 : decode mX12_best.2.1 165 = .ok (.iconst 1, 1) := by decide +kernel
theorem dX12_best_166 : decode mX12_best.2.1 166 = .ok (.istore 6, 2) := by decide +kernel
theorem dX12_best_168 : decode mX12_best.2.1 168 = .ok (.iload 6, 2) := by decide +kernel
theorem dX12_best_170 : decode mX12_best.2.1 170 = .ok (.iload_n 3, 1) := by decide +kernel
theorem dX12_best_171 : decode mX12_best.2.1 171 = .ok (.iload_n 2, 1) := by decide +kernel
theorem dX12_best_172 : decode mX12_best.2.1 172 = .ok (.isub, 1) := by decide +kernel
theorem dX12_best_173 : decode mX12_best.2.1 173 = .ok (.if_icmp .gt 30, 3) := by decide +kernel
theorem dX12_best_176 : decode mX12_best.2.1 176 = .ok (.aload_n 0, 1) := by decide +kernel
theorem dX12_best_177 : decode mX12_best.2.1 177 = .ok (.getfield 234, 3) := by decide +kernel
theorem dX12_best_180 : decode mX12_best.2.1 180 = .ok (.iload 6, 2) := by decide +kernel
theorem dX12_best_182 : decode mX12_best.2.1 182 = .ok (.iaload, 1) := by decide +kernel
theorem dX12_best_183 : decode mX12_best.2.1 183 = .ok (.aload_n 0, 1) := by decide +kernel
theorem dX12_best_184 : decode mX12_best.2.1 184 = .ok (.getfield 234, 3) := by decide +kernel
theorem dX12_best_187 : decode mX12_best.2.1 187 = .ok (.iload 5, 2) := by decide +kernel
theorem dX12_best_189 : decode mX12_best.2.1 189 = .ok (.iaload, 1) := by decide +kernel
theorem dX12_best_190 : decode mX12_best.2.1 190 = .ok (.if_icmp .le 7, 3) := by decide +kernel
theorem dX12_best_193 : decode mX12_best.2.1 193 = .ok (.iload 6, 2) := by decide +kernel
theorem dX12_best_195 : decode mX12_best.2.1 195 = .ok (.istore 5, 2) := by decide +kernel
theorem dX12_best_197 : decode mX12_best.2.1 197 = .ok (.iinc 6 1, 3) := by decide +kernel
theorem dX12_best_200 : decode mX12_best.2.1 200 = .ok (.goto (-32), 3) := by decide +kernel
theorem dX12_best_203 : decode mX12_best.2.1 203 = .ok (.iload 4, 2) := by decide +kernel
theorem dX12_best_205 : decode mX12_best.2.1 205 = .ok (.ifCond .ne 10, 3) := by decide +kernel
theorem dX12_best_208 : decode mX12_best.2.1 208 = .ok (.iload_n 2, 1) := by decide +kernel
theorem dX12_best_209 : decode mX12_best.2.1 209 = .ok (.iload 5, 2) := by decide +kernel
theorem dX12_best_211 : decode mX12_best.2.1 211 = .ok (.iadd, 1) := by decide +kernel
theorem dX12_best_212 : decode mX12_best.2.1 212 = .ok (.goto 10, 3) := by decide +kernel
theorem dX12_best_215 : decode mX12_best.2.1 215 = .ok (.aload_n 0, 1) := by decide +kernel
theorem dX12_best_216 : decode mX12_best.2.1 216 = .ok (.getfield 234, 3) := by decide +kernel
theorem dX12_best_219 : decode mX12_best.2.1 219 = .ok (.iload 5, 2) := by decide +kernel
theorem dX12_best_221 : decode mX12_best.2.1 221 = .ok (.iaload, 1) := by decide +kernel
theorem dX12_best_222 : decode mX12_best.2.1 222 = .ok (.ireturn, 1) := by decide +kernel
theorem bX12_best_0 {SC : Nat → Nat} {X : mh_X} {d : Nat} {Q : Option am_V → am_W → Prop} {bc bs : Nat} {w : am_W} {x1 : Int} {x2 : Int} {x3 : Int} {x4 : Int}
    (h : am_M (mh_G X) SC d 0 0 mX12_isAct [.inl x1] w (fun r w1 => am_A (mh_G X) SC (d + 1) mX12_best Q 4 [(0, .inr (.inr (some (9, 0)))), (1, .inl x1), (2, .inl x2), (3, .inl x3), (4, .inl x4)] (r.toList ++ []) w1 bc bs)) :
    am_A (mh_G X) SC (d + 1) mX12_best Q 0 [(0, .inr (.inr (some (9, 0)))), (1, .inl x1), (2, .inl x2), (3, .inl x3), (4, .inl x4)] [] w bc bs := by
  refine am_iload_n dX12_best_0 (List.Mem.tail _ (List.Mem.head _)) ?_
  exact am_calls (d' := d) (kc := 0) (ks := 0) (as := [.inl x1]) dX12_best_1 wc_X12_isAct wd_2152 wd_2153 wd_122 ds_X12_isAct (by decide) (Nat.le_refl _) (Nat.le_of_ble_eq_true rfl) (Nat.zero_le _) (Nat.zero_le _) rfl h
theorem bX12_best_4 {SC : Nat → Nat} {X : mh_X} {d : Nat} {Q : Option am_V → am_W → Prop} {bc bs : Nat} {w : am_W} {x1 : Int} {x2 : Int} {x3 : Int} {x4 : Int} {xs0 : Int}
    (h : ((xs0 = 0 → Q (some (.inl (-2147483648))) w) ∧ (¬ xs0 = 0 → am_M (mh_G X) SC d 0 0 mX12_isDay [.inl x2] w (fun r w1 => am_A (mh_G X) SC (d + 1) mX12_best Q 11 [(0, .inr (.inr (some (9, 0)))), (1, .inl x1), (2, .inl x2), (3, .inl x3), (4, .inl x4)] (r.toList ++ []) w1 bc bs)))) :
    am_A (mh_G X) SC (d + 1) mX12_best Q 4 [(0, .inr (.inr (some (9, 0)))), (1, .inl x1), (2, .inl x2), (3, .inl x3), (4, .inl x4)] [.inl xs0] w bc bs := by
  refine am_ifeq (tgt := 44) dX12_best_4 (by decide) (fun c1 => ?_) (fun c1 => ?_)
  · replace h := h.1 c1
    refine am_ldcwV (n := (-2147483648)) dX12_best_44 (by decide) wd_1887 (by unfold am_rg; omega) ?_
    exact am_ret (r := some (.inl (-2147483648))) dX12_best_47 (Or.inl rfl) rfl h
  · replace h := h.2 c1
    refine am_iload_n dX12_best_7 (List.Mem.tail _ (List.Mem.tail _ (List.Mem.head _))) ?_
    exact am_calls (d' := d) (kc := 0) (ks := 0) (as := [.inl x2]) dX12_best_8 wc_X12_isDay wd_1854 wd_1855 wd_122 ds_X12_isDay (by decide) (Nat.le_refl _) (Nat.le_of_ble_eq_true rfl) (Nat.zero_le _) (Nat.zero_le _) rfl h
theorem bX12_best_11 {SC : Nat → Nat} {X : mh_X} {d : Nat} {Q : Option am_V → am_W → Prop} {bc bs : Nat} {w : am_W} {x1 : Int} {x2 : Int} {x3 : Int} {x4 : Int} {xs0 : Int}
    (h : ((xs0 = 0 → Q (some (.inl (-2147483648))) w) ∧ (¬ xs0 = 0 → am_M (mh_G X) SC d 0 0 mX12_isDay [.inl x3] w (fun r w1 => am_A (mh_G X) SC (d + 1) mX12_best Q 18 [(0, .inr (.inr (some (9, 0)))), (1, .inl x1), (2, .inl x2), (3, .inl x3), (4, .inl x4)] (r.toList ++ []) w1 bc bs)))) :
    am_A (mh_G X) SC (d + 1) mX12_best Q 11 [(0, .inr (.inr (some (9, 0)))), (1, .inl x1), (2, .inl x2), (3, .inl x3), (4, .inl x4)] [.inl xs0] w bc bs := by
  refine am_ifeq (tgt := 44) dX12_best_11 (by decide) (fun c1 => ?_) (fun c1 => ?_)
  · replace h := h.1 c1
    refine am_ldcwV (n := (-2147483648)) dX12_best_44 (by decide) wd_1887 (by unfold am_rg; omega) ?_
    exact am_ret (r := some (.inl (-2147483648))) dX12_best_47 (Or.inl rfl) rfl h
  · replace h := h.2 c1
    refine am_iload_n dX12_best_14 (List.Mem.tail _ (List.Mem.tail _ (List.Mem.tail _ (List.Mem.head _)))) ?_
    exact am_calls (d' := d) (kc := 0) (ks := 0) (as := [.inl x3]) dX12_best_15 wc_X12_isDay wd_1854 wd_1855 wd_122 ds_X12_isDay (by decide) (Nat.le_refl _) (Nat.le_of_ble_eq_true rfl) (Nat.zero_le _) (Nat.zero_le _) rfl h
theorem bX12_best_18 {SC : Nat → Nat} {X : mh_X} {d : Nat} {Q : Option am_V → am_W → Prop} {bc bs : Nat} {w : am_W} {x1 : Int} {x2 : Int} {x3 : Int} {x4 : Int} {xs0 : Int}
    (h : ((xs0 = 0 → Q (some (.inl (-2147483648))) w) ∧ (¬ xs0 = 0 → ((x3 < x2 → Q (some (.inl (-2147483648))) w) ∧ (¬ x3 < x2 → ((59 < (am_w (x3 - x2)) → Q (some (.inl (-2147483648))) w) ∧ (¬ 59 < (am_w (x3 - x2)) → am_M (mh_G X) SC d 0 0 mX12_in [.inl x4, .inl 0, .inl 1] w (fun r w1 => am_A (mh_G X) SC (d + 1) mX12_best Q 41 [(0, .inr (.inr (some (9, 0)))), (1, .inl x1), (2, .inl x2), (3, .inl x3), (4, .inl x4)] (r.toList ++ []) w1 bc bs)))))))) :
    am_A (mh_G X) SC (d + 1) mX12_best Q 18 [(0, .inr (.inr (some (9, 0)))), (1, .inl x1), (2, .inl x2), (3, .inl x3), (4, .inl x4)] [.inl xs0] w bc bs := by
  refine am_ifeq (tgt := 44) dX12_best_18 (by decide) (fun c1 => ?_) (fun c1 => ?_)
  · replace h := h.1 c1
    refine am_ldcwV (n := (-2147483648)) dX12_best_44 (by decide) wd_1887 (by unfold am_rg; omega) ?_
    exact am_ret (r := some (.inl (-2147483648))) dX12_best_47 (Or.inl rfl) rfl h
  · replace h := h.2 c1
    refine am_iload_n dX12_best_21 (List.Mem.tail _ (List.Mem.tail _ (List.Mem.tail _ (List.Mem.head _)))) ?_
    refine am_iload_n dX12_best_22 (List.Mem.tail _ (List.Mem.tail _ (List.Mem.head _))) ?_
    refine am_icmplt (tgt := 44) dX12_best_23 (by decide) (fun c2 => ?_) (fun c2 => ?_)
    · replace h := h.1 c2
      refine am_ldcwV (n := (-2147483648)) dX12_best_44 (by decide) wd_1887 (by unfold am_rg; omega) ?_
      exact am_ret (r := some (.inl (-2147483648))) dX12_best_47 (Or.inl rfl) rfl h
    · replace h := h.2 c2
      refine am_iload_n dX12_best_26 (List.Mem.tail _ (List.Mem.tail _ (List.Mem.tail _ (List.Mem.head _)))) ?_
      refine am_iload_n dX12_best_27 (List.Mem.tail _ (List.Mem.tail _ (List.Mem.head _))) ?_
      refine am_isub dX12_best_28 ?_
      refine am_bipush dX12_best_29 (by decide) (by unfold am_rg; omega) ?_
      refine am_icmpgt (tgt := 44) dX12_best_31 (by decide) (fun c3 => ?_) (fun c3 => ?_)
      · replace h := h.1 c3
        refine am_ldcwV (n := (-2147483648)) dX12_best_44 (by decide) wd_1887 (by unfold am_rg; omega) ?_
        exact am_ret (r := some (.inl (-2147483648))) dX12_best_47 (Or.inl rfl) rfl h
      · replace h := h.2 c3
        refine am_iload dX12_best_34 (List.Mem.tail _ (List.Mem.tail _ (List.Mem.tail _ (List.Mem.tail _ (List.Mem.head _))))) ?_
        refine am_iconst dX12_best_36 (by unfold am_rg; omega) ?_
        refine am_iconst dX12_best_37 (by unfold am_rg; omega) ?_
        exact am_calls (d' := d) (kc := 0) (ks := 0) (as := [.inl x4, .inl 0, .inl 1]) dX12_best_38 wc_X12_in wd_1859 wd_1860 wd_122 ds_X12_in (by decide) (Nat.le_refl _) (Nat.le_of_ble_eq_true rfl) (Nat.zero_le _) (Nat.zero_le _) rfl h
theorem bX12_best_41 {SC : Nat → Nat} {X : mh_X} {d : Nat} {Q : Option am_V → am_W → Prop} {bc bs : Nat} {w : am_W} {x1 : Int} {x2 : Int} {x3 : Int} {x4 : Int} {xs0 : Int}
    (h : ((¬ xs0 = 0 → am_A (mh_G X) SC (d + 1) mX12_best Q 51 [(0, .inr (.inr (some (9, 0)))), (1, .inl x1), (2, .inl x2), (3, .inl x3), (4, .inl x4), (5, .inl 0)] [] w bc bs) ∧ (xs0 = 0 → Q (some (.inl (-2147483648))) w))) :
    am_A (mh_G X) SC (d + 1) mX12_best Q 41 [(0, .inr (.inr (some (9, 0)))), (1, .inl x1), (2, .inl x2), (3, .inl x3), (4, .inl x4)] [.inl xs0] w bc bs := by
  refine am_ifne (tgt := 48) dX12_best_41 (by decide) (fun c1 => ?_) (fun c1 => ?_)
  · replace h := h.1 c1
    refine am_iconst dX12_best_48 (by unfold am_rg; omega) ?_
    refine am_istore (ls' := [(5, .inl 0), (0, .inr (.inr (some (9, 0)))), (1, .inl x1), (2, .inl x2), (3, .inl x3), (4, .inl x4)]) dX12_best_49 (by decide) rfl ?_
    exact am_sub [1, 2, 3, 4, 5, 0] rfl h
  · replace h := h.2 c1
    refine am_ldcwV (n := (-2147483648)) dX12_best_44 (by decide) wd_1887 (by unfold am_rg; omega) ?_
    exact am_ret (r := some (.inl (-2147483648))) dX12_best_47 (Or.inl rfl) rfl h
theorem bX12_best_51 {SC : Nat → Nat} {X : mh_X} {d : Nat} {Q : Option am_V → am_W → Prop} {bc bs : Nat} {w : am_W} {x1 : Int} {x2 : Int} {x3 : Int} {x4 : Int} {x5 : Int}
    (h : ((60 ≤ x5 → am_A (mh_G X) SC (d + 1) mX12_best Q 75 [(0, .inr (.inr (some (9, 0)))), (1, .inl x1), (2, .inl x2), (3, .inl x3), (4, .inl x4), (5, .inl 0)] [] w bc bs) ∧ (¬ 60 ≤ x5 → (0 ≤ x5 ∧ (x5 < 60 ∧ am_A (mh_G X) SC (d + 1) mX12_best Q 51 [(0, .inr (.inr (some (9, 0)))), (1, .inl x1), (2, .inl x2), (3, .inl x3), (4, .inl x4), (5, .inl (am_w (x5 + 1)))] [] ((am_up w.1 125 0 x5.toNat 0), w.2) bc bs))))) :
    am_A (mh_G X) SC (d + 1) mX12_best Q 51 [(0, .inr (.inr (some (9, 0)))), (1, .inl x1), (2, .inl x2), (3, .inl x3), (4, .inl x4), (5, .inl x5)] [] w bc bs := by
  refine am_iload dX12_best_51 (List.Mem.tail _ (List.Mem.tail _ (List.Mem.tail _ (List.Mem.tail _ (List.Mem.tail _ (List.Mem.head _)))))) ?_
  refine am_bipush dX12_best_53 (by decide) (by unfold am_rg; omega) ?_
  refine am_icmpge (tgt := 72) dX12_best_55 (by decide) (fun c1 => ?_) (fun c1 => ?_)
  · replace h := h.1 c1
    refine am_iconst dX12_best_72 (by unfold am_rg; omega) ?_
    refine am_istore (ls' := [(5, .inl 0), (0, .inr (.inr (some (9, 0)))), (1, .inl x1), (2, .inl x2), (3, .inl x3), (4, .inl x4)]) dX12_best_73 (by decide) rfl ?_
    exact am_sub [1, 2, 3, 4, 5, 0] rfl h
  · replace h := h.2 c1
    refine am_aload_n dX12_best_58 (List.Mem.head _) ?_
    refine am_getf (f := 71) (v := .inr (.inr (some (125, 0)))) dX12_best_59 hc_10 (by decide) wd_1620 (by decide) rfl rfl ?_
    refine am_iload dX12_best_62 (List.Mem.tail _ (List.Mem.tail _ (List.Mem.tail _ (List.Mem.tail _ (List.Mem.tail _ (List.Mem.head _)))))) ?_
    refine am_iconst dX12_best_64 (by unfold am_rg; omega) ?_
    have o2 := h.1
    replace h := h.2
    have o3 := h.1
    replace h := h.2
    refine am_iastore dX12_best_65 (Or.inl (by decide)) rfl o2 o3 ?_
    refine am_iinc (ls' := [(5, .inl (am_w (x5 + 1))), (0, .inr (.inr (some (9, 0)))), (1, .inl x1), (2, .inl x2), (3, .inl x3), (4, .inl x4)]) dX12_best_66 (List.Mem.tail _ (List.Mem.tail _ (List.Mem.tail _ (List.Mem.tail _ (List.Mem.tail _ (List.Mem.head _)))))) (by decide) rfl ?_
    refine am_goto (tgt := 51) dX12_best_69 (by decide) ?_
    exact am_sub [1, 2, 3, 4, 5, 0] rfl h
theorem bX12_best_75 {SC : Nat → Nat} {X : mh_X} {d : Nat} {Q : Option am_V → am_W → Prop} {bc bs : Nat} {w : am_W} {x1 : Int} {x2 : Int} {x3 : Int} {x4 : Int} {x5 : Int}
    (h : (((w.1 9 0 42) ≤ x5 → am_A (mh_G X) SC (d + 1) mX12_best Q 168 [(0, .inr (.inr (some (9, 0)))), (2, .inl x2), (3, .inl x3), (4, .inl x4), (5, .inl 0), (6, .inl 1)] [] w bc bs) ∧ (¬ (w.1 9 0 42) ≤ x5 → am_M (mh_G X) SC d 0 0 mX12_prepares [.inr (.inr (some (9, 0))), .inl x5, .inl (w.1 9 0 33)] w (fun r w1 => am_A (mh_G X) SC (d + 1) mX12_best Q 94 [(0, .inr (.inr (some (9, 0)))), (1, .inl x1), (2, .inl x2), (3, .inl x3), (4, .inl x4), (5, .inl x5)] (r.toList ++ []) w1 bc bs)))) :
    am_A (mh_G X) SC (d + 1) mX12_best Q 75 [(0, .inr (.inr (some (9, 0)))), (1, .inl x1), (2, .inl x2), (3, .inl x3), (4, .inl x4), (5, .inl x5)] [] w bc bs := by
  refine am_iload dX12_best_75 (List.Mem.tail _ (List.Mem.tail _ (List.Mem.tail _ (List.Mem.tail _ (List.Mem.tail _ (List.Mem.head _)))))) ?_
  refine am_aload_n dX12_best_77 (List.Mem.head _) ?_
  refine am_getf (f := 42) (v := .inl (w.1 9 0 42)) dX12_best_78 hc_10 (by decide) wd_1591 (by decide) rfl rfl ?_
  refine am_icmpge (tgt := 162) dX12_best_81 (by decide) (fun c1 => ?_) (fun c1 => ?_)
  · replace h := h.1 c1
    refine am_iconst dX12_best_162 (by unfold am_rg; omega) ?_
    refine am_istore (ls' := [(5, .inl 0), (0, .inr (.inr (some (9, 0)))), (1, .inl x1), (2, .inl x2), (3, .inl x3), (4, .inl x4)]) dX12_best_163 (by decide) rfl ?_
    refine am_iconst dX12_best_165 (by unfold am_rg; omega) ?_
    refine am_istore (ls' := [(6, .inl 1), (5, .inl 0), (0, .inr (.inr (some (9, 0)))), (1, .inl x1), (2, .inl x2), (3, .inl x3), (4, .inl x4)]) dX12_best_166 (by decide) rfl ?_
    exact am_sub [2, 4, 5, 6, 1, 0] rfl h
  · replace h := h.2 c1
    refine am_aload_n dX12_best_84 (List.Mem.head _) ?_
    refine am_iload dX12_best_85 (List.Mem.tail _ (List.Mem.tail _ (List.Mem.tail _ (List.Mem.tail _ (List.Mem.tail _ (List.Mem.head _)))))) ?_
    refine am_aload_n dX12_best_87 (List.Mem.head _) ?_
    refine am_getf (f := 33) (v := .inl (w.1 9 0 33)) dX12_best_88 hc_10 (by decide) wd_1582 (by decide) rfl rfl ?_
    exact am_callv (d' := d) (kc := 0) (ks := 0) (as := [.inl x5, .inl (w.1 9 0 33)]) dX12_best_91 wc_X12_prepares wd_2093 wd_2095 wd_85 wd_122 ds_X12_prepares (by decide) (Nat.le_refl _) (Nat.le_of_ble_eq_true rfl) (Nat.zero_le _) (Nat.zero_le _) hc_10 (by decide) rfl rfl h
theorem bX12_best_168 {SC : Nat → Nat} {X : mh_X} {d : Nat} {Q : Option am_V → am_W → Prop} {bc bs : Nat} {w : am_W} {x2 : Int} {x3 : Int} {x4 : Int} {x5 : Int} {x6 : Int}
    (h : (((am_w (x3 - x2)) < x6 → ((¬ x4 = 0 → (0 ≤ x5 ∧ (x5 < 60 ∧ Q (some (.inl (w.1 125 0 x5.toNat))) w))) ∧ (x4 = 0 → Q (some (.inl (am_w (x2 + x5)))) w))) ∧ (¬ (am_w (x3 - x2)) < x6 → (0 ≤ x6 ∧ (x6 < 60 ∧ (0 ≤ x5 ∧ (x5 < 60 ∧ (((w.1 125 0 x6.toNat) ≤ (w.1 125 0 x5.toNat) → am_A (mh_G X) SC (d + 1) mX12_best Q 197 [(0, .inr (.inr (some (9, 0)))), (2, .inl x2), (3, .inl x3), (4, .inl x4), (5, .inl x5), (6, .inl x6)] [] w bc bs) ∧ (¬ (w.1 125 0 x6.toNat) ≤ (w.1 125 0 x5.toNat) → am_A (mh_G X) SC (d + 1) mX12_best Q 197 [(0, .inr (.inr (some (9, 0)))), (2, .inl x2), (3, .inl x3), (4, .inl x4), (5, .inl x6), (6, .inl x6)] [] w bc bs))))))))) :
    am_A (mh_G X) SC (d + 1) mX12_best Q 168 [(0, .inr (.inr (some (9, 0)))), (2, .inl x2), (3, .inl x3), (4, .inl x4), (5, .inl x5), (6, .inl x6)] [] w bc bs := by
  refine am_iload dX12_best_168 (List.Mem.tail _ (List.Mem.tail _ (List.Mem.tail _ (List.Mem.tail _ (List.Mem.tail _ (List.Mem.head _)))))) ?_
  refine am_iload_n dX12_best_170 (List.Mem.tail _ (List.Mem.tail _ (List.Mem.head _))) ?_
  refine am_iload_n dX12_best_171 (List.Mem.tail _ (List.Mem.head _)) ?_
  refine am_isub dX12_best_172 ?_
  refine am_icmpgt (tgt := 203) dX12_best_173 (by decide) (fun c1 => ?_) (fun c1 => ?_)
  · replace h := h.1 c1
    refine am_iload dX12_best_203 (List.Mem.tail _ (List.Mem.tail _ (List.Mem.tail _ (List.Mem.head _)))) ?_
    refine am_ifne (tgt := 215) dX12_best_205 (by decide) (fun c2 => ?_) (fun c2 => ?_)
    · replace h := h.1 c2
      refine am_aload_n dX12_best_215 (List.Mem.head _) ?_
      refine am_getf (f := 71) (v := .inr (.inr (some (125, 0)))) dX12_best_216 hc_10 (by decide) wd_1620 (by decide) rfl rfl ?_
      refine am_iload dX12_best_219 (List.Mem.tail _ (List.Mem.tail _ (List.Mem.tail _ (List.Mem.tail _ (List.Mem.head _))))) ?_
      have o3 := h.1
      replace h := h.2
      have o4 := h.1
      replace h := h.2
      refine am_iaload (v := (w.1 125 0 x5.toNat)) dX12_best_221 (by decide) rfl o3 o4 rfl ?_
      exact am_ret (r := some (.inl (w.1 125 0 x5.toNat))) dX12_best_222 (Or.inl rfl) rfl h
    · replace h := h.2 c2
      refine am_iload_n dX12_best_208 (List.Mem.tail _ (List.Mem.head _)) ?_
      refine am_iload dX12_best_209 (List.Mem.tail _ (List.Mem.tail _ (List.Mem.tail _ (List.Mem.tail _ (List.Mem.head _))))) ?_
      refine am_iadd dX12_best_211 ?_
      refine am_goto (tgt := 222) dX12_best_212 (by decide) ?_
      exact am_ret (r := some (.inl (am_w (x2 + x5)))) dX12_best_222 (Or.inl rfl) rfl h
  · replace h := h.2 c1
    refine am_aload_n dX12_best_176 (List.Mem.head _) ?_
    refine am_getf (f := 71) (v := .inr (.inr (some (125, 0)))) dX12_best_177 hc_10 (by decide) wd_1620 (by decide) rfl rfl ?_
    refine am_iload dX12_best_180 (List.Mem.tail _ (List.Mem.tail _ (List.Mem.tail _ (List.Mem.tail _ (List.Mem.tail _ (List.Mem.head _)))))) ?_
    have o5 := h.1
    replace h := h.2
    have o6 := h.1
    replace h := h.2
    refine am_iaload (v := (w.1 125 0 x6.toNat)) dX12_best_182 (by decide) rfl o5 o6 rfl ?_
    refine am_aload_n dX12_best_183 (List.Mem.head _) ?_
    refine am_getf (f := 71) (v := .inr (.inr (some (125, 0)))) dX12_best_184 hc_10 (by decide) wd_1620 (by decide) rfl rfl ?_
    refine am_iload dX12_best_187 (List.Mem.tail _ (List.Mem.tail _ (List.Mem.tail _ (List.Mem.tail _ (List.Mem.head _))))) ?_
    have o7 := h.1
    replace h := h.2
    have o8 := h.1
    replace h := h.2
    refine am_iaload (v := (w.1 125 0 x5.toNat)) dX12_best_189 (by decide) rfl o7 o8 rfl ?_
    refine am_icmple (tgt := 197) dX12_best_190 (by decide) (fun c9 => ?_) (fun c9 => ?_)
    · replace h := h.1 c9
      exact h
    · replace h := h.2 c9
      refine am_iload dX12_best_193 (List.Mem.tail _ (List.Mem.tail _ (List.Mem.tail _ (List.Mem.tail _ (List.Mem.tail _ (List.Mem.head _)))))) ?_
      refine am_istore (ls' := [(5, .inl x6), (0, .inr (.inr (some (9, 0)))), (2, .inl x2), (3, .inl x3), (4, .inl x4), (6, .inl x6)]) dX12_best_195 (by decide) rfl ?_
      exact am_sub [1, 2, 3, 4, 0, 5] rfl h
theorem bX12_best_94 {SC : Nat → Nat} {X : mh_X} {d : Nat} {Q : Option am_V → am_W → Prop} {bc bs : Nat} {w : am_W} {x1 : Int} {x2 : Int} {x3 : Int} {x4 : Int} {x5 : Int}
    (h : am_A (mh_G X) SC (d + 1) mX12_best Q 97 [(0, .inr (.inr (some (9, 0)))), (1, .inl x1), (2, .inl x2), (3, .inl x3), (4, .inl x4), (5, .inl x5), (6, .inl x2)] [] w bc bs) :
    am_A (mh_G X) SC (d + 1) mX12_best Q 94 [(0, .inr (.inr (some (9, 0)))), (1, .inl x1), (2, .inl x2), (3, .inl x3), (4, .inl x4), (5, .inl x5)] [] w bc bs := by
  refine am_iload_n dX12_best_94 (List.Mem.tail _ (List.Mem.tail _ (List.Mem.head _))) ?_
  refine am_istore (ls' := [(6, .inl x2), (0, .inr (.inr (some (9, 0)))), (1, .inl x1), (2, .inl x2), (3, .inl x3), (4, .inl x4), (5, .inl x5)]) dX12_best_95 (by decide) rfl ?_
  exact am_sub [1, 2, 3, 4, 5, 6, 0] rfl h
theorem bX12_best_197 {SC : Nat → Nat} {X : mh_X} {d : Nat} {Q : Option am_V → am_W → Prop} {bc bs : Nat} {w : am_W} {x2 : Int} {x3 : Int} {x4 : Int} {x5 : Int} {x6 : Int}
    (h : am_A (mh_G X) SC (d + 1) mX12_best Q 168 [(0, .inr (.inr (some (9, 0)))), (2, .inl x2), (3, .inl x3), (4, .inl x4), (5, .inl x5), (6, .inl (am_w (x6 + 1)))] [] w bc bs) :
    am_A (mh_G X) SC (d + 1) mX12_best Q 197 [(0, .inr (.inr (some (9, 0)))), (2, .inl x2), (3, .inl x3), (4, .inl x4), (5, .inl x5), (6, .inl x6)] [] w bc bs := by
  refine am_iinc (ls' := [(6, .inl (am_w (x6 + 1))), (0, .inr (.inr (some (9, 0)))), (2, .inl x2), (3, .inl x3), (4, .inl x4), (5, .inl x5)]) dX12_best_197 (List.Mem.tail _ (List.Mem.tail _ (List.Mem.tail _ (List.Mem.tail _ (List.Mem.tail _ (List.Mem.head _)))))) (by decide) rfl ?_
  refine am_goto (tgt := 168) dX12_best_200 (by decide) ?_
  exact am_sub [1, 2, 3, 4, 5, 0] rfl h
theorem bX12_best_97 {SC : Nat → Nat} {X : mh_X} {d : Nat} {Q : Option am_V → am_W → Prop} {bc bs : Nat} {w : am_W} {x1 : Int} {x2 : Int} {x3 : Int} {x4 : Int} {x5 : Int} {x6 : Int}
    (h : ((x3 < x6 → am_A (mh_G X) SC (d + 1) mX12_best Q 75 [(0, .inr (.inr (some (9, 0)))), (1, .inl x1), (2, .inl x2), (3, .inl x3), (4, .inl x4), (5, .inl (am_w (x5 + 1)))] [] w bc bs) ∧ (¬ x3 < x6 → am_M (mh_G X) SC d 0 0 mX12_isAlive [.inr (.inr (some (9, 0))), .inl x5, .inl x6, .inl (w.1 9 0 33)] w (fun r w1 => am_A (mh_G X) SC (d + 1) mX12_best Q 115 [(0, .inr (.inr (some (9, 0)))), (1, .inl x1), (2, .inl x2), (3, .inl x3), (4, .inl x4), (5, .inl x5), (6, .inl x6)] (r.toList ++ []) w1 bc bs)))) :
    am_A (mh_G X) SC (d + 1) mX12_best Q 97 [(0, .inr (.inr (some (9, 0)))), (1, .inl x1), (2, .inl x2), (3, .inl x3), (4, .inl x4), (5, .inl x5), (6, .inl x6)] [] w bc bs := by
  refine am_iload dX12_best_97 (List.Mem.tail _ (List.Mem.tail _ (List.Mem.tail _ (List.Mem.tail _ (List.Mem.tail _ (List.Mem.tail _ (List.Mem.head _))))))) ?_
  refine am_iload_n dX12_best_99 (List.Mem.tail _ (List.Mem.tail _ (List.Mem.tail _ (List.Mem.head _)))) ?_
  refine am_icmpgt (tgt := 156) dX12_best_100 (by decide) (fun c1 => ?_) (fun c1 => ?_)
  · replace h := h.1 c1
    refine am_iinc (ls' := [(5, .inl (am_w (x5 + 1))), (0, .inr (.inr (some (9, 0)))), (1, .inl x1), (2, .inl x2), (3, .inl x3), (4, .inl x4), (6, .inl x6)]) dX12_best_156 (List.Mem.tail _ (List.Mem.tail _ (List.Mem.tail _ (List.Mem.tail _ (List.Mem.tail _ (List.Mem.head _)))))) (by decide) rfl ?_
    refine am_goto (tgt := 75) dX12_best_159 (by decide) ?_
    exact am_sub [1, 2, 3, 4, 5, 0] rfl h
  · replace h := h.2 c1
    refine am_aload_n dX12_best_103 (List.Mem.head _) ?_
    refine am_iload dX12_best_104 (List.Mem.tail _ (List.Mem.tail _ (List.Mem.tail _ (List.Mem.tail _ (List.Mem.tail _ (List.Mem.head _)))))) ?_
    refine am_iload dX12_best_106 (List.Mem.tail _ (List.Mem.tail _ (List.Mem.tail _ (List.Mem.tail _ (List.Mem.tail _ (List.Mem.tail _ (List.Mem.head _))))))) ?_
    refine am_aload_n dX12_best_108 (List.Mem.head _) ?_
    refine am_getf (f := 33) (v := .inl (w.1 9 0 33)) dX12_best_109 hc_10 (by decide) wd_1582 (by decide) rfl rfl ?_
    exact am_callv (d' := d) (kc := 0) (ks := 0) (as := [.inl x5, .inl x6, .inl (w.1 9 0 33)]) dX12_best_112 wc_X12_isAlive wd_2089 wd_2091 wd_84 wd_122 ds_X12_isAlive (by decide) (Nat.le_refl _) (Nat.le_of_ble_eq_true rfl) (Nat.zero_le _) (Nat.zero_le _) hc_10 (by decide) rfl rfl h
theorem bX12_best_115 {SC : Nat → Nat} {X : mh_X} {d : Nat} {Q : Option am_V → am_W → Prop} {bc bs : Nat} {w : am_W} {x1 : Int} {x2 : Int} {x3 : Int} {x4 : Int} {x5 : Int} {x6 : Int} {xs0 : Int}
    (h : ((¬ xs0 = 0 → am_M (mh_G X) SC d 0 0 mX12_goesTo [.inr (.inr (some (9, 0))), .inl x6] w (fun r w1 => am_A (mh_G X) SC (d + 1) mX12_best Q 127 [(0, .inr (.inr (some (9, 0)))), (1, .inl x1), (2, .inl x2), (3, .inl x3), (4, .inl x4), (5, .inl x5), (6, .inl x6)] (r.toList ++ []) w1 bc bs)) ∧ (xs0 = 0 → am_A (mh_G X) SC (d + 1) mX12_best Q 150 [(0, .inr (.inr (some (9, 0)))), (1, .inl x1), (2, .inl x2), (3, .inl x3), (4, .inl x4), (5, .inl x5), (6, .inl x6)] [] w bc bs))) :
    am_A (mh_G X) SC (d + 1) mX12_best Q 115 [(0, .inr (.inr (some (9, 0)))), (1, .inl x1), (2, .inl x2), (3, .inl x3), (4, .inl x4), (5, .inl x5), (6, .inl x6)] [.inl xs0] w bc bs := by
  refine am_ifne (tgt := 121) dX12_best_115 (by decide) (fun c1 => ?_) (fun c1 => ?_)
  · replace h := h.1 c1
    refine am_aload_n dX12_best_121 (List.Mem.head _) ?_
    refine am_iload dX12_best_122 (List.Mem.tail _ (List.Mem.tail _ (List.Mem.tail _ (List.Mem.tail _ (List.Mem.tail _ (List.Mem.tail _ (List.Mem.head _))))))) ?_
    exact am_callv (d' := d) (kc := 0) (ks := 0) (as := [.inl x6]) dX12_best_124 wc_X12_goesTo wd_2104 wd_2106 wd_87 wd_122 ds_X12_goesTo (by decide) (Nat.le_refl _) (Nat.le_of_ble_eq_true rfl) (Nat.zero_le _) (Nat.zero_le _) hc_10 (by decide) rfl rfl h
  · replace h := h.2 c1
    refine am_goto (tgt := 150) dX12_best_118 (by decide) ?_
    exact h
theorem bX12_best_127 {SC : Nat → Nat} {X : mh_X} {d : Nat} {Q : Option am_V → am_W → Prop} {bc bs : Nat} {w : am_W} {x1 : Int} {x2 : Int} {x3 : Int} {x4 : Int} {x5 : Int} {x6 : Int}
    (h : am_M (mh_G X) SC d 0 0 mX12_mayBe [.inr (.inr (some (9, 0))), .inl x1, .inl x6] w (fun r w1 => am_A (mh_G X) SC (d + 1) mX12_best Q 134 [(0, .inr (.inr (some (9, 0)))), (1, .inl x1), (2, .inl x2), (3, .inl x3), (4, .inl x4), (5, .inl x5), (6, .inl x6)] (r.toList ++ []) w1 bc bs)) :
    am_A (mh_G X) SC (d + 1) mX12_best Q 127 [(0, .inr (.inr (some (9, 0)))), (1, .inl x1), (2, .inl x2), (3, .inl x3), (4, .inl x4), (5, .inl x5), (6, .inl x6)] [] w bc bs := by
  refine am_aload_n dX12_best_127 (List.Mem.head _) ?_
  refine am_iload_n dX12_best_128 (List.Mem.tail _ (List.Mem.head _)) ?_
  refine am_iload dX12_best_129 (List.Mem.tail _ (List.Mem.tail _ (List.Mem.tail _ (List.Mem.tail _ (List.Mem.tail _ (List.Mem.tail _ (List.Mem.head _))))))) ?_
  exact am_callv (d' := d) (kc := 0) (ks := 0) (as := [.inl x1, .inl x6]) dX12_best_131 wc_X12_mayBe wd_2159 wd_2161 wd_96 wd_122 ds_X12_mayBe (by decide) (Nat.le_refl _) (Nat.le_of_ble_eq_true rfl) (Nat.zero_le _) (Nat.zero_le _) hc_10 (by decide) rfl rfl h
theorem bX12_best_150 {SC : Nat → Nat} {X : mh_X} {d : Nat} {Q : Option am_V → am_W → Prop} {bc bs : Nat} {w : am_W} {x1 : Int} {x2 : Int} {x3 : Int} {x4 : Int} {x5 : Int} {x6 : Int}
    (h : am_A (mh_G X) SC (d + 1) mX12_best Q 97 [(0, .inr (.inr (some (9, 0)))), (1, .inl x1), (2, .inl x2), (3, .inl x3), (4, .inl x4), (5, .inl x5), (6, .inl (am_w (x6 + 1)))] [] w bc bs) :
    am_A (mh_G X) SC (d + 1) mX12_best Q 150 [(0, .inr (.inr (some (9, 0)))), (1, .inl x1), (2, .inl x2), (3, .inl x3), (4, .inl x4), (5, .inl x5), (6, .inl x6)] [] w bc bs := by
  refine am_iinc (ls' := [(6, .inl (am_w (x6 + 1))), (0, .inr (.inr (some (9, 0)))), (1, .inl x1), (2, .inl x2), (3, .inl x3), (4, .inl x4), (5, .inl x5)]) dX12_best_150 (List.Mem.tail _ (List.Mem.tail _ (List.Mem.tail _ (List.Mem.tail _ (List.Mem.tail _ (List.Mem.tail _ (List.Mem.head _))))))) (by decide) rfl ?_
  refine am_goto (tgt := 97) dX12_best_153 (by decide) ?_
  exact am_sub [1, 2, 3, 4, 5, 6, 0] rfl h
theorem bX12_best_134 {SC : Nat → Nat} {X : mh_X} {d : Nat} {Q : Option am_V → am_W → Prop} {bc bs : Nat} {w : am_W} {x1 : Int} {x2 : Int} {x3 : Int} {x4 : Int} {x5 : Int} {x6 : Int} {xs0 : Int}
    (h : ((xs0 = 0 → am_A (mh_G X) SC (d + 1) mX12_best Q 150 [(0, .inr (.inr (some (9, 0)))), (1, .inl x1), (2, .inl x2), (3, .inl x3), (4, .inl x4), (5, .inl x5), (6, .inl x6)] [] w bc bs) ∧ (¬ xs0 = 0 → (0 ≤ (am_w (x6 - x2)) ∧ ((am_w (x6 - x2)) < 60 ∧ am_A (mh_G X) SC (d + 1) mX12_best Q 150 [(0, .inr (.inr (some (9, 0)))), (1, .inl x1), (2, .inl x2), (3, .inl x3), (4, .inl x4), (5, .inl x5), (6, .inl x6)] [] ((am_up w.1 125 0 (am_w (x6 - x2)).toNat (am_w ((w.1 125 0 (am_w (x6 - x2)).toNat) + 1))), w.2) bc bs))))) :
    am_A (mh_G X) SC (d + 1) mX12_best Q 134 [(0, .inr (.inr (some (9, 0)))), (1, .inl x1), (2, .inl x2), (3, .inl x3), (4, .inl x4), (5, .inl x5), (6, .inl x6)] [.inl xs0] w bc bs := by
  refine am_ifeq (tgt := 150) dX12_best_134 (by decide) (fun c1 => ?_) (fun c1 => ?_)
  · replace h := h.1 c1
    exact h
  · replace h := h.2 c1
    refine am_aload_n dX12_best_137 (List.Mem.head _) ?_
    refine am_getf (f := 71) (v := .inr (.inr (some (125, 0)))) dX12_best_138 hc_10 (by decide) wd_1620 (by decide) rfl rfl ?_
    refine am_iload dX12_best_141 (List.Mem.tail _ (List.Mem.tail _ (List.Mem.tail _ (List.Mem.tail _ (List.Mem.tail _ (List.Mem.tail _ (List.Mem.head _))))))) ?_
    refine am_iload_n dX12_best_143 (List.Mem.tail _ (List.Mem.tail _ (List.Mem.head _))) ?_
    refine am_isub dX12_best_144 ?_
    refine am_dup2 dX12_best_145 rfl rfl ?_
    have o2 := h.1
    replace h := h.2
    have o3 := h.1
    replace h := h.2
    refine am_iaload (v := (w.1 125 0 (am_w (x6 - x2)).toNat)) dX12_best_146 (by decide) rfl o2 o3 rfl ?_
    refine am_iconst dX12_best_147 (by unfold am_rg; omega) ?_
    refine am_iadd dX12_best_148 ?_
    refine am_iastore dX12_best_149 (Or.inl (by decide)) rfl o2 o3 ?_
    exact h
-- MourningHouseModel.first(III)I
theorem dX12_first_0 : decode mX12_first.2.1 0 = .ok (.aload_n 0, 1) := by decide +kernel
theorem dX12_first_1 : decode mX12_first.2.1 1 = .ok (.iload_n 1, 1) := by decide +kernel
theorem dX12_first_2 : decode mX12_first.2.1 2 = .ok (.invokevirtual 453, 3) := by decide +kernel
theorem dX12_first_5 : decode mX12_first.2.1 5 = .ok (.ifCond .eq 17, 3) := by decide +kernel
theorem dX12_first_8 : decode mX12_first.2.1 8 = .ok (.iload_n 2, 1) := by decide +kernel
theorem dX12_first_9 : decode mX12_first.2.1 9 = .ok (.invokestatic 567, 3) := by decide +kernel
theorem dX12_first_12 : decode mX12_first.2.1 12 = .ok (.ifCond .eq 10, 3) := by decide +kernel
theorem dX12_first_15 : decode mX12_first.2.1 15 = .ok (.iload_n 3, 1) := by decide +kernel
theorem dX12_first_16 : decode mX12_first.2.1 16 = .ok (.invokestatic 322, 3) := by decide +kernel
theorem dX12_first_19 : decode mX12_first.2.1 19 = .ok (.ifCond .ne 7, 3) := by decide +kernel
theorem dX12_first_22 : decode mX12_first.2.1 22 = .ok (.ldc_w 325, 3) := by decide +kernel
theorem dX12_first_25 : decode mX12_first.2.1 25 = .ok (.ireturn, 1) := by decide +kernel
theorem dX12_first_26 : decode mX12_first.2.1 26 = .ok (.aload_n 0, 1) := by decide +kernel
theorem dX12_first_27 : decode mX12_first.2.1 27 = .ok (.iload_n 1, 1) := by decide +kernel
theorem dX12_first_28 : decode mX12_first.2.1 28 = .ok (.aload_n 0, 1) := by decide +kernel
theorem dX12_first_29 : decode mX12_first.2.1 29 = .ok (.getfield 444, 3) := by decide +kernel
theorem dX12_first_32 : decode mX12_first.2.1 32 = .ok (.invokevirtual 551, 3) := by decide +kernel
theorem dX12_first_35 : decode mX12_first.2.1 35 = .ok (.iconst 0, 1) := by decide +kernel
theorem dX12_first_36 : decode mX12_first.2.1 36 = .ok (.istore 4, 2) := by decide +kernel
theorem dX12_first_38 : decode mX12_first.2.1 38 = .ok (.iload 4, 2) := by decide +kernel
theorem dX12_first_40 : decode mX12_first.2.1 40 = .ok (.sipush 3000, 3) := by decide +kernel
theorem dX12_first_43 : decode mX12_first.2.1 43 = .ok (.if_icmp .gt 61, 3) := by decide +kernel
theorem dX12_first_46 : decode mX12_first.2.1 46 = .ok (.iload_n 3, 1) := by decide +kernel
theorem dX12_first_47 : decode mX12_first.2.1 47 = .ok (.iload 4, 2) := by decide +kernel
theorem dX12_first_49 : decode mX12_first.2.1 49 = .ok (.iadd, 1) := by decide +kernel
theorem dX12_first_50 : decode mX12_first.2.1 50 = .ok (.ldc_w 317, 3) := by decide +kernel
theorem dX12_first_53 : decode mX12_first.2.1 53 = .ok (.if_icmp .gt 51, 3) := by decide +kernel
theorem dX12_first_56 : decode mX12_first.2.1 56 = .ok (.iload_n 3, 1) := by decide +kernel
theorem dX12_first_57 : decode mX12_first.2.1 57 = .ok (.iload 4, 2) := by decide +kernel
theorem dX12_first_59 : decode mX12_first.2.1 59 = .ok (.iadd, 1) := by decide +kernel
theorem dX12_first_60 : decode mX12_first.2.1 60 = .ok (.istore 5, 2) := by decide +kernel
theorem dX12_first_62 : decode mX12_first.2.1 62 = .ok (.aload_n 0, 1) := by decide +kernel
theorem dX12_first_63 : decode mX12_first.2.1 63 = .ok (.iload_n 1, 1) := by decide +kernel
theorem dX12_first_64 : decode mX12_first.2.1 64 = .ok (.iload 5, 2) := by decide +kernel
theorem dX12_first_66 : decode mX12_first.2.1 66 = .ok (.aload_n 0, 1) := by decide +kernel
theorem dX12_first_67 : decode mX12_first.2.1 67 = .ok (.getfield 444, 3) := by decide +kernel
theorem dX12_first_70 : decode mX12_first.2.1 70 = .ok (.invokevirtual 548, 3) := by decide +kernel
theorem dX12_first_73 : decode mX12_first.2.1 73 = .ok (.ifCond .ne 6, 3) := by decide +kernel
theorem dX12_first_76 : decode mX12_first.2.1 76 = .ok (.goto 22, 3) := by decide +kernel
theorem dX12_first_79 : decode mX12_first.2.1 79 = .ok (.aload_n 0, 1) := by decide +kernel
theorem dX12_first_80 : decode mX12_first.2.1 80 = .ok (.iload 5, 2) := by decide +kernel
theorem dX12_first_82 : decode mX12_first.2.1 82 = .ok (.invokevirtual 554, 3) := by decide +kernel
theorem dX12_first_85 : decode mX12_first.2.1 85 = .ok (.aload_n 0, 1) := by decide +kernel
theorem dX12_first_86 : decode mX12_first.2.1 86 = .ok (.iload_n 2, 1) := by decide +kernel
theorem dX12_first_87 : decode mX12_first.2.1 87 = .ok (.iload 5, 2) := by decide +kernel
theorem dX12_first_89 : decode mX12_first.2.1 89 = .ok (.invokevirtual 564, 3) := by decide +kernel
theorem dX12_first_92 : decode mX12_first.2.1 92 = .ok (.ifCond .eq 6, 3) := by decide +kernel
theorem dX12_first_95 : decode mX12_first.2.1 95 = .ok (.iload 5, 2) := by decide +kernel
theorem dX12_first_97 : decode mX12_first.2.1 97 = .ok (.ireturn, 1) := by decide +kernel
theorem dX12_first_98 : decode mX12_first.2.1 98 = .ok (.iinc 4 1, 3) := by decide +kernel
theorem dX12_first_101 : decode mX12_first.2.1 101 = .ok (.goto (-63), 3) := by decide +kernel
theorem dX12_first_104 : decode mX12_first.2.1 104 = .ok (.ldc_w 325, 3) := by decide +kernel
theorem dX12_first_107 : decode mX12_first.2.1 107 = .ok (.ireturn, 1) := by decide +kernel
theorem bX12_first_0 {SC : Nat → Nat} {X : mh_X} {d : Nat} {Q : Option am_V → am_W → Prop} {bc bs : Nat} {w : am_W} {x1 : Int} {x2 : Int} {x3 : Int}
    (h : am_M (mh_G X) SC d 0 0 mX12_isPerson [.inr (.inr (some (9, 0))), .inl x1] w (fun r w1 => am_A (mh_G X) SC (d + 1) mX12_first Q 5 [(0, .inr (.inr (some (9, 0)))), (1, .inl x1), (2, .inl x2), (3, .inl x3)] (r.toList ++ []) w1 bc bs)) :
    am_A (mh_G X) SC (d + 1) mX12_first Q 0 [(0, .inr (.inr (some (9, 0)))), (1, .inl x1), (2, .inl x2), (3, .inl x3)] [] w bc bs := by
  refine am_aload_n dX12_first_0 (List.Mem.head _) ?_
  refine am_iload_n dX12_first_1 (List.Mem.tail _ (List.Mem.head _)) ?_
  exact am_callv (d' := d) (kc := 0) (ks := 0) (as := [.inl x1]) dX12_first_2 wc_X12_isPerson wd_2018 wd_2020 wd_73 wd_122 ds_X12_isPerson (by decide) (Nat.le_refl _) (Nat.le_of_ble_eq_true rfl) (Nat.zero_le _) (Nat.zero_le _) hc_10 (by decide) rfl rfl h
theorem bX12_first_5 {SC : Nat → Nat} {X : mh_X} {d : Nat} {Q : Option am_V → am_W → Prop} {bc bs : Nat} {w : am_W} {x1 : Int} {x2 : Int} {x3 : Int} {xs0 : Int}
    (h : ((xs0 = 0 → Q (some (.inl (-2147483648))) w) ∧ (¬ xs0 = 0 → am_M (mh_G X) SC d 0 0 mX12_isAct [.inl x2] w (fun r w1 => am_A (mh_G X) SC (d + 1) mX12_first Q 12 [(0, .inr (.inr (some (9, 0)))), (1, .inl x1), (2, .inl x2), (3, .inl x3)] (r.toList ++ []) w1 bc bs)))) :
    am_A (mh_G X) SC (d + 1) mX12_first Q 5 [(0, .inr (.inr (some (9, 0)))), (1, .inl x1), (2, .inl x2), (3, .inl x3)] [.inl xs0] w bc bs := by
  refine am_ifeq (tgt := 22) dX12_first_5 (by decide) (fun c1 => ?_) (fun c1 => ?_)
  · replace h := h.1 c1
    refine am_ldcwV (n := (-2147483648)) dX12_first_22 (by decide) wd_1887 (by unfold am_rg; omega) ?_
    exact am_ret (r := some (.inl (-2147483648))) dX12_first_25 (Or.inl rfl) rfl h
  · replace h := h.2 c1
    refine am_iload_n dX12_first_8 (List.Mem.tail _ (List.Mem.tail _ (List.Mem.head _))) ?_
    exact am_calls (d' := d) (kc := 0) (ks := 0) (as := [.inl x2]) dX12_first_9 wc_X12_isAct wd_2152 wd_2153 wd_122 ds_X12_isAct (by decide) (Nat.le_refl _) (Nat.le_of_ble_eq_true rfl) (Nat.zero_le _) (Nat.zero_le _) rfl h
theorem bX12_first_12 {SC : Nat → Nat} {X : mh_X} {d : Nat} {Q : Option am_V → am_W → Prop} {bc bs : Nat} {w : am_W} {x1 : Int} {x2 : Int} {x3 : Int} {xs0 : Int}
    (h : ((xs0 = 0 → Q (some (.inl (-2147483648))) w) ∧ (¬ xs0 = 0 → am_M (mh_G X) SC d 0 0 mX12_isDay [.inl x3] w (fun r w1 => am_A (mh_G X) SC (d + 1) mX12_first Q 19 [(0, .inr (.inr (some (9, 0)))), (1, .inl x1), (2, .inl x2), (3, .inl x3)] (r.toList ++ []) w1 bc bs)))) :
    am_A (mh_G X) SC (d + 1) mX12_first Q 12 [(0, .inr (.inr (some (9, 0)))), (1, .inl x1), (2, .inl x2), (3, .inl x3)] [.inl xs0] w bc bs := by
  refine am_ifeq (tgt := 22) dX12_first_12 (by decide) (fun c1 => ?_) (fun c1 => ?_)
  · replace h := h.1 c1
    refine am_ldcwV (n := (-2147483648)) dX12_first_22 (by decide) wd_1887 (by unfold am_rg; omega) ?_
    exact am_ret (r := some (.inl (-2147483648))) dX12_first_25 (Or.inl rfl) rfl h
  · replace h := h.2 c1
    refine am_iload_n dX12_first_15 (List.Mem.tail _ (List.Mem.tail _ (List.Mem.tail _ (List.Mem.head _)))) ?_
    exact am_calls (d' := d) (kc := 0) (ks := 0) (as := [.inl x3]) dX12_first_16 wc_X12_isDay wd_1854 wd_1855 wd_122 ds_X12_isDay (by decide) (Nat.le_refl _) (Nat.le_of_ble_eq_true rfl) (Nat.zero_le _) (Nat.zero_le _) rfl h
theorem bX12_first_19 {SC : Nat → Nat} {X : mh_X} {d : Nat} {Q : Option am_V → am_W → Prop} {bc bs : Nat} {w : am_W} {x1 : Int} {x2 : Int} {x3 : Int} {xs0 : Int}
    (h : ((¬ xs0 = 0 → am_M (mh_G X) SC d 0 0 mX12_prepares [.inr (.inr (some (9, 0))), .inl x1, .inl (w.1 9 0 33)] w (fun r w1 => am_A (mh_G X) SC (d + 1) mX12_first Q 35 [(0, .inr (.inr (some (9, 0)))), (1, .inl x1), (2, .inl x2), (3, .inl x3)] (r.toList ++ []) w1 bc bs)) ∧ (xs0 = 0 → Q (some (.inl (-2147483648))) w))) :
    am_A (mh_G X) SC (d + 1) mX12_first Q 19 [(0, .inr (.inr (some (9, 0)))), (1, .inl x1), (2, .inl x2), (3, .inl x3)] [.inl xs0] w bc bs := by
  refine am_ifne (tgt := 26) dX12_first_19 (by decide) (fun c1 => ?_) (fun c1 => ?_)
  · replace h := h.1 c1
    refine am_aload_n dX12_first_26 (List.Mem.head _) ?_
    refine am_iload_n dX12_first_27 (List.Mem.tail _ (List.Mem.head _)) ?_
    refine am_aload_n dX12_first_28 (List.Mem.head _) ?_
    refine am_getf (f := 33) (v := .inl (w.1 9 0 33)) dX12_first_29 hc_10 (by decide) wd_1582 (by decide) rfl rfl ?_
    exact am_callv (d' := d) (kc := 0) (ks := 0) (as := [.inl x1, .inl (w.1 9 0 33)]) dX12_first_32 wc_X12_prepares wd_2093 wd_2095 wd_85 wd_122 ds_X12_prepares (by decide) (Nat.le_refl _) (Nat.le_of_ble_eq_true rfl) (Nat.zero_le _) (Nat.zero_le _) hc_10 (by decide) rfl rfl h
  · replace h := h.2 c1
    refine am_ldcwV (n := (-2147483648)) dX12_first_22 (by decide) wd_1887 (by unfold am_rg; omega) ?_
    exact am_ret (r := some (.inl (-2147483648))) dX12_first_25 (Or.inl rfl) rfl h
theorem bX12_first_35 {SC : Nat → Nat} {X : mh_X} {d : Nat} {Q : Option am_V → am_W → Prop} {bc bs : Nat} {w : am_W} {x1 : Int} {x2 : Int} {x3 : Int}
    (h : am_A (mh_G X) SC (d + 1) mX12_first Q 38 [(0, .inr (.inr (some (9, 0)))), (1, .inl x1), (2, .inl x2), (3, .inl x3), (4, .inl 0)] [] w bc bs) :
    am_A (mh_G X) SC (d + 1) mX12_first Q 35 [(0, .inr (.inr (some (9, 0)))), (1, .inl x1), (2, .inl x2), (3, .inl x3)] [] w bc bs := by
  refine am_iconst dX12_first_35 (by unfold am_rg; omega) ?_
  refine am_istore (ls' := [(4, .inl 0), (0, .inr (.inr (some (9, 0)))), (1, .inl x1), (2, .inl x2), (3, .inl x3)]) dX12_first_36 (by decide) rfl ?_
  exact am_sub [1, 2, 3, 4, 0] rfl h
theorem bX12_first_38 {SC : Nat → Nat} {X : mh_X} {d : Nat} {Q : Option am_V → am_W → Prop} {bc bs : Nat} {w : am_W} {x1 : Int} {x2 : Int} {x3 : Int} {x4 : Int}
    (h : ((3000 < x4 → Q (some (.inl (-2147483648))) w) ∧ (¬ 3000 < x4 → ((73047 < (am_w (x3 + x4)) → Q (some (.inl (-2147483648))) w) ∧ (¬ 73047 < (am_w (x3 + x4)) → am_M (mh_G X) SC d 0 0 mX12_isAlive [.inr (.inr (some (9, 0))), .inl x1, .inl (am_w (x3 + x4)), .inl (w.1 9 0 33)] w (fun r w1 => am_A (mh_G X) SC (d + 1) mX12_first Q 73 [(5, .inl (am_w (x3 + x4))), (0, .inr (.inr (some (9, 0)))), (1, .inl x1), (2, .inl x2), (3, .inl x3), (4, .inl x4)] (r.toList ++ []) w1 bc bs)))))) :
    am_A (mh_G X) SC (d + 1) mX12_first Q 38 [(0, .inr (.inr (some (9, 0)))), (1, .inl x1), (2, .inl x2), (3, .inl x3), (4, .inl x4)] [] w bc bs := by
  refine am_iload dX12_first_38 (List.Mem.tail _ (List.Mem.tail _ (List.Mem.tail _ (List.Mem.tail _ (List.Mem.head _))))) ?_
  refine am_sipush dX12_first_40 (by decide) (by unfold am_rg; omega) ?_
  refine am_icmpgt (tgt := 104) dX12_first_43 (by decide) (fun c1 => ?_) (fun c1 => ?_)
  · replace h := h.1 c1
    refine am_ldcwV (n := (-2147483648)) dX12_first_104 (by decide) wd_1887 (by unfold am_rg; omega) ?_
    exact am_ret (r := some (.inl (-2147483648))) dX12_first_107 (Or.inl rfl) rfl h
  · replace h := h.2 c1
    refine am_iload_n dX12_first_46 (List.Mem.tail _ (List.Mem.tail _ (List.Mem.tail _ (List.Mem.head _)))) ?_
    refine am_iload dX12_first_47 (List.Mem.tail _ (List.Mem.tail _ (List.Mem.tail _ (List.Mem.tail _ (List.Mem.head _))))) ?_
    refine am_iadd dX12_first_49 ?_
    refine am_ldcwV (n := 73047) dX12_first_50 (by decide) wd_1858 (by unfold am_rg; omega) ?_
    refine am_icmpgt (tgt := 104) dX12_first_53 (by decide) (fun c2 => ?_) (fun c2 => ?_)
    · replace h := h.1 c2
      refine am_ldcwV (n := (-2147483648)) dX12_first_104 (by decide) wd_1887 (by unfold am_rg; omega) ?_
      exact am_ret (r := some (.inl (-2147483648))) dX12_first_107 (Or.inl rfl) rfl h
    · replace h := h.2 c2
      refine am_iload_n dX12_first_56 (List.Mem.tail _ (List.Mem.tail _ (List.Mem.tail _ (List.Mem.head _)))) ?_
      refine am_iload dX12_first_57 (List.Mem.tail _ (List.Mem.tail _ (List.Mem.tail _ (List.Mem.tail _ (List.Mem.head _))))) ?_
      refine am_iadd dX12_first_59 ?_
      refine am_istore (ls' := [(5, .inl (am_w (x3 + x4))), (0, .inr (.inr (some (9, 0)))), (1, .inl x1), (2, .inl x2), (3, .inl x3), (4, .inl x4)]) dX12_first_60 (by decide) rfl ?_
      refine am_aload_n dX12_first_62 (List.Mem.tail _ (List.Mem.head _)) ?_
      refine am_iload_n dX12_first_63 (List.Mem.tail _ (List.Mem.tail _ (List.Mem.head _))) ?_
      refine am_iload dX12_first_64 (List.Mem.head _) ?_
      refine am_aload_n dX12_first_66 (List.Mem.tail _ (List.Mem.head _)) ?_
      refine am_getf (f := 33) (v := .inl (w.1 9 0 33)) dX12_first_67 hc_10 (by decide) wd_1582 (by decide) rfl rfl ?_
      exact am_callv (d' := d) (kc := 0) (ks := 0) (as := [.inl x1, .inl (am_w (x3 + x4)), .inl (w.1 9 0 33)]) dX12_first_70 wc_X12_isAlive wd_2089 wd_2091 wd_84 wd_122 ds_X12_isAlive (by decide) (Nat.le_refl _) (Nat.le_of_ble_eq_true rfl) (Nat.zero_le _) (Nat.zero_le _) hc_10 (by decide) rfl rfl h
theorem bX12_first_73 {SC : Nat → Nat} {X : mh_X} {d : Nat} {Q : Option am_V → am_W → Prop} {bc bs : Nat} {w : am_W} {x5 : Int} {x1 : Int} {x2 : Int} {x3 : Int} {x4 : Int} {xs0 : Int}
    (h : ((¬ xs0 = 0 → am_M (mh_G X) SC d 0 0 mX12_goesTo [.inr (.inr (some (9, 0))), .inl x5] w (fun r w1 => am_A (mh_G X) SC (d + 1) mX12_first Q 85 [(5, .inl x5), (0, .inr (.inr (some (9, 0)))), (1, .inl x1), (2, .inl x2), (3, .inl x3), (4, .inl x4)] (r.toList ++ []) w1 bc bs)) ∧ (xs0 = 0 → am_A (mh_G X) SC (d + 1) mX12_first Q 98 [(0, .inr (.inr (some (9, 0)))), (1, .inl x1), (2, .inl x2), (3, .inl x3), (4, .inl x4)] [] w bc bs))) :
    am_A (mh_G X) SC (d + 1) mX12_first Q 73 [(5, .inl x5), (0, .inr (.inr (some (9, 0)))), (1, .inl x1), (2, .inl x2), (3, .inl x3), (4, .inl x4)] [.inl xs0] w bc bs := by
  refine am_ifne (tgt := 79) dX12_first_73 (by decide) (fun c1 => ?_) (fun c1 => ?_)
  · replace h := h.1 c1
    refine am_aload_n dX12_first_79 (List.Mem.tail _ (List.Mem.head _)) ?_
    refine am_iload dX12_first_80 (List.Mem.head _) ?_
    exact am_callv (d' := d) (kc := 0) (ks := 0) (as := [.inl x5]) dX12_first_82 wc_X12_goesTo wd_2104 wd_2106 wd_87 wd_122 ds_X12_goesTo (by decide) (Nat.le_refl _) (Nat.le_of_ble_eq_true rfl) (Nat.zero_le _) (Nat.zero_le _) hc_10 (by decide) rfl rfl h
  · replace h := h.2 c1
    refine am_goto (tgt := 98) dX12_first_76 (by decide) ?_
    exact am_sub [1, 2, 3, 4, 5] rfl h
theorem bX12_first_85 {SC : Nat → Nat} {X : mh_X} {d : Nat} {Q : Option am_V → am_W → Prop} {bc bs : Nat} {w : am_W} {x5 : Int} {x1 : Int} {x2 : Int} {x3 : Int} {x4 : Int}
    (h : am_M (mh_G X) SC d 0 0 mX12_mayBe [.inr (.inr (some (9, 0))), .inl x2, .inl x5] w (fun r w1 => am_A (mh_G X) SC (d + 1) mX12_first Q 92 [(5, .inl x5), (0, .inr (.inr (some (9, 0)))), (1, .inl x1), (2, .inl x2), (3, .inl x3), (4, .inl x4)] (r.toList ++ []) w1 bc bs)) :
    am_A (mh_G X) SC (d + 1) mX12_first Q 85 [(5, .inl x5), (0, .inr (.inr (some (9, 0)))), (1, .inl x1), (2, .inl x2), (3, .inl x3), (4, .inl x4)] [] w bc bs := by
  refine am_aload_n dX12_first_85 (List.Mem.tail _ (List.Mem.head _)) ?_
  refine am_iload_n dX12_first_86 (List.Mem.tail _ (List.Mem.tail _ (List.Mem.tail _ (List.Mem.head _)))) ?_
  refine am_iload dX12_first_87 (List.Mem.head _) ?_
  exact am_callv (d' := d) (kc := 0) (ks := 0) (as := [.inl x2, .inl x5]) dX12_first_89 wc_X12_mayBe wd_2159 wd_2161 wd_96 wd_122 ds_X12_mayBe (by decide) (Nat.le_refl _) (Nat.le_of_ble_eq_true rfl) (Nat.zero_le _) (Nat.zero_le _) hc_10 (by decide) rfl rfl h
theorem bX12_first_98 {SC : Nat → Nat} {X : mh_X} {d : Nat} {Q : Option am_V → am_W → Prop} {bc bs : Nat} {w : am_W} {x1 : Int} {x2 : Int} {x3 : Int} {x4 : Int}
    (h : am_A (mh_G X) SC (d + 1) mX12_first Q 38 [(0, .inr (.inr (some (9, 0)))), (1, .inl x1), (2, .inl x2), (3, .inl x3), (4, .inl (am_w (x4 + 1)))] [] w bc bs) :
    am_A (mh_G X) SC (d + 1) mX12_first Q 98 [(0, .inr (.inr (some (9, 0)))), (1, .inl x1), (2, .inl x2), (3, .inl x3), (4, .inl x4)] [] w bc bs := by
  refine am_iinc (ls' := [(4, .inl (am_w (x4 + 1))), (0, .inr (.inr (some (9, 0)))), (1, .inl x1), (2, .inl x2), (3, .inl x3)]) dX12_first_98 (List.Mem.tail _ (List.Mem.tail _ (List.Mem.tail _ (List.Mem.tail _ (List.Mem.head _))))) (by decide) rfl ?_
  refine am_goto (tgt := 38) dX12_first_101 (by decide) ?_
  exact am_sub [1, 2, 3, 4, 0] rfl h
theorem bX12_first_92 {SC : Nat → Nat} {X : mh_X} {d : Nat} {Q : Option am_V → am_W → Prop} {bc bs : Nat} {w : am_W} {x5 : Int} {x1 : Int} {x2 : Int} {x3 : Int} {x4 : Int} {xs0 : Int}
    (h : ((xs0 = 0 → am_A (mh_G X) SC (d + 1) mX12_first Q 98 [(0, .inr (.inr (some (9, 0)))), (1, .inl x1), (2, .inl x2), (3, .inl x3), (4, .inl x4)] [] w bc bs) ∧ (¬ xs0 = 0 → Q (some (.inl x5)) w))) :
    am_A (mh_G X) SC (d + 1) mX12_first Q 92 [(5, .inl x5), (0, .inr (.inr (some (9, 0)))), (1, .inl x1), (2, .inl x2), (3, .inl x3), (4, .inl x4)] [.inl xs0] w bc bs := by
  refine am_ifeq (tgt := 98) dX12_first_92 (by decide) (fun c1 => ?_) (fun c1 => ?_)
  · replace h := h.1 c1
    exact am_sub [1, 2, 3, 4, 5] rfl h
  · replace h := h.2 c1
    refine am_iload dX12_first_95 (List.Mem.head _) ?_
    exact am_ret (r := some (.inl x5)) dX12_first_97 (Or.inl rfl) rfl h
-- MourningHouseModel.hasTask(I)Z
theorem dX12_hasTask_0 : decode mX12_hasTask.2.1 0 = .ok (.iconst 0, 1) := by decide +kernel
theorem dX12_hasTask_1 : decode mX12_hasTask.2.1 1 = .ok (.istore_n 2, 1) := by decide +kernel
theorem dX12_hasTask_2 : decode mX12_hasTask.2.1 2 = .ok (.iload_n 2, 1) := by decide +kernel
theorem dX12_hasTask_3 : decode mX12_hasTask.2.1 3 = .ok (.aload_n 0, 1) := by decide +kernel
theorem dX12_hasTask_4 : decode mX12_hasTask.2.1 4 = .ok (.getfield 576, 3) := by decide +kernel
theorem dX12_hasTask_7 : decode mX12_hasTask.2.1 7 = .ok (.if_icmp .ge 21, 3) := by decide +kernel
theorem dX12_hasTask_10 : decode mX12_hasTask.2.1 10 = .ok (.aload_n 0, 1) := by decide +kernel
theorem dX12_hasTask_11 : decode mX12_hasTask.2.1 11 = .ok (.getfield 246, 3) := by decide +kernel
theorem dX12_hasTask_14 : decode mX12_hasTask.2.1 14 = .ok (.iload_n 2, 1) := by decide +kernel
theorem dX12_hasTask_15 : decode mX12_hasTask.2.1 15 = .ok (.iaload, 1) := by decide +kernel
theorem dX12_hasTask_16 : decode mX12_hasTask.2.1 16 = .ok (.iload_n 1, 1) := by decide +kernel
theorem dX12_hasTask_17 : decode mX12_hasTask.2.1 17 = .ok (.if_icmp .ne 5, 3) := by decide +kernel
theorem dX12_hasTask_20 : decode mX12_hasTask.2.1 20 = .ok (.iconst 1, 1) := by decide +kernel
theorem dX12_hasTask_21 : decode mX12_hasTask.2.1 21 = .ok (.ireturn, 1) := by decide +kernel
theorem dX12_hasTask_22 : decode mX12_hasTask.2.1 22 = .ok (.iinc 2 1, 3) := by decide +kernel
theorem dX12_hasTask_25 : decode mX12_hasTask.2.1 25 = .ok (.goto (-23), 3) := by decide +kernel
theorem dX12_hasTask_28 : decode mX12_hasTask.2.1 28 = .ok (.iconst 0, 1) := by decide +kernel
theorem dX12_hasTask_29 : decode mX12_hasTask.2.1 29 = .ok (.ireturn, 1) := by decide +kernel
theorem bX12_hasTask_0 {SC : Nat → Nat} {X : mh_X} {d : Nat} {Q : Option am_V → am_W → Prop} {bc bs : Nat} {w : am_W} {x1 : Int}
    (h : am_A (mh_G X) SC (d + 1) mX12_hasTask Q 2 [(0, .inr (.inr (some (9, 0)))), (1, .inl x1), (2, .inl 0)] [] w bc bs) :
    am_A (mh_G X) SC (d + 1) mX12_hasTask Q 0 [(0, .inr (.inr (some (9, 0)))), (1, .inl x1)] [] w bc bs := by
  refine am_iconst dX12_hasTask_0 (by unfold am_rg; omega) ?_
  refine am_istore_n (ls' := [(2, .inl 0), (0, .inr (.inr (some (9, 0)))), (1, .inl x1)]) dX12_hasTask_1 (by decide) rfl ?_
  exact am_sub [1, 2, 0] rfl h
theorem bX12_hasTask_2 {SC : Nat → Nat} {X : mh_X} {d : Nat} {Q : Option am_V → am_W → Prop} {bc bs : Nat} {w : am_W} {x1 : Int} {x2 : Int}
    (h : (((w.1 9 0 81) ≤ x2 → Q (some (.inl 0)) w) ∧ (¬ (w.1 9 0 81) ≤ x2 → (0 ≤ x2 ∧ (x2 < 20 ∧ ((¬ (w.1 129 0 x2.toNat) = x1 → am_A (mh_G X) SC (d + 1) mX12_hasTask Q 2 [(0, .inr (.inr (some (9, 0)))), (1, .inl x1), (2, .inl (am_w (x2 + 1)))] [] w bc bs) ∧ ((w.1 129 0 x2.toNat) = x1 → Q (some (.inl 1)) w))))))) :
    am_A (mh_G X) SC (d + 1) mX12_hasTask Q 2 [(0, .inr (.inr (some (9, 0)))), (1, .inl x1), (2, .inl x2)] [] w bc bs := by
  refine am_iload_n dX12_hasTask_2 (List.Mem.tail _ (List.Mem.tail _ (List.Mem.head _))) ?_
  refine am_aload_n dX12_hasTask_3 (List.Mem.head _) ?_
  refine am_getf (f := 81) (v := .inl (w.1 9 0 81)) dX12_hasTask_4 hc_10 (by decide) wd_1630 (by decide) rfl rfl ?_
  refine am_icmpge (tgt := 28) dX12_hasTask_7 (by decide) (fun c1 => ?_) (fun c1 => ?_)
  · replace h := h.1 c1
    refine am_iconst dX12_hasTask_28 (by unfold am_rg; omega) ?_
    exact am_ret (r := some (.inl 0)) dX12_hasTask_29 (Or.inr (Or.inl ⟨rfl, (Or.inl rfl)⟩)) rfl h
  · replace h := h.2 c1
    refine am_aload_n dX12_hasTask_10 (List.Mem.head _) ?_
    refine am_getf (f := 77) (v := .inr (.inr (some (129, 0)))) dX12_hasTask_11 hc_10 (by decide) wd_1626 (by decide) rfl rfl ?_
    refine am_iload_n dX12_hasTask_14 (List.Mem.tail _ (List.Mem.tail _ (List.Mem.head _))) ?_
    have o2 := h.1
    replace h := h.2
    have o3 := h.1
    replace h := h.2
    refine am_iaload (v := (w.1 129 0 x2.toNat)) dX12_hasTask_15 (by decide) rfl o2 o3 rfl ?_
    refine am_iload_n dX12_hasTask_16 (List.Mem.tail _ (List.Mem.head _)) ?_
    refine am_icmpne (tgt := 22) dX12_hasTask_17 (by decide) (fun c4 => ?_) (fun c4 => ?_)
    · replace h := h.1 c4
      refine am_iinc (ls' := [(2, .inl (am_w (x2 + 1))), (0, .inr (.inr (some (9, 0)))), (1, .inl x1)]) dX12_hasTask_22 (List.Mem.tail _ (List.Mem.tail _ (List.Mem.head _))) (by decide) rfl ?_
      refine am_goto (tgt := 2) dX12_hasTask_25 (by decide) ?_
      exact am_sub [1, 2, 0] rfl h
    · replace h := h.2 c4
      refine am_iconst dX12_hasTask_20 (by unfold am_rg; omega) ?_
      exact am_ret (r := some (.inl 1)) dX12_hasTask_21 (Or.inr (Or.inl ⟨rfl, (Or.inr rfl)⟩)) rfl h
-- MourningHouseModel.making()I
theorem dX12_making_0 : decode mX12_making.2.1 0 = .ok (.iconst 0, 1) := by decide +kernel
theorem dX12_making_1 : decode mX12_making.2.1 1 = .ok (.istore_n 1, 1) := by decide +kernel
theorem dX12_making_2 : decode mX12_making.2.1 2 = .ok (.iconst 0, 1) := by decide +kernel
theorem dX12_making_3 : decode mX12_making.2.1 3 = .ok (.istore_n 2, 1) := by decide +kernel
theorem dX12_making_4 : decode mX12_making.2.1 4 = .ok (.iload_n 2, 1) := by decide +kernel
theorem dX12_making_5 : decode mX12_making.2.1 5 = .ok (.aload_n 0, 1) := by decide +kernel
theorem dX12_making_6 : decode mX12_making.2.1 6 = .ok (.getfield 576, 3) := by decide +kernel
theorem dX12_making_9 : decode mX12_making.2.1 9 = .ok (.if_icmp .ge 27, 3) := by decide +kernel
theorem dX12_making_12 : decode mX12_making.2.1 12 = .ok (.iload_n 1, 1) := by decide +kernel
theorem dX12_making_13 : decode mX12_making.2.1 13 = .ok (.aload_n 0, 1) := by decide +kernel
theorem dX12_making_14 : decode mX12_making.2.1 14 = .ok (.getfield 246, 3) := by decide +kernel
theorem dX12_making_17 : decode mX12_making.2.1 17 = .ok (.iload_n 2, 1) := by decide +kernel
theorem dX12_making_18 : decode mX12_making.2.1 18 = .ok (.iaload, 1) := by decide +kernel
theorem dX12_making_19 : decode mX12_making.2.1 19 = .ok (.iconst (-1), 1) := by decide +kernel
theorem dX12_making_20 : decode mX12_making.2.1 20 = .ok (.if_icmp .ne 7, 3) := by decide +kernel
theorem dX12_making_23 : decode mX12_making.2.1 23 = .ok (.iconst 1, 1) := by decide +kernel
theorem dX12_making_24 : decode mX12_making.2.1 24 = .ok (.goto 4, 3) := by decide +kernel
theorem dX12_making_27 : decode mX12_making.2.1 27 = .ok (.iconst 0, 1) := by decide +kernel
theorem dX12_making_28 : decode mX12_making.2.1 28 = .ok (.iadd, 1) := by decide +kernel
theorem dX12_making_29 : decode mX12_making.2.1 29 = .ok (.istore_n 1, 1) := by decide +kernel
theorem dX12_making_30 : decode mX12_making.2.1 30 = .ok (.iinc 2 1, 3) := by decide +kernel
theorem dX12_making_33 : decode mX12_making.2.1 33 = .ok (.goto (-29), 3) := by decide +kernel
theorem dX12_making_36 : decode mX12_making.2.1 36 = .ok (.iload_n 1, 1) := by decide +kernel
theorem dX12_making_37 : decode mX12_making.2.1 37 = .ok (.ireturn, 1) := by decide +kernel
theorem bX12_making_0 {SC : Nat → Nat} {X : mh_X} {d : Nat} {Q : Option am_V → am_W → Prop} {bc bs : Nat} {w : am_W} 
    (h : am_A (mh_G X) SC (d + 1) mX12_making Q 4 [(0, .inr (.inr (some (9, 0)))), (1, .inl 0), (2, .inl 0)] [] w bc bs) :
    am_A (mh_G X) SC (d + 1) mX12_making Q 0 [(0, .inr (.inr (some (9, 0))))] [] w bc bs := by
  refine am_iconst dX12_making_0 (by unfold am_rg; omega) ?_
  refine am_istore_n (ls' := [(1, .inl 0), (0, .inr (.inr (some (9, 0))))]) dX12_making_1 (by decide) rfl ?_
  refine am_iconst dX12_making_2 (by unfold am_rg; omega) ?_
  refine am_istore_n (ls' := [(2, .inl 0), (1, .inl 0), (0, .inr (.inr (some (9, 0))))]) dX12_making_3 (by decide) rfl ?_
  exact am_sub [2, 1, 0] rfl h
theorem bX12_making_4 {SC : Nat → Nat} {X : mh_X} {d : Nat} {Q : Option am_V → am_W → Prop} {bc bs : Nat} {w : am_W} {x1 : Int} {x2 : Int}
    (h : (((w.1 9 0 81) ≤ x2 → Q (some (.inl x1)) w) ∧ (¬ (w.1 9 0 81) ≤ x2 → (0 ≤ x2 ∧ (x2 < 20 ∧ ((¬ (w.1 129 0 x2.toNat) = (-1) → am_A (mh_G X) SC (d + 1) mX12_making Q 28 [(0, .inr (.inr (some (9, 0)))), (2, .inl x2)] [.inl 0, .inl x1] w bc bs) ∧ ((w.1 129 0 x2.toNat) = (-1) → am_A (mh_G X) SC (d + 1) mX12_making Q 28 [(0, .inr (.inr (some (9, 0)))), (2, .inl x2)] [.inl 1, .inl x1] w bc bs))))))) :
    am_A (mh_G X) SC (d + 1) mX12_making Q 4 [(0, .inr (.inr (some (9, 0)))), (1, .inl x1), (2, .inl x2)] [] w bc bs := by
  refine am_iload_n dX12_making_4 (List.Mem.tail _ (List.Mem.tail _ (List.Mem.head _))) ?_
  refine am_aload_n dX12_making_5 (List.Mem.head _) ?_
  refine am_getf (f := 81) (v := .inl (w.1 9 0 81)) dX12_making_6 hc_10 (by decide) wd_1630 (by decide) rfl rfl ?_
  refine am_icmpge (tgt := 36) dX12_making_9 (by decide) (fun c1 => ?_) (fun c1 => ?_)
  · replace h := h.1 c1
    refine am_iload_n dX12_making_36 (List.Mem.tail _ (List.Mem.head _)) ?_
    exact am_ret (r := some (.inl x1)) dX12_making_37 (Or.inl rfl) rfl h
  · replace h := h.2 c1
    refine am_iload_n dX12_making_12 (List.Mem.tail _ (List.Mem.head _)) ?_
    refine am_aload_n dX12_making_13 (List.Mem.head _) ?_
    refine am_getf (f := 77) (v := .inr (.inr (some (129, 0)))) dX12_making_14 hc_10 (by decide) wd_1626 (by decide) rfl rfl ?_
    refine am_iload_n dX12_making_17 (List.Mem.tail _ (List.Mem.tail _ (List.Mem.head _))) ?_
    have o2 := h.1
    replace h := h.2
    have o3 := h.1
    replace h := h.2
    refine am_iaload (v := (w.1 129 0 x2.toNat)) dX12_making_18 (by decide) rfl o2 o3 rfl ?_
    refine am_iconst dX12_making_19 (by unfold am_rg; omega) ?_
    refine am_icmpne (tgt := 27) dX12_making_20 (by decide) (fun c4 => ?_) (fun c4 => ?_)
    · replace h := h.1 c4
      refine am_iconst dX12_making_27 (by unfold am_rg; omega) ?_
      exact am_sub [0, 2] rfl h
    · replace h := h.2 c4
      refine am_iconst dX12_making_23 (by unfold am_rg; omega) ?_
      refine am_goto (tgt := 28) dX12_making_24 (by decide) ?_
      exact am_sub [0, 2] rfl h
theorem bX12_making_28 {SC : Nat → Nat} {X : mh_X} {d : Nat} {Q : Option am_V → am_W → Prop} {bc bs : Nat} {w : am_W} {x2 : Int} {xs0 : Int} {xs1 : Int}
    (h : am_A (mh_G X) SC (d + 1) mX12_making Q 4 [(0, .inr (.inr (some (9, 0)))), (1, .inl (am_w (xs1 + xs0))), (2, .inl (am_w (x2 + 1)))] [] w bc bs) :
    am_A (mh_G X) SC (d + 1) mX12_making Q 28 [(0, .inr (.inr (some (9, 0)))), (2, .inl x2)] [.inl xs0, .inl xs1] w bc bs := by
  refine am_iadd dX12_making_28 ?_
  refine am_istore_n (ls' := [(1, .inl (am_w (xs1 + xs0))), (0, .inr (.inr (some (9, 0)))), (2, .inl x2)]) dX12_making_29 (by decide) rfl ?_
  refine am_iinc (ls' := [(2, .inl (am_w (x2 + 1))), (1, .inl (am_w (xs1 + xs0))), (0, .inr (.inr (some (9, 0))))]) dX12_making_30 (List.Mem.tail _ (List.Mem.tail _ (List.Mem.head _))) (by decide) rfl ?_
  refine am_goto (tgt := 4) dX12_making_33 (by decide) ?_
  exact am_sub [2, 1, 0] rfl h
-- MourningHouseModel.isStuff(I)Z
theorem dX12_isStuff_0 : decode mX12_isStuff.2.1 0 = .ok (.iload_n 0, 1) := by decide +kernel
theorem dX12_isStuff_1 : decode mX12_isStuff.2.1 1 = .ok (.iconst 0, 1) := by decide +kernel
theorem dX12_isStuff_2 : decode mX12_isStuff.2.1 2 = .ok (.iconst 4, 1) := by decide +kernel
theorem dX12_isStuff_3 : decode mX12_isStuff.2.1 3 = .ok (.invokestatic 318, 3) := by decide +kernel
theorem dX12_isStuff_6 : decode mX12_isStuff.2.1 6 = .ok (.ireturn, 1) := by decide +kernel
theorem bX12_isStuff_0 {SC : Nat → Nat} {X : mh_X} {d : Nat} {Q : Option am_V → am_W → Prop} {bc bs : Nat} {w : am_W} {x0 : Int}
    (h : am_M (mh_G X) SC d 0 0 mX12_in [.inl x0, .inl 0, .inl 4] w (fun r w1 => am_A (mh_G X) SC (d + 1) mX12_isStuff Q 6 [(0, .inl x0)] (r.toList ++ []) w1 bc bs)) :
    am_A (mh_G X) SC (d + 1) mX12_isStuff Q 0 [(0, .inl x0)] [] w bc bs := by
  refine am_iload_n dX12_isStuff_0 (List.Mem.head _) ?_
  refine am_iconst dX12_isStuff_1 (by unfold am_rg; omega) ?_
  refine am_iconst dX12_isStuff_2 (by unfold am_rg; omega) ?_
  exact am_calls (d' := d) (kc := 0) (ks := 0) (as := [.inl x0, .inl 0, .inl 4]) dX12_isStuff_3 wc_X12_in wd_1859 wd_1860 wd_122 ds_X12_in (by decide) (Nat.le_refl _) (Nat.le_of_ble_eq_true rfl) (Nat.zero_le _) (Nat.zero_le _) rfl h
theorem bX12_isStuff_6 {SC : Nat → Nat} {X : mh_X} {d : Nat} {Q : Option am_V → am_W → Prop} {bc bs : Nat} {w : am_W} {x0 : Int} {xs0 : Int}
    (h : ((xs0 = 0 ∨ xs0 = 1) ∧ Q (some (.inl xs0)) w)) :
    am_A (mh_G X) SC (d + 1) mX12_isStuff Q 6 [(0, .inl x0)] [.inl xs0] w bc bs := by
  have o1 := h.1
  replace h := h.2
  exact am_ret (r := some (.inl xs0)) dX12_isStuff_6 (Or.inr (Or.inl ⟨rfl, o1⟩)) rfl h
-- MourningHouseModel.dress(II)I
theorem dX12_dress_0 : decode mX12_dress.2.1 0 = .ok (.iload_n 1, 1) := by decide +kernel
theorem dX12_dress_1 : decode mX12_dress.2.1 1 = .ok (.iconst 0, 1) := by decide +kernel
theorem dX12_dress_2 : decode mX12_dress.2.1 2 = .ok (.iconst 4, 1) := by decide +kernel
theorem dX12_dress_3 : decode mX12_dress.2.1 3 = .ok (.invokestatic 318, 3) := by decide +kernel
theorem dX12_dress_6 : decode mX12_dress.2.1 6 = .ok (.ifCond .eq 24, 3) := by decide +kernel
theorem dX12_dress_9 : decode mX12_dress.2.1 9 = .ok (.iload_n 2, 1) := by decide +kernel
theorem dX12_dress_10 : decode mX12_dress.2.1 10 = .ok (.invokestatic 579, 3) := by decide +kernel
theorem dX12_dress_13 : decode mX12_dress.2.1 13 = .ok (.ifCond .eq 17, 3) := by decide +kernel
theorem dX12_dress_16 : decode mX12_dress.2.1 16 = .ok (.aload_n 0, 1) := by decide +kernel
theorem dX12_dress_17 : decode mX12_dress.2.1 17 = .ok (.getfield 582, 3) := by decide +kernel
theorem dX12_dress_20 : decode mX12_dress.2.1 20 = .ok (.aload_n 0, 1) := by decide +kernel
theorem dX12_dress_21 : decode mX12_dress.2.1 21 = .ok (.invokevirtual 585, 3) := by decide +kernel
theorem dX12_dress_24 : decode mX12_dress.2.1 24 = .ok (.iadd, 1) := by decide +kernel
theorem dX12_dress_25 : decode mX12_dress.2.1 25 = .ok (.bipush 40, 2) := by decide +kernel
theorem dX12_dress_27 : decode mX12_dress.2.1 27 = .ok (.if_icmp .lt 5, 3) := by decide +kernel
theorem dX12_dress_30 : decode mX12_dress.2.1 30 = .ok (.iconst (-1), 1) := by decide +kernel
theorem dX12_dress_31 : decode mX12_dress.2.1 31 = .ok (.ireturn, 1) := by decide +kernel
theorem dX12_dress_32 : decode mX12_dress.2.1 32 = .ok (.aload_n 0, 1) := by decide +kernel
theorem dX12_dress_33 : decode mX12_dress.2.1 33 = .ok (.getfield 237, 3) := by decide +kernel
theorem dX12_dress_36 : decode mX12_dress.2.1 36 = .ok (.aload_n 0, 1) := by decide +kernel
theorem dX12_dress_37 : decode mX12_dress.2.1 37 = .ok (.getfield 582, 3) := by decide +kernel
theorem dX12_dress_40 : decode mX12_dress.2.1 40 = .ok (.iload_n 1, 1) := by decide +kernel
theorem dX12_dress_41 : decode mX12_dress.2.1 41 = .ok (.iastore, 1) := by decide +kernel
theorem dX12_dress_42 : decode mX12_dress.2.1 42 = .ok (.aload_n 0, 1) := by decide +kernel
theorem dX12_dress_43 : decode mX12_dress.2.1 43 = .ok (.getfield 240, 3) := by decide +kernel
theorem dX12_dress_46 : decode mX12_dress.2.1 46 = .ok (.aload_n 0, 1) := by decide +kernel
theorem dX12_dress_47 : decode mX12_dress.2.1 47 = .ok (.getfield 582, 3) := by decide +kernel
theorem dX12_dress_50 : decode mX12_dress.2.1 50 = .ok (.iload_n 2, 1) := by decide +kernel
theorem dX12_dress_51 : decode mX12_dress.2.1 51 = .ok (.iastore, 1) := by decide +kernel
theorem dX12_dress_52 : decode mX12_dress.2.1 52 = .ok (.aload_n 0, 1) := by decide +kernel
theorem dX12_dress_53 : decode mX12_dress.2.1 53 = .ok (.dup, 1) := by decide +kernel
theorem dX12_dress_54 : decode mX12_dress.2.1 54 = .ok (.getfield 582, 3) := by decide +kernel
theorem dX12_dress_57 : decode mX12_dress.2.1 57 = .ok (.iconst 1, 1) := by decide +kernel
theorem dX12_dress_58 : decode mX12_dress.2.1 58 = .ok (.iadd, 1) := by decide +kernel
theorem dX12_dress_59 : decode mX12_dress.2.1 59 = .ok (.putfield 582, 3) := by decide +kernel
theorem dX12_dress_62 : decode mX12_dress.2.1 62 = .ok (.aload_n 0, 1) := by decide +kernel
theorem dX12_dress_63 : decode mX12_dress.2.1 63 = .ok (.getfield 582, 3) := by decide +kernel
theorem dX12_dress_66 : decode mX12_dress.2.1 66 = .ok (.iconst 1, 1) := by decide +kernel
theorem dX12_dress_67 : decode mX12_dress.2.1 67 = .ok (.isub, 1) := by decide +kernel
theorem dX12_dress_68 : decode mX12_dress.2.1 68 = .ok (.ireturn, 1) := by decide +kernel
theorem bX12_dress_0 {SC : Nat → Nat} {X : mh_X} {d : Nat} {Q : Option am_V → am_W → Prop} {bc bs : Nat} {w : am_W} {x1 : Int} {x2 : Int}
    (h : am_M (mh_G X) SC d 0 0 mX12_in [.inl x1, .inl 0, .inl 4] w (fun r w1 => am_A (mh_G X) SC (d + 1) mX12_dress Q 6 [(0, .inr (.inr (some (9, 0)))), (1, .inl x1), (2, .inl x2)] (r.toList ++ []) w1 bc bs)) :
    am_A (mh_G X) SC (d + 1) mX12_dress Q 0 [(0, .inr (.inr (some (9, 0)))), (1, .inl x1), (2, .inl x2)] [] w bc bs := by
  refine am_iload_n dX12_dress_0 (List.Mem.tail _ (List.Mem.head _)) ?_
  refine am_iconst dX12_dress_1 (by unfold am_rg; omega) ?_
  refine am_iconst dX12_dress_2 (by unfold am_rg; omega) ?_
  exact am_calls (d' := d) (kc := 0) (ks := 0) (as := [.inl x1, .inl 0, .inl 4]) dX12_dress_3 wc_X12_in wd_1859 wd_1860 wd_122 ds_X12_in (by decide) (Nat.le_refl _) (Nat.le_of_ble_eq_true rfl) (Nat.zero_le _) (Nat.zero_le _) rfl h
theorem bX12_dress_6 {SC : Nat → Nat} {X : mh_X} {d : Nat} {Q : Option am_V → am_W → Prop} {bc bs : Nat} {w : am_W} {x1 : Int} {x2 : Int} {xs0 : Int}
    (h : ((xs0 = 0 → Q (some (.inl (-1))) w) ∧ (¬ xs0 = 0 → am_M (mh_G X) SC d 0 0 mX12_isStuff [.inl x2] w (fun r w1 => am_A (mh_G X) SC (d + 1) mX12_dress Q 13 [(0, .inr (.inr (some (9, 0)))), (1, .inl x1), (2, .inl x2)] (r.toList ++ []) w1 bc bs)))) :
    am_A (mh_G X) SC (d + 1) mX12_dress Q 6 [(0, .inr (.inr (some (9, 0)))), (1, .inl x1), (2, .inl x2)] [.inl xs0] w bc bs := by
  refine am_ifeq (tgt := 30) dX12_dress_6 (by decide) (fun c1 => ?_) (fun c1 => ?_)
  · replace h := h.1 c1
    refine am_iconst dX12_dress_30 (by unfold am_rg; omega) ?_
    exact am_ret (r := some (.inl (-1))) dX12_dress_31 (Or.inl rfl) rfl h
  · replace h := h.2 c1
    refine am_iload_n dX12_dress_9 (List.Mem.tail _ (List.Mem.tail _ (List.Mem.head _))) ?_
    exact am_calls (d' := d) (kc := 0) (ks := 0) (as := [.inl x2]) dX12_dress_10 wc_X12_isStuff wd_2183 wd_2184 wd_122 ds_X12_isStuff (by decide) (Nat.le_refl _) (Nat.le_of_ble_eq_true rfl) (Nat.zero_le _) (Nat.zero_le _) rfl h
theorem bX12_dress_13 {SC : Nat → Nat} {X : mh_X} {d : Nat} {Q : Option am_V → am_W → Prop} {bc bs : Nat} {w : am_W} {x1 : Int} {x2 : Int} {xs0 : Int}
    (h : ((xs0 = 0 → Q (some (.inl (-1))) w) ∧ (¬ xs0 = 0 → am_M (mh_G X) SC d 0 0 mX12_making [.inr (.inr (some (9, 0)))] w (fun r w1 => am_A (mh_G X) SC (d + 1) mX12_dress Q 24 [(0, .inr (.inr (some (9, 0)))), (1, .inl x1), (2, .inl x2)] (r.toList ++ [.inl (w.1 9 0 75)]) w1 bc bs)))) :
    am_A (mh_G X) SC (d + 1) mX12_dress Q 13 [(0, .inr (.inr (some (9, 0)))), (1, .inl x1), (2, .inl x2)] [.inl xs0] w bc bs := by
  refine am_ifeq (tgt := 30) dX12_dress_13 (by decide) (fun c1 => ?_) (fun c1 => ?_)
  · replace h := h.1 c1
    refine am_iconst dX12_dress_30 (by unfold am_rg; omega) ?_
    exact am_ret (r := some (.inl (-1))) dX12_dress_31 (Or.inl rfl) rfl h
  · replace h := h.2 c1
    refine am_aload_n dX12_dress_16 (List.Mem.head _) ?_
    refine am_getf (f := 75) (v := .inl (w.1 9 0 75)) dX12_dress_17 hc_10 (by decide) wd_1624 (by decide) rfl rfl ?_
    refine am_aload_n dX12_dress_20 (List.Mem.head _) ?_
    exact am_callv (d' := d) (kc := 0) (ks := 0) (as := []) dX12_dress_21 wc_X12_making wd_2186 wd_2188 wd_97 wd_122 ds_X12_making (by decide) (Nat.le_refl _) (Nat.le_of_ble_eq_true rfl) (Nat.zero_le _) (Nat.zero_le _) hc_10 (by decide) rfl rfl h
theorem bX12_dress_24 {SC : Nat → Nat} {X : mh_X} {d : Nat} {Q : Option am_V → am_W → Prop} {bc bs : Nat} {w : am_W} {x1 : Int} {x2 : Int} {xs0 : Int} {xs1 : Int}
    (h : (((am_w (xs1 + xs0)) < 40 → (0 ≤ (w.1 9 0 75) ∧ ((w.1 9 0 75) < 40 ∧ Q (some (.inl (am_w (((am_up w.1 9 0 75 (am_w ((w.1 9 0 75) + 1))) 9 0 75) - 1)))) ((am_up (am_up (am_up w.1 126 0 (w.1 9 0 75).toNat x1) 127 0 (w.1 9 0 75).toNat x2) 9 0 75 (am_w ((w.1 9 0 75) + 1))), w.2)))) ∧ (¬ (am_w (xs1 + xs0)) < 40 → Q (some (.inl (-1))) w))) :
    am_A (mh_G X) SC (d + 1) mX12_dress Q 24 [(0, .inr (.inr (some (9, 0)))), (1, .inl x1), (2, .inl x2)] [.inl xs0, .inl xs1] w bc bs := by
  refine am_iadd dX12_dress_24 ?_
  refine am_bipush dX12_dress_25 (by decide) (by unfold am_rg; omega) ?_
  refine am_icmplt (tgt := 32) dX12_dress_27 (by decide) (fun c1 => ?_) (fun c1 => ?_)
  · replace h := h.1 c1
    refine am_aload_n dX12_dress_32 (List.Mem.head _) ?_
    refine am_getf (f := 72) (v := .inr (.inr (some (126, 0)))) dX12_dress_33 hc_10 (by decide) wd_1621 (by decide) rfl rfl ?_
    refine am_aload_n dX12_dress_36 (List.Mem.head _) ?_
    refine am_getf (f := 75) (v := .inl (w.1 9 0 75)) dX12_dress_37 hc_10 (by decide) wd_1624 (by decide) rfl rfl ?_
    refine am_iload_n dX12_dress_40 (List.Mem.tail _ (List.Mem.head _)) ?_
    have o2 := h.1
    replace h := h.2
    have o3 := h.1
    replace h := h.2
    refine am_iastore dX12_dress_41 (Or.inl (by decide)) rfl o2 o3 ?_
    refine am_aload_n dX12_dress_42 (List.Mem.head _) ?_
    refine am_getf (f := 73) (v := .inr (.inr (some (127, 0)))) dX12_dress_43 hc_10 (by decide) wd_1622 (by decide) rfl rfl ?_
    refine am_aload_n dX12_dress_46 (List.Mem.head _) ?_
    refine am_getf (f := 75) (v := .inl (w.1 9 0 75)) dX12_dress_47 hc_10 (by decide) wd_1624 (by decide) rfl rfl ?_
    refine am_iload_n dX12_dress_50 (List.Mem.tail _ (List.Mem.tail _ (List.Mem.head _))) ?_
    refine am_iastore dX12_dress_51 (Or.inl (by decide)) rfl o2 o3 ?_
    refine am_aload_n dX12_dress_52 (List.Mem.head _) ?_
    refine am_dup dX12_dress_53 rfl ?_
    refine am_getf (f := 75) (v := .inl (w.1 9 0 75)) dX12_dress_54 hc_10 (by decide) wd_1624 (by decide) rfl rfl ?_
    refine am_iconst dX12_dress_57 (by unfold am_rg; omega) ?_
    refine am_iadd dX12_dress_58 ?_
    refine am_putf (f := 75) dX12_dress_59 hc_10 (by decide) wd_1624 rfl (Or.inl rfl) (Or.inl (by decide)) rfl ?_
    refine am_aload_n dX12_dress_62 (List.Mem.head _) ?_
    refine am_getf (f := 75) (v := .inl ((am_up w.1 9 0 75 (am_w ((w.1 9 0 75) + 1))) 9 0 75)) dX12_dress_63 hc_10 (by decide) wd_1624 (by decide) rfl rfl ?_
    refine am_iconst dX12_dress_66 (by unfold am_rg; omega) ?_
    refine am_isub dX12_dress_67 ?_
    exact am_ret (r := some (.inl (am_w (((am_up w.1 9 0 75 (am_w ((w.1 9 0 75) + 1))) 9 0 75) - 1)))) dX12_dress_68 (Or.inl rfl) rfl h
  · replace h := h.2 c1
    refine am_iconst dX12_dress_30 (by unfold am_rg; omega) ?_
    exact am_ret (r := some (.inl (-1))) dX12_dress_31 (Or.inl rfl) rfl h
-- MourningHouseModel.cloth(II)I
theorem dX12_cloth_0 : decode mX12_cloth.2.1 0 = .ok (.iload_n 1, 1) := by decide +kernel
theorem dX12_cloth_1 : decode mX12_cloth.2.1 1 = .ok (.invokestatic 579, 3) := by decide +kernel
theorem dX12_cloth_4 : decode mX12_cloth.2.1 4 = .ok (.ifCond .eq 27, 3) := by decide +kernel
theorem dX12_cloth_7 : decode mX12_cloth.2.1 7 = .ok (.iload_n 2, 1) := by decide +kernel
theorem dX12_cloth_8 : decode mX12_cloth.2.1 8 = .ok (.iconst 1, 1) := by decide +kernel
theorem dX12_cloth_9 : decode mX12_cloth.2.1 9 = .ok (.bipush 99, 2) := by decide +kernel
theorem dX12_cloth_11 : decode mX12_cloth.2.1 11 = .ok (.invokestatic 318, 3) := by decide +kernel
theorem dX12_cloth_14 : decode mX12_cloth.2.1 14 = .ok (.ifCond .eq 17, 3) := by decide +kernel
theorem dX12_cloth_17 : decode mX12_cloth.2.1 17 = .ok (.aload_n 0, 1) := by decide +kernel
theorem dX12_cloth_18 : decode mX12_cloth.2.1 18 = .ok (.getfield 243, 3) := by decide +kernel
theorem dX12_cloth_21 : decode mX12_cloth.2.1 21 = .ok (.iload_n 1, 1) := by decide +kernel
theorem dX12_cloth_22 : decode mX12_cloth.2.1 22 = .ok (.iaload, 1) := by decide +kernel
theorem dX12_cloth_23 : decode mX12_cloth.2.1 23 = .ok (.iload_n 2, 1) := by decide +kernel
theorem dX12_cloth_24 : decode mX12_cloth.2.1 24 = .ok (.iadd, 1) := by decide +kernel
theorem dX12_cloth_25 : decode mX12_cloth.2.1 25 = .ok (.sipush 999, 3) := by decide +kernel
theorem dX12_cloth_28 : decode mX12_cloth.2.1 28 = .ok (.if_icmp .le 5, 3) := by decide +kernel
theorem dX12_cloth_31 : decode mX12_cloth.2.1 31 = .ok (.iconst (-1), 1) := by decide +kernel
theorem dX12_cloth_32 : decode mX12_cloth.2.1 32 = .ok (.ireturn, 1) := by decide +kernel
theorem dX12_cloth_33 : decode mX12_cloth.2.1 33 = .ok (.aload_n 0, 1) := by decide +kernel
theorem dX12_cloth_34 : decode mX12_cloth.2.1 34 = .ok (.getfield 243, 3) := by decide +kernel
theorem dX12_cloth_37 : decode mX12_cloth.2.1 37 = .ok (.iload_n 1, 1) := by decide +kernel
theorem dX12_cloth_38 : decode mX12_cloth.2.1 38 = .ok (.dup2, 1) := by decide +kernel
theorem dX12_cloth_39 : decode mX12_cloth.2.1 39 = .ok (.iaload, 1) := by decide +kernel
theorem dX12_cloth_40 : decode mX12_cloth.2.1 40 = .ok (.iload_n 2, 1) := by decide +kernel
theorem dX12_cloth_41 : decode mX12_cloth.2.1 41 = .ok (.iadd, 1) := by decide +kernel
theorem dX12_cloth_42 : decode mX12_cloth.2.1 42 = .ok (.iastore, 1) := by decide +kernel
theorem dX12_cloth_43 : decode mX12_cloth.2.1 43 = .ok (.aload_n 0, 1) := by decide +kernel
theorem dX12_cloth_44 : decode mX12_cloth.2.1 44 = .ok (.getfield 243, 3) := by decide +kernel
theorem dX12_cloth_47 : decode mX12_cloth.2.1 47 = .ok (.iload_n 1, 1) := by decide +kernel
theorem dX12_cloth_48 : decode mX12_cloth.2.1 48 = .ok (.iaload, 1) := by decide +kernel
theorem dX12_cloth_49 : decode mX12_cloth.2.1 49 = .ok (.ireturn, 1) := by decide +kernel
theorem bX12_cloth_0 {SC : Nat → Nat} {X : mh_X} {d : Nat} {Q : Option am_V → am_W → Prop} {bc bs : Nat} {w : am_W} {x1 : Int} {x2 : Int}
    (h : am_M (mh_G X) SC d 0 0 mX12_isStuff [.inl x1] w (fun r w1 => am_A (mh_G X) SC (d + 1) mX12_cloth Q 4 [(0, .inr (.inr (some (9, 0)))), (1, .inl x1), (2, .inl x2)] (r.toList ++ []) w1 bc bs)) :
    am_A (mh_G X) SC (d + 1) mX12_cloth Q 0 [(0, .inr (.inr (some (9, 0)))), (1, .inl x1), (2, .inl x2)] [] w bc bs := by
  refine am_iload_n dX12_cloth_0 (List.Mem.tail _ (List.Mem.head _)) ?_
  exact am_calls (d' := d) (kc := 0) (ks := 0) (as := [.inl x1]) dX12_cloth_1 wc_X12_isStuff wd_2183 wd_2184 wd_122 ds_X12_isStuff (by decide) (Nat.le_refl _) (Nat.le_of_ble_eq_true rfl) (Nat.zero_le _) (Nat.zero_le _) rfl h
theorem bX12_cloth_4 {SC : Nat → Nat} {X : mh_X} {d : Nat} {Q : Option am_V → am_W → Prop} {bc bs : Nat} {w : am_W} {x1 : Int} {x2 : Int} {xs0 : Int}
    (h : ((xs0 = 0 → Q (some (.inl (-1))) w) ∧ (¬ xs0 = 0 → am_M (mh_G X) SC d 0 0 mX12_in [.inl x2, .inl 1, .inl 99] w (fun r w1 => am_A (mh_G X) SC (d + 1) mX12_cloth Q 14 [(0, .inr (.inr (some (9, 0)))), (1, .inl x1), (2, .inl x2)] (r.toList ++ []) w1 bc bs)))) :
    am_A (mh_G X) SC (d + 1) mX12_cloth Q 4 [(0, .inr (.inr (some (9, 0)))), (1, .inl x1), (2, .inl x2)] [.inl xs0] w bc bs := by
  refine am_ifeq (tgt := 31) dX12_cloth_4 (by decide) (fun c1 => ?_) (fun c1 => ?_)
  · replace h := h.1 c1
    refine am_iconst dX12_cloth_31 (by unfold am_rg; omega) ?_
    exact am_ret (r := some (.inl (-1))) dX12_cloth_32 (Or.inl rfl) rfl h
  · replace h := h.2 c1
    refine am_iload_n dX12_cloth_7 (List.Mem.tail _ (List.Mem.tail _ (List.Mem.head _))) ?_
    refine am_iconst dX12_cloth_8 (by unfold am_rg; omega) ?_
    refine am_bipush dX12_cloth_9 (by decide) (by unfold am_rg; omega) ?_
    exact am_calls (d' := d) (kc := 0) (ks := 0) (as := [.inl x2, .inl 1, .inl 99]) dX12_cloth_11 wc_X12_in wd_1859 wd_1860 wd_122 ds_X12_in (by decide) (Nat.le_refl _) (Nat.le_of_ble_eq_true rfl) (Nat.zero_le _) (Nat.zero_le _) rfl h
theorem bX12_cloth_14 {SC : Nat → Nat} {X : mh_X} {d : Nat} {Q : Option am_V → am_W → Prop} {bc bs : Nat} {w : am_W} {x1 : Int} {x2 : Int} {xs0 : Int}
    (h : ((xs0 = 0 → Q (some (.inl (-1))) w) ∧ (¬ xs0 = 0 → (0 ≤ x1 ∧ (x1 < 5 ∧ (((am_w ((w.1 128 0 x1.toNat) + x2)) ≤ 999 → Q (some (.inl ((am_up w.1 128 0 x1.toNat (am_w ((w.1 128 0 x1.toNat) + x2))) 128 0 x1.toNat))) ((am_up w.1 128 0 x1.toNat (am_w ((w.1 128 0 x1.toNat) + x2))), w.2)) ∧ (¬ (am_w ((w.1 128 0 x1.toNat) + x2)) ≤ 999 → Q (some (.inl (-1))) w))))))) :
    am_A (mh_G X) SC (d + 1) mX12_cloth Q 14 [(0, .inr (.inr (some (9, 0)))), (1, .inl x1), (2, .inl x2)] [.inl xs0] w bc bs := by
  refine am_ifeq (tgt := 31) dX12_cloth_14 (by decide) (fun c1 => ?_) (fun c1 => ?_)
  · replace h := h.1 c1
    refine am_iconst dX12_cloth_31 (by unfold am_rg; omega) ?_
    exact am_ret (r := some (.inl (-1))) dX12_cloth_32 (Or.inl rfl) rfl h
  · replace h := h.2 c1
    refine am_aload_n dX12_cloth_17 (List.Mem.head _) ?_
    refine am_getf (f := 74) (v := .inr (.inr (some (128, 0)))) dX12_cloth_18 hc_10 (by decide) wd_1623 (by decide) rfl rfl ?_
    refine am_iload_n dX12_cloth_21 (List.Mem.tail _ (List.Mem.head _)) ?_
    have o2 := h.1
    replace h := h.2
    have o3 := h.1
    replace h := h.2
    refine am_iaload (v := (w.1 128 0 x1.toNat)) dX12_cloth_22 (by decide) rfl o2 o3 rfl ?_
    refine am_iload_n dX12_cloth_23 (List.Mem.tail _ (List.Mem.tail _ (List.Mem.head _))) ?_
    refine am_iadd dX12_cloth_24 ?_
    refine am_sipush dX12_cloth_25 (by decide) (by unfold am_rg; omega) ?_
    refine am_icmple (tgt := 33) dX12_cloth_28 (by decide) (fun c4 => ?_) (fun c4 => ?_)
    · replace h := h.1 c4
      refine am_aload_n dX12_cloth_33 (List.Mem.head _) ?_
      refine am_getf (f := 74) (v := .inr (.inr (some (128, 0)))) dX12_cloth_34 hc_10 (by decide) wd_1623 (by decide) rfl rfl ?_
      refine am_iload_n dX12_cloth_37 (List.Mem.tail _ (List.Mem.head _)) ?_
      refine am_dup2 dX12_cloth_38 rfl rfl ?_
      refine am_iaload (v := (w.1 128 0 x1.toNat)) dX12_cloth_39 (by decide) rfl o2 o3 rfl ?_
      refine am_iload_n dX12_cloth_40 (List.Mem.tail _ (List.Mem.tail _ (List.Mem.head _))) ?_
      refine am_iadd dX12_cloth_41 ?_
      refine am_iastore dX12_cloth_42 (Or.inl (by decide)) rfl o2 o3 ?_
      refine am_aload_n dX12_cloth_43 (List.Mem.head _) ?_
      refine am_getf (f := 74) (v := .inr (.inr (some (128, 0)))) dX12_cloth_44 hc_10 (by decide) wd_1623 (by decide) rfl rfl ?_
      refine am_iload_n dX12_cloth_47 (List.Mem.tail _ (List.Mem.head _)) ?_
      refine am_iaload (v := ((am_up w.1 128 0 x1.toNat (am_w ((w.1 128 0 x1.toNat) + x2))) 128 0 x1.toNat)) dX12_cloth_48 (by decide) rfl o2 o3 rfl ?_
      exact am_ret (r := some (.inl ((am_up w.1 128 0 x1.toNat (am_w ((w.1 128 0 x1.toNat) + x2))) 128 0 x1.toNat))) dX12_cloth_49 (Or.inl rfl) rfl h
    · replace h := h.2 c4
      refine am_iconst dX12_cloth_31 (by unfold am_rg; omega) ?_
      exact am_ret (r := some (.inl (-1))) dX12_cloth_32 (Or.inl rfl) rfl h
-- MourningHouseModel.hands(I)Z
theorem dX12_hands_0 : decode mX12_hands.2.1 0 = .ok (.iload_n 1, 1) := by decide +kernel
theorem dX12_hands_1 : decode mX12_hands.2.1 1 = .ok (.iconst 0, 1) := by decide +kernel
theorem dX12_hands_2 : decode mX12_hands.2.1 2 = .ok (.iconst 4, 1) := by decide +kernel
theorem dX12_hands_3 : decode mX12_hands.2.1 3 = .ok (.invokestatic 318, 3) := by decide +kernel
theorem dX12_hands_6 : decode mX12_hands.2.1 6 = .ok (.ifCond .ne 5, 3) := by decide +kernel
theorem dX12_hands_9 : decode mX12_hands.2.1 9 = .ok (.iconst 0, 1) := by decide +kernel
theorem dX12_hands_10 : decode mX12_hands.2.1 10 = .ok (.ireturn, 1) := by decide +kernel
theorem dX12_hands_11 : decode mX12_hands.2.1 11 = .ok (.aload_n 0, 1) := by decide +kernel
theorem dX12_hands_12 : decode mX12_hands.2.1 12 = .ok (.iload_n 1, 1) := by decide +kernel
theorem dX12_hands_13 : decode mX12_hands.2.1 13 = .ok (.putfield 588, 3) := by decide +kernel
theorem dX12_hands_16 : decode mX12_hands.2.1 16 = .ok (.iconst 1, 1) := by decide +kernel
theorem dX12_hands_17 : decode mX12_hands.2.1 17 = .ok (.ireturn, 1) := by decide +kernel
theorem bX12_hands_0 {SC : Nat → Nat} {X : mh_X} {d : Nat} {Q : Option am_V → am_W → Prop} {bc bs : Nat} {w : am_W} {x1 : Int}
    (h : am_M (mh_G X) SC d 0 0 mX12_in [.inl x1, .inl 0, .inl 4] w (fun r w1 => am_A (mh_G X) SC (d + 1) mX12_hands Q 6 [(0, .inr (.inr (some (9, 0)))), (1, .inl x1)] (r.toList ++ []) w1 bc bs)) :
    am_A (mh_G X) SC (d + 1) mX12_hands Q 0 [(0, .inr (.inr (some (9, 0)))), (1, .inl x1)] [] w bc bs := by
  refine am_iload_n dX12_hands_0 (List.Mem.tail _ (List.Mem.head _)) ?_
  refine am_iconst dX12_hands_1 (by unfold am_rg; omega) ?_
  refine am_iconst dX12_hands_2 (by unfold am_rg; omega) ?_
  exact am_calls (d' := d) (kc := 0) (ks := 0) (as := [.inl x1, .inl 0, .inl 4]) dX12_hands_3 wc_X12_in wd_1859 wd_1860 wd_122 ds_X12_in (by decide) (Nat.le_refl _) (Nat.le_of_ble_eq_true rfl) (Nat.zero_le _) (Nat.zero_le _) rfl h
theorem bX12_hands_6 {SC : Nat → Nat} {X : mh_X} {d : Nat} {Q : Option am_V → am_W → Prop} {bc bs : Nat} {w : am_W} {x1 : Int} {xs0 : Int}
    (h : ((¬ xs0 = 0 → Q (some (.inl 1)) ((am_up w.1 9 0 76 x1), w.2)) ∧ (xs0 = 0 → Q (some (.inl 0)) w))) :
    am_A (mh_G X) SC (d + 1) mX12_hands Q 6 [(0, .inr (.inr (some (9, 0)))), (1, .inl x1)] [.inl xs0] w bc bs := by
  refine am_ifne (tgt := 11) dX12_hands_6 (by decide) (fun c1 => ?_) (fun c1 => ?_)
  · replace h := h.1 c1
    refine am_aload_n dX12_hands_11 (List.Mem.head _) ?_
    refine am_iload_n dX12_hands_12 (List.Mem.tail _ (List.Mem.head _)) ?_
    refine am_putf (f := 76) dX12_hands_13 hc_10 (by decide) wd_1625 rfl (Or.inl rfl) (Or.inl (by decide)) rfl ?_
    refine am_iconst dX12_hands_16 (by unfold am_rg; omega) ?_
    exact am_ret (r := some (.inl 1)) dX12_hands_17 (Or.inr (Or.inl ⟨rfl, (Or.inr rfl)⟩)) rfl h
  · replace h := h.2 c1
    refine am_iconst dX12_hands_9 (by unfold am_rg; omega) ?_
    exact am_ret (r := some (.inl 0)) dX12_hands_10 (Or.inr (Or.inl ⟨rfl, (Or.inl rfl)⟩)) rfl h
-- MourningHouseModel.asks(IIII)V
theorem dX12_asks_0 : decode mX12_asks.2.1 0 = .ok (.aload_n 0, 1) := by decide +kernel
theorem dX12_asks_1 : decode mX12_asks.2.1 1 = .ok (.getfield 246, 3) := by decide +kernel
theorem dX12_asks_4 : decode mX12_asks.2.1 4 = .ok (.aload_n 0, 1) := by decide +kernel
theorem dX12_asks_5 : decode mX12_asks.2.1 5 = .ok (.getfield 576, 3) := by decide +kernel
theorem dX12_asks_8 : decode mX12_asks.2.1 8 = .ok (.iload_n 1, 1) := by decide +kernel
theorem dX12_asks_9 : decode mX12_asks.2.1 9 = .ok (.iastore, 1) := by decide +kernel
theorem dX12_asks_10 : decode mX12_asks.2.1 10 = .ok (.aload_n 0, 1) := by decide +kernel
theorem dX12_asks_11 : decode mX12_asks.2.1 11 = .ok (.getfield 249, 3) := by decide +kernel
theorem dX12_asks_14 : decode mX12_asks.2.1 14 = .ok (.aload_n 0, 1) := by decide +kernel
theorem dX12_asks_15 : decode mX12_asks.2.1 15 = .ok (.getfield 576, 3) := by decide +kernel
theorem dX12_asks_18 : decode mX12_asks.2.1 18 = .ok (.iload_n 2, 1) := by decide +kernel
theorem dX12_asks_19 : decode mX12_asks.2.1 19 = .ok (.iastore, 1) := by decide +kernel
theorem dX12_asks_20 : decode mX12_asks.2.1 20 = .ok (.aload_n 0, 1) := by decide +kernel
theorem dX12_asks_21 : decode mX12_asks.2.1 21 = .ok (.getfield 252, 3) := by decide +kernel
theorem dX12_asks_24 : decode mX12_asks.2.1 24 = .ok (.aload_n 0, 1) := by decide +kernel
theorem dX12_asks_25 : decode mX12_asks.2.1 25 = .ok (.getfield 576, 3) := by decide +kernel
theorem dX12_asks_28 : decode mX12_asks.2.1 28 = .ok (.iload_n 3, 1) := by decide +kernel
theorem dX12_asks_29 : decode mX12_asks.2.1 29 = .ok (.iastore, 1) := by decide +kernel
theorem dX12_asks_30 : decode mX12_asks.2.1 30 = .ok (.aload_n 0, 1) := by decide +kernel
theorem dX12_asks_31 : decode mX12_asks.2.1 31 = .ok (.getfield 255, 3) := by decide +kernel
theorem dX12_asks_34 : decode mX12_asks.2.1 34 = .ok (.aload_n 0, 1) := by decide +kernel
theorem dX12_asks_35 : decode mX12_asks.2.1 35 = .ok (.getfield 576, 3) := by decide +kernel
theorem dX12_asks_38 : decode mX12_asks.2.1 38 = .ok (.iload 4, 2) := by decide +kernel
theorem dX12_asks_40 : decode mX12_asks.2.1 40 = .ok (.iastore, 1) := by decide +kernel
theorem dX12_asks_41 : decode mX12_asks.2.1 41 = .ok (.aload_n 0, 1) := by decide +kernel
theorem dX12_asks_42 : decode mX12_asks.2.1 42 = .ok (.dup, 1) := by decide +kernel
theorem dX12_asks_43 : decode mX12_asks.2.1 43 = .ok (.getfield 576, 3) := by decide +kernel
theorem dX12_asks_46 : decode mX12_asks.2.1 46 = .ok (.iconst 1, 1) := by decide +kernel
theorem dX12_asks_47 : decode mX12_asks.2.1 47 = .ok (.iadd, 1) := by decide +kernel
theorem dX12_asks_48 : decode mX12_asks.2.1 48 = .ok (.putfield 576, 3) := by decide +kernel
theorem dX12_asks_51 : decode mX12_asks.2.1 51 = .ok (.return_, 1) := by decide +kernel
theorem bX12_asks_0 {SC : Nat → Nat} {X : mh_X} {d : Nat} {Q : Option am_V → am_W → Prop} {bc bs : Nat} {w : am_W} {x1 : Int} {x2 : Int} {x3 : Int} {x4 : Int}
    (h : (0 ≤ (w.1 9 0 81) ∧ ((w.1 9 0 81) < 20 ∧ Q none ((am_up (am_up (am_up (am_up (am_up w.1 129 0 (w.1 9 0 81).toNat x1) 130 0 (w.1 9 0 81).toNat x2) 131 0 (w.1 9 0 81).toNat x3) 132 0 (w.1 9 0 81).toNat x4) 9 0 81 (am_w ((w.1 9 0 81) + 1))), w.2)))) :
    am_A (mh_G X) SC (d + 1) mX12_asks Q 0 [(0, .inr (.inr (some (9, 0)))), (1, .inl x1), (2, .inl x2), (3, .inl x3), (4, .inl x4)] [] w bc bs := by
  refine am_aload_n dX12_asks_0 (List.Mem.head _) ?_
  refine am_getf (f := 77) (v := .inr (.inr (some (129, 0)))) dX12_asks_1 hc_10 (by decide) wd_1626 (by decide) rfl rfl ?_
  refine am_aload_n dX12_asks_4 (List.Mem.head _) ?_
  refine am_getf (f := 81) (v := .inl (w.1 9 0 81)) dX12_asks_5 hc_10 (by decide) wd_1630 (by decide) rfl rfl ?_
  refine am_iload_n dX12_asks_8 (List.Mem.tail _ (List.Mem.head _)) ?_
  have o1 := h.1
  replace h := h.2
  have o2 := h.1
  replace h := h.2
  refine am_iastore dX12_asks_9 (Or.inl (by decide)) rfl o1 o2 ?_
  refine am_aload_n dX12_asks_10 (List.Mem.head _) ?_
  refine am_getf (f := 78) (v := .inr (.inr (some (130, 0)))) dX12_asks_11 hc_10 (by decide) wd_1627 (by decide) rfl rfl ?_
  refine am_aload_n dX12_asks_14 (List.Mem.head _) ?_
  refine am_getf (f := 81) (v := .inl (w.1 9 0 81)) dX12_asks_15 hc_10 (by decide) wd_1630 (by decide) rfl rfl ?_
  refine am_iload_n dX12_asks_18 (List.Mem.tail _ (List.Mem.tail _ (List.Mem.head _))) ?_
  refine am_iastore dX12_asks_19 (Or.inl (by decide)) rfl o1 o2 ?_
  refine am_aload_n dX12_asks_20 (List.Mem.head _) ?_
  refine am_getf (f := 79) (v := .inr (.inr (some (131, 0)))) dX12_asks_21 hc_10 (by decide) wd_1628 (by decide) rfl rfl ?_
  refine am_aload_n dX12_asks_24 (List.Mem.head _) ?_
  refine am_getf (f := 81) (v := .inl (w.1 9 0 81)) dX12_asks_25 hc_10 (by decide) wd_1630 (by decide) rfl rfl ?_
  refine am_iload_n dX12_asks_28 (List.Mem.tail _ (List.Mem.tail _ (List.Mem.tail _ (List.Mem.head _)))) ?_
  refine am_iastore dX12_asks_29 (Or.inl (by decide)) rfl o1 o2 ?_
  refine am_aload_n dX12_asks_30 (List.Mem.head _) ?_
  refine am_getf (f := 80) (v := .inr (.inr (some (132, 0)))) dX12_asks_31 hc_10 (by decide) wd_1629 (by decide) rfl rfl ?_
  refine am_aload_n dX12_asks_34 (List.Mem.head _) ?_
  refine am_getf (f := 81) (v := .inl (w.1 9 0 81)) dX12_asks_35 hc_10 (by decide) wd_1630 (by decide) rfl rfl ?_
  refine am_iload dX12_asks_38 (List.Mem.tail _ (List.Mem.tail _ (List.Mem.tail _ (List.Mem.tail _ (List.Mem.head _))))) ?_
  refine am_iastore dX12_asks_40 (Or.inl (by decide)) rfl o1 o2 ?_
  refine am_aload_n dX12_asks_41 (List.Mem.head _) ?_
  refine am_dup dX12_asks_42 rfl ?_
  refine am_getf (f := 81) (v := .inl (w.1 9 0 81)) dX12_asks_43 hc_10 (by decide) wd_1630 (by decide) rfl rfl ?_
  refine am_iconst dX12_asks_46 (by unfold am_rg; omega) ?_
  refine am_iadd dX12_asks_47 ?_
  refine am_putf (f := 81) dX12_asks_48 hc_10 (by decide) wd_1630 rfl (Or.inl rfl) (Or.inl (by decide)) rfl ?_
  exact am_ret (r := none) dX12_asks_51 rfl rfl h
-- MourningHouseModel.dye(II)I
theorem dX12_dye_0 : decode mX12_dye.2.1 0 = .ok (.iload_n 1, 1) := by decide +kernel
theorem dX12_dye_1 : decode mX12_dye.2.1 1 = .ok (.iconst 0, 1) := by decide +kernel
theorem dX12_dye_2 : decode mX12_dye.2.1 2 = .ok (.aload_n 0, 1) := by decide +kernel
theorem dX12_dye_3 : decode mX12_dye.2.1 3 = .ok (.getfield 582, 3) := by decide +kernel
theorem dX12_dye_6 : decode mX12_dye.2.1 6 = .ok (.iconst 1, 1) := by decide +kernel
theorem dX12_dye_7 : decode mX12_dye.2.1 7 = .ok (.isub, 1) := by decide +kernel
theorem dX12_dye_8 : decode mX12_dye.2.1 8 = .ok (.invokestatic 318, 3) := by decide +kernel
theorem dX12_dye_11 : decode mX12_dye.2.1 11 = .ok (.ifCond .eq 37, 3) := by decide +kernel
theorem dX12_dye_14 : decode mX12_dye.2.1 14 = .ok (.aload_n 0, 1) := by decide +kernel
theorem dX12_dye_15 : decode mX12_dye.2.1 15 = .ok (.iload_n 1, 1) := by decide +kernel
theorem dX12_dye_16 : decode mX12_dye.2.1 16 = .ok (.invokevirtual 591, 3) := by decide +kernel
theorem dX12_dye_19 : decode mX12_dye.2.1 19 = .ok (.ifCond .ne 29, 3) := by decide +kernel
theorem dX12_dye_22 : decode mX12_dye.2.1 22 = .ok (.iload_n 2, 1) := by decide +kernel
theorem dX12_dye_23 : decode mX12_dye.2.1 23 = .ok (.invokestatic 579, 3) := by decide +kernel
theorem dX12_dye_26 : decode mX12_dye.2.1 26 = .ok (.ifCond .eq 22, 3) := by decide +kernel
theorem dX12_dye_29 : decode mX12_dye.2.1 29 = .ok (.iload_n 2, 1) := by decide +kernel
theorem dX12_dye_30 : decode mX12_dye.2.1 30 = .ok (.aload_n 0, 1) := by decide +kernel
theorem dX12_dye_31 : decode mX12_dye.2.1 31 = .ok (.getfield 240, 3) := by decide +kernel
theorem dX12_dye_34 : decode mX12_dye.2.1 34 = .ok (.iload_n 1, 1) := by decide +kernel
theorem dX12_dye_35 : decode mX12_dye.2.1 35 = .ok (.iaload, 1) := by decide +kernel
theorem dX12_dye_36 : decode mX12_dye.2.1 36 = .ok (.if_icmp .le 12, 3) := by decide +kernel
theorem dX12_dye_39 : decode mX12_dye.2.1 39 = .ok (.aload_n 0, 1) := by decide +kernel
theorem dX12_dye_40 : decode mX12_dye.2.1 40 = .ok (.getfield 576, 3) := by decide +kernel
theorem dX12_dye_43 : decode mX12_dye.2.1 43 = .ok (.bipush 20, 2) := by decide +kernel
theorem dX12_dye_45 : decode mX12_dye.2.1 45 = .ok (.if_icmp .ne 5, 3) := by decide +kernel
theorem dX12_dye_48 : decode mX12_dye.2.1 48 = .ok (.iconst (-1), 1) := by decide +kernel
theorem dX12_dye_49 : decode mX12_dye.2.1 49 = .ok (.ireturn, 1) := by decide +kernel
theorem dX12_dye_50 : decode mX12_dye.2.1 50 = .ok (.aload_n 0, 1) := by decide +kernel
theorem dX12_dye_51 : decode mX12_dye.2.1 51 = .ok (.iload_n 1, 1) := by decide +kernel
theorem dX12_dye_52 : decode mX12_dye.2.1 52 = .ok (.aload_n 0, 1) := by decide +kernel
theorem dX12_dye_53 : decode mX12_dye.2.1 53 = .ok (.getfield 237, 3) := by decide +kernel
theorem dX12_dye_56 : decode mX12_dye.2.1 56 = .ok (.iload_n 1, 1) := by decide +kernel
theorem dX12_dye_57 : decode mX12_dye.2.1 57 = .ok (.iaload, 1) := by decide +kernel
theorem dX12_dye_58 : decode mX12_dye.2.1 58 = .ok (.iload_n 2, 1) := by decide +kernel
theorem dX12_dye_59 : decode mX12_dye.2.1 59 = .ok (.iconst 2, 1) := by decide +kernel
theorem dX12_dye_60 : decode mX12_dye.2.1 60 = .ok (.invokevirtual 594, 3) := by decide +kernel
theorem dX12_dye_63 : decode mX12_dye.2.1 63 = .ok (.aload_n 0, 1) := by decide +kernel
theorem dX12_dye_64 : decode mX12_dye.2.1 64 = .ok (.getfield 576, 3) := by decide +kernel
theorem dX12_dye_67 : decode mX12_dye.2.1 67 = .ok (.ireturn, 1) := by decide +kernel
theorem bX12_dye_0 {SC : Nat → Nat} {X : mh_X} {d : Nat} {Q : Option am_V → am_W → Prop} {bc bs : Nat} {w : am_W} {x1 : Int} {x2 : Int}
    (h : am_M (mh_G X) SC d 0 0 mX12_in [.inl x1, .inl 0, .inl (am_w ((w.1 9 0 75) - 1))] w (fun r w1 => am_A (mh_G X) SC (d + 1) mX12_dye Q 11 [(0, .inr (.inr (some (9, 0)))), (1, .inl x1), (2, .inl x2)] (r.toList ++ []) w1 bc bs)) :
    am_A (mh_G X) SC (d + 1) mX12_dye Q 0 [(0, .inr (.inr (some (9, 0)))), (1, .inl x1), (2, .inl x2)] [] w bc bs := by
  refine am_iload_n dX12_dye_0 (List.Mem.tail _ (List.Mem.head _)) ?_
  refine am_iconst dX12_dye_1 (by unfold am_rg; omega) ?_
  refine am_aload_n dX12_dye_2 (List.Mem.head _) ?_
  refine am_getf (f := 75) (v := .inl (w.1 9 0 75)) dX12_dye_3 hc_10 (by decide) wd_1624 (by decide) rfl rfl ?_
  refine am_iconst dX12_dye_6 (by unfold am_rg; omega) ?_
  refine am_isub dX12_dye_7 ?_
  exact am_calls (d' := d) (kc := 0) (ks := 0) (as := [.inl x1, .inl 0, .inl (am_w ((w.1 9 0 75) - 1))]) dX12_dye_8 wc_X12_in wd_1859 wd_1860 wd_122 ds_X12_in (by decide) (Nat.le_refl _) (Nat.le_of_ble_eq_true rfl) (Nat.zero_le _) (Nat.zero_le _) rfl h
theorem bX12_dye_11 {SC : Nat → Nat} {X : mh_X} {d : Nat} {Q : Option am_V → am_W → Prop} {bc bs : Nat} {w : am_W} {x1 : Int} {x2 : Int} {xs0 : Int}
    (h : ((xs0 = 0 → Q (some (.inl (-1))) w) ∧ (¬ xs0 = 0 → am_M (mh_G X) SC d 0 0 mX12_hasTask [.inr (.inr (some (9, 0))), .inl x1] w (fun r w1 => am_A (mh_G X) SC (d + 1) mX12_dye Q 19 [(0, .inr (.inr (some (9, 0)))), (1, .inl x1), (2, .inl x2)] (r.toList ++ []) w1 bc bs)))) :
    am_A (mh_G X) SC (d + 1) mX12_dye Q 11 [(0, .inr (.inr (some (9, 0)))), (1, .inl x1), (2, .inl x2)] [.inl xs0] w bc bs := by
  refine am_ifeq (tgt := 48) dX12_dye_11 (by decide) (fun c1 => ?_) (fun c1 => ?_)
  · replace h := h.1 c1
    refine am_iconst dX12_dye_48 (by unfold am_rg; omega) ?_
    exact am_ret (r := some (.inl (-1))) dX12_dye_49 (Or.inl rfl) rfl h
  · replace h := h.2 c1
    refine am_aload_n dX12_dye_14 (List.Mem.head _) ?_
    refine am_iload_n dX12_dye_15 (List.Mem.tail _ (List.Mem.head _)) ?_
    exact am_callv (d' := d) (kc := 0) (ks := 0) (as := [.inl x1]) dX12_dye_16 wc_X12_hasTask wd_2202 wd_2204 wd_98 wd_122 ds_X12_hasTask (by decide) (Nat.le_refl _) (Nat.le_of_ble_eq_true rfl) (Nat.zero_le _) (Nat.zero_le _) hc_10 (by decide) rfl rfl h
theorem bX12_dye_19 {SC : Nat → Nat} {X : mh_X} {d : Nat} {Q : Option am_V → am_W → Prop} {bc bs : Nat} {w : am_W} {x1 : Int} {x2 : Int} {xs0 : Int}
    (h : ((¬ xs0 = 0 → Q (some (.inl (-1))) w) ∧ (xs0 = 0 → am_M (mh_G X) SC d 0 0 mX12_isStuff [.inl x2] w (fun r w1 => am_A (mh_G X) SC (d + 1) mX12_dye Q 26 [(0, .inr (.inr (some (9, 0)))), (1, .inl x1), (2, .inl x2)] (r.toList ++ []) w1 bc bs)))) :
    am_A (mh_G X) SC (d + 1) mX12_dye Q 19 [(0, .inr (.inr (some (9, 0)))), (1, .inl x1), (2, .inl x2)] [.inl xs0] w bc bs := by
  refine am_ifne (tgt := 48) dX12_dye_19 (by decide) (fun c1 => ?_) (fun c1 => ?_)
  · replace h := h.1 c1
    refine am_iconst dX12_dye_48 (by unfold am_rg; omega) ?_
    exact am_ret (r := some (.inl (-1))) dX12_dye_49 (Or.inl rfl) rfl h
  · replace h := h.2 c1
    refine am_iload_n dX12_dye_22 (List.Mem.tail _ (List.Mem.tail _ (List.Mem.head _))) ?_
    exact am_calls (d' := d) (kc := 0) (ks := 0) (as := [.inl x2]) dX12_dye_23 wc_X12_isStuff wd_2183 wd_2184 wd_122 ds_X12_isStuff (by decide) (Nat.le_refl _) (Nat.le_of_ble_eq_true rfl) (Nat.zero_le _) (Nat.zero_le _) rfl h
theorem bX12_dye_26 {SC : Nat → Nat} {X : mh_X} {d : Nat} {Q : Option am_V → am_W → Prop} {bc bs : Nat} {w : am_W} {x1 : Int} {x2 : Int} {xs0 : Int}
    (h : ((xs0 = 0 → Q (some (.inl (-1))) w) ∧ (¬ xs0 = 0 → (0 ≤ x1 ∧ (x1 < 40 ∧ ((x2 ≤ (w.1 127 0 x1.toNat) → Q (some (.inl (-1))) w) ∧ (¬ x2 ≤ (w.1 127 0 x1.toNat) → ((¬ (w.1 9 0 81) = 20 → am_M (mh_G X) SC d 0 0 mX12_asks [.inr (.inr (some (9, 0))), .inl x1, .inl (w.1 126 0 x1.toNat), .inl x2, .inl 2] w (fun r w1 => am_A (mh_G X) SC (d + 1) mX12_dye Q 63 [(0, .inr (.inr (some (9, 0)))), (1, .inl x1), (2, .inl x2)] (r.toList ++ []) w1 bc bs)) ∧ ((w.1 9 0 81) = 20 → Q (some (.inl (-1))) w))))))))) :
    am_A (mh_G X) SC (d + 1) mX12_dye Q 26 [(0, .inr (.inr (some (9, 0)))), (1, .inl x1), (2, .inl x2)] [.inl xs0] w bc bs := by
  refine am_ifeq (tgt := 48) dX12_dye_26 (by decide) (fun c1 => ?_) (fun c1 => ?_)
  · replace h := h.1 c1
    refine am_iconst dX12_dye_48 (by unfold am_rg; omega) ?_
    exact am_ret (r := some (.inl (-1))) dX12_dye_49 (Or.inl rfl) rfl h
  · replace h := h.2 c1
    refine am_iload_n dX12_dye_29 (List.Mem.tail _ (List.Mem.tail _ (List.Mem.head _))) ?_
    refine am_aload_n dX12_dye_30 (List.Mem.head _) ?_
    refine am_getf (f := 73) (v := .inr (.inr (some (127, 0)))) dX12_dye_31 hc_10 (by decide) wd_1622 (by decide) rfl rfl ?_
    refine am_iload_n dX12_dye_34 (List.Mem.tail _ (List.Mem.head _)) ?_
    have o2 := h.1
    replace h := h.2
    have o3 := h.1
    replace h := h.2
    refine am_iaload (v := (w.1 127 0 x1.toNat)) dX12_dye_35 (by decide) rfl o2 o3 rfl ?_
    refine am_icmple (tgt := 48) dX12_dye_36 (by decide) (fun c4 => ?_) (fun c4 => ?_)
    · replace h := h.1 c4
      refine am_iconst dX12_dye_48 (by unfold am_rg; omega) ?_
      exact am_ret (r := some (.inl (-1))) dX12_dye_49 (Or.inl rfl) rfl h
    · replace h := h.2 c4
      refine am_aload_n dX12_dye_39 (List.Mem.head _) ?_
      refine am_getf (f := 81) (v := .inl (w.1 9 0 81)) dX12_dye_40 hc_10 (by decide) wd_1630 (by decide) rfl rfl ?_
      refine am_bipush dX12_dye_43 (by decide) (by unfold am_rg; omega) ?_
      refine am_icmpne (tgt := 50) dX12_dye_45 (by decide) (fun c5 => ?_) (fun c5 => ?_)
      · replace h := h.1 c5
        refine am_aload_n dX12_dye_50 (List.Mem.head _) ?_
        refine am_iload_n dX12_dye_51 (List.Mem.tail _ (List.Mem.head _)) ?_
        refine am_aload_n dX12_dye_52 (List.Mem.head _) ?_
        refine am_getf (f := 72) (v := .inr (.inr (some (126, 0)))) dX12_dye_53 hc_10 (by decide) wd_1621 (by decide) rfl rfl ?_
        refine am_iload_n dX12_dye_56 (List.Mem.tail _ (List.Mem.head _)) ?_
        refine am_iaload (v := (w.1 126 0 x1.toNat)) dX12_dye_57 (by decide) rfl o2 o3 rfl ?_
        refine am_iload_n dX12_dye_58 (List.Mem.tail _ (List.Mem.tail _ (List.Mem.head _))) ?_
        refine am_iconst dX12_dye_59 (by unfold am_rg; omega) ?_
        exact am_callv (d' := d) (kc := 0) (ks := 0) (as := [.inl x1, .inl (w.1 126 0 x1.toNat), .inl x2, .inl 2]) dX12_dye_60 wc_X12_asks wd_2206 wd_2208 wd_99 wd_122 ds_X12_asks (by decide) (Nat.le_refl _) (Nat.le_of_ble_eq_true rfl) (Nat.zero_le _) (Nat.zero_le _) hc_10 (by decide) rfl rfl h
      · replace h := h.2 c5
        refine am_iconst dX12_dye_48 (by unfold am_rg; omega) ?_
        exact am_ret (r := some (.inl (-1))) dX12_dye_49 (Or.inl rfl) rfl h
theorem bX12_dye_63 {SC : Nat → Nat} {X : mh_X} {d : Nat} {Q : Option am_V → am_W → Prop} {bc bs : Nat} {w : am_W} {x1 : Int} {x2 : Int}
    (h : Q (some (.inl (w.1 9 0 81))) w) :
    am_A (mh_G X) SC (d + 1) mX12_dye Q 63 [(0, .inr (.inr (some (9, 0)))), (1, .inl x1), (2, .inl x2)] [] w bc bs := by
  refine am_aload_n dX12_dye_63 (List.Mem.head _) ?_
  refine am_getf (f := 81) (v := .inl (w.1 9 0 81)) dX12_dye_64 hc_10 (by decide) wd_1630 (by decide) rfl rfl ?_
  exact am_ret (r := some (.inl (w.1 9 0 81))) dX12_dye_67 (Or.inl rfl) rfl h
-- MourningHouseModel.make(II)I
theorem dX12_make_0 : decode mX12_make.2.1 0 = .ok (.iload_n 1, 1) := by decide +kernel
theorem dX12_make_1 : decode mX12_make.2.1 1 = .ok (.iconst 0, 1) := by decide +kernel
theorem dX12_make_2 : decode mX12_make.2.1 2 = .ok (.iconst 4, 1) := by decide +kernel
theorem dX12_make_3 : decode mX12_make.2.1 3 = .ok (.invokestatic 318, 3) := by decide +kernel
theorem dX12_make_6 : decode mX12_make.2.1 6 = .ok (.ifCond .eq 42, 3) := by decide +kernel
theorem dX12_make_9 : decode mX12_make.2.1 9 = .ok (.iload_n 2, 1) := by decide +kernel
theorem dX12_make_10 : decode mX12_make.2.1 10 = .ok (.invokestatic 579, 3) := by decide +kernel
theorem dX12_make_13 : decode mX12_make.2.1 13 = .ok (.ifCond .eq 35, 3) := by decide +kernel
theorem dX12_make_16 : decode mX12_make.2.1 16 = .ok (.aload_n 0, 1) := by decide +kernel
theorem dX12_make_17 : decode mX12_make.2.1 17 = .ok (.getfield 243, 3) := by decide +kernel
theorem dX12_make_20 : decode mX12_make.2.1 20 = .ok (.iload_n 2, 1) := by decide +kernel
theorem dX12_make_21 : decode mX12_make.2.1 21 = .ok (.iaload, 1) := by decide +kernel
theorem dX12_make_22 : decode mX12_make.2.1 22 = .ok (.ifCond .eq 26, 3) := by decide +kernel
theorem dX12_make_25 : decode mX12_make.2.1 25 = .ok (.aload_n 0, 1) := by decide +kernel
theorem dX12_make_26 : decode mX12_make.2.1 26 = .ok (.getfield 576, 3) := by decide +kernel
theorem dX12_make_29 : decode mX12_make.2.1 29 = .ok (.bipush 20, 2) := by decide +kernel
theorem dX12_make_31 : decode mX12_make.2.1 31 = .ok (.if_icmp .eq 17, 3) := by decide +kernel
theorem dX12_make_34 : decode mX12_make.2.1 34 = .ok (.aload_n 0, 1) := by decide +kernel
theorem dX12_make_35 : decode mX12_make.2.1 35 = .ok (.getfield 582, 3) := by decide +kernel
theorem dX12_make_38 : decode mX12_make.2.1 38 = .ok (.aload_n 0, 1) := by decide +kernel
theorem dX12_make_39 : decode mX12_make.2.1 39 = .ok (.invokevirtual 585, 3) := by decide +kernel
theorem dX12_make_42 : decode mX12_make.2.1 42 = .ok (.iadd, 1) := by decide +kernel
theorem dX12_make_43 : decode mX12_make.2.1 43 = .ok (.bipush 40, 2) := by decide +kernel
theorem dX12_make_45 : decode mX12_make.2.1 45 = .ok (.if_icmp .lt 5, 3) := by decide +kernel
theorem dX12_make_48 : decode mX12_make.2.1 48 = .ok (.iconst (-1), 1) := by decide +kernel
theorem dX12_make_49 : decode mX12_make.2.1 49 = .ok (.ireturn, 1) := by decide +kernel
theorem dX12_make_50 : decode mX12_make.2.1 50 = .ok (.aload_n 0, 1) := by decide +kernel
theorem dX12_make_51 : decode mX12_make.2.1 51 = .ok (.getfield 243, 3) := by decide +kernel
theorem dX12_make_54 : decode mX12_make.2.1 54 = .ok (.iload_n 2, 1) := by decide +kernel
theorem dX12_make_55 : decode mX12_make.2.1 55 = .ok (.dup2, 1) := by decide +kernel
theorem dX12_make_56 : decode mX12_make.2.1 56 = .ok (.iaload, 1) := by decide +kernel
theorem dX12_make_57 : decode mX12_make.2.1 57 = .ok (.iconst 1, 1) := by decide +kernel
theorem dX12_make_58 : decode mX12_make.2.1 58 = .ok (.isub, 1) := by decide +kernel
theorem dX12_make_59 : decode mX12_make.2.1 59 = .ok (.iastore, 1) := by decide +kernel
theorem dX12_make_60 : decode mX12_make.2.1 60 = .ok (.aload_n 0, 1) := by decide +kernel
theorem dX12_make_61 : decode mX12_make.2.1 61 = .ok (.iconst (-1), 1) := by decide +kernel
theorem dX12_make_62 : decode mX12_make.2.1 62 = .ok (.iload_n 1, 1) := by decide +kernel
theorem dX12_make_63 : decode mX12_make.2.1 63 = .ok (.iload_n 2, 1) := by decide +kernel
theorem dX12_make_64 : decode mX12_make.2.1 64 = .ok (.iconst 3, 1) := by decide +kernel
theorem dX12_make_65 : decode mX12_make.2.1 65 = .ok (.invokevirtual 594, 3) := by decide +kernel
theorem dX12_make_68 : decode mX12_make.2.1 68 = .ok (.aload_n 0, 1) := by decide +kernel
theorem dX12_make_69 : decode mX12_make.2.1 69 = .ok (.getfield 576, 3) := by decide +kernel
theorem dX12_make_72 : decode mX12_make.2.1 72 = .ok (.ireturn, 1) := by decide +kernel
theorem bX12_make_0 {SC : Nat → Nat} {X : mh_X} {d : Nat} {Q : Option am_V → am_W → Prop} {bc bs : Nat} {w : am_W} {x1 : Int} {x2 : Int}
    (h : am_M (mh_G X) SC d 0 0 mX12_in [.inl x1, .inl 0, .inl 4] w (fun r w1 => am_A (mh_G X) SC (d + 1) mX12_make Q 6 [(0, .inr (.inr (some (9, 0)))), (1, .inl x1), (2, .inl x2)] (r.toList ++ []) w1 bc bs)) :
    am_A (mh_G X) SC (d + 1) mX12_make Q 0 [(0, .inr (.inr (some (9, 0)))), (1, .inl x1), (2, .inl x2)] [] w bc bs := by
  refine am_iload_n dX12_make_0 (List.Mem.tail _ (List.Mem.head _)) ?_
  refine am_iconst dX12_make_1 (by unfold am_rg; omega) ?_
  refine am_iconst dX12_make_2 (by unfold am_rg; omega) ?_
  exact am_calls (d' := d) (kc := 0) (ks := 0) (as := [.inl x1, .inl 0, .inl 4]) dX12_make_3 wc_X12_in wd_1859 wd_1860 wd_122 ds_X12_in (by decide) (Nat.le_refl _) (Nat.le_of_ble_eq_true rfl) (Nat.zero_le _) (Nat.zero_le _) rfl h
theorem bX12_make_6 {SC : Nat → Nat} {X : mh_X} {d : Nat} {Q : Option am_V → am_W → Prop} {bc bs : Nat} {w : am_W} {x1 : Int} {x2 : Int} {xs0 : Int}
    (h : ((xs0 = 0 → Q (some (.inl (-1))) w) ∧ (¬ xs0 = 0 → am_M (mh_G X) SC d 0 0 mX12_isStuff [.inl x2] w (fun r w1 => am_A (mh_G X) SC (d + 1) mX12_make Q 13 [(0, .inr (.inr (some (9, 0)))), (1, .inl x1), (2, .inl x2)] (r.toList ++ []) w1 bc bs)))) :
    am_A (mh_G X) SC (d + 1) mX12_make Q 6 [(0, .inr (.inr (some (9, 0)))), (1, .inl x1), (2, .inl x2)] [.inl xs0] w bc bs := by
  refine am_ifeq (tgt := 48) dX12_make_6 (by decide) (fun c1 => ?_) (fun c1 => ?_)
  · replace h := h.1 c1
    refine am_iconst dX12_make_48 (by unfold am_rg; omega) ?_
    exact am_ret (r := some (.inl (-1))) dX12_make_49 (Or.inl rfl) rfl h
  · replace h := h.2 c1
    refine am_iload_n dX12_make_9 (List.Mem.tail _ (List.Mem.tail _ (List.Mem.head _))) ?_
    exact am_calls (d' := d) (kc := 0) (ks := 0) (as := [.inl x2]) dX12_make_10 wc_X12_isStuff wd_2183 wd_2184 wd_122 ds_X12_isStuff (by decide) (Nat.le_refl _) (Nat.le_of_ble_eq_true rfl) (Nat.zero_le _) (Nat.zero_le _) rfl h
theorem bX12_make_13 {SC : Nat → Nat} {X : mh_X} {d : Nat} {Q : Option am_V → am_W → Prop} {bc bs : Nat} {w : am_W} {x1 : Int} {x2 : Int} {xs0 : Int}
    (h : ((xs0 = 0 → Q (some (.inl (-1))) w) ∧ (¬ xs0 = 0 → (0 ≤ x2 ∧ (x2 < 5 ∧ (((w.1 128 0 x2.toNat) = 0 → Q (some (.inl (-1))) w) ∧ (¬ (w.1 128 0 x2.toNat) = 0 → (((w.1 9 0 81) = 20 → Q (some (.inl (-1))) w) ∧ (¬ (w.1 9 0 81) = 20 → am_M (mh_G X) SC d 0 0 mX12_making [.inr (.inr (some (9, 0)))] w (fun r w1 => am_A (mh_G X) SC (d + 1) mX12_make Q 42 [(0, .inr (.inr (some (9, 0)))), (1, .inl x1), (2, .inl x2)] (r.toList ++ [.inl (w.1 9 0 75)]) w1 bc bs)))))))))) :
    am_A (mh_G X) SC (d + 1) mX12_make Q 13 [(0, .inr (.inr (some (9, 0)))), (1, .inl x1), (2, .inl x2)] [.inl xs0] w bc bs := by
  refine am_ifeq (tgt := 48) dX12_make_13 (by decide) (fun c1 => ?_) (fun c1 => ?_)
  · replace h := h.1 c1
    refine am_iconst dX12_make_48 (by unfold am_rg; omega) ?_
    exact am_ret (r := some (.inl (-1))) dX12_make_49 (Or.inl rfl) rfl h
  · replace h := h.2 c1
    refine am_aload_n dX12_make_16 (List.Mem.head _) ?_
    refine am_getf (f := 74) (v := .inr (.inr (some (128, 0)))) dX12_make_17 hc_10 (by decide) wd_1623 (by decide) rfl rfl ?_
    refine am_iload_n dX12_make_20 (List.Mem.tail _ (List.Mem.tail _ (List.Mem.head _))) ?_
    have o2 := h.1
    replace h := h.2
    have o3 := h.1
    replace h := h.2
    refine am_iaload (v := (w.1 128 0 x2.toNat)) dX12_make_21 (by decide) rfl o2 o3 rfl ?_
    refine am_ifeq (tgt := 48) dX12_make_22 (by decide) (fun c4 => ?_) (fun c4 => ?_)
    · replace h := h.1 c4
      refine am_iconst dX12_make_48 (by unfold am_rg; omega) ?_
      exact am_ret (r := some (.inl (-1))) dX12_make_49 (Or.inl rfl) rfl h
    · replace h := h.2 c4
      refine am_aload_n dX12_make_25 (List.Mem.head _) ?_
      refine am_getf (f := 81) (v := .inl (w.1 9 0 81)) dX12_make_26 hc_10 (by decide) wd_1630 (by decide) rfl rfl ?_
      refine am_bipush dX12_make_29 (by decide) (by unfold am_rg; omega) ?_
      refine am_icmpeq (tgt := 48) dX12_make_31 (by decide) (fun c5 => ?_) (fun c5 => ?_)
      · replace h := h.1 c5
        refine am_iconst dX12_make_48 (by unfold am_rg; omega) ?_
        exact am_ret (r := some (.inl (-1))) dX12_make_49 (Or.inl rfl) rfl h
      · replace h := h.2 c5
        refine am_aload_n dX12_make_34 (List.Mem.head _) ?_
        refine am_getf (f := 75) (v := .inl (w.1 9 0 75)) dX12_make_35 hc_10 (by decide) wd_1624 (by decide) rfl rfl ?_
        refine am_aload_n dX12_make_38 (List.Mem.head _) ?_
        exact am_callv (d' := d) (kc := 0) (ks := 0) (as := []) dX12_make_39 wc_X12_making wd_2186 wd_2188 wd_97 wd_122 ds_X12_making (by decide) (Nat.le_refl _) (Nat.le_of_ble_eq_true rfl) (Nat.zero_le _) (Nat.zero_le _) hc_10 (by decide) rfl rfl h
theorem bX12_make_42 {SC : Nat → Nat} {X : mh_X} {d : Nat} {Q : Option am_V → am_W → Prop} {bc bs : Nat} {w : am_W} {x1 : Int} {x2 : Int} {xs0 : Int} {xs1 : Int}
    (h : (((am_w (xs1 + xs0)) < 40 → (0 ≤ x2 ∧ (x2 < 5 ∧ am_M (mh_G X) SC d 0 0 mX12_asks [.inr (.inr (some (9, 0))), .inl (-1), .inl x1, .inl x2, .inl 3] ((am_up w.1 128 0 x2.toNat (am_w ((w.1 128 0 x2.toNat) - 1))), w.2) (fun r w1 => am_A (mh_G X) SC (d + 1) mX12_make Q 68 [(0, .inr (.inr (some (9, 0)))), (1, .inl x1), (2, .inl x2)] (r.toList ++ []) w1 bc bs)))) ∧ (¬ (am_w (xs1 + xs0)) < 40 → Q (some (.inl (-1))) w))) :
    am_A (mh_G X) SC (d + 1) mX12_make Q 42 [(0, .inr (.inr (some (9, 0)))), (1, .inl x1), (2, .inl x2)] [.inl xs0, .inl xs1] w bc bs := by
  refine am_iadd dX12_make_42 ?_
  refine am_bipush dX12_make_43 (by decide) (by unfold am_rg; omega) ?_
  refine am_icmplt (tgt := 50) dX12_make_45 (by decide) (fun c1 => ?_) (fun c1 => ?_)
  · replace h := h.1 c1
    refine am_aload_n dX12_make_50 (List.Mem.head _) ?_
    refine am_getf (f := 74) (v := .inr (.inr (some (128, 0)))) dX12_make_51 hc_10 (by decide) wd_1623 (by decide) rfl rfl ?_
    refine am_iload_n dX12_make_54 (List.Mem.tail _ (List.Mem.tail _ (List.Mem.head _))) ?_
    refine am_dup2 dX12_make_55 rfl rfl ?_
    have o2 := h.1
    replace h := h.2
    have o3 := h.1
    replace h := h.2
    refine am_iaload (v := (w.1 128 0 x2.toNat)) dX12_make_56 (by decide) rfl o2 o3 rfl ?_
    refine am_iconst dX12_make_57 (by unfold am_rg; omega) ?_
    refine am_isub dX12_make_58 ?_
    refine am_iastore dX12_make_59 (Or.inl (by decide)) rfl o2 o3 ?_
    refine am_aload_n dX12_make_60 (List.Mem.head _) ?_
    refine am_iconst dX12_make_61 (by unfold am_rg; omega) ?_
    refine am_iload_n dX12_make_62 (List.Mem.tail _ (List.Mem.head _)) ?_
    refine am_iload_n dX12_make_63 (List.Mem.tail _ (List.Mem.tail _ (List.Mem.head _))) ?_
    refine am_iconst dX12_make_64 (by unfold am_rg; omega) ?_
    exact am_callv (d' := d) (kc := 0) (ks := 0) (as := [.inl (-1), .inl x1, .inl x2, .inl 3]) dX12_make_65 wc_X12_asks wd_2206 wd_2208 wd_99 wd_122 ds_X12_asks (by decide) (Nat.le_refl _) (Nat.le_of_ble_eq_true rfl) (Nat.zero_le _) (Nat.zero_le _) hc_10 (by decide) rfl rfl h
  · replace h := h.2 c1
    refine am_iconst dX12_make_48 (by unfold am_rg; omega) ?_
    exact am_ret (r := some (.inl (-1))) dX12_make_49 (Or.inl rfl) rfl h
theorem bX12_make_68 {SC : Nat → Nat} {X : mh_X} {d : Nat} {Q : Option am_V → am_W → Prop} {bc bs : Nat} {w : am_W} {x1 : Int} {x2 : Int}
    (h : Q (some (.inl (w.1 9 0 81))) w) :
    am_A (mh_G X) SC (d + 1) mX12_make Q 68 [(0, .inr (.inr (some (9, 0)))), (1, .inl x1), (2, .inl x2)] [] w bc bs := by
  refine am_aload_n dX12_make_68 (List.Mem.head _) ?_
  refine am_getf (f := 81) (v := .inl (w.1 9 0 81)) dX12_make_69 hc_10 (by decide) wd_1630 (by decide) rfl rfl ?_
  exact am_ret (r := some (.inl (w.1 9 0 81))) dX12_make_72 (Or.inl rfl) rfl h
-- MourningHouseModel.done(I)V
theorem dX12_done_0 : decode mX12_done.2.1 0 = .ok (.aload_n 0, 1) := by decide +kernel
theorem dX12_done_1 : decode mX12_done.2.1 1 = .ok (.getfield 246, 3) := by decide +kernel
theorem dX12_done_4 : decode mX12_done.2.1 4 = .ok (.iload_n 1, 1) := by decide +kernel
theorem dX12_done_5 : decode mX12_done.2.1 5 = .ok (.iaload, 1) := by decide +kernel
theorem dX12_done_6 : decode mX12_done.2.1 6 = .ok (.iconst (-1), 1) := by decide +kernel
theorem dX12_done_7 : decode mX12_done.2.1 7 = .ok (.if_icmp .ne 46, 3) := by decide +kernel
theorem dX12_done_10 : decode mX12_done.2.1 10 = .ok (.aload_n 0, 1) := by decide +kernel
theorem dX12_done_11 : decode mX12_done.2.1 11 = .ok (.getfield 237, 3) := by decide +kernel
theorem dX12_done_14 : decode mX12_done.2.1 14 = .ok (.aload_n 0, 1) := by decide +kernel
theorem dX12_done_15 : decode mX12_done.2.1 15 = .ok (.getfield 582, 3) := by decide +kernel
theorem dX12_done_18 : decode mX12_done.2.1 18 = .ok (.aload_n 0, 1) := by decide +kernel
theorem dX12_done_19 : decode mX12_done.2.1 19 = .ok (.getfield 249, 3) := by decide +kernel
theorem dX12_done_22 : decode mX12_done.2.1 22 = .ok (.iload_n 1, 1) := by decide +kernel
theorem dX12_done_23 : decode mX12_done.2.1 23 = .ok (.iaload, 1) := by decide +kernel
theorem dX12_done_24 : decode mX12_done.2.1 24 = .ok (.iastore, 1) := by decide +kernel
theorem dX12_done_25 : decode mX12_done.2.1 25 = .ok (.aload_n 0, 1) := by decide +kernel
theorem dX12_done_26 : decode mX12_done.2.1 26 = .ok (.getfield 240, 3) := by decide +kernel
theorem dX12_done_29 : decode mX12_done.2.1 29 = .ok (.aload_n 0, 1) := by decide +kernel
theorem dX12_done_30 : decode mX12_done.2.1 30 = .ok (.getfield 582, 3) := by decide +kernel
theorem dX12_done_33 : decode mX12_done.2.1 33 = .ok (.aload_n 0, 1) := by decide +kernel
theorem dX12_done_34 : decode mX12_done.2.1 34 = .ok (.getfield 252, 3) := by decide +kernel
theorem dX12_done_37 : decode mX12_done.2.1 37 = .ok (.iload_n 1, 1) := by decide +kernel
theorem dX12_done_38 : decode mX12_done.2.1 38 = .ok (.iaload, 1) := by decide +kernel
theorem dX12_done_39 : decode mX12_done.2.1 39 = .ok (.iastore, 1) := by decide +kernel
theorem dX12_done_40 : decode mX12_done.2.1 40 = .ok (.aload_n 0, 1) := by decide +kernel
theorem dX12_done_41 : decode mX12_done.2.1 41 = .ok (.dup, 1) := by decide +kernel
theorem dX12_done_42 : decode mX12_done.2.1 42 = .ok (.getfield 582, 3) := by decide +kernel
theorem dX12_done_45 : decode mX12_done.2.1 45 = .ok (.iconst 1, 1) := by decide +kernel
theorem dX12_done_46 : decode mX12_done.2.1 46 = .ok (.iadd, 1) := by decide +kernel
theorem dX12_done_47 : decode mX12_done.2.1 47 = .ok (.putfield 582, 3) := by decide +kernel
theorem dX12_done_50 : decode mX12_done.2.1 50 = .ok (.goto 20, 3) := by decide +kernel
theorem dX12_done_53 : decode mX12_done.2.1 53 = .ok (.aload_n 0, 1) := by decide +kernel
theorem dX12_done_54 : decode mX12_done.2.1 54 = .ok (.getfield 240, 3) := by decide +kernel
theorem dX12_done_57 : decode mX12_done.2.1 57 = .ok (.aload_n 0, 1) := by decide +kernel
theorem dX12_done_58 : decode mX12_done.2.1 58 = .ok (.getfield 246, 3) := by decide +kernel
theorem dX12_done_61 : decode mX12_done.2.1 61 = .ok (.iload_n 1, 1) := by decide +kernel
theorem dX12_done_62 : decode mX12_done.2.1 62 = .ok (.iaload, 1) := by decide +kernel
theorem dX12_done_63 : decode mX12_done.2.1 63 = .ok (.aload_n 0, 1) := by decide +kernel
theorem dX12_done_64 : decode mX12_done.2.1 64 = .ok (.getfield 252, 3) := by decide +kernel
theorem dX12_done_67 : decode mX12_done.2.1 67 = .ok (.iload_n 1, 1) := by decide +kernel
theorem dX12_done_68 : decode mX12_done.2.1 68 = .ok (.iaload, 1) := by decide +kernel
theorem dX12_done_69 : decode mX12_done.2.1 69 = .ok (.iastore, 1) := by decide +kernel
theorem dX12_done_70 : decode mX12_done.2.1 70 = .ok (.return_, 1) := by decide +kernel
theorem bX12_done_0 {SC : Nat → Nat} {X : mh_X} {d : Nat} {Q : Option am_V → am_W → Prop} {bc bs : Nat} {w : am_W} {x1 : Int}
    (h : (0 ≤ x1 ∧ (x1 < 20 ∧ ((¬ (w.1 129 0 x1.toNat) = (-1) → (0 ≤ (w.1 129 0 x1.toNat) ∧ ((w.1 129 0 x1.toNat) < 40 ∧ Q none ((am_up w.1 127 0 (w.1 129 0 x1.toNat).toNat (w.1 131 0 x1.toNat)), w.2)))) ∧ ((w.1 129 0 x1.toNat) = (-1) → (0 ≤ (w.1 9 0 75) ∧ ((w.1 9 0 75) < 40 ∧ Q none ((am_up (am_up (am_up w.1 126 0 (w.1 9 0 75).toNat (w.1 130 0 x1.toNat)) 127 0 (w.1 9 0 75).toNat (w.1 131 0 x1.toNat)) 9 0 75 (am_w ((w.1 9 0 75) + 1))), w.2)))))))) :
    am_A (mh_G X) SC (d + 1) mX12_done Q 0 [(0, .inr (.inr (some (9, 0)))), (1, .inl x1)] [] w bc bs := by
  refine am_aload_n dX12_done_0 (List.Mem.head _) ?_
  refine am_getf (f := 77) (v := .inr (.inr (some (129, 0)))) dX12_done_1 hc_10 (by decide) wd_1626 (by decide) rfl rfl ?_
  refine am_iload_n dX12_done_4 (List.Mem.tail _ (List.Mem.head _)) ?_
  have o1 := h.1
  replace h := h.2
  have o2 := h.1
  replace h := h.2
  refine am_iaload (v := (w.1 129 0 x1.toNat)) dX12_done_5 (by decide) rfl o1 o2 rfl ?_
  refine am_iconst dX12_done_6 (by unfold am_rg; omega) ?_
  refine am_icmpne (tgt := 53) dX12_done_7 (by decide) (fun c3 => ?_) (fun c3 => ?_)
  · replace h := h.1 c3
    refine am_aload_n dX12_done_53 (List.Mem.head _) ?_
    refine am_getf (f := 73) (v := .inr (.inr (some (127, 0)))) dX12_done_54 hc_10 (by decide) wd_1622 (by decide) rfl rfl ?_
    refine am_aload_n dX12_done_57 (List.Mem.head _) ?_
    refine am_getf (f := 77) (v := .inr (.inr (some (129, 0)))) dX12_done_58 hc_10 (by decide) wd_1626 (by decide) rfl rfl ?_
    refine am_iload_n dX12_done_61 (List.Mem.tail _ (List.Mem.head _)) ?_
    refine am_iaload (v := (w.1 129 0 x1.toNat)) dX12_done_62 (by decide) rfl o1 o2 rfl ?_
    refine am_aload_n dX12_done_63 (List.Mem.head _) ?_
    refine am_getf (f := 79) (v := .inr (.inr (some (131, 0)))) dX12_done_64 hc_10 (by decide) wd_1628 (by decide) rfl rfl ?_
    refine am_iload_n dX12_done_67 (List.Mem.tail _ (List.Mem.head _)) ?_
    refine am_iaload (v := (w.1 131 0 x1.toNat)) dX12_done_68 (by decide) rfl o1 o2 rfl ?_
    have o4 := h.1
    replace h := h.2
    have o5 := h.1
    replace h := h.2
    refine am_iastore dX12_done_69 (Or.inl (by decide)) rfl o4 o5 ?_
    exact am_ret (r := none) dX12_done_70 rfl rfl h
  · replace h := h.2 c3
    refine am_aload_n dX12_done_10 (List.Mem.head _) ?_
    refine am_getf (f := 72) (v := .inr (.inr (some (126, 0)))) dX12_done_11 hc_10 (by decide) wd_1621 (by decide) rfl rfl ?_
    refine am_aload_n dX12_done_14 (List.Mem.head _) ?_
    refine am_getf (f := 75) (v := .inl (w.1 9 0 75)) dX12_done_15 hc_10 (by decide) wd_1624 (by decide) rfl rfl ?_
    refine am_aload_n dX12_done_18 (List.Mem.head _) ?_
    refine am_getf (f := 78) (v := .inr (.inr (some (130, 0)))) dX12_done_19 hc_10 (by decide) wd_1627 (by decide) rfl rfl ?_
    refine am_iload_n dX12_done_22 (List.Mem.tail _ (List.Mem.head _)) ?_
    refine am_iaload (v := (w.1 130 0 x1.toNat)) dX12_done_23 (by decide) rfl o1 o2 rfl ?_
    have o6 := h.1
    replace h := h.2
    have o7 := h.1
    replace h := h.2
    refine am_iastore dX12_done_24 (Or.inl (by decide)) rfl o6 o7 ?_
    refine am_aload_n dX12_done_25 (List.Mem.head _) ?_
    refine am_getf (f := 73) (v := .inr (.inr (some (127, 0)))) dX12_done_26 hc_10 (by decide) wd_1622 (by decide) rfl rfl ?_
    refine am_aload_n dX12_done_29 (List.Mem.head _) ?_
    refine am_getf (f := 75) (v := .inl (w.1 9 0 75)) dX12_done_30 hc_10 (by decide) wd_1624 (by decide) rfl rfl ?_
    refine am_aload_n dX12_done_33 (List.Mem.head _) ?_
    refine am_getf (f := 79) (v := .inr (.inr (some (131, 0)))) dX12_done_34 hc_10 (by decide) wd_1628 (by decide) rfl rfl ?_
    refine am_iload_n dX12_done_37 (List.Mem.tail _ (List.Mem.head _)) ?_
    refine am_iaload (v := (w.1 131 0 x1.toNat)) dX12_done_38 (by decide) rfl o1 o2 rfl ?_
    refine am_iastore dX12_done_39 (Or.inl (by decide)) rfl o6 o7 ?_
    refine am_aload_n dX12_done_40 (List.Mem.head _) ?_
    refine am_dup dX12_done_41 rfl ?_
    refine am_getf (f := 75) (v := .inl (w.1 9 0 75)) dX12_done_42 hc_10 (by decide) wd_1624 (by decide) rfl rfl ?_
    refine am_iconst dX12_done_45 (by unfold am_rg; omega) ?_
    refine am_iadd dX12_done_46 ?_
    refine am_putf (f := 75) dX12_done_47 hc_10 (by decide) wd_1624 rfl (Or.inl rfl) (Or.inl (by decide)) rfl ?_
    refine am_goto (tgt := 70) dX12_done_50 (by decide) ?_
    exact am_ret (r := none) dX12_done_70 rfl rfl h
-- MourningHouseModel.works()V
theorem dX12_works_0 : decode mX12_works.2.1 0 = .ok (.iconst 0, 1) := by decide +kernel
theorem dX12_works_1 : decode mX12_works.2.1 1 = .ok (.istore_n 1, 1) := by decide +kernel
theorem dX12_works_2 : decode mX12_works.2.1 2 = .ok (.iload_n 1, 1) := by decide +kernel
theorem dX12_works_3 : decode mX12_works.2.1 3 = .ok (.aload_n 0, 1) := by decide +kernel
theorem dX12_works_4 : decode mX12_works.2.1 4 = .ok (.getfield 576, 3) := by decide +kernel
theorem dX12_works_7 : decode mX12_works.2.1 7 = .ok (.if_icmp .ge 27, 3) := by decide +kernel
theorem dX12_works_10 : decode mX12_works.2.1 10 = .ok (.iload_n 1, 1) := by decide +kernel
theorem dX12_works_11 : decode mX12_works.2.1 11 = .ok (.aload_n 0, 1) := by decide +kernel
theorem dX12_works_12 : decode mX12_works.2.1 12 = .ok (.getfield 588, 3) := by decide +kernel
theorem dX12_works_15 : decode mX12_works.2.1 15 = .ok (.if_icmp .ge 19, 3) := by decide +kernel
theorem dX12_works_18 : decode mX12_works.2.1 18 = .ok (.aload_n 0, 1) := by decide +kernel
theorem dX12_works_19 : decode mX12_works.2.1 19 = .ok (.getfield 255, 3) := by decide +kernel
theorem dX12_works_22 : decode mX12_works.2.1 22 = .ok (.iload_n 1, 1) := by decide +kernel
theorem dX12_works_23 : decode mX12_works.2.1 23 = .ok (.dup2, 1) := by decide +kernel
theorem dX12_works_24 : decode mX12_works.2.1 24 = .ok (.iaload, 1) := by decide +kernel
theorem dX12_works_25 : decode mX12_works.2.1 25 = .ok (.iconst 1, 1) := by decide +kernel
theorem dX12_works_26 : decode mX12_works.2.1 26 = .ok (.isub, 1) := by decide +kernel
theorem dX12_works_27 : decode mX12_works.2.1 27 = .ok (.iastore, 1) := by decide +kernel
theorem dX12_works_28 : decode mX12_works.2.1 28 = .ok (.iinc 1 1, 3) := by decide +kernel
theorem dX12_works_31 : decode mX12_works.2.1 31 = .ok (.goto (-29), 3) := by decide +kernel
theorem dX12_works_34 : decode mX12_works.2.1 34 = .ok (.iconst 0, 1) := by decide +kernel
theorem dX12_works_35 : decode mX12_works.2.1 35 = .ok (.istore_n 1, 1) := by decide +kernel
theorem dX12_works_36 : decode mX12_works.2.1 36 = .ok (.iconst 0, 1) := by decide +kernel
theorem dX12_works_37 : decode mX12_works.2.1 37 = .ok (.istore_n 2, 1) := by decide +kernel
theorem dX12_works_38 : decode mX12_works.2.1 38 = .ok (.iload_n 2, 1) := by decide +kernel
theorem dX12_works_39 : decode mX12_works.2.1 39 = .ok (.aload_n 0, 1) := by decide +kernel
theorem dX12_works_40 : decode mX12_works.2.1 40 = .ok (.getfield 576, 3) := by decide +kernel
theorem dX12_works_43 : decode mX12_works.2.1 43 = .ok (.if_icmp .ge 77, 3) := by decide +kernel
theorem dX12_works_46 : decode mX12_works.2.1 46 = .ok (.aload_n 0, 1) := by decide +kernel
theorem dX12_works_47 : decode mX12_works.2.1 47 = .ok (.getfield 255, 3) := by decide +kernel
theorem dX12_works_50 : decode mX12_works.2.1 50 = .ok (.iload_n 2, 1) := by decide +kernel
theorem dX12_works_51 : decode mX12_works.2.1 51 = .ok (.iaload, 1) := by decide +kernel
theorem dX12_works_52 : decode mX12_works.2.1 52 = .ok (.ifCond .ne 11, 3) := by decide +kernel
theorem dX12_works_55 : decode mX12_works.2.1 55 = .ok (.aload_n 0, 1) := by decide +kernel
theorem dX12_works_56 : decode mX12_works.2.1 56 = .ok (.iload_n 2, 1) := by decide +kernel
theorem dX12_works_57 : decode mX12_works.2.1 57 = .ok (.invokevirtual 597, 3) := by decide +kernel
theorem dX12_works_60 : decode mX12_works.2.1 60 = .ok (.goto 54, 3) := by decide +kernel
theorem dX12_works_63 : decode mX12_works.2.1 63 = .ok (.aload_n 0, 1) := by decide +kernel
theorem dX12_works_64 : decode mX12_works.2.1 64 = .ok (.getfield 246, 3) := by decide +kernel
theorem dX12_works_67 : decode mX12_works.2.1 67 = .ok (.iload_n 1, 1) := by decide +kernel
theorem dX12_works_68 : decode mX12_works.2.1 68 = .ok (.aload_n 0, 1) := by decide +kernel
theorem dX12_works_69 : decode mX12_works.2.1 69 = .ok (.getfield 246, 3) := by decide +kernel
theorem dX12_works_72 : decode mX12_works.2.1 72 = .ok (.iload_n 2, 1) := by decide +kernel
theorem dX12_works_73 : decode mX12_works.2.1 73 = .ok (.iaload, 1) := by decide +kernel
theorem dX12_works_74 : decode mX12_works.2.1 74 = .ok (.iastore, 1) := by decide +kernel
theorem dX12_works_75 : decode mX12_works.2.1 75 = .ok (.aload_n 0, 1) := by decide +kernel
theorem dX12_works_76 : decode mX12_works.2.1 76 = .ok (.getfield 249, 3) := by decide +kernel
theorem dX12_works_79 : decode mX12_works.2.1 79 = .ok (.iload_n 1, 1) := by decide +kernel
theorem dX12_works_80 : decode mX12_works.2.1 80 = .ok (.aload_n 0, 1) := by decide +kernel
theorem dX12_works_81 : decode mX12_works.2.1 81 = .ok (.getfield 249, 3) := by decide +kernel
theorem dX12_works_84 : decode mX12_works.2.1 84 = .ok (.iload_n 2, 1) := by decide +kernel
theorem dX12_works_85 : decode mX12_works.2.1 85 = .ok (.iaload, 1) := by decide +kernel
theorem dX12_works_86 : decode mX12_works.2.1 86 = .ok (.iastore, 1) := by decide +kernel
theorem dX12_works_87 : decode mX12_works.2.1 87 = .ok (.aload_n 0, 1) := by decide +kernel
theorem dX12_works_88 : decode mX12_works.2.1 88 = .ok (.getfield 252, 3) := by decide +kernel
theorem dX12_works_91 : decode mX12_works.2.1 91 = .ok (.iload_n 1, 1) := by decide +kernel
theorem dX12_works_92 : decode mX12_works.2.1 92 = .ok (.aload_n 0, 1) := by decide +kernel
theorem dX12_works_93 : decode mX12_works.2.1 93 = .ok (.getfield 252, 3) := by decide +kernel
theorem dX12_works_96 : decode mX12_works.2.1 96 = .ok (.iload_n 2, 1) := by decide +kernel
theorem dX12_works_97 : decode mX12_works.2.1 97 = .ok (.iaload, 1) := by decide +kernel
theorem dX12_works_98 : decode mX12_works.2.1 98 = .ok (.iastore, 1) := by decide +kernel
theorem dX12_works_99 : decode mX12_works.2.1 99 = .ok (.aload_n 0, 1) := by decide +kernel
theorem dX12_works_100 : decode mX12_works.2.1 100 = .ok (.getfield 255, 3) := by decide +kernel
theorem dX12_works_103 : decode mX12_works.2.1 103 = .ok (.iload_n 1, 1) := by decide +kernel
theorem dX12_works_104 : decode mX12_works.2.1 104 = .ok (.aload_n 0, 1) := by decide +kernel
theorem dX12_works_105 : decode mX12_works.2.1 105 = .ok (.getfield 255, 3) := by decide +kernel
theorem dX12_works_108 : decode mX12_works.2.1 108 = .ok (.iload_n 2, 1) := by decide +kernel
theorem dX12_works_109 : decode mX12_works.2.1 109 = .ok (.iaload, 1) := by decide +kernel
theorem dX12_works_110 : decode mX12_works.2.1 110 = .ok (.iastore, 1) := by decide +kernel
theorem dX12_works_111 : decode mX12_works.2.1 111 = .ok (.iinc 1 1, 3) := by decide +kernel
theorem dX12_works_114 : decode mX12_works.2.1 114 = .ok (.iinc 2 1, 3) := by decide +kernel
theorem dX12_works_117 : decode mX12_works.2.1 117 = .ok (.goto (-79), 3) := by decide +kernel
theorem dX12_works_120 : decode mX12_works.2.1 120 = .ok (.aload_n 0, 1) := by decide +kernel
theorem dX12_works_121 : decode mX12_works.2.1 121 = .ok (.iload_n 1, 1) := by decide +kernel
theorem dX12_works_122 : decode mX12_works.2.1 122 = .ok (.putfield 576, 3) := by decide +kernel
theorem dX12_works_125 : decode mX12_works.2.1 125 = .ok (.return_, 1) := by decide +kernel
theorem bX12_works_0 {SC : Nat → Nat} {X : mh_X} {d : Nat} {Q : Option am_V → am_W → Prop} {bc bs : Nat} {w : am_W} 
    (h : am_A (mh_G X) SC (d + 1) mX12_works Q 2 [(0, .inr (.inr (some (9, 0)))), (1, .inl 0)] [] w bc bs) :
    am_A (mh_G X) SC (d + 1) mX12_works Q 0 [(0, .inr (.inr (some (9, 0))))] [] w bc bs := by
  refine am_iconst dX12_works_0 (by unfold am_rg; omega) ?_
  refine am_istore_n (ls' := [(1, .inl 0), (0, .inr (.inr (some (9, 0))))]) dX12_works_1 (by decide) rfl ?_
  exact am_sub [1, 0] rfl h
theorem bX12_works_2 {SC : Nat → Nat} {X : mh_X} {d : Nat} {Q : Option am_V → am_W → Prop} {bc bs : Nat} {w : am_W} {x1 : Int}
    (h : (((w.1 9 0 81) ≤ x1 → am_A (mh_G X) SC (d + 1) mX12_works Q 34 [(0, .inr (.inr (some (9, 0))))] [] w bc bs) ∧ (¬ (w.1 9 0 81) ≤ x1 → (((w.1 9 0 76) ≤ x1 → am_A (mh_G X) SC (d + 1) mX12_works Q 34 [(0, .inr (.inr (some (9, 0))))] [] w bc bs) ∧ (¬ (w.1 9 0 76) ≤ x1 → (0 ≤ x1 ∧ (x1 < 20 ∧ am_A (mh_G X) SC (d + 1) mX12_works Q 2 [(0, .inr (.inr (some (9, 0)))), (1, .inl (am_w (x1 + 1)))] [] ((am_up w.1 132 0 x1.toNat (am_w ((w.1 132 0 x1.toNat) - 1))), w.2) bc bs))))))) :
    am_A (mh_G X) SC (d + 1) mX12_works Q 2 [(0, .inr (.inr (some (9, 0)))), (1, .inl x1)] [] w bc bs := by
  refine am_iload_n dX12_works_2 (List.Mem.tail _ (List.Mem.head _)) ?_
  refine am_aload_n dX12_works_3 (List.Mem.head _) ?_
  refine am_getf (f := 81) (v := .inl (w.1 9 0 81)) dX12_works_4 hc_10 (by decide) wd_1630 (by decide) rfl rfl ?_
  refine am_icmpge (tgt := 34) dX12_works_7 (by decide) (fun c1 => ?_) (fun c1 => ?_)
  · replace h := h.1 c1
    exact am_sub [0] rfl h
  · replace h := h.2 c1
    refine am_iload_n dX12_works_10 (List.Mem.tail _ (List.Mem.head _)) ?_
    refine am_aload_n dX12_works_11 (List.Mem.head _) ?_
    refine am_getf (f := 76) (v := .inl (w.1 9 0 76)) dX12_works_12 hc_10 (by decide) wd_1625 (by decide) rfl rfl ?_
    refine am_icmpge (tgt := 34) dX12_works_15 (by decide) (fun c2 => ?_) (fun c2 => ?_)
    · replace h := h.1 c2
      exact am_sub [0] rfl h
    · replace h := h.2 c2
      refine am_aload_n dX12_works_18 (List.Mem.head _) ?_
      refine am_getf (f := 80) (v := .inr (.inr (some (132, 0)))) dX12_works_19 hc_10 (by decide) wd_1629 (by decide) rfl rfl ?_
      refine am_iload_n dX12_works_22 (List.Mem.tail _ (List.Mem.head _)) ?_
      refine am_dup2 dX12_works_23 rfl rfl ?_
      have o3 := h.1
      replace h := h.2
      have o4 := h.1
      replace h := h.2
      refine am_iaload (v := (w.1 132 0 x1.toNat)) dX12_works_24 (by decide) rfl o3 o4 rfl ?_
      refine am_iconst dX12_works_25 (by unfold am_rg; omega) ?_
      refine am_isub dX12_works_26 ?_
      refine am_iastore dX12_works_27 (Or.inl (by decide)) rfl o3 o4 ?_
      refine am_iinc (ls' := [(1, .inl (am_w (x1 + 1))), (0, .inr (.inr (some (9, 0))))]) dX12_works_28 (List.Mem.tail _ (List.Mem.head _)) (by decide) rfl ?_
      refine am_goto (tgt := 2) dX12_works_31 (by decide) ?_
      exact am_sub [1, 0] rfl h
theorem bX12_works_34 {SC : Nat → Nat} {X : mh_X} {d : Nat} {Q : Option am_V → am_W → Prop} {bc bs : Nat} {w : am_W} 
    (h : am_A (mh_G X) SC (d + 1) mX12_works Q 38 [(0, .inr (.inr (some (9, 0)))), (1, .inl 0), (2, .inl 0)] [] w bc bs) :
    am_A (mh_G X) SC (d + 1) mX12_works Q 34 [(0, .inr (.inr (some (9, 0))))] [] w bc bs := by
  refine am_iconst dX12_works_34 (by unfold am_rg; omega) ?_
  refine am_istore_n (ls' := [(1, .inl 0), (0, .inr (.inr (some (9, 0))))]) dX12_works_35 (by decide) rfl ?_
  refine am_iconst dX12_works_36 (by unfold am_rg; omega) ?_
  refine am_istore_n (ls' := [(2, .inl 0), (1, .inl 0), (0, .inr (.inr (some (9, 0))))]) dX12_works_37 (by decide) rfl ?_
  exact am_sub [2, 1, 0] rfl h
theorem bX12_works_38 {SC : Nat → Nat} {X : mh_X} {d : Nat} {Q : Option am_V → am_W → Prop} {bc bs : Nat} {w : am_W} {x1 : Int} {x2 : Int}
    (h : (((w.1 9 0 81) ≤ x2 → Q none ((am_up w.1 9 0 81 x1), w.2)) ∧ (¬ (w.1 9 0 81) ≤ x2 → (0 ≤ x2 ∧ (x2 < 20 ∧ ((¬ (w.1 132 0 x2.toNat) = 0 → (0 ≤ x1 ∧ (x1 < 20 ∧ am_A (mh_G X) SC (d + 1) mX12_works Q 114 [(0, .inr (.inr (some (9, 0)))), (1, .inl (am_w (x1 + 1))), (2, .inl x2)] [] ((am_up (am_up (am_up (am_up w.1 129 0 x1.toNat (w.1 129 0 x2.toNat)) 130 0 x1.toNat (w.1 130 0 x2.toNat)) 131 0 x1.toNat (w.1 131 0 x2.toNat)) 132 0 x1.toNat (w.1 132 0 x2.toNat)), w.2) bc bs))) ∧ ((w.1 132 0 x2.toNat) = 0 → am_M (mh_G X) SC d 0 0 mX12_done [.inr (.inr (some (9, 0))), .inl x2] w (fun r w1 => am_A (mh_G X) SC (d + 1) mX12_works Q 60 [(0, .inr (.inr (some (9, 0)))), (1, .inl x1), (2, .inl x2)] (r.toList ++ []) w1 bc bs)))))))) :
    am_A (mh_G X) SC (d + 1) mX12_works Q 38 [(0, .inr (.inr (some (9, 0)))), (1, .inl x1), (2, .inl x2)] [] w bc bs := by
  refine am_iload_n dX12_works_38 (List.Mem.tail _ (List.Mem.tail _ (List.Mem.head _))) ?_
  refine am_aload_n dX12_works_39 (List.Mem.head _) ?_
  refine am_getf (f := 81) (v := .inl (w.1 9 0 81)) dX12_works_40 hc_10 (by decide) wd_1630 (by decide) rfl rfl ?_
  refine am_icmpge (tgt := 120) dX12_works_43 (by decide) (fun c1 => ?_) (fun c1 => ?_)
  · replace h := h.1 c1
    refine am_aload_n dX12_works_120 (List.Mem.head _) ?_
    refine am_iload_n dX12_works_121 (List.Mem.tail _ (List.Mem.head _)) ?_
    refine am_putf (f := 81) dX12_works_122 hc_10 (by decide) wd_1630 rfl (Or.inl rfl) (Or.inl (by decide)) rfl ?_
    exact am_ret (r := none) dX12_works_125 rfl rfl h
  · replace h := h.2 c1
    refine am_aload_n dX12_works_46 (List.Mem.head _) ?_
    refine am_getf (f := 80) (v := .inr (.inr (some (132, 0)))) dX12_works_47 hc_10 (by decide) wd_1629 (by decide) rfl rfl ?_
    refine am_iload_n dX12_works_50 (List.Mem.tail _ (List.Mem.tail _ (List.Mem.head _))) ?_
    have o2 := h.1
    replace h := h.2
    have o3 := h.1
    replace h := h.2
    refine am_iaload (v := (w.1 132 0 x2.toNat)) dX12_works_51 (by decide) rfl o2 o3 rfl ?_
    refine am_ifne (tgt := 63) dX12_works_52 (by decide) (fun c4 => ?_) (fun c4 => ?_)
    · replace h := h.1 c4
      refine am_aload_n dX12_works_63 (List.Mem.head _) ?_
      refine am_getf (f := 77) (v := .inr (.inr (some (129, 0)))) dX12_works_64 hc_10 (by decide) wd_1626 (by decide) rfl rfl ?_
      refine am_iload_n dX12_works_67 (List.Mem.tail _ (List.Mem.head _)) ?_
      refine am_aload_n dX12_works_68 (List.Mem.head _) ?_
      refine am_getf (f := 77) (v := .inr (.inr (some (129, 0)))) dX12_works_69 hc_10 (by decide) wd_1626 (by decide) rfl rfl ?_
      refine am_iload_n dX12_works_72 (List.Mem.tail _ (List.Mem.tail _ (List.Mem.head _))) ?_
      refine am_iaload (v := (w.1 129 0 x2.toNat)) dX12_works_73 (by decide) rfl o2 o3 rfl ?_
      have o5 := h.1
      replace h := h.2
      have o6 := h.1
      replace h := h.2
      refine am_iastore dX12_works_74 (Or.inl (by decide)) rfl o5 o6 ?_
      refine am_aload_n dX12_works_75 (List.Mem.head _) ?_
      refine am_getf (f := 78) (v := .inr (.inr (some (130, 0)))) dX12_works_76 hc_10 (by decide) wd_1627 (by decide) rfl rfl ?_
      refine am_iload_n dX12_works_79 (List.Mem.tail _ (List.Mem.head _)) ?_
      refine am_aload_n dX12_works_80 (List.Mem.head _) ?_
      refine am_getf (f := 78) (v := .inr (.inr (some (130, 0)))) dX12_works_81 hc_10 (by decide) wd_1627 (by decide) rfl rfl ?_
      refine am_iload_n dX12_works_84 (List.Mem.tail _ (List.Mem.tail _ (List.Mem.head _))) ?_
      refine am_iaload (v := (w.1 130 0 x2.toNat)) dX12_works_85 (by decide) rfl o2 o3 rfl ?_
      refine am_iastore dX12_works_86 (Or.inl (by decide)) rfl o5 o6 ?_
      refine am_aload_n dX12_works_87 (List.Mem.head _) ?_
      refine am_getf (f := 79) (v := .inr (.inr (some (131, 0)))) dX12_works_88 hc_10 (by decide) wd_1628 (by decide) rfl rfl ?_
      refine am_iload_n dX12_works_91 (List.Mem.tail _ (List.Mem.head _)) ?_
      refine am_aload_n dX12_works_92 (List.Mem.head _) ?_
      refine am_getf (f := 79) (v := .inr (.inr (some (131, 0)))) dX12_works_93 hc_10 (by decide) wd_1628 (by decide) rfl rfl ?_
      refine am_iload_n dX12_works_96 (List.Mem.tail _ (List.Mem.tail _ (List.Mem.head _))) ?_
      refine am_iaload (v := (w.1 131 0 x2.toNat)) dX12_works_97 (by decide) rfl o2 o3 rfl ?_
      refine am_iastore dX12_works_98 (Or.inl (by decide)) rfl o5 o6 ?_
      refine am_aload_n dX12_works_99 (List.Mem.head _) ?_
      refine am_getf (f := 80) (v := .inr (.inr (some (132, 0)))) dX12_works_100 hc_10 (by decide) wd_1629 (by decide) rfl rfl ?_
      refine am_iload_n dX12_works_103 (List.Mem.tail _ (List.Mem.head _)) ?_
      refine am_aload_n dX12_works_104 (List.Mem.head _) ?_
      refine am_getf (f := 80) (v := .inr (.inr (some (132, 0)))) dX12_works_105 hc_10 (by decide) wd_1629 (by decide) rfl rfl ?_
      refine am_iload_n dX12_works_108 (List.Mem.tail _ (List.Mem.tail _ (List.Mem.head _))) ?_
      refine am_iaload (v := (w.1 132 0 x2.toNat)) dX12_works_109 (by decide) rfl o2 o3 rfl ?_
      refine am_iastore dX12_works_110 (Or.inl (by decide)) rfl o5 o6 ?_
      refine am_iinc (ls' := [(1, .inl (am_w (x1 + 1))), (0, .inr (.inr (some (9, 0)))), (2, .inl x2)]) dX12_works_111 (List.Mem.tail _ (List.Mem.head _)) (by decide) rfl ?_
      exact am_sub [1, 0, 2] rfl h
    · replace h := h.2 c4
      refine am_aload_n dX12_works_55 (List.Mem.head _) ?_
      refine am_iload_n dX12_works_56 (List.Mem.tail _ (List.Mem.tail _ (List.Mem.head _))) ?_
      exact am_callv (d' := d) (kc := 0) (ks := 0) (as := [.inl x2]) dX12_works_57 wc_X12_done wd_2010 wd_2012 wd_72 wd_122 ds_X12_done (by decide) (Nat.le_refl _) (Nat.le_of_ble_eq_true rfl) (Nat.zero_le _) (Nat.zero_le _) hc_10 (by decide) rfl rfl h
theorem bX12_works_114 {SC : Nat → Nat} {X : mh_X} {d : Nat} {Q : Option am_V → am_W → Prop} {bc bs : Nat} {w : am_W} {x1 : Int} {x2 : Int}
    (h : am_A (mh_G X) SC (d + 1) mX12_works Q 38 [(0, .inr (.inr (some (9, 0)))), (1, .inl x1), (2, .inl (am_w (x2 + 1)))] [] w bc bs) :
    am_A (mh_G X) SC (d + 1) mX12_works Q 114 [(0, .inr (.inr (some (9, 0)))), (1, .inl x1), (2, .inl x2)] [] w bc bs := by
  refine am_iinc (ls' := [(2, .inl (am_w (x2 + 1))), (0, .inr (.inr (some (9, 0)))), (1, .inl x1)]) dX12_works_114 (List.Mem.tail _ (List.Mem.tail _ (List.Mem.head _))) (by decide) rfl ?_
  refine am_goto (tgt := 38) dX12_works_117 (by decide) ?_
  exact am_sub [1, 2, 0] rfl h
theorem bX12_works_60 {SC : Nat → Nat} {X : mh_X} {d : Nat} {Q : Option am_V → am_W → Prop} {bc bs : Nat} {w : am_W} {x1 : Int} {x2 : Int}
    (h : am_A (mh_G X) SC (d + 1) mX12_works Q 114 [(0, .inr (.inr (some (9, 0)))), (1, .inl x1), (2, .inl x2)] [] w bc bs) :
    am_A (mh_G X) SC (d + 1) mX12_works Q 60 [(0, .inr (.inr (some (9, 0)))), (1, .inl x1), (2, .inl x2)] [] w bc bs := by
  refine am_goto (tgt := 114) dX12_works_60 (by decide) ?_
  exact h
-- MourningHouseModel.isInTime()Z
theorem dX12_isInTime_0 : decode mX12_isInTime.2.1 0 = .ok (.iconst 0, 1) := by decide +kernel
theorem dX12_isInTime_1 : decode mX12_isInTime.2.1 1 = .ok (.istore_n 1, 1) := by decide +kernel
theorem dX12_isInTime_2 : decode mX12_isInTime.2.1 2 = .ok (.iconst 0, 1) := by decide +kernel
theorem dX12_isInTime_3 : decode mX12_isInTime.2.1 3 = .ok (.istore_n 2, 1) := by decide +kernel
theorem dX12_isInTime_4 : decode mX12_isInTime.2.1 4 = .ok (.iload_n 2, 1) := by decide +kernel
theorem dX12_isInTime_5 : decode mX12_isInTime.2.1 5 = .ok (.aload_n 0, 1) := by decide +kernel
theorem dX12_isInTime_6 : decode mX12_isInTime.2.1 6 = .ok (.getfield 576, 3) := by decide +kernel
theorem dX12_isInTime_9 : decode mX12_isInTime.2.1 9 = .ok (.if_icmp .ge 24, 3) := by decide +kernel
theorem dX12_isInTime_12 : decode mX12_isInTime.2.1 12 = .ok (.aload_n 0, 1) := by decide +kernel
theorem dX12_isInTime_13 : decode mX12_isInTime.2.1 13 = .ok (.getfield 282, 3) := by decide +kernel
theorem dX12_isInTime_16 : decode mX12_isInTime.2.1 16 = .ok (.iload_n 1, 1) := by decide +kernel
theorem dX12_isInTime_17 : decode mX12_isInTime.2.1 17 = .ok (.iinc 1 1, 3) := by decide +kernel
theorem dX12_isInTime_20 : decode mX12_isInTime.2.1 20 = .ok (.aload_n 0, 1) := by decide +kernel
theorem dX12_isInTime_21 : decode mX12_isInTime.2.1 21 = .ok (.getfield 255, 3) := by decide +kernel
theorem dX12_isInTime_24 : decode mX12_isInTime.2.1 24 = .ok (.iload_n 2, 1) := by decide +kernel
theorem dX12_isInTime_25 : decode mX12_isInTime.2.1 25 = .ok (.iaload, 1) := by decide +kernel
theorem dX12_isInTime_26 : decode mX12_isInTime.2.1 26 = .ok (.iastore, 1) := by decide +kernel
theorem dX12_isInTime_27 : decode mX12_isInTime.2.1 27 = .ok (.iinc 2 1, 3) := by decide +kernel
theorem dX12_isInTime_30 : decode mX12_isInTime.2.1 30 = .ok (.goto (-26), 3) := by decide +kernel
theorem dX12_isInTime_33 : decode mX12_isInTime.2.1 33 = .ok (.iconst 0, 1) := by decide +kernel
theorem dX12_isInTime_34 : decode mX12_isInTime.2.1 34 = .ok (.istore_n 2, 1) := by decide +kernel
theorem dX12_isInTime_35 : decode mX12_isInTime.2.1 35 = .ok (.iload_n 2, 1) := by decide +kernel
theorem dX12_isInTime_36 : decode mX12_isInTime.2.1 36 = .ok (.aload_n 0, 1) := by decide +kernel
theorem dX12_isInTime_37 : decode mX12_isInTime.2.1 37 = .ok (.getfield 600, 3) := by decide +kernel
theorem dX12_isInTime_40 : decode mX12_isInTime.2.1 40 = .ok (.if_icmp .ge 53, 3) := by decide +kernel
theorem dX12_isInTime_43 : decode mX12_isInTime.2.1 43 = .ok (.aload_n 0, 1) := by decide +kernel
theorem dX12_isInTime_44 : decode mX12_isInTime.2.1 44 = .ok (.getfield 264, 3) := by decide +kernel
theorem dX12_isInTime_47 : decode mX12_isInTime.2.1 47 = .ok (.iload_n 2, 1) := by decide +kernel
theorem dX12_isInTime_48 : decode mX12_isInTime.2.1 48 = .ok (.iaload, 1) := by decide +kernel
theorem dX12_isInTime_49 : decode mX12_isInTime.2.1 49 = .ok (.iconst 2, 1) := by decide +kernel
theorem dX12_isInTime_50 : decode mX12_isInTime.2.1 50 = .ok (.if_icmp .eq 13, 3) := by decide +kernel
theorem dX12_isInTime_53 : decode mX12_isInTime.2.1 53 = .ok (.aload_n 0, 1) := by decide +kernel
theorem dX12_isInTime_54 : decode mX12_isInTime.2.1 54 = .ok (.getfield 264, 3) := by decide +kernel
theorem dX12_isInTime_57 : decode mX12_isInTime.2.1 57 = .ok (.iload_n 2, 1) := by decide +kernel
theorem dX12_isInTime_58 : decode mX12_isInTime.2.1 58 = .ok (.iaload, 1) := by decide +kernel
theorem dX12_isInTime_59 : decode mX12_isInTime.2.1 59 = .ok (.iconst 3, 1) := by decide +kernel
theorem dX12_isInTime_60 : decode mX12_isInTime.2.1 60 = .ok (.if_icmp .ne 27, 3) := by decide +kernel
theorem dX12_isInTime_63 : decode mX12_isInTime.2.1 63 = .ok (.aload_n 0, 1) := by decide +kernel
theorem dX12_isInTime_64 : decode mX12_isInTime.2.1 64 = .ok (.getfield 282, 3) := by decide +kernel
theorem dX12_isInTime_67 : decode mX12_isInTime.2.1 67 = .ok (.iload_n 1, 1) := by decide +kernel
theorem dX12_isInTime_68 : decode mX12_isInTime.2.1 68 = .ok (.iinc 1 1, 3) := by decide +kernel
theorem dX12_isInTime_71 : decode mX12_isInTime.2.1 71 = .ok (.aload_n 0, 1) := by decide +kernel
theorem dX12_isInTime_72 : decode mX12_isInTime.2.1 72 = .ok (.getfield 264, 3) := by decide +kernel
theorem dX12_isInTime_75 : decode mX12_isInTime.2.1 75 = .ok (.iload_n 2, 1) := by decide +kernel
theorem dX12_isInTime_76 : decode mX12_isInTime.2.1 76 = .ok (.iaload, 1) := by decide +kernel
theorem dX12_isInTime_77 : decode mX12_isInTime.2.1 77 = .ok (.iconst 2, 1) := by decide +kernel
theorem dX12_isInTime_78 : decode mX12_isInTime.2.1 78 = .ok (.if_icmp .ne 7, 3) := by decide +kernel
theorem dX12_isInTime_81 : decode mX12_isInTime.2.1 81 = .ok (.iconst 2, 1) := by decide +kernel
theorem dX12_isInTime_82 : decode mX12_isInTime.2.1 82 = .ok (.goto 4, 3) := by decide +kernel
theorem dX12_isInTime_85 : decode mX12_isInTime.2.1 85 = .ok (.iconst 3, 1) := by decide +kernel
theorem dX12_isInTime_86 : decode mX12_isInTime.2.1 86 = .ok (.iastore, 1) := by decide +kernel
theorem dX12_isInTime_87 : decode mX12_isInTime.2.1 87 = .ok (.iinc 2 1, 3) := by decide +kernel
theorem dX12_isInTime_90 : decode mX12_isInTime.2.1 90 = .ok (.goto (-55), 3) := by decide +kernel
theorem dX12_isInTime_93 : decode mX12_isInTime.2.1 93 = .ok (.iload_n 1, 1) := by decide +kernel
theorem dX12_isInTime_94 : decode mX12_isInTime.2.1 94 = .ok (.aload_n 0, 1) := by decide +kernel
theorem dX12_isInTime_95 : decode mX12_isInTime.2.1 95 = .ok (.getfield 576, 3) := by decide +kernel
theorem dX12_isInTime_98 : decode mX12_isInTime.2.1 98 = .ok (.isub, 1) := by decide +kernel
theorem dX12_isInTime_99 : decode mX12_isInTime.2.1 99 = .ok (.istore_n 2, 1) := by decide +kernel
theorem dX12_isInTime_100 : decode mX12_isInTime.2.1 100 = .ok (.iconst 0, 1) := by decide +kernel
theorem dX12_isInTime_101 : decode mX12_isInTime.2.1 101 = .ok (.istore_n 3, 1) := by decide +kernel
theorem dX12_isInTime_102 : decode mX12_isInTime.2.1 102 = .ok (.iload_n 3, 1) := by decide +kernel
theorem dX12_isInTime_103 : decode mX12_isInTime.2.1 103 = .ok (.aload_n 0, 1) := by decide +kernel
theorem dX12_isInTime_104 : decode mX12_isInTime.2.1 104 = .ok (.getfield 603, 3) := by decide +kernel
theorem dX12_isInTime_107 : decode mX12_isInTime.2.1 107 = .ok (.if_icmp .ge 62, 3) := by decide +kernel
theorem dX12_isInTime_110 : decode mX12_isInTime.2.1 110 = .ok (.aload_n 0, 1) := by decide +kernel
theorem dX12_isInTime_111 : decode mX12_isInTime.2.1 111 = .ok (.getfield 588, 3) := by decide +kernel
theorem dX12_isInTime_114 : decode mX12_isInTime.2.1 114 = .ok (.istore 4, 2) := by decide +kernel
theorem dX12_isInTime_116 : decode mX12_isInTime.2.1 116 = .ok (.iconst 0, 1) := by decide +kernel
theorem dX12_isInTime_117 : decode mX12_isInTime.2.1 117 = .ok (.istore 5, 2) := by decide +kernel
theorem dX12_isInTime_119 : decode mX12_isInTime.2.1 119 = .ok (.iload 5, 2) := by decide +kernel
theorem dX12_isInTime_121 : decode mX12_isInTime.2.1 121 = .ok (.iload_n 1, 1) := by decide +kernel
theorem dX12_isInTime_122 : decode mX12_isInTime.2.1 122 = .ok (.if_icmp .ge 41, 3) := by decide +kernel
theorem dX12_isInTime_125 : decode mX12_isInTime.2.1 125 = .ok (.iload 4, 2) := by decide +kernel
theorem dX12_isInTime_127 : decode mX12_isInTime.2.1 127 = .ok (.ifCond .le 36, 3) := by decide +kernel
theorem dX12_isInTime_130 : decode mX12_isInTime.2.1 130 = .ok (.aload_n 0, 1) := by decide +kernel
theorem dX12_isInTime_131 : decode mX12_isInTime.2.1 131 = .ok (.getfield 282, 3) := by decide +kernel
theorem dX12_isInTime_134 : decode mX12_isInTime.2.1 134 = .ok (.iload 5, 2) := by decide +kernel
theorem dX12_isInTime_136 : decode mX12_isInTime.2.1 136 = .ok (.iaload, 1) := by decide +kernel
theorem dX12_isInTime_137 : decode mX12_isInTime.2.1 137 = .ok (.ifCond .ne 6, 3) := by decide +kernel
theorem dX12_isInTime_140 : decode mX12_isInTime.2.1 140 = .ok (.goto 17, 3) := by decide +kernel
theorem dX12_isInTime_143 : decode mX12_isInTime.2.1 143 = .ok (.aload_n 0, 1) := by decide +kernel
theorem dX12_isInTime_144 : decode mX12_isInTime.2.1 144 = .ok (.getfield 282, 3) := by decide +kernel
theorem dX12_isInTime_147 : decode mX12_isInTime.2.1 147 = .ok (.iload 5, 2) := by decide +kernel
theorem dX12_isInTime_149 : decode mX12_isInTime.2.1 149 = .ok (.dup2, 1) := by decide +kernel
theorem dX12_isInTime_150 : decode mX12_isInTime.2.1 150 = .ok (.iaload, 1) := by decide +kernel
theorem dX12_isInTime_151 : decode mX12_isInTime.2.1 151 = .ok (.iconst 1, 1) := by decide +kernel
theorem dX12_isInTime_152 : decode mX12_isInTime.2.1 152 = .ok (.isub, 1) := by decide +kernel
theorem dX12_isInTime_153 : decode mX12_isInTime.2.1 153 = .ok (.iastore, 1) := by decide +kernel
theorem dX12_isInTime_154 : decode mX12_isInTime.2.1 154 = .ok (.iinc 4 (-1), 3) := by decide +kernel
theorem dX12_isInTime_157 : decode mX12_isInTime.2.1 157 = .ok (.iinc 5 1, 3) := by decide +kernel
theorem dX12_isInTime_160 : decode mX12_isInTime.2.1 160 = .ok (.goto (-41), 3) := by decide +kernel
theorem dX12_isInTime_163 : decode mX12_isInTime.2.1 163 = .ok (.iinc 3 1, 3) := by decide +kernel
theorem dX12_isInTime_166 : decode mX12_isInTime.2.1 166 = .ok (.goto (-64), 3) := by decide +kernel
theorem dX12_isInTime_169 : decode mX12_isInTime.2.1 169 = .ok (.iconst 0, 1) := by decide +kernel
theorem dX12_isInTime_170 : decode mX12_isInTime.2.1 170 = .ok (.istore_n 3, 1) := by decide +kernel
theorem dX12_isInTime_171 : decode mX12_isInTime.2.1 171 = .ok (.iload_n 1, 1) := by decide +kernel
theorem dX12_isInTime_172 : decode mX12_isInTime.2.1 172 = .ok (.iload_n 2, 1) := by decide +kernel
theorem dX12_isInTime_173 : decode mX12_isInTime.2.1 173 = .ok (.isub, 1) := by decide +kernel
theorem dX12_isInTime_174 : decode mX12_isInTime.2.1 174 = .ok (.istore 4, 2) := by decide +kernel
theorem dX12_isInTime_176 : decode mX12_isInTime.2.1 176 = .ok (.iload 4, 2) := by decide +kernel
theorem dX12_isInTime_178 : decode mX12_isInTime.2.1 178 = .ok (.iload_n 1, 1) := by decide +kernel
theorem dX12_isInTime_179 : decode mX12_isInTime.2.1 179 = .ok (.if_icmp .ge 19, 3) := by decide +kernel
theorem dX12_isInTime_182 : decode mX12_isInTime.2.1 182 = .ok (.iload_n 3, 1) := by decide +kernel
theorem dX12_isInTime_183 : decode mX12_isInTime.2.1 183 = .ok (.aload_n 0, 1) := by decide +kernel
theorem dX12_isInTime_184 : decode mX12_isInTime.2.1 184 = .ok (.getfield 282, 3) := by decide +kernel
theorem dX12_isInTime_187 : decode mX12_isInTime.2.1 187 = .ok (.iload 4, 2) := by decide +kernel
theorem dX12_isInTime_189 : decode mX12_isInTime.2.1 189 = .ok (.iaload, 1) := by decide +kernel
theorem dX12_isInTime_190 : decode mX12_isInTime.2.1 190 = .ok (.iadd, 1) := by decide +kernel
theorem dX12_isInTime_191 : decode mX12_isInTime.2.1 191 = .ok (.istore_n 3, 1) := by decide +kernel
theorem dX12_isInTime_192 : decode mX12_isInTime.2.1 192 = .ok (.iinc 4 1, 3) := by decide +kernel
theorem dX12_isInTime_195 : decode mX12_isInTime.2.1 195 = .ok (.goto (-19), 3) := by decide +kernel
theorem dX12_isInTime_198 : decode mX12_isInTime.2.1 198 = .ok (.iload_n 3, 1) := by decide +kernel
theorem dX12_isInTime_199 : decode mX12_isInTime.2.1 199 = .ok (.ifCond .ne 7, 3) := by decide +kernel
theorem dX12_isInTime_202 : decode mX12_isInTime.2.1 202 = .ok (.iconst 1, 1) := by decide +kernel
theorem dX12_isInTime_203 : decode mX12_isInTime.2.1 203 = .ok (.goto 4, 3) := by decide +kernel
theorem dX12_isInTime_206 : decode mX12_isInTime.2.1 206 = .ok (.iconst 0, 1) := by decide +kernel
theorem dX12_isInTime_207 : decode mX12_isInTime.2.1 207 = .ok (.ireturn, 1) := by decide +kernel
theorem bX12_isInTime_0 {SC : Nat → Nat} {X : mh_X} {d : Nat} {Q : Option am_V → am_W → Prop} {bc bs : Nat} {w : am_W} 
    (h : am_A (mh_G X) SC (d + 1) mX12_isInTime Q 4 [(0, .inr (.inr (some (9, 0)))), (1, .inl 0), (2, .inl 0)] [] w bc bs) :
    am_A (mh_G X) SC (d + 1) mX12_isInTime Q 0 [(0, .inr (.inr (some (9, 0))))] [] w bc bs := by
  refine am_iconst dX12_isInTime_0 (by unfold am_rg; omega) ?_
  refine am_istore_n (ls' := [(1, .inl 0), (0, .inr (.inr (some (9, 0))))]) dX12_isInTime_1 (by decide) rfl ?_
  refine am_iconst dX12_isInTime_2 (by unfold am_rg; omega) ?_
  refine am_istore_n (ls' := [(2, .inl 0), (1, .inl 0), (0, .inr (.inr (some (9, 0))))]) dX12_isInTime_3 (by decide) rfl ?_
  exact am_sub [2, 1, 0] rfl h
theorem bX12_isInTime_4 {SC : Nat → Nat} {X : mh_X} {d : Nat} {Q : Option am_V → am_W → Prop} {bc bs : Nat} {w : am_W} {x1 : Int} {x2 : Int}
    (h : (((w.1 9 0 81) ≤ x2 → am_A (mh_G X) SC (d + 1) mX12_isInTime Q 35 [(0, .inr (.inr (some (9, 0)))), (1, .inl x1), (2, .inl 0)] [] w bc bs) ∧ (¬ (w.1 9 0 81) ≤ x2 → (0 ≤ x2 ∧ (x2 < 20 ∧ (0 ≤ x1 ∧ (x1 < 25 ∧ am_A (mh_G X) SC (d + 1) mX12_isInTime Q 4 [(0, .inr (.inr (some (9, 0)))), (1, .inl (am_w (x1 + 1))), (2, .inl (am_w (x2 + 1)))] [] ((am_up w.1 141 0 x1.toNat (w.1 132 0 x2.toNat)), w.2) bc bs))))))) :
    am_A (mh_G X) SC (d + 1) mX12_isInTime Q 4 [(0, .inr (.inr (some (9, 0)))), (1, .inl x1), (2, .inl x2)] [] w bc bs := by
  refine am_iload_n dX12_isInTime_4 (List.Mem.tail _ (List.Mem.tail _ (List.Mem.head _))) ?_
  refine am_aload_n dX12_isInTime_5 (List.Mem.head _) ?_
  refine am_getf (f := 81) (v := .inl (w.1 9 0 81)) dX12_isInTime_6 hc_10 (by decide) wd_1630 (by decide) rfl rfl ?_
  refine am_icmpge (tgt := 33) dX12_isInTime_9 (by decide) (fun c1 => ?_) (fun c1 => ?_)
  · replace h := h.1 c1
    refine am_iconst dX12_isInTime_33 (by unfold am_rg; omega) ?_
    refine am_istore_n (ls' := [(2, .inl 0), (0, .inr (.inr (some (9, 0)))), (1, .inl x1)]) dX12_isInTime_34 (by decide) rfl ?_
    exact am_sub [1, 2, 0] rfl h
  · replace h := h.2 c1
    refine am_aload_n dX12_isInTime_12 (List.Mem.head _) ?_
    refine am_getf (f := 90) (v := .inr (.inr (some (141, 0)))) dX12_isInTime_13 hc_10 (by decide) wd_1639 (by decide) rfl rfl ?_
    refine am_iload_n dX12_isInTime_16 (List.Mem.tail _ (List.Mem.head _)) ?_
    refine am_iinc (ls' := [(1, .inl (am_w (x1 + 1))), (0, .inr (.inr (some (9, 0)))), (2, .inl x2)]) dX12_isInTime_17 (List.Mem.tail _ (List.Mem.head _)) (by decide) rfl ?_
    refine am_aload_n dX12_isInTime_20 (List.Mem.tail _ (List.Mem.head _)) ?_
    refine am_getf (f := 80) (v := .inr (.inr (some (132, 0)))) dX12_isInTime_21 hc_10 (by decide) wd_1629 (by decide) rfl rfl ?_
    refine am_iload_n dX12_isInTime_24 (List.Mem.tail _ (List.Mem.tail _ (List.Mem.head _))) ?_
    have o2 := h.1
    replace h := h.2
    have o3 := h.1
    replace h := h.2
    refine am_iaload (v := (w.1 132 0 x2.toNat)) dX12_isInTime_25 (by decide) rfl o2 o3 rfl ?_
    have o4 := h.1
    replace h := h.2
    have o5 := h.1
    replace h := h.2
    refine am_iastore dX12_isInTime_26 (Or.inl (by decide)) rfl o4 o5 ?_
    refine am_iinc (ls' := [(2, .inl (am_w (x2 + 1))), (1, .inl (am_w (x1 + 1))), (0, .inr (.inr (some (9, 0))))]) dX12_isInTime_27 (List.Mem.tail _ (List.Mem.tail _ (List.Mem.head _))) (by decide) rfl ?_
    refine am_goto (tgt := 4) dX12_isInTime_30 (by decide) ?_
    exact am_sub [2, 1, 0] rfl h
theorem bX12_isInTime_35 {SC : Nat → Nat} {X : mh_X} {d : Nat} {Q : Option am_V → am_W → Prop} {bc bs : Nat} {w : am_W} {x1 : Int} {x2 : Int}
    (h : (((w.1 9 0 91) ≤ x2 → am_A (mh_G X) SC (d + 1) mX12_isInTime Q 102 [(0, .inr (.inr (some (9, 0)))), (1, .inl x1), (2, .inl (am_w (x1 - (w.1 9 0 81)))), (3, .inl 0)] [] w bc bs) ∧ (¬ (w.1 9 0 91) ≤ x2 → (0 ≤ x2 ∧ (x2 < 5 ∧ (((w.1 135 0 x2.toNat) = 2 → am_A (mh_G X) SC (d + 1) mX12_isInTime Q 63 [(0, .inr (.inr (some (9, 0)))), (1, .inl x1), (2, .inl x2)] [] w bc bs) ∧ (¬ (w.1 135 0 x2.toNat) = 2 → ((¬ (w.1 135 0 x2.toNat) = 3 → am_A (mh_G X) SC (d + 1) mX12_isInTime Q 87 [(0, .inr (.inr (some (9, 0)))), (1, .inl x1), (2, .inl x2)] [] w bc bs) ∧ ((w.1 135 0 x2.toNat) = 3 → am_A (mh_G X) SC (d + 1) mX12_isInTime Q 63 [(0, .inr (.inr (some (9, 0)))), (1, .inl x1), (2, .inl x2)] [] w bc bs))))))))) :
    am_A (mh_G X) SC (d + 1) mX12_isInTime Q 35 [(0, .inr (.inr (some (9, 0)))), (1, .inl x1), (2, .inl x2)] [] w bc bs := by
  refine am_iload_n dX12_isInTime_35 (List.Mem.tail _ (List.Mem.tail _ (List.Mem.head _))) ?_
  refine am_aload_n dX12_isInTime_36 (List.Mem.head _) ?_
  refine am_getf (f := 91) (v := .inl (w.1 9 0 91)) dX12_isInTime_37 hc_10 (by decide) wd_1640 (by decide) rfl rfl ?_
  refine am_icmpge (tgt := 93) dX12_isInTime_40 (by decide) (fun c1 => ?_) (fun c1 => ?_)
  · replace h := h.1 c1
    refine am_iload_n dX12_isInTime_93 (List.Mem.tail _ (List.Mem.head _)) ?_
    refine am_aload_n dX12_isInTime_94 (List.Mem.head _) ?_
    refine am_getf (f := 81) (v := .inl (w.1 9 0 81)) dX12_isInTime_95 hc_10 (by decide) wd_1630 (by decide) rfl rfl ?_
    refine am_isub dX12_isInTime_98 ?_
    refine am_istore_n (ls' := [(2, .inl (am_w (x1 - (w.1 9 0 81)))), (0, .inr (.inr (some (9, 0)))), (1, .inl x1)]) dX12_isInTime_99 (by decide) rfl ?_
    refine am_iconst dX12_isInTime_100 (by unfold am_rg; omega) ?_
    refine am_istore_n (ls' := [(3, .inl 0), (2, .inl (am_w (x1 - (w.1 9 0 81)))), (0, .inr (.inr (some (9, 0)))), (1, .inl x1)]) dX12_isInTime_101 (by decide) rfl ?_
    exact am_sub [2, 3, 1, 0] rfl h
  · replace h := h.2 c1
    refine am_aload_n dX12_isInTime_43 (List.Mem.head _) ?_
    refine am_getf (f := 84) (v := .inr (.inr (some (135, 0)))) dX12_isInTime_44 hc_10 (by decide) wd_1633 (by decide) rfl rfl ?_
    refine am_iload_n dX12_isInTime_47 (List.Mem.tail _ (List.Mem.tail _ (List.Mem.head _))) ?_
    have o2 := h.1
    replace h := h.2
    have o3 := h.1
    replace h := h.2
    refine am_iaload (v := (w.1 135 0 x2.toNat)) dX12_isInTime_48 (by decide) rfl o2 o3 rfl ?_
    refine am_iconst dX12_isInTime_49 (by unfold am_rg; omega) ?_
    refine am_icmpeq (tgt := 63) dX12_isInTime_50 (by decide) (fun c4 => ?_) (fun c4 => ?_)
    · replace h := h.1 c4
      exact h
    · replace h := h.2 c4
      refine am_aload_n dX12_isInTime_53 (List.Mem.head _) ?_
      refine am_getf (f := 84) (v := .inr (.inr (some (135, 0)))) dX12_isInTime_54 hc_10 (by decide) wd_1633 (by decide) rfl rfl ?_
      refine am_iload_n dX12_isInTime_57 (List.Mem.tail _ (List.Mem.tail _ (List.Mem.head _))) ?_
      refine am_iaload (v := (w.1 135 0 x2.toNat)) dX12_isInTime_58 (by decide) rfl o2 o3 rfl ?_
      refine am_iconst dX12_isInTime_59 (by unfold am_rg; omega) ?_
      refine am_icmpne (tgt := 87) dX12_isInTime_60 (by decide) (fun c5 => ?_) (fun c5 => ?_)
      · replace h := h.1 c5
        exact h
      · replace h := h.2 c5
        exact h
theorem bX12_isInTime_102 {SC : Nat → Nat} {X : mh_X} {d : Nat} {Q : Option am_V → am_W → Prop} {bc bs : Nat} {w : am_W} {x1 : Int} {x2 : Int} {x3 : Int}
    (h : (((w.1 9 0 95) ≤ x3 → am_A (mh_G X) SC (d + 1) mX12_isInTime Q 176 [(0, .inr (.inr (some (9, 0)))), (1, .inl x1), (3, .inl 0), (4, .inl (am_w (x1 - x2)))] [] w bc bs) ∧ (¬ (w.1 9 0 95) ≤ x3 → am_A (mh_G X) SC (d + 1) mX12_isInTime Q 119 [(0, .inr (.inr (some (9, 0)))), (1, .inl x1), (2, .inl x2), (3, .inl x3), (4, .inl (w.1 9 0 76)), (5, .inl 0)] [] w bc bs))) :
    am_A (mh_G X) SC (d + 1) mX12_isInTime Q 102 [(0, .inr (.inr (some (9, 0)))), (1, .inl x1), (2, .inl x2), (3, .inl x3)] [] w bc bs := by
  refine am_iload_n dX12_isInTime_102 (List.Mem.tail _ (List.Mem.tail _ (List.Mem.tail _ (List.Mem.head _)))) ?_
  refine am_aload_n dX12_isInTime_103 (List.Mem.head _) ?_
  refine am_getf (f := 95) (v := .inl (w.1 9 0 95)) dX12_isInTime_104 hc_10 (by decide) wd_1644 (by decide) rfl rfl ?_
  refine am_icmpge (tgt := 169) dX12_isInTime_107 (by decide) (fun c1 => ?_) (fun c1 => ?_)
  · replace h := h.1 c1
    refine am_iconst dX12_isInTime_169 (by unfold am_rg; omega) ?_
    refine am_istore_n (ls' := [(3, .inl 0), (0, .inr (.inr (some (9, 0)))), (1, .inl x1), (2, .inl x2)]) dX12_isInTime_170 (by decide) rfl ?_
    refine am_iload_n dX12_isInTime_171 (List.Mem.tail _ (List.Mem.tail _ (List.Mem.head _))) ?_
    refine am_iload_n dX12_isInTime_172 (List.Mem.tail _ (List.Mem.tail _ (List.Mem.tail _ (List.Mem.head _)))) ?_
    refine am_isub dX12_isInTime_173 ?_
    refine am_istore (ls' := [(4, .inl (am_w (x1 - x2))), (3, .inl 0), (0, .inr (.inr (some (9, 0)))), (1, .inl x1), (2, .inl x2)]) dX12_isInTime_174 (by decide) rfl ?_
    exact am_sub [2, 3, 1, 0] rfl h
  · replace h := h.2 c1
    refine am_aload_n dX12_isInTime_110 (List.Mem.head _) ?_
    refine am_getf (f := 76) (v := .inl (w.1 9 0 76)) dX12_isInTime_111 hc_10 (by decide) wd_1625 (by decide) rfl rfl ?_
    refine am_istore (ls' := [(4, .inl (w.1 9 0 76)), (0, .inr (.inr (some (9, 0)))), (1, .inl x1), (2, .inl x2), (3, .inl x3)]) dX12_isInTime_114 (by decide) rfl ?_
    refine am_iconst dX12_isInTime_116 (by unfold am_rg; omega) ?_
    refine am_istore (ls' := [(5, .inl 0), (4, .inl (w.1 9 0 76)), (0, .inr (.inr (some (9, 0)))), (1, .inl x1), (2, .inl x2), (3, .inl x3)]) dX12_isInTime_117 (by decide) rfl ?_
    exact am_sub [2, 3, 4, 5, 1, 0] rfl h
theorem bX12_isInTime_63 {SC : Nat → Nat} {X : mh_X} {d : Nat} {Q : Option am_V → am_W → Prop} {bc bs : Nat} {w : am_W} {x1 : Int} {x2 : Int}
    (h : (0 ≤ x2 ∧ (x2 < 5 ∧ ((¬ (w.1 135 0 x2.toNat) = 2 → am_A (mh_G X) SC (d + 1) mX12_isInTime Q 86 [(0, .inr (.inr (some (9, 0)))), (1, .inl (am_w (x1 + 1))), (2, .inl x2)] [.inl 3, .inl x1, .inr (.inr (some (141, 0)))] w bc bs) ∧ ((w.1 135 0 x2.toNat) = 2 → am_A (mh_G X) SC (d + 1) mX12_isInTime Q 86 [(0, .inr (.inr (some (9, 0)))), (1, .inl (am_w (x1 + 1))), (2, .inl x2)] [.inl 2, .inl x1, .inr (.inr (some (141, 0)))] w bc bs))))) :
    am_A (mh_G X) SC (d + 1) mX12_isInTime Q 63 [(0, .inr (.inr (some (9, 0)))), (1, .inl x1), (2, .inl x2)] [] w bc bs := by
  refine am_aload_n dX12_isInTime_63 (List.Mem.head _) ?_
  refine am_getf (f := 90) (v := .inr (.inr (some (141, 0)))) dX12_isInTime_64 hc_10 (by decide) wd_1639 (by decide) rfl rfl ?_
  refine am_iload_n dX12_isInTime_67 (List.Mem.tail _ (List.Mem.head _)) ?_
  refine am_iinc (ls' := [(1, .inl (am_w (x1 + 1))), (0, .inr (.inr (some (9, 0)))), (2, .inl x2)]) dX12_isInTime_68 (List.Mem.tail _ (List.Mem.head _)) (by decide) rfl ?_
  refine am_aload_n dX12_isInTime_71 (List.Mem.tail _ (List.Mem.head _)) ?_
  refine am_getf (f := 84) (v := .inr (.inr (some (135, 0)))) dX12_isInTime_72 hc_10 (by decide) wd_1633 (by decide) rfl rfl ?_
  refine am_iload_n dX12_isInTime_75 (List.Mem.tail _ (List.Mem.tail _ (List.Mem.head _))) ?_
  have o1 := h.1
  replace h := h.2
  have o2 := h.1
  replace h := h.2
  refine am_iaload (v := (w.1 135 0 x2.toNat)) dX12_isInTime_76 (by decide) rfl o1 o2 rfl ?_
  refine am_iconst dX12_isInTime_77 (by unfold am_rg; omega) ?_
  refine am_icmpne (tgt := 85) dX12_isInTime_78 (by decide) (fun c3 => ?_) (fun c3 => ?_)
  · replace h := h.1 c3
    refine am_iconst dX12_isInTime_85 (by unfold am_rg; omega) ?_
    exact am_sub [1, 0, 2] rfl h
  · replace h := h.2 c3
    refine am_iconst dX12_isInTime_81 (by unfold am_rg; omega) ?_
    refine am_goto (tgt := 86) dX12_isInTime_82 (by decide) ?_
    exact am_sub [1, 0, 2] rfl h
theorem bX12_isInTime_87 {SC : Nat → Nat} {X : mh_X} {d : Nat} {Q : Option am_V → am_W → Prop} {bc bs : Nat} {w : am_W} {x1 : Int} {x2 : Int}
    (h : am_A (mh_G X) SC (d + 1) mX12_isInTime Q 35 [(0, .inr (.inr (some (9, 0)))), (1, .inl x1), (2, .inl (am_w (x2 + 1)))] [] w bc bs) :
    am_A (mh_G X) SC (d + 1) mX12_isInTime Q 87 [(0, .inr (.inr (some (9, 0)))), (1, .inl x1), (2, .inl x2)] [] w bc bs := by
  refine am_iinc (ls' := [(2, .inl (am_w (x2 + 1))), (0, .inr (.inr (some (9, 0)))), (1, .inl x1)]) dX12_isInTime_87 (List.Mem.tail _ (List.Mem.tail _ (List.Mem.head _))) (by decide) rfl ?_
  refine am_goto (tgt := 35) dX12_isInTime_90 (by decide) ?_
  exact am_sub [1, 2, 0] rfl h
theorem bX12_isInTime_176 {SC : Nat → Nat} {X : mh_X} {d : Nat} {Q : Option am_V → am_W → Prop} {bc bs : Nat} {w : am_W} {x1 : Int} {x3 : Int} {x4 : Int}
    (h : ((x1 ≤ x4 → ((¬ x3 = 0 → Q (some (.inl 0)) w) ∧ (x3 = 0 → Q (some (.inl 1)) w))) ∧ (¬ x1 ≤ x4 → (0 ≤ x4 ∧ (x4 < 25 ∧ am_A (mh_G X) SC (d + 1) mX12_isInTime Q 176 [(0, .inr (.inr (some (9, 0)))), (1, .inl x1), (3, .inl (am_w (x3 + (w.1 141 0 x4.toNat)))), (4, .inl (am_w (x4 + 1)))] [] w bc bs))))) :
    am_A (mh_G X) SC (d + 1) mX12_isInTime Q 176 [(0, .inr (.inr (some (9, 0)))), (1, .inl x1), (3, .inl x3), (4, .inl x4)] [] w bc bs := by
  refine am_iload dX12_isInTime_176 (List.Mem.tail _ (List.Mem.tail _ (List.Mem.tail _ (List.Mem.head _)))) ?_
  refine am_iload_n dX12_isInTime_178 (List.Mem.tail _ (List.Mem.head _)) ?_
  refine am_icmpge (tgt := 198) dX12_isInTime_179 (by decide) (fun c1 => ?_) (fun c1 => ?_)
  · replace h := h.1 c1
    refine am_iload_n dX12_isInTime_198 (List.Mem.tail _ (List.Mem.tail _ (List.Mem.head _))) ?_
    refine am_ifne (tgt := 206) dX12_isInTime_199 (by decide) (fun c2 => ?_) (fun c2 => ?_)
    · replace h := h.1 c2
      refine am_iconst dX12_isInTime_206 (by unfold am_rg; omega) ?_
      exact am_ret (r := some (.inl 0)) dX12_isInTime_207 (Or.inr (Or.inl ⟨rfl, (Or.inl rfl)⟩)) rfl h
    · replace h := h.2 c2
      refine am_iconst dX12_isInTime_202 (by unfold am_rg; omega) ?_
      refine am_goto (tgt := 207) dX12_isInTime_203 (by decide) ?_
      exact am_ret (r := some (.inl 1)) dX12_isInTime_207 (Or.inr (Or.inl ⟨rfl, (Or.inr rfl)⟩)) rfl h
  · replace h := h.2 c1
    refine am_iload_n dX12_isInTime_182 (List.Mem.tail _ (List.Mem.tail _ (List.Mem.head _))) ?_
    refine am_aload_n dX12_isInTime_183 (List.Mem.head _) ?_
    refine am_getf (f := 90) (v := .inr (.inr (some (141, 0)))) dX12_isInTime_184 hc_10 (by decide) wd_1639 (by decide) rfl rfl ?_
    refine am_iload dX12_isInTime_187 (List.Mem.tail _ (List.Mem.tail _ (List.Mem.tail _ (List.Mem.head _)))) ?_
    have o3 := h.1
    replace h := h.2
    have o4 := h.1
    replace h := h.2
    refine am_iaload (v := (w.1 141 0 x4.toNat)) dX12_isInTime_189 (by decide) rfl o3 o4 rfl ?_
    refine am_iadd dX12_isInTime_190 ?_
    refine am_istore_n (ls' := [(3, .inl (am_w (x3 + (w.1 141 0 x4.toNat)))), (0, .inr (.inr (some (9, 0)))), (1, .inl x1), (4, .inl x4)]) dX12_isInTime_191 (by decide) rfl ?_
    refine am_iinc (ls' := [(4, .inl (am_w (x4 + 1))), (3, .inl (am_w (x3 + (w.1 141 0 x4.toNat)))), (0, .inr (.inr (some (9, 0)))), (1, .inl x1)]) dX12_isInTime_192 (List.Mem.tail _ (List.Mem.tail _ (List.Mem.tail _ (List.Mem.head _)))) (by decide) rfl ?_
    refine am_goto (tgt := 176) dX12_isInTime_195 (by decide) ?_
    exact am_sub [2, 3, 1, 0] rfl h
theorem bX12_isInTime_119 {SC : Nat → Nat} {X : mh_X} {d : Nat} {Q : Option am_V → am_W → Prop} {bc bs : Nat} {w : am_W} {x1 : Int} {x2 : Int} {x3 : Int} {x4 : Int} {x5 : Int}
    (h : ((x1 ≤ x5 → am_A (mh_G X) SC (d + 1) mX12_isInTime Q 163 [(0, .inr (.inr (some (9, 0)))), (1, .inl x1), (2, .inl x2), (3, .inl x3)] [] w bc bs) ∧ (¬ x1 ≤ x5 → ((x4 ≤ 0 → am_A (mh_G X) SC (d + 1) mX12_isInTime Q 163 [(0, .inr (.inr (some (9, 0)))), (1, .inl x1), (2, .inl x2), (3, .inl x3)] [] w bc bs) ∧ (¬ x4 ≤ 0 → (0 ≤ x5 ∧ (x5 < 25 ∧ ((¬ (w.1 141 0 x5.toNat) = 0 → am_A (mh_G X) SC (d + 1) mX12_isInTime Q 157 [(0, .inr (.inr (some (9, 0)))), (1, .inl x1), (2, .inl x2), (3, .inl x3), (4, .inl (am_w (x4 + (-1)))), (5, .inl x5)] [] ((am_up w.1 141 0 x5.toNat (am_w ((w.1 141 0 x5.toNat) - 1))), w.2) bc bs) ∧ ((w.1 141 0 x5.toNat) = 0 → am_A (mh_G X) SC (d + 1) mX12_isInTime Q 157 [(0, .inr (.inr (some (9, 0)))), (1, .inl x1), (2, .inl x2), (3, .inl x3), (4, .inl x4), (5, .inl x5)] [] w bc bs))))))))) :
    am_A (mh_G X) SC (d + 1) mX12_isInTime Q 119 [(0, .inr (.inr (some (9, 0)))), (1, .inl x1), (2, .inl x2), (3, .inl x3), (4, .inl x4), (5, .inl x5)] [] w bc bs := by
  refine am_iload dX12_isInTime_119 (List.Mem.tail _ (List.Mem.tail _ (List.Mem.tail _ (List.Mem.tail _ (List.Mem.tail _ (List.Mem.head _)))))) ?_
  refine am_iload_n dX12_isInTime_121 (List.Mem.tail _ (List.Mem.head _)) ?_
  refine am_icmpge (tgt := 163) dX12_isInTime_122 (by decide) (fun c1 => ?_) (fun c1 => ?_)
  · replace h := h.1 c1
    exact am_sub [0, 1, 2, 3] rfl h
  · replace h := h.2 c1
    refine am_iload dX12_isInTime_125 (List.Mem.tail _ (List.Mem.tail _ (List.Mem.tail _ (List.Mem.tail _ (List.Mem.head _))))) ?_
    refine am_ifle (tgt := 163) dX12_isInTime_127 (by decide) (fun c2 => ?_) (fun c2 => ?_)
    · replace h := h.1 c2
      exact am_sub [0, 1, 2, 3] rfl h
    · replace h := h.2 c2
      refine am_aload_n dX12_isInTime_130 (List.Mem.head _) ?_
      refine am_getf (f := 90) (v := .inr (.inr (some (141, 0)))) dX12_isInTime_131 hc_10 (by decide) wd_1639 (by decide) rfl rfl ?_
      refine am_iload dX12_isInTime_134 (List.Mem.tail _ (List.Mem.tail _ (List.Mem.tail _ (List.Mem.tail _ (List.Mem.tail _ (List.Mem.head _)))))) ?_
      have o3 := h.1
      replace h := h.2
      have o4 := h.1
      replace h := h.2
      refine am_iaload (v := (w.1 141 0 x5.toNat)) dX12_isInTime_136 (by decide) rfl o3 o4 rfl ?_
      refine am_ifne (tgt := 143) dX12_isInTime_137 (by decide) (fun c5 => ?_) (fun c5 => ?_)
      · replace h := h.1 c5
        refine am_aload_n dX12_isInTime_143 (List.Mem.head _) ?_
        refine am_getf (f := 90) (v := .inr (.inr (some (141, 0)))) dX12_isInTime_144 hc_10 (by decide) wd_1639 (by decide) rfl rfl ?_
        refine am_iload dX12_isInTime_147 (List.Mem.tail _ (List.Mem.tail _ (List.Mem.tail _ (List.Mem.tail _ (List.Mem.tail _ (List.Mem.head _)))))) ?_
        refine am_dup2 dX12_isInTime_149 rfl rfl ?_
        refine am_iaload (v := (w.1 141 0 x5.toNat)) dX12_isInTime_150 (by decide) rfl o3 o4 rfl ?_
        refine am_iconst dX12_isInTime_151 (by unfold am_rg; omega) ?_
        refine am_isub dX12_isInTime_152 ?_
        refine am_iastore dX12_isInTime_153 (Or.inl (by decide)) rfl o3 o4 ?_
        refine am_iinc (ls' := [(4, .inl (am_w (x4 + (-1)))), (0, .inr (.inr (some (9, 0)))), (1, .inl x1), (2, .inl x2), (3, .inl x3), (5, .inl x5)]) dX12_isInTime_154 (List.Mem.tail _ (List.Mem.tail _ (List.Mem.tail _ (List.Mem.tail _ (List.Mem.head _))))) (by decide) rfl ?_
        exact am_sub [1, 2, 3, 4, 0, 5] rfl h
      · replace h := h.2 c5
        refine am_goto (tgt := 157) dX12_isInTime_140 (by decide) ?_
        exact h
theorem bX12_isInTime_86 {SC : Nat → Nat} {X : mh_X} {d : Nat} {Q : Option am_V → am_W → Prop} {bc bs : Nat} {w : am_W} {x1 : Int} {x2 : Int} {xs0 : Int} {xs1 : Int}
    (h : (0 ≤ xs1 ∧ (xs1 < 25 ∧ am_A (mh_G X) SC (d + 1) mX12_isInTime Q 87 [(0, .inr (.inr (some (9, 0)))), (1, .inl x1), (2, .inl x2)] [] ((am_up w.1 141 0 xs1.toNat xs0), w.2) bc bs))) :
    am_A (mh_G X) SC (d + 1) mX12_isInTime Q 86 [(0, .inr (.inr (some (9, 0)))), (1, .inl x1), (2, .inl x2)] [.inl xs0, .inl xs1, .inr (.inr (some (141, 0)))] w bc bs := by
  have o1 := h.1
  replace h := h.2
  have o2 := h.1
  replace h := h.2
  refine am_iastore dX12_isInTime_86 (Or.inl (by decide)) rfl o1 o2 ?_
  exact h
theorem bX12_isInTime_163 {SC : Nat → Nat} {X : mh_X} {d : Nat} {Q : Option am_V → am_W → Prop} {bc bs : Nat} {w : am_W} {x1 : Int} {x2 : Int} {x3 : Int}
    (h : am_A (mh_G X) SC (d + 1) mX12_isInTime Q 102 [(0, .inr (.inr (some (9, 0)))), (1, .inl x1), (2, .inl x2), (3, .inl (am_w (x3 + 1)))] [] w bc bs) :
    am_A (mh_G X) SC (d + 1) mX12_isInTime Q 163 [(0, .inr (.inr (some (9, 0)))), (1, .inl x1), (2, .inl x2), (3, .inl x3)] [] w bc bs := by
  refine am_iinc (ls' := [(3, .inl (am_w (x3 + 1))), (0, .inr (.inr (some (9, 0)))), (1, .inl x1), (2, .inl x2)]) dX12_isInTime_163 (List.Mem.tail _ (List.Mem.tail _ (List.Mem.tail _ (List.Mem.head _)))) (by decide) rfl ?_
  refine am_goto (tgt := 102) dX12_isInTime_166 (by decide) ?_
  exact am_sub [1, 2, 3, 0] rfl h
theorem bX12_isInTime_157 {SC : Nat → Nat} {X : mh_X} {d : Nat} {Q : Option am_V → am_W → Prop} {bc bs : Nat} {w : am_W} {x1 : Int} {x2 : Int} {x3 : Int} {x4 : Int} {x5 : Int}
    (h : am_A (mh_G X) SC (d + 1) mX12_isInTime Q 119 [(0, .inr (.inr (some (9, 0)))), (1, .inl x1), (2, .inl x2), (3, .inl x3), (4, .inl x4), (5, .inl (am_w (x5 + 1)))] [] w bc bs) :
    am_A (mh_G X) SC (d + 1) mX12_isInTime Q 157 [(0, .inr (.inr (some (9, 0)))), (1, .inl x1), (2, .inl x2), (3, .inl x3), (4, .inl x4), (5, .inl x5)] [] w bc bs := by
  refine am_iinc (ls' := [(5, .inl (am_w (x5 + 1))), (0, .inr (.inr (some (9, 0)))), (1, .inl x1), (2, .inl x2), (3, .inl x3), (4, .inl x4)]) dX12_isInTime_157 (List.Mem.tail _ (List.Mem.tail _ (List.Mem.tail _ (List.Mem.tail _ (List.Mem.tail _ (List.Mem.head _)))))) (by decide) rfl ?_
  refine am_goto (tgt := 119) dX12_isInTime_160 (by decide) ?_
  exact am_sub [1, 2, 3, 4, 5, 0] rfl h
-- MourningHouseModel.looks()V
theorem dX12_looks_0 : decode mX12_looks.2.1 0 = .ok (.iconst 0, 1) := by decide +kernel
theorem dX12_looks_1 : decode mX12_looks.2.1 1 = .ok (.istore_n 1, 1) := by decide +kernel
theorem dX12_looks_2 : decode mX12_looks.2.1 2 = .ok (.iconst 0, 1) := by decide +kernel
theorem dX12_looks_3 : decode mX12_looks.2.1 3 = .ok (.istore_n 2, 1) := by decide +kernel
theorem dX12_looks_4 : decode mX12_looks.2.1 4 = .ok (.iconst 0, 1) := by decide +kernel
theorem dX12_looks_5 : decode mX12_looks.2.1 5 = .ok (.istore_n 3, 1) := by decide +kernel
theorem dX12_looks_6 : decode mX12_looks.2.1 6 = .ok (.iconst 0, 1) := by decide +kernel
theorem dX12_looks_7 : decode mX12_looks.2.1 7 = .ok (.istore 4, 2) := by decide +kernel
theorem dX12_looks_9 : decode mX12_looks.2.1 9 = .ok (.iload 4, 2) := by decide +kernel
theorem dX12_looks_11 : decode mX12_looks.2.1 11 = .ok (.aload_n 0, 1) := by decide +kernel
theorem dX12_looks_12 : decode mX12_looks.2.1 12 = .ok (.getfield 600, 3) := by decide +kernel
theorem dX12_looks_15 : decode mX12_looks.2.1 15 = .ok (.if_icmp .ge 66, 3) := by decide +kernel
theorem dX12_looks_18 : decode mX12_looks.2.1 18 = .ok (.iload_n 1, 1) := by decide +kernel
theorem dX12_looks_19 : decode mX12_looks.2.1 19 = .ok (.aload_n 0, 1) := by decide +kernel
theorem dX12_looks_20 : decode mX12_looks.2.1 20 = .ok (.getfield 264, 3) := by decide +kernel
theorem dX12_looks_23 : decode mX12_looks.2.1 23 = .ok (.iload 4, 2) := by decide +kernel
theorem dX12_looks_25 : decode mX12_looks.2.1 25 = .ok (.iaload, 1) := by decide +kernel
theorem dX12_looks_26 : decode mX12_looks.2.1 26 = .ok (.iconst 4, 1) := by decide +kernel
theorem dX12_looks_27 : decode mX12_looks.2.1 27 = .ok (.if_icmp .ne 7, 3) := by decide +kernel
theorem dX12_looks_30 : decode mX12_looks.2.1 30 = .ok (.iconst 1, 1) := by decide +kernel
theorem dX12_looks_31 : decode mX12_looks.2.1 31 = .ok (.goto 4, 3) := by decide +kernel
theorem dX12_looks_34 : decode mX12_looks.2.1 34 = .ok (.iconst 0, 1) := by decide +kernel
theorem dX12_looks_35 : decode mX12_looks.2.1 35 = .ok (.iadd, 1) := by decide +kernel
theorem dX12_looks_36 : decode mX12_looks.2.1 36 = .ok (.istore_n 1, 1) := by decide +kernel
theorem dX12_looks_37 : decode mX12_looks.2.1 37 = .ok (.iload_n 2, 1) := by decide +kernel
theorem dX12_looks_38 : decode mX12_looks.2.1 38 = .ok (.aload_n 0, 1) := by decide +kernel
theorem dX12_looks_39 : decode mX12_looks.2.1 39 = .ok (.getfield 264, 3) := by decide +kernel
theorem dX12_looks_42 : decode mX12_looks.2.1 42 = .ok (.iload 4, 2) := by decide +kernel
theorem dX12_looks_44 : decode mX12_looks.2.1 44 = .ok (.iaload, 1) := by decide +kernel
theorem dX12_looks_45 : decode mX12_looks.2.1 45 = .ok (.iconst 3, 1) := by decide +kernel
theorem dX12_looks_46 : decode mX12_looks.2.1 46 = .ok (.if_icmp .ne 7, 3) := by decide +kernel
theorem dX12_looks_49 : decode mX12_looks.2.1 49 = .ok (.iconst 1, 1) := by decide +kernel
theorem dX12_looks_50 : decode mX12_looks.2.1 50 = .ok (.goto 4, 3) := by decide +kernel
theorem dX12_looks_53 : decode mX12_looks.2.1 53 = .ok (.iconst 0, 1) := by decide +kernel
theorem dX12_looks_54 : decode mX12_looks.2.1 54 = .ok (.iadd, 1) := by decide +kernel
theorem dX12_looks_55 : decode mX12_looks.2.1 55 = .ok (.istore_n 2, 1) := by decide +kernel
theorem dX12_looks_56 : decode mX12_looks.2.1 56 = .ok (.iload_n 3, 1) := by decide +kernel
theorem dX12_looks_57 : decode mX12_looks.2.1 57 = .ok (.aload_n 0, 1) := by decide +kernel
theorem dX12_looks_58 : decode mX12_looks.2.1 58 = .ok (.getfield 264, 3) := by decide +kernel
theorem dX12_looks_61 : decode mX12_looks.2.1 61 = .ok (.iload 4, 2) := by decide +kernel
theorem dX12_looks_63 : decode mX12_looks.2.1 63 = .ok (.iaload, 1) := by decide +kernel
theorem dX12_looks_64 : decode mX12_looks.2.1 64 = .ok (.iconst 2, 1) := by decide +kernel
theorem dX12_looks_65 : decode mX12_looks.2.1 65 = .ok (.if_icmp .ne 7, 3) := by decide +kernel
theorem dX12_looks_68 : decode mX12_looks.2.1 68 = .ok (.iconst 1, 1) := by decide +kernel
theorem dX12_looks_69 : decode mX12_looks.2.1 69 = .ok (.goto 4, 3) := by decide +kernel
theorem dX12_looks_72 : decode mX12_looks.2.1 72 = .ok (.iconst 0, 1) := by decide +kernel
theorem dX12_looks_73 : decode mX12_looks.2.1 73 = .ok (.iadd, 1) := by decide +kernel
theorem dX12_looks_74 : decode mX12_looks.2.1 74 = .ok (.istore_n 3, 1) := by decide +kernel
theorem dX12_looks_75 : decode mX12_looks.2.1 75 = .ok (.iinc 4 1, 3) := by decide +kernel
theorem dX12_looks_78 : decode mX12_looks.2.1 78 = .ok (.goto (-69), 3) := by decide +kernel
theorem dX12_looks_81 : decode mX12_looks.2.1 81 = .ok (.iload_n 1, 1) := by decide +kernel
theorem dX12_looks_82 : decode mX12_looks.2.1 82 = .ok (.aload_n 0, 1) := by decide +kernel
theorem dX12_looks_83 : decode mX12_looks.2.1 83 = .ok (.getfield 605, 3) := by decide +kernel
theorem dX12_looks_86 : decode mX12_looks.2.1 86 = .ok (.if_icmp .lt 35, 3) := by decide +kernel
theorem dX12_looks_89 : decode mX12_looks.2.1 89 = .ok (.iload_n 1, 1) := by decide +kernel
theorem dX12_looks_90 : decode mX12_looks.2.1 90 = .ok (.aload_n 0, 1) := by decide +kernel
theorem dX12_looks_91 : decode mX12_looks.2.1 91 = .ok (.getfield 605, 3) := by decide +kernel
theorem dX12_looks_94 : decode mX12_looks.2.1 94 = .ok (.if_icmp .ne 31, 3) := by decide +kernel
theorem dX12_looks_97 : decode mX12_looks.2.1 97 = .ok (.iload_n 2, 1) := by decide +kernel
theorem dX12_looks_98 : decode mX12_looks.2.1 98 = .ok (.aload_n 0, 1) := by decide +kernel
theorem dX12_looks_99 : decode mX12_looks.2.1 99 = .ok (.getfield 608, 3) := by decide +kernel
theorem dX12_looks_102 : decode mX12_looks.2.1 102 = .ok (.if_icmp .lt 19, 3) := by decide +kernel
theorem dX12_looks_105 : decode mX12_looks.2.1 105 = .ok (.iload_n 2, 1) := by decide +kernel
theorem dX12_looks_106 : decode mX12_looks.2.1 106 = .ok (.aload_n 0, 1) := by decide +kernel
theorem dX12_looks_107 : decode mX12_looks.2.1 107 = .ok (.getfield 608, 3) := by decide +kernel
theorem dX12_looks_110 : decode mX12_looks.2.1 110 = .ok (.if_icmp .ne 15, 3) := by decide +kernel
theorem dX12_looks_113 : decode mX12_looks.2.1 113 = .ok (.iload_n 3, 1) := by decide +kernel
theorem dX12_looks_114 : decode mX12_looks.2.1 114 = .ok (.aload_n 0, 1) := by decide +kernel
theorem dX12_looks_115 : decode mX12_looks.2.1 115 = .ok (.getfield 611, 3) := by decide +kernel
theorem dX12_looks_118 : decode mX12_looks.2.1 118 = .ok (.if_icmp .ge 7, 3) := by decide +kernel
theorem dX12_looks_121 : decode mX12_looks.2.1 121 = .ok (.iconst 1, 1) := by decide +kernel
theorem dX12_looks_122 : decode mX12_looks.2.1 122 = .ok (.goto 4, 3) := by decide +kernel
theorem dX12_looks_125 : decode mX12_looks.2.1 125 = .ok (.iconst 0, 1) := by decide +kernel
theorem dX12_looks_126 : decode mX12_looks.2.1 126 = .ok (.istore 4, 2) := by decide +kernel
theorem dX12_looks_128 : decode mX12_looks.2.1 128 = .ok (.iload 4, 2) := by decide +kernel
theorem dX12_looks_130 : decode mX12_looks.2.1 130 = .ok (.ifCond .eq 10, 3) := by decide +kernel
theorem dX12_looks_133 : decode mX12_looks.2.1 133 = .ok (.aload_n 0, 1) := by decide +kernel
theorem dX12_looks_134 : decode mX12_looks.2.1 134 = .ok (.invokevirtual 614, 3) := by decide +kernel
theorem dX12_looks_137 : decode mX12_looks.2.1 137 = .ok (.ifCond .ne 4, 3) := by decide +kernel
theorem dX12_looks_140 : decode mX12_looks.2.1 140 = .ok (.return_, 1) := by decide +kernel
theorem dX12_looks_141 : decode mX12_looks.2.1 141 = .ok (.aload_n 0, 1) := by decide +kernel
theorem dX12_looks_142 : decode mX12_looks.2.1 142 = .ok (.iload_n 1, 1) := by decide +kernel
theorem dX12_looks_143 : decode mX12_looks.2.1 143 = .ok (.putfield 605, 3) := by decide +kernel
theorem dX12_looks_146 : decode mX12_looks.2.1 146 = .ok (.aload_n 0, 1) := by decide +kernel
theorem dX12_looks_147 : decode mX12_looks.2.1 147 = .ok (.iload_n 2, 1) := by decide +kernel
theorem dX12_looks_148 : decode mX12_looks.2.1 148 = .ok (.putfield 608, 3) := by decide +kernel
theorem dX12_looks_151 : decode mX12_looks.2.1 151 = .ok (.aload_n 0, 1) := by decide +kernel
theorem dX12_looks_152 : decode mX12_looks.2.1 152 = .ok (.iload_n 3, 1) := by decide +kernel
theorem dX12_looks_153 : decode mX12_looks.2.1 153 = .ok (.putfield 611, 3) := by decide +kernel
theorem dX12_looks_156 : decode mX12_looks.2.1 156 = .ok (.iconst 0, 1) := by decide +kernel
theorem dX12_looks_157 : decode mX12_looks.2.1 157 = .ok (.istore 5, 2) := by decide +kernel
theorem dX12_looks_159 : decode mX12_looks.2.1 159 = .ok (.iload 5, 2) := by decide +kernel
theorem dX12_looks_161 : decode mX12_looks.2.1 161 = .ok (.aload_n 0, 1) := by decide +kernel
theorem dX12_looks_162 : decode mX12_looks.2.1 162 = .ok (.getfield 600, 3) := by decide +kernel
theorem dX12_looks_165 : decode mX12_looks.2.1 165 = .ok (.if_icmp .ge 37, 3) := by decide +kernel
theorem dX12_looks_168 : decode mX12_looks.2.1 168 = .ok (.aload_n 0, 1) := by decide +kernel
theorem dX12_looks_169 : decode mX12_looks.2.1 169 = .ok (.getfield 270, 3) := by decide +kernel
theorem dX12_looks_172 : decode mX12_looks.2.1 172 = .ok (.iload 5, 2) := by decide +kernel
theorem dX12_looks_174 : decode mX12_looks.2.1 174 = .ok (.aload_n 0, 1) := by decide +kernel
theorem dX12_looks_175 : decode mX12_looks.2.1 175 = .ok (.getfield 264, 3) := by decide +kernel
theorem dX12_looks_178 : decode mX12_looks.2.1 178 = .ok (.iload 5, 2) := by decide +kernel
theorem dX12_looks_180 : decode mX12_looks.2.1 180 = .ok (.iaload, 1) := by decide +kernel
theorem dX12_looks_181 : decode mX12_looks.2.1 181 = .ok (.iastore, 1) := by decide +kernel
theorem dX12_looks_182 : decode mX12_looks.2.1 182 = .ok (.aload_n 0, 1) := by decide +kernel
theorem dX12_looks_183 : decode mX12_looks.2.1 183 = .ok (.getfield 273, 3) := by decide +kernel
theorem dX12_looks_186 : decode mX12_looks.2.1 186 = .ok (.iload 5, 2) := by decide +kernel
theorem dX12_looks_188 : decode mX12_looks.2.1 188 = .ok (.aload_n 0, 1) := by decide +kernel
theorem dX12_looks_189 : decode mX12_looks.2.1 189 = .ok (.getfield 267, 3) := by decide +kernel
theorem dX12_looks_192 : decode mX12_looks.2.1 192 = .ok (.iload 5, 2) := by decide +kernel
theorem dX12_looks_194 : decode mX12_looks.2.1 194 = .ok (.iaload, 1) := by decide +kernel
theorem dX12_looks_195 : decode mX12_looks.2.1 195 = .ok (.iastore, 1) := by decide +kernel
theorem dX12_looks_196 : decode mX12_looks.2.1 196 = .ok (.iinc 5 1, 3) := by decide +kernel
theorem dX12_looks_199 : decode mX12_looks.2.1 199 = .ok (.goto (-40), 3) := by decide +kernel
theorem dX12_looks_202 : decode mX12_looks.2.1 202 = .ok (.return_, 1) := by decide +kernel
theorem bX12_looks_0 {SC : Nat → Nat} {X : mh_X} {d : Nat} {Q : Option am_V → am_W → Prop} {bc bs : Nat} {w : am_W} 
    (h : am_A (mh_G X) SC (d + 1) mX12_looks Q 9 [(0, .inr (.inr (some (9, 0)))), (1, .inl 0), (2, .inl 0), (3, .inl 0), (4, .inl 0)] [] w bc bs) :
    am_A (mh_G X) SC (d + 1) mX12_looks Q 0 [(0, .inr (.inr (some (9, 0))))] [] w bc bs := by
  refine am_iconst dX12_looks_0 (by unfold am_rg; omega) ?_
  refine am_istore_n (ls' := [(1, .inl 0), (0, .inr (.inr (some (9, 0))))]) dX12_looks_1 (by decide) rfl ?_
  refine am_iconst dX12_looks_2 (by unfold am_rg; omega) ?_
  refine am_istore_n (ls' := [(2, .inl 0), (1, .inl 0), (0, .inr (.inr (some (9, 0))))]) dX12_looks_3 (by decide) rfl ?_
  refine am_iconst dX12_looks_4 (by unfold am_rg; omega) ?_
  refine am_istore_n (ls' := [(3, .inl 0), (2, .inl 0), (1, .inl 0), (0, .inr (.inr (some (9, 0))))]) dX12_looks_5 (by decide) rfl ?_
  refine am_iconst dX12_looks_6 (by unfold am_rg; omega) ?_
  refine am_istore (ls' := [(4, .inl 0), (3, .inl 0), (2, .inl 0), (1, .inl 0), (0, .inr (.inr (some (9, 0))))]) dX12_looks_7 (by decide) rfl ?_
  exact am_sub [4, 3, 2, 1, 0] rfl h
theorem bX12_looks_9 {SC : Nat → Nat} {X : mh_X} {d : Nat} {Q : Option am_V → am_W → Prop} {bc bs : Nat} {w : am_W} {x1 : Int} {x2 : Int} {x3 : Int} {x4 : Int}
    (h : (((w.1 9 0 91) ≤ x4 → ((x1 < (w.1 9 0 92) → am_A (mh_G X) SC (d + 1) mX12_looks Q 121 [(0, .inr (.inr (some (9, 0)))), (1, .inl x1), (2, .inl x2), (3, .inl x3)] [] w bc bs) ∧ (¬ x1 < (w.1 9 0 92) → ((¬ x1 = (w.1 9 0 92) → am_A (mh_G X) SC (d + 1) mX12_looks Q 125 [(0, .inr (.inr (some (9, 0)))), (1, .inl x1), (2, .inl x2), (3, .inl x3)] [] w bc bs) ∧ (x1 = (w.1 9 0 92) → ((x2 < (w.1 9 0 93) → am_A (mh_G X) SC (d + 1) mX12_looks Q 121 [(0, .inr (.inr (some (9, 0)))), (1, .inl x1), (2, .inl x2), (3, .inl x3)] [] w bc bs) ∧ (¬ x2 < (w.1 9 0 93) → ((¬ x2 = (w.1 9 0 93) → am_A (mh_G X) SC (d + 1) mX12_looks Q 125 [(0, .inr (.inr (some (9, 0)))), (1, .inl x1), (2, .inl x2), (3, .inl x3)] [] w bc bs) ∧ (x2 = (w.1 9 0 93) → (((w.1 9 0 94) ≤ x3 → am_A (mh_G X) SC (d + 1) mX12_looks Q 125 [(0, .inr (.inr (some (9, 0)))), (1, .inl x1), (2, .inl x2), (3, .inl x3)] [] w bc bs) ∧ (¬ (w.1 9 0 94) ≤ x3 → am_A (mh_G X) SC (d + 1) mX12_looks Q 121 [(0, .inr (.inr (some (9, 0)))), (1, .inl x1), (2, .inl x2), (3, .inl x3)] [] w bc bs))))))))))) ∧ (¬ (w.1 9 0 91) ≤ x4 → (0 ≤ x4 ∧ (x4 < 5 ∧ ((¬ (w.1 135 0 x4.toNat) = 4 → am_A (mh_G X) SC (d + 1) mX12_looks Q 35 [(0, .inr (.inr (some (9, 0)))), (2, .inl x2), (3, .inl x3), (4, .inl x4)] [.inl 0, .inl x1] w bc bs) ∧ ((w.1 135 0 x4.toNat) = 4 → am_A (mh_G X) SC (d + 1) mX12_looks Q 35 [(0, .inr (.inr (some (9, 0)))), (2, .inl x2), (3, .inl x3), (4, .inl x4)] [.inl 1, .inl x1] w bc bs))))))) :
    am_A (mh_G X) SC (d + 1) mX12_looks Q 9 [(0, .inr (.inr (some (9, 0)))), (1, .inl x1), (2, .inl x2), (3, .inl x3), (4, .inl x4)] [] w bc bs := by
  refine am_iload dX12_looks_9 (List.Mem.tail _ (List.Mem.tail _ (List.Mem.tail _ (List.Mem.tail _ (List.Mem.head _))))) ?_
  refine am_aload_n dX12_looks_11 (List.Mem.head _) ?_
  refine am_getf (f := 91) (v := .inl (w.1 9 0 91)) dX12_looks_12 hc_10 (by decide) wd_1640 (by decide) rfl rfl ?_
  refine am_icmpge (tgt := 81) dX12_looks_15 (by decide) (fun c1 => ?_) (fun c1 => ?_)
  · replace h := h.1 c1
    refine am_iload_n dX12_looks_81 (List.Mem.tail _ (List.Mem.head _)) ?_
    refine am_aload_n dX12_looks_82 (List.Mem.head _) ?_
    refine am_getf (f := 92) (v := .inl (w.1 9 0 92)) dX12_looks_83 hc_10 (by decide) wd_1641 (by decide) rfl rfl ?_
    refine am_icmplt (tgt := 121) dX12_looks_86 (by decide) (fun c2 => ?_) (fun c2 => ?_)
    · replace h := h.1 c2
      exact am_sub [0, 1, 2, 3] rfl h
    · replace h := h.2 c2
      refine am_iload_n dX12_looks_89 (List.Mem.tail _ (List.Mem.head _)) ?_
      refine am_aload_n dX12_looks_90 (List.Mem.head _) ?_
      refine am_getf (f := 92) (v := .inl (w.1 9 0 92)) dX12_looks_91 hc_10 (by decide) wd_1641 (by decide) rfl rfl ?_
      refine am_icmpne (tgt := 125) dX12_looks_94 (by decide) (fun c3 => ?_) (fun c3 => ?_)
      · replace h := h.1 c3
        exact am_sub [0, 1, 2, 3] rfl h
      · replace h := h.2 c3
        refine am_iload_n dX12_looks_97 (List.Mem.tail _ (List.Mem.tail _ (List.Mem.head _))) ?_
        refine am_aload_n dX12_looks_98 (List.Mem.head _) ?_
        refine am_getf (f := 93) (v := .inl (w.1 9 0 93)) dX12_looks_99 hc_10 (by decide) wd_1642 (by decide) rfl rfl ?_
        refine am_icmplt (tgt := 121) dX12_looks_102 (by decide) (fun c4 => ?_) (fun c4 => ?_)
        · replace h := h.1 c4
          exact am_sub [0, 1, 2, 3] rfl h
        · replace h := h.2 c4
          refine am_iload_n dX12_looks_105 (List.Mem.tail _ (List.Mem.tail _ (List.Mem.head _))) ?_
          refine am_aload_n dX12_looks_106 (List.Mem.head _) ?_
          refine am_getf (f := 93) (v := .inl (w.1 9 0 93)) dX12_looks_107 hc_10 (by decide) wd_1642 (by decide) rfl rfl ?_
          refine am_icmpne (tgt := 125) dX12_looks_110 (by decide) (fun c5 => ?_) (fun c5 => ?_)
          · replace h := h.1 c5
            exact am_sub [0, 1, 2, 3] rfl h
          · replace h := h.2 c5
            refine am_iload_n dX12_looks_113 (List.Mem.tail _ (List.Mem.tail _ (List.Mem.tail _ (List.Mem.head _)))) ?_
            refine am_aload_n dX12_looks_114 (List.Mem.head _) ?_
            refine am_getf (f := 94) (v := .inl (w.1 9 0 94)) dX12_looks_115 hc_10 (by decide) wd_1643 (by decide) rfl rfl ?_
            refine am_icmpge (tgt := 125) dX12_looks_118 (by decide) (fun c6 => ?_) (fun c6 => ?_)
            · replace h := h.1 c6
              exact am_sub [0, 1, 2, 3] rfl h
            · replace h := h.2 c6
              exact am_sub [0, 1, 2, 3] rfl h
  · replace h := h.2 c1
    refine am_iload_n dX12_looks_18 (List.Mem.tail _ (List.Mem.head _)) ?_
    refine am_aload_n dX12_looks_19 (List.Mem.head _) ?_
    refine am_getf (f := 84) (v := .inr (.inr (some (135, 0)))) dX12_looks_20 hc_10 (by decide) wd_1633 (by decide) rfl rfl ?_
    refine am_iload dX12_looks_23 (List.Mem.tail _ (List.Mem.tail _ (List.Mem.tail _ (List.Mem.tail _ (List.Mem.head _))))) ?_
    have o7 := h.1
    replace h := h.2
    have o8 := h.1
    replace h := h.2
    refine am_iaload (v := (w.1 135 0 x4.toNat)) dX12_looks_25 (by decide) rfl o7 o8 rfl ?_
    refine am_iconst dX12_looks_26 (by unfold am_rg; omega) ?_
    refine am_icmpne (tgt := 34) dX12_looks_27 (by decide) (fun c9 => ?_) (fun c9 => ?_)
    · replace h := h.1 c9
      refine am_iconst dX12_looks_34 (by unfold am_rg; omega) ?_
      exact am_sub [0, 2, 3, 4] rfl h
    · replace h := h.2 c9
      refine am_iconst dX12_looks_30 (by unfold am_rg; omega) ?_
      refine am_goto (tgt := 35) dX12_looks_31 (by decide) ?_
      exact am_sub [0, 2, 3, 4] rfl h
theorem bX12_looks_121 {SC : Nat → Nat} {X : mh_X} {d : Nat} {Q : Option am_V → am_W → Prop} {bc bs : Nat} {w : am_W} {x1 : Int} {x2 : Int} {x3 : Int}
    (h : am_A (mh_G X) SC (d + 1) mX12_looks Q 126 [(0, .inr (.inr (some (9, 0)))), (1, .inl x1), (2, .inl x2), (3, .inl x3)] [.inl 1] w bc bs) :
    am_A (mh_G X) SC (d + 1) mX12_looks Q 121 [(0, .inr (.inr (some (9, 0)))), (1, .inl x1), (2, .inl x2), (3, .inl x3)] [] w bc bs := by
  refine am_iconst dX12_looks_121 (by unfold am_rg; omega) ?_
  refine am_goto (tgt := 126) dX12_looks_122 (by decide) ?_
  exact h
theorem bX12_looks_125 {SC : Nat → Nat} {X : mh_X} {d : Nat} {Q : Option am_V → am_W → Prop} {bc bs : Nat} {w : am_W} {x1 : Int} {x2 : Int} {x3 : Int}
    (h : am_A (mh_G X) SC (d + 1) mX12_looks Q 126 [(0, .inr (.inr (some (9, 0)))), (1, .inl x1), (2, .inl x2), (3, .inl x3)] [.inl 0] w bc bs) :
    am_A (mh_G X) SC (d + 1) mX12_looks Q 125 [(0, .inr (.inr (some (9, 0)))), (1, .inl x1), (2, .inl x2), (3, .inl x3)] [] w bc bs := by
  refine am_iconst dX12_looks_125 (by unfold am_rg; omega) ?_
  exact h
theorem bX12_looks_35 {SC : Nat → Nat} {X : mh_X} {d : Nat} {Q : Option am_V → am_W → Prop} {bc bs : Nat} {w : am_W} {x2 : Int} {x3 : Int} {x4 : Int} {xs0 : Int} {xs1 : Int}
    (h : (0 ≤ x4 ∧ (x4 < 5 ∧ ((¬ (w.1 135 0 x4.toNat) = 3 → am_A (mh_G X) SC (d + 1) mX12_looks Q 54 [(0, .inr (.inr (some (9, 0)))), (1, .inl (am_w (xs1 + xs0))), (3, .inl x3), (4, .inl x4)] [.inl 0, .inl x2] w bc bs) ∧ ((w.1 135 0 x4.toNat) = 3 → am_A (mh_G X) SC (d + 1) mX12_looks Q 54 [(0, .inr (.inr (some (9, 0)))), (1, .inl (am_w (xs1 + xs0))), (3, .inl x3), (4, .inl x4)] [.inl 1, .inl x2] w bc bs))))) :
    am_A (mh_G X) SC (d + 1) mX12_looks Q 35 [(0, .inr (.inr (some (9, 0)))), (2, .inl x2), (3, .inl x3), (4, .inl x4)] [.inl xs0, .inl xs1] w bc bs := by
  refine am_iadd dX12_looks_35 ?_
  refine am_istore_n (ls' := [(1, .inl (am_w (xs1 + xs0))), (0, .inr (.inr (some (9, 0)))), (2, .inl x2), (3, .inl x3), (4, .inl x4)]) dX12_looks_36 (by decide) rfl ?_
  refine am_iload_n dX12_looks_37 (List.Mem.tail _ (List.Mem.tail _ (List.Mem.head _))) ?_
  refine am_aload_n dX12_looks_38 (List.Mem.tail _ (List.Mem.head _)) ?_
  refine am_getf (f := 84) (v := .inr (.inr (some (135, 0)))) dX12_looks_39 hc_10 (by decide) wd_1633 (by decide) rfl rfl ?_
  refine am_iload dX12_looks_42 (List.Mem.tail _ (List.Mem.tail _ (List.Mem.tail _ (List.Mem.tail _ (List.Mem.head _))))) ?_
  have o1 := h.1
  replace h := h.2
  have o2 := h.1
  replace h := h.2
  refine am_iaload (v := (w.1 135 0 x4.toNat)) dX12_looks_44 (by decide) rfl o1 o2 rfl ?_
  refine am_iconst dX12_looks_45 (by unfold am_rg; omega) ?_
  refine am_icmpne (tgt := 53) dX12_looks_46 (by decide) (fun c3 => ?_) (fun c3 => ?_)
  · replace h := h.1 c3
    refine am_iconst dX12_looks_53 (by unfold am_rg; omega) ?_
    exact am_sub [1, 0, 3, 4] rfl h
  · replace h := h.2 c3
    refine am_iconst dX12_looks_49 (by unfold am_rg; omega) ?_
    refine am_goto (tgt := 54) dX12_looks_50 (by decide) ?_
    exact am_sub [1, 0, 3, 4] rfl h
theorem bX12_looks_126 {SC : Nat → Nat} {X : mh_X} {d : Nat} {Q : Option am_V → am_W → Prop} {bc bs : Nat} {w : am_W} {x1 : Int} {x2 : Int} {x3 : Int} {xs0 : Int}
    (h : ((xs0 = 0 → Q none w) ∧ (¬ xs0 = 0 → am_M (mh_G X) SC d 0 0 mX12_isInTime [.inr (.inr (some (9, 0)))] w (fun r w1 => am_A (mh_G X) SC (d + 1) mX12_looks Q 137 [(4, .inl xs0), (0, .inr (.inr (some (9, 0)))), (1, .inl x1), (2, .inl x2), (3, .inl x3)] (r.toList ++ []) w1 bc bs)))) :
    am_A (mh_G X) SC (d + 1) mX12_looks Q 126 [(0, .inr (.inr (some (9, 0)))), (1, .inl x1), (2, .inl x2), (3, .inl x3)] [.inl xs0] w bc bs := by
  refine am_istore (ls' := [(4, .inl xs0), (0, .inr (.inr (some (9, 0)))), (1, .inl x1), (2, .inl x2), (3, .inl x3)]) dX12_looks_126 (by decide) rfl ?_
  refine am_iload dX12_looks_128 (List.Mem.head _) ?_
  refine am_ifeq (tgt := 140) dX12_looks_130 (by decide) (fun c1 => ?_) (fun c1 => ?_)
  · replace h := h.1 c1
    exact am_ret (r := none) dX12_looks_140 rfl rfl h
  · replace h := h.2 c1
    refine am_aload_n dX12_looks_133 (List.Mem.tail _ (List.Mem.head _)) ?_
    exact am_callv (d' := d) (kc := 0) (ks := 0) (as := []) dX12_looks_134 wc_X12_isInTime wd_2230 wd_2232 wd_103 wd_122 ds_X12_isInTime (by decide) (Nat.le_refl _) (Nat.le_of_ble_eq_true rfl) (Nat.zero_le _) (Nat.zero_le _) hc_10 (by decide) rfl rfl h
theorem bX12_looks_54 {SC : Nat → Nat} {X : mh_X} {d : Nat} {Q : Option am_V → am_W → Prop} {bc bs : Nat} {w : am_W} {x1 : Int} {x3 : Int} {x4 : Int} {xs0 : Int} {xs1 : Int}
    (h : (0 ≤ x4 ∧ (x4 < 5 ∧ ((¬ (w.1 135 0 x4.toNat) = 2 → am_A (mh_G X) SC (d + 1) mX12_looks Q 73 [(0, .inr (.inr (some (9, 0)))), (1, .inl x1), (2, .inl (am_w (xs1 + xs0))), (4, .inl x4)] [.inl 0, .inl x3] w bc bs) ∧ ((w.1 135 0 x4.toNat) = 2 → am_A (mh_G X) SC (d + 1) mX12_looks Q 73 [(0, .inr (.inr (some (9, 0)))), (1, .inl x1), (2, .inl (am_w (xs1 + xs0))), (4, .inl x4)] [.inl 1, .inl x3] w bc bs))))) :
    am_A (mh_G X) SC (d + 1) mX12_looks Q 54 [(0, .inr (.inr (some (9, 0)))), (1, .inl x1), (3, .inl x3), (4, .inl x4)] [.inl xs0, .inl xs1] w bc bs := by
  refine am_iadd dX12_looks_54 ?_
  refine am_istore_n (ls' := [(2, .inl (am_w (xs1 + xs0))), (0, .inr (.inr (some (9, 0)))), (1, .inl x1), (3, .inl x3), (4, .inl x4)]) dX12_looks_55 (by decide) rfl ?_
  refine am_iload_n dX12_looks_56 (List.Mem.tail _ (List.Mem.tail _ (List.Mem.tail _ (List.Mem.head _)))) ?_
  refine am_aload_n dX12_looks_57 (List.Mem.tail _ (List.Mem.head _)) ?_
  refine am_getf (f := 84) (v := .inr (.inr (some (135, 0)))) dX12_looks_58 hc_10 (by decide) wd_1633 (by decide) rfl rfl ?_
  refine am_iload dX12_looks_61 (List.Mem.tail _ (List.Mem.tail _ (List.Mem.tail _ (List.Mem.tail _ (List.Mem.head _))))) ?_
  have o1 := h.1
  replace h := h.2
  have o2 := h.1
  replace h := h.2
  refine am_iaload (v := (w.1 135 0 x4.toNat)) dX12_looks_63 (by decide) rfl o1 o2 rfl ?_
  refine am_iconst dX12_looks_64 (by unfold am_rg; omega) ?_
  refine am_icmpne (tgt := 72) dX12_looks_65 (by decide) (fun c3 => ?_) (fun c3 => ?_)
  · replace h := h.1 c3
    refine am_iconst dX12_looks_72 (by unfold am_rg; omega) ?_
    exact am_sub [1, 2, 0, 4] rfl h
  · replace h := h.2 c3
    refine am_iconst dX12_looks_68 (by unfold am_rg; omega) ?_
    refine am_goto (tgt := 73) dX12_looks_69 (by decide) ?_
    exact am_sub [1, 2, 0, 4] rfl h
theorem bX12_looks_137 {SC : Nat → Nat} {X : mh_X} {d : Nat} {Q : Option am_V → am_W → Prop} {bc bs : Nat} {w : am_W} {x4 : Int} {x1 : Int} {x2 : Int} {x3 : Int} {xs0 : Int}
    (h : ((¬ xs0 = 0 → am_A (mh_G X) SC (d + 1) mX12_looks Q 159 [(0, .inr (.inr (some (9, 0)))), (5, .inl 0)] [] ((am_up (am_up (am_up w.1 9 0 92 x1) 9 0 93 x2) 9 0 94 x3), w.2) bc bs) ∧ (xs0 = 0 → Q none w))) :
    am_A (mh_G X) SC (d + 1) mX12_looks Q 137 [(4, .inl x4), (0, .inr (.inr (some (9, 0)))), (1, .inl x1), (2, .inl x2), (3, .inl x3)] [.inl xs0] w bc bs := by
  refine am_ifne (tgt := 141) dX12_looks_137 (by decide) (fun c1 => ?_) (fun c1 => ?_)
  · replace h := h.1 c1
    refine am_aload_n dX12_looks_141 (List.Mem.tail _ (List.Mem.head _)) ?_
    refine am_iload_n dX12_looks_142 (List.Mem.tail _ (List.Mem.tail _ (List.Mem.head _))) ?_
    refine am_putf (f := 92) dX12_looks_143 hc_10 (by decide) wd_1641 rfl (Or.inl rfl) (Or.inl (by decide)) rfl ?_
    refine am_aload_n dX12_looks_146 (List.Mem.tail _ (List.Mem.head _)) ?_
    refine am_iload_n dX12_looks_147 (List.Mem.tail _ (List.Mem.tail _ (List.Mem.tail _ (List.Mem.head _)))) ?_
    refine am_putf (f := 93) dX12_looks_148 hc_10 (by decide) wd_1642 rfl (Or.inl rfl) (Or.inl (by decide)) rfl ?_
    refine am_aload_n dX12_looks_151 (List.Mem.tail _ (List.Mem.head _)) ?_
    refine am_iload_n dX12_looks_152 (List.Mem.tail _ (List.Mem.tail _ (List.Mem.tail _ (List.Mem.tail _ (List.Mem.head _))))) ?_
    refine am_putf (f := 94) dX12_looks_153 hc_10 (by decide) wd_1643 rfl (Or.inl rfl) (Or.inl (by decide)) rfl ?_
    refine am_iconst dX12_looks_156 (by unfold am_rg; omega) ?_
    refine am_istore (ls' := [(5, .inl 0), (4, .inl x4), (0, .inr (.inr (some (9, 0)))), (1, .inl x1), (2, .inl x2), (3, .inl x3)]) dX12_looks_157 (by decide) rfl ?_
    exact am_sub [2, 0] rfl h
  · replace h := h.2 c1
    exact am_ret (r := none) dX12_looks_140 rfl rfl h
theorem bX12_looks_73 {SC : Nat → Nat} {X : mh_X} {d : Nat} {Q : Option am_V → am_W → Prop} {bc bs : Nat} {w : am_W} {x1 : Int} {x2 : Int} {x4 : Int} {xs0 : Int} {xs1 : Int}
    (h : am_A (mh_G X) SC (d + 1) mX12_looks Q 9 [(0, .inr (.inr (some (9, 0)))), (1, .inl x1), (2, .inl x2), (3, .inl (am_w (xs1 + xs0))), (4, .inl (am_w (x4 + 1)))] [] w bc bs) :
    am_A (mh_G X) SC (d + 1) mX12_looks Q 73 [(0, .inr (.inr (some (9, 0)))), (1, .inl x1), (2, .inl x2), (4, .inl x4)] [.inl xs0, .inl xs1] w bc bs := by
  refine am_iadd dX12_looks_73 ?_
  refine am_istore_n (ls' := [(3, .inl (am_w (xs1 + xs0))), (0, .inr (.inr (some (9, 0)))), (1, .inl x1), (2, .inl x2), (4, .inl x4)]) dX12_looks_74 (by decide) rfl ?_
  refine am_iinc (ls' := [(4, .inl (am_w (x4 + 1))), (3, .inl (am_w (xs1 + xs0))), (0, .inr (.inr (some (9, 0)))), (1, .inl x1), (2, .inl x2)]) dX12_looks_75 (List.Mem.tail _ (List.Mem.tail _ (List.Mem.tail _ (List.Mem.tail _ (List.Mem.head _))))) (by decide) rfl ?_
  refine am_goto (tgt := 9) dX12_looks_78 (by decide) ?_
  exact am_sub [2, 3, 4, 1, 0] rfl h
theorem bX12_looks_159 {SC : Nat → Nat} {X : mh_X} {d : Nat} {Q : Option am_V → am_W → Prop} {bc bs : Nat} {w : am_W} {x5 : Int}
    (h : (((w.1 9 0 91) ≤ x5 → Q none w) ∧ (¬ (w.1 9 0 91) ≤ x5 → (0 ≤ x5 ∧ (x5 < 5 ∧ am_A (mh_G X) SC (d + 1) mX12_looks Q 159 [(0, .inr (.inr (some (9, 0)))), (5, .inl (am_w (x5 + 1)))] [] ((am_up (am_up w.1 137 0 x5.toNat (w.1 135 0 x5.toNat)) 138 0 x5.toNat (w.1 136 0 x5.toNat)), w.2) bc bs))))) :
    am_A (mh_G X) SC (d + 1) mX12_looks Q 159 [(0, .inr (.inr (some (9, 0)))), (5, .inl x5)] [] w bc bs := by
  refine am_iload dX12_looks_159 (List.Mem.tail _ (List.Mem.head _)) ?_
  refine am_aload_n dX12_looks_161 (List.Mem.head _) ?_
  refine am_getf (f := 91) (v := .inl (w.1 9 0 91)) dX12_looks_162 hc_10 (by decide) wd_1640 (by decide) rfl rfl ?_
  refine am_icmpge (tgt := 202) dX12_looks_165 (by decide) (fun c1 => ?_) (fun c1 => ?_)
  · replace h := h.1 c1
    exact am_ret (r := none) dX12_looks_202 rfl rfl h
  · replace h := h.2 c1
    refine am_aload_n dX12_looks_168 (List.Mem.head _) ?_
    refine am_getf (f := 86) (v := .inr (.inr (some (137, 0)))) dX12_looks_169 hc_10 (by decide) wd_1635 (by decide) rfl rfl ?_
    refine am_iload dX12_looks_172 (List.Mem.tail _ (List.Mem.head _)) ?_
    refine am_aload_n dX12_looks_174 (List.Mem.head _) ?_
    refine am_getf (f := 84) (v := .inr (.inr (some (135, 0)))) dX12_looks_175 hc_10 (by decide) wd_1633 (by decide) rfl rfl ?_
    refine am_iload dX12_looks_178 (List.Mem.tail _ (List.Mem.head _)) ?_
    have o2 := h.1
    replace h := h.2
    have o3 := h.1
    replace h := h.2
    refine am_iaload (v := (w.1 135 0 x5.toNat)) dX12_looks_180 (by decide) rfl o2 o3 rfl ?_
    refine am_iastore dX12_looks_181 (Or.inl (by decide)) rfl o2 o3 ?_
    refine am_aload_n dX12_looks_182 (List.Mem.head _) ?_
    refine am_getf (f := 87) (v := .inr (.inr (some (138, 0)))) dX12_looks_183 hc_10 (by decide) wd_1636 (by decide) rfl rfl ?_
    refine am_iload dX12_looks_186 (List.Mem.tail _ (List.Mem.head _)) ?_
    refine am_aload_n dX12_looks_188 (List.Mem.head _) ?_
    refine am_getf (f := 85) (v := .inr (.inr (some (136, 0)))) dX12_looks_189 hc_10 (by decide) wd_1634 (by decide) rfl rfl ?_
    refine am_iload dX12_looks_192 (List.Mem.tail _ (List.Mem.head _)) ?_
    refine am_iaload (v := (w.1 136 0 x5.toNat)) dX12_looks_194 (by decide) rfl o2 o3 rfl ?_
    refine am_iastore dX12_looks_195 (Or.inl (by decide)) rfl o2 o3 ?_
    refine am_iinc (ls' := [(5, .inl (am_w (x5 + 1))), (0, .inr (.inr (some (9, 0))))]) dX12_looks_196 (List.Mem.tail _ (List.Mem.head _)) (by decide) rfl ?_
    refine am_goto (tgt := 159) dX12_looks_199 (by decide) ?_
    exact am_sub [1, 0] rfl h
-- MourningHouseModel.least(II)I
theorem dX12_least_0 : decode mX12_least.2.1 0 = .ok (.iconst 0, 1) := by decide +kernel
theorem dX12_least_1 : decode mX12_least.2.1 1 = .ok (.istore_n 3, 1) := by decide +kernel
theorem dX12_least_2 : decode mX12_least.2.1 2 = .ok (.iload_n 3, 1) := by decide +kernel
theorem dX12_least_3 : decode mX12_least.2.1 3 = .ok (.aload_n 0, 1) := by decide +kernel
theorem dX12_least_4 : decode mX12_least.2.1 4 = .ok (.getfield 582, 3) := by decide +kernel
theorem dX12_least_7 : decode mX12_least.2.1 7 = .ok (.if_icmp .ge 48, 3) := by decide +kernel
theorem dX12_least_10 : decode mX12_least.2.1 10 = .ok (.aload_n 0, 1) := by decide +kernel
theorem dX12_least_11 : decode mX12_least.2.1 11 = .ok (.getfield 276, 3) := by decide +kernel
theorem dX12_least_14 : decode mX12_least.2.1 14 = .ok (.iload_n 3, 1) := by decide +kernel
theorem dX12_least_15 : decode mX12_least.2.1 15 = .ok (.baload, 1) := by decide +kernel
theorem dX12_least_16 : decode mX12_least.2.1 16 = .ok (.ifCond .ne 33, 3) := by decide +kernel
theorem dX12_least_19 : decode mX12_least.2.1 19 = .ok (.aload_n 0, 1) := by decide +kernel
theorem dX12_least_20 : decode mX12_least.2.1 20 = .ok (.iload_n 3, 1) := by decide +kernel
theorem dX12_least_21 : decode mX12_least.2.1 21 = .ok (.invokevirtual 591, 3) := by decide +kernel
theorem dX12_least_24 : decode mX12_least.2.1 24 = .ok (.ifCond .ne 25, 3) := by decide +kernel
theorem dX12_least_27 : decode mX12_least.2.1 27 = .ok (.aload_n 0, 1) := by decide +kernel
theorem dX12_least_28 : decode mX12_least.2.1 28 = .ok (.getfield 237, 3) := by decide +kernel
theorem dX12_least_31 : decode mX12_least.2.1 31 = .ok (.iload_n 3, 1) := by decide +kernel
theorem dX12_least_32 : decode mX12_least.2.1 32 = .ok (.iaload, 1) := by decide +kernel
theorem dX12_least_33 : decode mX12_least.2.1 33 = .ok (.iload_n 1, 1) := by decide +kernel
theorem dX12_least_34 : decode mX12_least.2.1 34 = .ok (.if_icmp .ne 15, 3) := by decide +kernel
theorem dX12_least_37 : decode mX12_least.2.1 37 = .ok (.aload_n 0, 1) := by decide +kernel
theorem dX12_least_38 : decode mX12_least.2.1 38 = .ok (.getfield 240, 3) := by decide +kernel
theorem dX12_least_41 : decode mX12_least.2.1 41 = .ok (.iload_n 3, 1) := by decide +kernel
theorem dX12_least_42 : decode mX12_least.2.1 42 = .ok (.iaload, 1) := by decide +kernel
theorem dX12_least_43 : decode mX12_least.2.1 43 = .ok (.iload_n 2, 1) := by decide +kernel
theorem dX12_least_44 : decode mX12_least.2.1 44 = .ok (.if_icmp .ne 5, 3) := by decide +kernel
theorem dX12_least_47 : decode mX12_least.2.1 47 = .ok (.iload_n 3, 1) := by decide +kernel
theorem dX12_least_48 : decode mX12_least.2.1 48 = .ok (.ireturn, 1) := by decide +kernel
theorem dX12_least_49 : decode mX12_least.2.1 49 = .ok (.iinc 3 1, 3) := by decide +kernel
theorem dX12_least_52 : decode mX12_least.2.1 52 = .ok (.goto (-50), 3) := by decide +kernel
theorem dX12_least_55 : decode mX12_least.2.1 55 = .ok (.iconst (-1), 1) := by decide +kernel
theorem dX12_least_56 : decode mX12_least.2.1 56 = .ok (.ireturn, 1) := by decide +kernel
theorem bX12_least_0 {SC : Nat → Nat} {X : mh_X} {d : Nat} {Q : Option am_V → am_W → Prop} {bc bs : Nat} {w : am_W} {x1 : Int} {x2 : Int}
    (h : am_A (mh_G X) SC (d + 1) mX12_least Q 2 [(0, .inr (.inr (some (9, 0)))), (1, .inl x1), (2, .inl x2), (3, .inl 0)] [] w bc bs) :
    am_A (mh_G X) SC (d + 1) mX12_least Q 0 [(0, .inr (.inr (some (9, 0)))), (1, .inl x1), (2, .inl x2)] [] w bc bs := by
  refine am_iconst dX12_least_0 (by unfold am_rg; omega) ?_
  refine am_istore_n (ls' := [(3, .inl 0), (0, .inr (.inr (some (9, 0)))), (1, .inl x1), (2, .inl x2)]) dX12_least_1 (by decide) rfl ?_
  exact am_sub [1, 2, 3, 0] rfl h
theorem bX12_least_2 {SC : Nat → Nat} {X : mh_X} {d : Nat} {Q : Option am_V → am_W → Prop} {bc bs : Nat} {w : am_W} {x1 : Int} {x2 : Int} {x3 : Int}
    (h : (((w.1 9 0 75) ≤ x3 → Q (some (.inl (-1))) w) ∧ (¬ (w.1 9 0 75) ≤ x3 → (0 ≤ x3 ∧ (x3 < 40 ∧ ((¬ (w.1 139 0 x3.toNat) = 0 → am_A (mh_G X) SC (d + 1) mX12_least Q 49 [(0, .inr (.inr (some (9, 0)))), (1, .inl x1), (2, .inl x2), (3, .inl x3)] [] w bc bs) ∧ ((w.1 139 0 x3.toNat) = 0 → am_M (mh_G X) SC d 0 0 mX12_hasTask [.inr (.inr (some (9, 0))), .inl x3] w (fun r w1 => am_A (mh_G X) SC (d + 1) mX12_least Q 24 [(0, .inr (.inr (some (9, 0)))), (1, .inl x1), (2, .inl x2), (3, .inl x3)] (r.toList ++ []) w1 bc bs)))))))) :
    am_A (mh_G X) SC (d + 1) mX12_least Q 2 [(0, .inr (.inr (some (9, 0)))), (1, .inl x1), (2, .inl x2), (3, .inl x3)] [] w bc bs := by
  refine am_iload_n dX12_least_2 (List.Mem.tail _ (List.Mem.tail _ (List.Mem.tail _ (List.Mem.head _)))) ?_
  refine am_aload_n dX12_least_3 (List.Mem.head _) ?_
  refine am_getf (f := 75) (v := .inl (w.1 9 0 75)) dX12_least_4 hc_10 (by decide) wd_1624 (by decide) rfl rfl ?_
  refine am_icmpge (tgt := 55) dX12_least_7 (by decide) (fun c1 => ?_) (fun c1 => ?_)
  · replace h := h.1 c1
    refine am_iconst dX12_least_55 (by unfold am_rg; omega) ?_
    exact am_ret (r := some (.inl (-1))) dX12_least_56 (Or.inl rfl) rfl h
  · replace h := h.2 c1
    refine am_aload_n dX12_least_10 (List.Mem.head _) ?_
    refine am_getf (f := 88) (v := .inr (.inr (some (139, 0)))) dX12_least_11 hc_10 (by decide) wd_1637 (by decide) rfl rfl ?_
    refine am_iload_n dX12_least_14 (List.Mem.tail _ (List.Mem.tail _ (List.Mem.tail _ (List.Mem.head _)))) ?_
    have o2 := h.1
    replace h := h.2
    have o3 := h.1
    replace h := h.2
    refine am_zaload (v := (w.1 139 0 x3.toNat)) dX12_least_15 (by decide) rfl o2 o3 rfl ?_
    refine am_ifne (tgt := 49) dX12_least_16 (by decide) (fun c4 => ?_) (fun c4 => ?_)
    · replace h := h.1 c4
      exact h
    · replace h := h.2 c4
      refine am_aload_n dX12_least_19 (List.Mem.head _) ?_
      refine am_iload_n dX12_least_20 (List.Mem.tail _ (List.Mem.tail _ (List.Mem.tail _ (List.Mem.head _)))) ?_
      exact am_callv (d' := d) (kc := 0) (ks := 0) (as := [.inl x3]) dX12_least_21 wc_X12_hasTask wd_2202 wd_2204 wd_98 wd_122 ds_X12_hasTask (by decide) (Nat.le_refl _) (Nat.le_of_ble_eq_true rfl) (Nat.zero_le _) (Nat.zero_le _) hc_10 (by decide) rfl rfl h
theorem bX12_least_49 {SC : Nat → Nat} {X : mh_X} {d : Nat} {Q : Option am_V → am_W → Prop} {bc bs : Nat} {w : am_W} {x1 : Int} {x2 : Int} {x3 : Int}
    (h : am_A (mh_G X) SC (d + 1) mX12_least Q 2 [(0, .inr (.inr (some (9, 0)))), (1, .inl x1), (2, .inl x2), (3, .inl (am_w (x3 + 1)))] [] w bc bs) :
    am_A (mh_G X) SC (d + 1) mX12_least Q 49 [(0, .inr (.inr (some (9, 0)))), (1, .inl x1), (2, .inl x2), (3, .inl x3)] [] w bc bs := by
  refine am_iinc (ls' := [(3, .inl (am_w (x3 + 1))), (0, .inr (.inr (some (9, 0)))), (1, .inl x1), (2, .inl x2)]) dX12_least_49 (List.Mem.tail _ (List.Mem.tail _ (List.Mem.tail _ (List.Mem.head _)))) (by decide) rfl ?_
  refine am_goto (tgt := 2) dX12_least_52 (by decide) ?_
  exact am_sub [1, 2, 3, 0] rfl h
theorem bX12_least_24 {SC : Nat → Nat} {X : mh_X} {d : Nat} {Q : Option am_V → am_W → Prop} {bc bs : Nat} {w : am_W} {x1 : Int} {x2 : Int} {x3 : Int} {xs0 : Int}
    (h : ((¬ xs0 = 0 → am_A (mh_G X) SC (d + 1) mX12_least Q 49 [(0, .inr (.inr (some (9, 0)))), (1, .inl x1), (2, .inl x2), (3, .inl x3)] [] w bc bs) ∧ (xs0 = 0 → (0 ≤ x3 ∧ (x3 < 40 ∧ ((¬ (w.1 126 0 x3.toNat) = x1 → am_A (mh_G X) SC (d + 1) mX12_least Q 49 [(0, .inr (.inr (some (9, 0)))), (1, .inl x1), (2, .inl x2), (3, .inl x3)] [] w bc bs) ∧ ((w.1 126 0 x3.toNat) = x1 → ((¬ (w.1 127 0 x3.toNat) = x2 → am_A (mh_G X) SC (d + 1) mX12_least Q 49 [(0, .inr (.inr (some (9, 0)))), (1, .inl x1), (2, .inl x2), (3, .inl x3)] [] w bc bs) ∧ ((w.1 127 0 x3.toNat) = x2 → Q (some (.inl x3)) w))))))))) :
    am_A (mh_G X) SC (d + 1) mX12_least Q 24 [(0, .inr (.inr (some (9, 0)))), (1, .inl x1), (2, .inl x2), (3, .inl x3)] [.inl xs0] w bc bs := by
  refine am_ifne (tgt := 49) dX12_least_24 (by decide) (fun c1 => ?_) (fun c1 => ?_)
  · replace h := h.1 c1
    exact h
  · replace h := h.2 c1
    refine am_aload_n dX12_least_27 (List.Mem.head _) ?_
    refine am_getf (f := 72) (v := .inr (.inr (some (126, 0)))) dX12_least_28 hc_10 (by decide) wd_1621 (by decide) rfl rfl ?_
    refine am_iload_n dX12_least_31 (List.Mem.tail _ (List.Mem.tail _ (List.Mem.tail _ (List.Mem.head _)))) ?_
    have o2 := h.1
    replace h := h.2
    have o3 := h.1
    replace h := h.2
    refine am_iaload (v := (w.1 126 0 x3.toNat)) dX12_least_32 (by decide) rfl o2 o3 rfl ?_
    refine am_iload_n dX12_least_33 (List.Mem.tail _ (List.Mem.head _)) ?_
    refine am_icmpne (tgt := 49) dX12_least_34 (by decide) (fun c4 => ?_) (fun c4 => ?_)
    · replace h := h.1 c4
      exact h
    · replace h := h.2 c4
      refine am_aload_n dX12_least_37 (List.Mem.head _) ?_
      refine am_getf (f := 73) (v := .inr (.inr (some (127, 0)))) dX12_least_38 hc_10 (by decide) wd_1622 (by decide) rfl rfl ?_
      refine am_iload_n dX12_least_41 (List.Mem.tail _ (List.Mem.tail _ (List.Mem.tail _ (List.Mem.head _)))) ?_
      refine am_iaload (v := (w.1 127 0 x3.toNat)) dX12_least_42 (by decide) rfl o2 o3 rfl ?_
      refine am_iload_n dX12_least_43 (List.Mem.tail _ (List.Mem.tail _ (List.Mem.head _))) ?_
      refine am_icmpne (tgt := 49) dX12_least_44 (by decide) (fun c5 => ?_) (fun c5 => ?_)
      · replace h := h.1 c5
        exact h
      · replace h := h.2 c5
        refine am_iload_n dX12_least_47 (List.Mem.tail _ (List.Mem.tail _ (List.Mem.tail _ (List.Mem.head _)))) ?_
        exact am_ret (r := some (.inl x3)) dX12_least_48 (Or.inl rfl) rfl h
-- MourningHouseModel.takes(III)V
theorem dX12_takes_0 : decode mX12_takes.2.1 0 = .ok (.aload_n 0, 1) := by decide +kernel
theorem dX12_takes_1 : decode mX12_takes.2.1 1 = .ok (.getfield 264, 3) := by decide +kernel
theorem dX12_takes_4 : decode mX12_takes.2.1 4 = .ok (.iload_n 1, 1) := by decide +kernel
theorem dX12_takes_5 : decode mX12_takes.2.1 5 = .ok (.iload_n 2, 1) := by decide +kernel
theorem dX12_takes_6 : decode mX12_takes.2.1 6 = .ok (.iastore, 1) := by decide +kernel
theorem dX12_takes_7 : decode mX12_takes.2.1 7 = .ok (.aload_n 0, 1) := by decide +kernel
theorem dX12_takes_8 : decode mX12_takes.2.1 8 = .ok (.getfield 267, 3) := by decide +kernel
theorem dX12_takes_11 : decode mX12_takes.2.1 11 = .ok (.iload_n 1, 1) := by decide +kernel
theorem dX12_takes_12 : decode mX12_takes.2.1 12 = .ok (.iload_n 3, 1) := by decide +kernel
theorem dX12_takes_13 : decode mX12_takes.2.1 13 = .ok (.iastore, 1) := by decide +kernel
theorem dX12_takes_14 : decode mX12_takes.2.1 14 = .ok (.iload_n 3, 1) := by decide +kernel
theorem dX12_takes_15 : decode mX12_takes.2.1 15 = .ok (.iconst (-1), 1) := by decide +kernel
theorem dX12_takes_16 : decode mX12_takes.2.1 16 = .ok (.if_icmp .eq 10, 3) := by decide +kernel
theorem dX12_takes_19 : decode mX12_takes.2.1 19 = .ok (.aload_n 0, 1) := by decide +kernel
theorem dX12_takes_20 : decode mX12_takes.2.1 20 = .ok (.getfield 276, 3) := by decide +kernel
theorem dX12_takes_23 : decode mX12_takes.2.1 23 = .ok (.iload_n 3, 1) := by decide +kernel
theorem dX12_takes_24 : decode mX12_takes.2.1 24 = .ok (.iconst 1, 1) := by decide +kernel
theorem dX12_takes_25 : decode mX12_takes.2.1 25 = .ok (.bastore, 1) := by decide +kernel
theorem dX12_takes_26 : decode mX12_takes.2.1 26 = .ok (.aload_n 0, 1) := by decide +kernel
theorem dX12_takes_27 : decode mX12_takes.2.1 27 = .ok (.iload_n 1, 1) := by decide +kernel
theorem dX12_takes_28 : decode mX12_takes.2.1 28 = .ok (.iconst 1, 1) := by decide +kernel
theorem dX12_takes_29 : decode mX12_takes.2.1 29 = .ok (.iadd, 1) := by decide +kernel
theorem dX12_takes_30 : decode mX12_takes.2.1 30 = .ok (.invokevirtual 618, 3) := by decide +kernel
theorem dX12_takes_33 : decode mX12_takes.2.1 33 = .ok (.iload_n 3, 1) := by decide +kernel
theorem dX12_takes_34 : decode mX12_takes.2.1 34 = .ok (.iconst (-1), 1) := by decide +kernel
theorem dX12_takes_35 : decode mX12_takes.2.1 35 = .ok (.if_icmp .eq 10, 3) := by decide +kernel
theorem dX12_takes_38 : decode mX12_takes.2.1 38 = .ok (.aload_n 0, 1) := by decide +kernel
theorem dX12_takes_39 : decode mX12_takes.2.1 39 = .ok (.getfield 276, 3) := by decide +kernel
theorem dX12_takes_42 : decode mX12_takes.2.1 42 = .ok (.iload_n 3, 1) := by decide +kernel
theorem dX12_takes_43 : decode mX12_takes.2.1 43 = .ok (.iconst 0, 1) := by decide +kernel
theorem dX12_takes_44 : decode mX12_takes.2.1 44 = .ok (.bastore, 1) := by decide +kernel
theorem dX12_takes_45 : decode mX12_takes.2.1 45 = .ok (.return_, 1) := by decide +kernel
theorem bX12_takes_0 {SC : Nat → Nat} {X : mh_X} {d : Nat} {Q : Option am_V → am_W → Prop} {bc bs : Nat} {w : am_W} {x1 : Int} {x2 : Int} {x3 : Int}
    (h : (0 ≤ x1 ∧ (x1 < 5 ∧ ((x3 = (-1) → am_A (mh_G X) SC (d + 1) mX12_takes Q 26 [(0, .inr (.inr (some (9, 0)))), (1, .inl x1), (3, .inl x3)] [] ((am_up (am_up w.1 135 0 x1.toNat x2) 136 0 x1.toNat x3), w.2) bc bs) ∧ (¬ x3 = (-1) → (0 ≤ x3 ∧ (x3 < 40 ∧ am_A (mh_G X) SC (d + 1) mX12_takes Q 26 [(0, .inr (.inr (some (9, 0)))), (1, .inl x1), (3, .inl x3)] [] ((am_up (am_up (am_up w.1 135 0 x1.toNat x2) 136 0 x1.toNat x3) 139 0 x3.toNat 1), w.2) bc bs))))))) :
    am_A (mh_G X) SC (d + 1) mX12_takes Q 0 [(0, .inr (.inr (some (9, 0)))), (1, .inl x1), (2, .inl x2), (3, .inl x3)] [] w bc bs := by
  refine am_aload_n dX12_takes_0 (List.Mem.head _) ?_
  refine am_getf (f := 84) (v := .inr (.inr (some (135, 0)))) dX12_takes_1 hc_10 (by decide) wd_1633 (by decide) rfl rfl ?_
  refine am_iload_n dX12_takes_4 (List.Mem.tail _ (List.Mem.head _)) ?_
  refine am_iload_n dX12_takes_5 (List.Mem.tail _ (List.Mem.tail _ (List.Mem.head _))) ?_
  have o1 := h.1
  replace h := h.2
  have o2 := h.1
  replace h := h.2
  refine am_iastore dX12_takes_6 (Or.inl (by decide)) rfl o1 o2 ?_
  refine am_aload_n dX12_takes_7 (List.Mem.head _) ?_
  refine am_getf (f := 85) (v := .inr (.inr (some (136, 0)))) dX12_takes_8 hc_10 (by decide) wd_1634 (by decide) rfl rfl ?_
  refine am_iload_n dX12_takes_11 (List.Mem.tail _ (List.Mem.head _)) ?_
  refine am_iload_n dX12_takes_12 (List.Mem.tail _ (List.Mem.tail _ (List.Mem.tail _ (List.Mem.head _)))) ?_
  refine am_iastore dX12_takes_13 (Or.inl (by decide)) rfl o1 o2 ?_
  refine am_iload_n dX12_takes_14 (List.Mem.tail _ (List.Mem.tail _ (List.Mem.tail _ (List.Mem.head _)))) ?_
  refine am_iconst dX12_takes_15 (by unfold am_rg; omega) ?_
  refine am_icmpeq (tgt := 26) dX12_takes_16 (by decide) (fun c3 => ?_) (fun c3 => ?_)
  · replace h := h.1 c3
    exact am_sub [0, 1, 3] rfl h
  · replace h := h.2 c3
    refine am_aload_n dX12_takes_19 (List.Mem.head _) ?_
    refine am_getf (f := 88) (v := .inr (.inr (some (139, 0)))) dX12_takes_20 hc_10 (by decide) wd_1637 (by decide) rfl rfl ?_
    refine am_iload_n dX12_takes_23 (List.Mem.tail _ (List.Mem.tail _ (List.Mem.tail _ (List.Mem.head _)))) ?_
    refine am_iconst dX12_takes_24 (by unfold am_rg; omega) ?_
    have o4 := h.1
    replace h := h.2
    have o5 := h.1
    replace h := h.2
    refine am_zastore (by decide) dX12_takes_25 (Or.inl (by decide)) rfl o4 o5 ?_
    exact am_sub [0, 1, 3] rfl h
theorem bX12_takes_26 {SC : Nat → Nat} {X : mh_X} {d : Nat} {Q : Option am_V → am_W → Prop} {bc bs : Nat} {w : am_W} {x1 : Int} {x3 : Int}
    (h : am_M (mh_G X) SC d 0 0 mX12_tries [.inr (.inr (some (9, 0))), .inl (am_w (x1 + 1))] w (fun r w1 => am_A (mh_G X) SC (d + 1) mX12_takes Q 33 [(0, .inr (.inr (some (9, 0)))), (1, .inl x1), (3, .inl x3)] (r.toList ++ []) w1 bc bs)) :
    am_A (mh_G X) SC (d + 1) mX12_takes Q 26 [(0, .inr (.inr (some (9, 0)))), (1, .inl x1), (3, .inl x3)] [] w bc bs := by
  refine am_aload_n dX12_takes_26 (List.Mem.head _) ?_
  refine am_iload_n dX12_takes_27 (List.Mem.tail _ (List.Mem.head _)) ?_
  refine am_iconst dX12_takes_28 (by unfold am_rg; omega) ?_
  refine am_iadd dX12_takes_29 ?_
  exact am_callv (d' := d) (kc := 0) (ks := 0) (as := [.inl (am_w (x1 + 1))]) dX12_takes_30 wc_X12_tries wd_2222 wd_2224 wd_101 wd_122 ds_X12_tries (by decide) (Nat.le_refl _) (Nat.le_of_ble_eq_true rfl) (Nat.zero_le _) (Nat.zero_le _) hc_10 (by decide) rfl rfl h
theorem bX12_takes_33 {SC : Nat → Nat} {X : mh_X} {d : Nat} {Q : Option am_V → am_W → Prop} {bc bs : Nat} {w : am_W} {x1 : Int} {x3 : Int}
    (h : ((x3 = (-1) → Q none w) ∧ (¬ x3 = (-1) → (0 ≤ x3 ∧ (x3 < 40 ∧ Q none ((am_up w.1 139 0 x3.toNat 0), w.2)))))) :
    am_A (mh_G X) SC (d + 1) mX12_takes Q 33 [(0, .inr (.inr (some (9, 0)))), (1, .inl x1), (3, .inl x3)] [] w bc bs := by
  refine am_iload_n dX12_takes_33 (List.Mem.tail _ (List.Mem.tail _ (List.Mem.head _))) ?_
  refine am_iconst dX12_takes_34 (by unfold am_rg; omega) ?_
  refine am_icmpeq (tgt := 45) dX12_takes_35 (by decide) (fun c1 => ?_) (fun c1 => ?_)
  · replace h := h.1 c1
    exact am_ret (r := none) dX12_takes_45 rfl rfl h
  · replace h := h.2 c1
    refine am_aload_n dX12_takes_38 (List.Mem.head _) ?_
    refine am_getf (f := 88) (v := .inr (.inr (some (139, 0)))) dX12_takes_39 hc_10 (by decide) wd_1637 (by decide) rfl rfl ?_
    refine am_iload_n dX12_takes_42 (List.Mem.tail _ (List.Mem.tail _ (List.Mem.head _))) ?_
    refine am_iconst dX12_takes_43 (by unfold am_rg; omega) ?_
    have o2 := h.1
    replace h := h.2
    have o3 := h.1
    replace h := h.2
    refine am_zastore (by decide) dX12_takes_44 (Or.inl (by decide)) rfl o2 o3 ?_
    exact am_ret (r := none) dX12_takes_45 rfl rfl h
-- MourningHouseModel.tries(I)V
theorem dX12_tries_0 : decode mX12_tries.2.1 0 = .ok (.iload_n 1, 1) := by decide +kernel
theorem dX12_tries_1 : decode mX12_tries.2.1 1 = .ok (.aload_n 0, 1) := by decide +kernel
theorem dX12_tries_2 : decode mX12_tries.2.1 2 = .ok (.getfield 600, 3) := by decide +kernel
theorem dX12_tries_5 : decode mX12_tries.2.1 5 = .ok (.if_icmp .ne 8, 3) := by decide +kernel
theorem dX12_tries_8 : decode mX12_tries.2.1 8 = .ok (.aload_n 0, 1) := by decide +kernel
theorem dX12_tries_9 : decode mX12_tries.2.1 9 = .ok (.invokevirtual 621, 3) := by decide +kernel
theorem dX12_tries_12 : decode mX12_tries.2.1 12 = .ok (.return_, 1) := by decide +kernel
theorem dX12_tries_13 : decode mX12_tries.2.1 13 = .ok (.aload_n 0, 1) := by decide +kernel
theorem dX12_tries_14 : decode mX12_tries.2.1 14 = .ok (.getfield 261, 3) := by decide +kernel
theorem dX12_tries_17 : decode mX12_tries.2.1 17 = .ok (.iload_n 1, 1) := by decide +kernel
theorem dX12_tries_18 : decode mX12_tries.2.1 18 = .ok (.iaload, 1) := by decide +kernel
theorem dX12_tries_19 : decode mX12_tries.2.1 19 = .ok (.ifCond .ne 11, 3) := by decide +kernel
theorem dX12_tries_22 : decode mX12_tries.2.1 22 = .ok (.aload_n 0, 1) := by decide +kernel
theorem dX12_tries_23 : decode mX12_tries.2.1 23 = .ok (.iload_n 1, 1) := by decide +kernel
theorem dX12_tries_24 : decode mX12_tries.2.1 24 = .ok (.iconst 0, 1) := by decide +kernel
theorem dX12_tries_25 : decode mX12_tries.2.1 25 = .ok (.iconst (-1), 1) := by decide +kernel
theorem dX12_tries_26 : decode mX12_tries.2.1 26 = .ok (.invokevirtual 624, 3) := by decide +kernel
theorem dX12_tries_29 : decode mX12_tries.2.1 29 = .ok (.return_, 1) := by decide +kernel
theorem dX12_tries_30 : decode mX12_tries.2.1 30 = .ok (.aload_n 0, 1) := by decide +kernel
theorem dX12_tries_31 : decode mX12_tries.2.1 31 = .ok (.getfield 154, 3) := by decide +kernel
theorem dX12_tries_34 : decode mX12_tries.2.1 34 = .ok (.aload_n 0, 1) := by decide +kernel
theorem dX12_tries_35 : decode mX12_tries.2.1 35 = .ok (.getfield 258, 3) := by decide +kernel
theorem dX12_tries_38 : decode mX12_tries.2.1 38 = .ok (.iload_n 1, 1) := by decide +kernel
theorem dX12_tries_39 : decode mX12_tries.2.1 39 = .ok (.iaload, 1) := by decide +kernel
theorem dX12_tries_40 : decode mX12_tries.2.1 40 = .ok (.iaload, 1) := by decide +kernel
theorem dX12_tries_41 : decode mX12_tries.2.1 41 = .ok (.istore_n 2, 1) := by decide +kernel
theorem dX12_tries_42 : decode mX12_tries.2.1 42 = .ok (.aload_n 0, 1) := by decide +kernel
theorem dX12_tries_43 : decode mX12_tries.2.1 43 = .ok (.iload_n 2, 1) := by decide +kernel
theorem dX12_tries_44 : decode mX12_tries.2.1 44 = .ok (.aload_n 0, 1) := by decide +kernel
theorem dX12_tries_45 : decode mX12_tries.2.1 45 = .ok (.getfield 261, 3) := by decide +kernel
theorem dX12_tries_48 : decode mX12_tries.2.1 48 = .ok (.iload_n 1, 1) := by decide +kernel
theorem dX12_tries_49 : decode mX12_tries.2.1 49 = .ok (.iaload, 1) := by decide +kernel
theorem dX12_tries_50 : decode mX12_tries.2.1 50 = .ok (.invokevirtual 628, 3) := by decide +kernel
theorem dX12_tries_53 : decode mX12_tries.2.1 53 = .ok (.iconst (-1), 1) := by decide +kernel
theorem dX12_tries_54 : decode mX12_tries.2.1 54 = .ok (.if_icmp .eq 20, 3) := by decide +kernel
theorem dX12_tries_57 : decode mX12_tries.2.1 57 = .ok (.aload_n 0, 1) := by decide +kernel
theorem dX12_tries_58 : decode mX12_tries.2.1 58 = .ok (.iload_n 1, 1) := by decide +kernel
theorem dX12_tries_59 : decode mX12_tries.2.1 59 = .ok (.iconst 1, 1) := by decide +kernel
theorem dX12_tries_60 : decode mX12_tries.2.1 60 = .ok (.aload_n 0, 1) := by decide +kernel
theorem dX12_tries_61 : decode mX12_tries.2.1 61 = .ok (.iload_n 2, 1) := by decide +kernel
theorem dX12_tries_62 : decode mX12_tries.2.1 62 = .ok (.aload_n 0, 1) := by decide +kernel
theorem dX12_tries_63 : decode mX12_tries.2.1 63 = .ok (.getfield 261, 3) := by decide +kernel
theorem dX12_tries_66 : decode mX12_tries.2.1 66 = .ok (.iload_n 1, 1) := by decide +kernel
theorem dX12_tries_67 : decode mX12_tries.2.1 67 = .ok (.iaload, 1) := by decide +kernel
theorem dX12_tries_68 : decode mX12_tries.2.1 68 = .ok (.invokevirtual 628, 3) := by decide +kernel
theorem dX12_tries_71 : decode mX12_tries.2.1 71 = .ok (.invokevirtual 624, 3) := by decide +kernel
theorem dX12_tries_74 : decode mX12_tries.2.1 74 = .ok (.aload_n 0, 1) := by decide +kernel
theorem dX12_tries_75 : decode mX12_tries.2.1 75 = .ok (.getfield 261, 3) := by decide +kernel
theorem dX12_tries_78 : decode mX12_tries.2.1 78 = .ok (.iload_n 1, 1) := by decide +kernel
theorem dX12_tries_79 : decode mX12_tries.2.1 79 = .ok (.iaload, 1) := by decide +kernel
theorem dX12_tries_80 : decode mX12_tries.2.1 80 = .ok (.iconst 1, 1) := by decide +kernel
theorem dX12_tries_81 : decode mX12_tries.2.1 81 = .ok (.isub, 1) := by decide +kernel
theorem dX12_tries_82 : decode mX12_tries.2.1 82 = .ok (.istore_n 3, 1) := by decide +kernel
theorem dX12_tries_83 : decode mX12_tries.2.1 83 = .ok (.iload_n 3, 1) := by decide +kernel
theorem dX12_tries_84 : decode mX12_tries.2.1 84 = .ok (.ifCond .lt 31, 3) := by decide +kernel
theorem dX12_tries_87 : decode mX12_tries.2.1 87 = .ok (.aload_n 0, 1) := by decide +kernel
theorem dX12_tries_88 : decode mX12_tries.2.1 88 = .ok (.iload_n 2, 1) := by decide +kernel
theorem dX12_tries_89 : decode mX12_tries.2.1 89 = .ok (.iload_n 3, 1) := by decide +kernel
theorem dX12_tries_90 : decode mX12_tries.2.1 90 = .ok (.invokevirtual 628, 3) := by decide +kernel
theorem dX12_tries_93 : decode mX12_tries.2.1 93 = .ok (.iconst (-1), 1) := by decide +kernel
theorem dX12_tries_94 : decode mX12_tries.2.1 94 = .ok (.if_icmp .eq 15, 3) := by decide +kernel
theorem dX12_tries_97 : decode mX12_tries.2.1 97 = .ok (.aload_n 0, 1) := by decide +kernel
theorem dX12_tries_98 : decode mX12_tries.2.1 98 = .ok (.iload_n 1, 1) := by decide +kernel
theorem dX12_tries_99 : decode mX12_tries.2.1 99 = .ok (.iconst 2, 1) := by decide +kernel
theorem dX12_tries_100 : decode mX12_tries.2.1 100 = .ok (.aload_n 0, 1) := by decide +kernel
theorem dX12_tries_101 : decode mX12_tries.2.1 101 = .ok (.iload_n 2, 1) := by decide +kernel
theorem dX12_tries_102 : decode mX12_tries.2.1 102 = .ok (.iload_n 3, 1) := by decide +kernel
theorem dX12_tries_103 : decode mX12_tries.2.1 103 = .ok (.invokevirtual 628, 3) := by decide +kernel
theorem dX12_tries_106 : decode mX12_tries.2.1 106 = .ok (.invokevirtual 624, 3) := by decide +kernel
theorem dX12_tries_109 : decode mX12_tries.2.1 109 = .ok (.iinc 3 (-1), 3) := by decide +kernel
theorem dX12_tries_112 : decode mX12_tries.2.1 112 = .ok (.goto (-29), 3) := by decide +kernel
theorem dX12_tries_115 : decode mX12_tries.2.1 115 = .ok (.aload_n 0, 1) := by decide +kernel
theorem dX12_tries_116 : decode mX12_tries.2.1 116 = .ok (.getfield 243, 3) := by decide +kernel
theorem dX12_tries_119 : decode mX12_tries.2.1 119 = .ok (.aload_n 0, 1) := by decide +kernel
theorem dX12_tries_120 : decode mX12_tries.2.1 120 = .ok (.getfield 261, 3) := by decide +kernel
theorem dX12_tries_123 : decode mX12_tries.2.1 123 = .ok (.iload_n 1, 1) := by decide +kernel
theorem dX12_tries_124 : decode mX12_tries.2.1 124 = .ok (.iaload, 1) := by decide +kernel
theorem dX12_tries_125 : decode mX12_tries.2.1 125 = .ok (.iaload, 1) := by decide +kernel
theorem dX12_tries_126 : decode mX12_tries.2.1 126 = .ok (.aload_n 0, 1) := by decide +kernel
theorem dX12_tries_127 : decode mX12_tries.2.1 127 = .ok (.getfield 279, 3) := by decide +kernel
theorem dX12_tries_130 : decode mX12_tries.2.1 130 = .ok (.aload_n 0, 1) := by decide +kernel
theorem dX12_tries_131 : decode mX12_tries.2.1 131 = .ok (.getfield 261, 3) := by decide +kernel
theorem dX12_tries_134 : decode mX12_tries.2.1 134 = .ok (.iload_n 1, 1) := by decide +kernel
theorem dX12_tries_135 : decode mX12_tries.2.1 135 = .ok (.iaload, 1) := by decide +kernel
theorem dX12_tries_136 : decode mX12_tries.2.1 136 = .ok (.iaload, 1) := by decide +kernel
theorem dX12_tries_137 : decode mX12_tries.2.1 137 = .ok (.if_icmp .le 40, 3) := by decide +kernel
theorem dX12_tries_140 : decode mX12_tries.2.1 140 = .ok (.aload_n 0, 1) := by decide +kernel
theorem dX12_tries_141 : decode mX12_tries.2.1 141 = .ok (.getfield 279, 3) := by decide +kernel
theorem dX12_tries_144 : decode mX12_tries.2.1 144 = .ok (.aload_n 0, 1) := by decide +kernel
theorem dX12_tries_145 : decode mX12_tries.2.1 145 = .ok (.getfield 261, 3) := by decide +kernel
theorem dX12_tries_148 : decode mX12_tries.2.1 148 = .ok (.iload_n 1, 1) := by decide +kernel
theorem dX12_tries_149 : decode mX12_tries.2.1 149 = .ok (.iaload, 1) := by decide +kernel
theorem dX12_tries_150 : decode mX12_tries.2.1 150 = .ok (.dup2, 1) := by decide +kernel
theorem dX12_tries_151 : decode mX12_tries.2.1 151 = .ok (.iaload, 1) := by decide +kernel
theorem dX12_tries_152 : decode mX12_tries.2.1 152 = .ok (.iconst 1, 1) := by decide +kernel
theorem dX12_tries_153 : decode mX12_tries.2.1 153 = .ok (.iadd, 1) := by decide +kernel
theorem dX12_tries_154 : decode mX12_tries.2.1 154 = .ok (.iastore, 1) := by decide +kernel
theorem dX12_tries_155 : decode mX12_tries.2.1 155 = .ok (.aload_n 0, 1) := by decide +kernel
theorem dX12_tries_156 : decode mX12_tries.2.1 156 = .ok (.iload_n 1, 1) := by decide +kernel
theorem dX12_tries_157 : decode mX12_tries.2.1 157 = .ok (.iconst 3, 1) := by decide +kernel
theorem dX12_tries_158 : decode mX12_tries.2.1 158 = .ok (.iconst (-1), 1) := by decide +kernel
theorem dX12_tries_159 : decode mX12_tries.2.1 159 = .ok (.invokevirtual 624, 3) := by decide +kernel
theorem dX12_tries_162 : decode mX12_tries.2.1 162 = .ok (.aload_n 0, 1) := by decide +kernel
theorem dX12_tries_163 : decode mX12_tries.2.1 163 = .ok (.getfield 279, 3) := by decide +kernel
theorem dX12_tries_166 : decode mX12_tries.2.1 166 = .ok (.aload_n 0, 1) := by decide +kernel
theorem dX12_tries_167 : decode mX12_tries.2.1 167 = .ok (.getfield 261, 3) := by decide +kernel
theorem dX12_tries_170 : decode mX12_tries.2.1 170 = .ok (.iload_n 1, 1) := by decide +kernel
theorem dX12_tries_171 : decode mX12_tries.2.1 171 = .ok (.iaload, 1) := by decide +kernel
theorem dX12_tries_172 : decode mX12_tries.2.1 172 = .ok (.dup2, 1) := by decide +kernel
theorem dX12_tries_173 : decode mX12_tries.2.1 173 = .ok (.iaload, 1) := by decide +kernel
theorem dX12_tries_174 : decode mX12_tries.2.1 174 = .ok (.iconst 1, 1) := by decide +kernel
theorem dX12_tries_175 : decode mX12_tries.2.1 175 = .ok (.isub, 1) := by decide +kernel
theorem dX12_tries_176 : decode mX12_tries.2.1 176 = .ok (.iastore, 1) := by decide +kernel
theorem dX12_tries_177 : decode mX12_tries.2.1 177 = .ok (.aload_n 0, 1) := by decide +kernel
theorem dX12_tries_178 : decode mX12_tries.2.1 178 = .ok (.iload_n 1, 1) := by decide +kernel
theorem dX12_tries_179 : decode mX12_tries.2.1 179 = .ok (.iconst 4, 1) := by decide +kernel
theorem dX12_tries_180 : decode mX12_tries.2.1 180 = .ok (.iconst (-1), 1) := by decide +kernel
theorem dX12_tries_181 : decode mX12_tries.2.1 181 = .ok (.invokevirtual 624, 3) := by decide +kernel
theorem dX12_tries_184 : decode mX12_tries.2.1 184 = .ok (.return_, 1) := by decide +kernel
theorem bX12_tries_0 {SC : Nat → Nat} {X : mh_X} {d : Nat} {Q : Option am_V → am_W → Prop} {bc bs : Nat} {w : am_W} {x1 : Int}
    (h : ((¬ x1 = (w.1 9 0 91) → (0 ≤ x1 ∧ (x1 < 5 ∧ ((¬ (w.1 134 0 x1.toNat) = 0 → (0 ≤ (w.1 133 0 x1.toNat) ∧ ((w.1 133 0 x1.toNat) < 40 ∧ am_M (mh_G X) SC d 0 0 mX12_least [.inr (.inr (some (9, 0))), .inl (w.1 97 0 (w.1 133 0 x1.toNat).toNat), .inl (w.1 134 0 x1.toNat)] w (fun r w1 => am_A (mh_G X) SC (d + 1) mX12_tries Q 53 [(2, .inl (w.1 97 0 (w.1 133 0 x1.toNat).toNat)), (0, .inr (.inr (some (9, 0)))), (1, .inl x1)] (r.toList ++ []) w1 bc bs)))) ∧ ((w.1 134 0 x1.toNat) = 0 → am_M (mh_G X) SC d 0 0 mX12_takes [.inr (.inr (some (9, 0))), .inl x1, .inl 0, .inl (-1)] w (fun r w1 => am_A (mh_G X) SC (d + 1) mX12_tries Q 29 [(0, .inr (.inr (some (9, 0)))), (1, .inl x1)] (r.toList ++ []) w1 bc bs)))))) ∧ (x1 = (w.1 9 0 91) → am_M (mh_G X) SC d 0 0 mX12_looks [.inr (.inr (some (9, 0)))] w (fun r w1 => am_A (mh_G X) SC (d + 1) mX12_tries Q 12 [(0, .inr (.inr (some (9, 0)))), (1, .inl x1)] (r.toList ++ []) w1 bc bs)))) :
    am_A (mh_G X) SC (d + 1) mX12_tries Q 0 [(0, .inr (.inr (some (9, 0)))), (1, .inl x1)] [] w bc bs := by
  refine am_iload_n dX12_tries_0 (List.Mem.tail _ (List.Mem.head _)) ?_
  refine am_aload_n dX12_tries_1 (List.Mem.head _) ?_
  refine am_getf (f := 91) (v := .inl (w.1 9 0 91)) dX12_tries_2 hc_10 (by decide) wd_1640 (by decide) rfl rfl ?_
  refine am_icmpne (tgt := 13) dX12_tries_5 (by decide) (fun c1 => ?_) (fun c1 => ?_)
  · replace h := h.1 c1
    refine am_aload_n dX12_tries_13 (List.Mem.head _) ?_
    refine am_getf (f := 83) (v := .inr (.inr (some (134, 0)))) dX12_tries_14 hc_10 (by decide) wd_1632 (by decide) rfl rfl ?_
    refine am_iload_n dX12_tries_17 (List.Mem.tail _ (List.Mem.head _)) ?_
    have o2 := h.1
    replace h := h.2
    have o3 := h.1
    replace h := h.2
    refine am_iaload (v := (w.1 134 0 x1.toNat)) dX12_tries_18 (by decide) rfl o2 o3 rfl ?_
    refine am_ifne (tgt := 30) dX12_tries_19 (by decide) (fun c4 => ?_) (fun c4 => ?_)
    · replace h := h.1 c4
      refine am_aload_n dX12_tries_30 (List.Mem.head _) ?_
      refine am_getf (f := 35) (v := .inr (.inr (some (97, 0)))) dX12_tries_31 hc_10 (by decide) wd_1584 (by decide) rfl rfl ?_
      refine am_aload_n dX12_tries_34 (List.Mem.head _) ?_
      refine am_getf (f := 82) (v := .inr (.inr (some (133, 0)))) dX12_tries_35 hc_10 (by decide) wd_1631 (by decide) rfl rfl ?_
      refine am_iload_n dX12_tries_38 (List.Mem.tail _ (List.Mem.head _)) ?_
      refine am_iaload (v := (w.1 133 0 x1.toNat)) dX12_tries_39 (by decide) rfl o2 o3 rfl ?_
      have o5 := h.1
      replace h := h.2
      have o6 := h.1
      replace h := h.2
      refine am_iaload (v := (w.1 97 0 (w.1 133 0 x1.toNat).toNat)) dX12_tries_40 (by decide) rfl o5 o6 rfl ?_
      refine am_istore_n (ls' := [(2, .inl (w.1 97 0 (w.1 133 0 x1.toNat).toNat)), (0, .inr (.inr (some (9, 0)))), (1, .inl x1)]) dX12_tries_41 (by decide) rfl ?_
      refine am_aload_n dX12_tries_42 (List.Mem.tail _ (List.Mem.head _)) ?_
      refine am_iload_n dX12_tries_43 (List.Mem.head _) ?_
      refine am_aload_n dX12_tries_44 (List.Mem.tail _ (List.Mem.head _)) ?_
      refine am_getf (f := 83) (v := .inr (.inr (some (134, 0)))) dX12_tries_45 hc_10 (by decide) wd_1632 (by decide) rfl rfl ?_
      refine am_iload_n dX12_tries_48 (List.Mem.tail _ (List.Mem.tail _ (List.Mem.head _))) ?_
      refine am_iaload (v := (w.1 134 0 x1.toNat)) dX12_tries_49 (by decide) rfl o2 o3 rfl ?_
      exact am_callv (d' := d) (kc := 0) (ks := 0) (as := [.inl (w.1 97 0 (w.1 133 0 x1.toNat).toNat), .inl (w.1 134 0 x1.toNat)]) dX12_tries_50 wc_X12_least wd_2238 wd_2240 wd_105 wd_122 ds_X12_least (by decide) (Nat.le_refl _) (Nat.le_of_ble_eq_true rfl) (Nat.zero_le _) (Nat.zero_le _) hc_10 (by decide) rfl rfl h
    · replace h := h.2 c4
      refine am_aload_n dX12_tries_22 (List.Mem.head _) ?_
      refine am_iload_n dX12_tries_23 (List.Mem.tail _ (List.Mem.head _)) ?_
      refine am_iconst dX12_tries_24 (by unfold am_rg; omega) ?_
      refine am_iconst dX12_tries_25 (by unfold am_rg; omega) ?_
      exact am_callv (d' := d) (kc := 0) (ks := 0) (as := [.inl x1, .inl 0, .inl (-1)]) dX12_tries_26 wc_X12_takes wd_2234 wd_2236 wd_104 wd_122 ds_X12_takes (by decide) (Nat.le_refl _) (Nat.le_of_ble_eq_true rfl) (Nat.zero_le _) (Nat.zero_le _) hc_10 (by decide) rfl rfl h
  · replace h := h.2 c1
    refine am_aload_n dX12_tries_8 (List.Mem.head _) ?_
    exact am_callv (d' := d) (kc := 0) (ks := 0) (as := []) dX12_tries_9 wc_X12_looks wd_2226 wd_2228 wd_102 wd_122 ds_X12_looks (by decide) (Nat.le_refl _) (Nat.le_of_ble_eq_true rfl) (Nat.zero_le _) (Nat.zero_le _) hc_10 (by decide) rfl rfl h
theorem bX12_tries_53 {SC : Nat → Nat} {X : mh_X} {d : Nat} {Q : Option am_V → am_W → Prop} {bc bs : Nat} {w : am_W} {x2 : Int} {x1 : Int} {xs0 : Int}
    (h : ((xs0 = (-1) → am_A (mh_G X) SC (d + 1) mX12_tries Q 74 [(0, .inr (.inr (some (9, 0)))), (1, .inl x1), (2, .inl x2)] [] w bc bs) ∧ (¬ xs0 = (-1) → (0 ≤ x1 ∧ (x1 < 5 ∧ am_M (mh_G X) SC d 0 0 mX12_least [.inr (.inr (some (9, 0))), .inl x2, .inl (w.1 134 0 x1.toNat)] w (fun r w1 => am_A (mh_G X) SC (d + 1) mX12_tries Q 71 [(2, .inl x2), (0, .inr (.inr (some (9, 0)))), (1, .inl x1)] (r.toList ++ [.inl 1, .inl x1, .inr (.inr (some (9, 0)))]) w1 bc bs)))))) :
    am_A (mh_G X) SC (d + 1) mX12_tries Q 53 [(2, .inl x2), (0, .inr (.inr (some (9, 0)))), (1, .inl x1)] [.inl xs0] w bc bs := by
  refine am_iconst dX12_tries_53 (by unfold am_rg; omega) ?_
  refine am_icmpeq (tgt := 74) dX12_tries_54 (by decide) (fun c1 => ?_) (fun c1 => ?_)
  · replace h := h.1 c1
    exact am_sub [1, 2, 0] rfl h
  · replace h := h.2 c1
    refine am_aload_n dX12_tries_57 (List.Mem.tail _ (List.Mem.head _)) ?_
    refine am_iload_n dX12_tries_58 (List.Mem.tail _ (List.Mem.tail _ (List.Mem.head _))) ?_
    refine am_iconst dX12_tries_59 (by unfold am_rg; omega) ?_
    refine am_aload_n dX12_tries_60 (List.Mem.tail _ (List.Mem.head _)) ?_
    refine am_iload_n dX12_tries_61 (List.Mem.head _) ?_
    refine am_aload_n dX12_tries_62 (List.Mem.tail _ (List.Mem.head _)) ?_
    refine am_getf (f := 83) (v := .inr (.inr (some (134, 0)))) dX12_tries_63 hc_10 (by decide) wd_1632 (by decide) rfl rfl ?_
    refine am_iload_n dX12_tries_66 (List.Mem.tail _ (List.Mem.tail _ (List.Mem.head _))) ?_
    have o2 := h.1
    replace h := h.2
    have o3 := h.1
    replace h := h.2
    refine am_iaload (v := (w.1 134 0 x1.toNat)) dX12_tries_67 (by decide) rfl o2 o3 rfl ?_
    exact am_callv (d' := d) (kc := 0) (ks := 0) (as := [.inl x2, .inl (w.1 134 0 x1.toNat)]) dX12_tries_68 wc_X12_least wd_2238 wd_2240 wd_105 wd_122 ds_X12_least (by decide) (Nat.le_refl _) (Nat.le_of_ble_eq_true rfl) (Nat.zero_le _) (Nat.zero_le _) hc_10 (by decide) rfl rfl h
theorem bX12_tries_29 {SC : Nat → Nat} {X : mh_X} {d : Nat} {Q : Option am_V → am_W → Prop} {bc bs : Nat} {w : am_W} {x1 : Int}
    (h : Q none w) :
    am_A (mh_G X) SC (d + 1) mX12_tries Q 29 [(0, .inr (.inr (some (9, 0)))), (1, .inl x1)] [] w bc bs := by
  exact am_ret (r := none) dX12_tries_29 rfl rfl h
theorem bX12_tries_12 {SC : Nat → Nat} {X : mh_X} {d : Nat} {Q : Option am_V → am_W → Prop} {bc bs : Nat} {w : am_W} {x1 : Int}
    (h : Q none w) :
    am_A (mh_G X) SC (d + 1) mX12_tries Q 12 [(0, .inr (.inr (some (9, 0)))), (1, .inl x1)] [] w bc bs := by
  exact am_ret (r := none) dX12_tries_12 rfl rfl h
theorem bX12_tries_74 {SC : Nat → Nat} {X : mh_X} {d : Nat} {Q : Option am_V → am_W → Prop} {bc bs : Nat} {w : am_W} {x1 : Int} {x2 : Int}
    (h : (0 ≤ x1 ∧ (x1 < 5 ∧ am_A (mh_G X) SC (d + 1) mX12_tries Q 83 [(0, .inr (.inr (some (9, 0)))), (1, .inl x1), (2, .inl x2), (3, .inl (am_w ((w.1 134 0 x1.toNat) - 1)))] [] w bc bs))) :
    am_A (mh_G X) SC (d + 1) mX12_tries Q 74 [(0, .inr (.inr (some (9, 0)))), (1, .inl x1), (2, .inl x2)] [] w bc bs := by
  refine am_aload_n dX12_tries_74 (List.Mem.head _) ?_
  refine am_getf (f := 83) (v := .inr (.inr (some (134, 0)))) dX12_tries_75 hc_10 (by decide) wd_1632 (by decide) rfl rfl ?_
  refine am_iload_n dX12_tries_78 (List.Mem.tail _ (List.Mem.head _)) ?_
  have o1 := h.1
  replace h := h.2
  have o2 := h.1
  replace h := h.2
  refine am_iaload (v := (w.1 134 0 x1.toNat)) dX12_tries_79 (by decide) rfl o1 o2 rfl ?_
  refine am_iconst dX12_tries_80 (by unfold am_rg; omega) ?_
  refine am_isub dX12_tries_81 ?_
  refine am_istore_n (ls' := [(3, .inl (am_w ((w.1 134 0 x1.toNat) - 1))), (0, .inr (.inr (some (9, 0)))), (1, .inl x1), (2, .inl x2)]) dX12_tries_82 (by decide) rfl ?_
  exact am_sub [1, 2, 3, 0] rfl h
theorem bX12_tries_71 {SC : Nat → Nat} {X : mh_X} {d : Nat} {Q : Option am_V → am_W → Prop} {bc bs : Nat} {w : am_W} {x2 : Int} {x1 : Int} {xs0 : Int} {xs1 : Int} {xs2 : Int}
    (h : am_M (mh_G X) SC d 0 0 mX12_takes [.inr (.inr (some (9, 0))), .inl xs2, .inl xs1, .inl xs0] w (fun r w1 => am_A (mh_G X) SC (d + 1) mX12_tries Q 74 [(2, .inl x2), (0, .inr (.inr (some (9, 0)))), (1, .inl x1)] (r.toList ++ []) w1 bc bs)) :
    am_A (mh_G X) SC (d + 1) mX12_tries Q 71 [(2, .inl x2), (0, .inr (.inr (some (9, 0)))), (1, .inl x1)] [.inl xs0, .inl xs1, .inl xs2, .inr (.inr (some (9, 0)))] w bc bs := by
  exact am_callv (d' := d) (kc := 0) (ks := 0) (as := [.inl xs2, .inl xs1, .inl xs0]) dX12_tries_71 wc_X12_takes wd_2234 wd_2236 wd_104 wd_122 ds_X12_takes (by decide) (Nat.le_refl _) (Nat.le_of_ble_eq_true rfl) (Nat.zero_le _) (Nat.zero_le _) hc_10 (by decide) rfl rfl h
theorem bX12_tries_83 {SC : Nat → Nat} {X : mh_X} {d : Nat} {Q : Option am_V → am_W → Prop} {bc bs : Nat} {w : am_W} {x1 : Int} {x2 : Int} {x3 : Int}
    (h : ((x3 < 0 → (0 ≤ x1 ∧ (x1 < 5 ∧ (0 ≤ (w.1 134 0 x1.toNat) ∧ ((w.1 134 0 x1.toNat) < 5 ∧ (((w.1 128 0 (w.1 134 0 x1.toNat).toNat) ≤ (w.1 140 0 (w.1 134 0 x1.toNat).toNat) → am_A (mh_G X) SC (d + 1) mX12_tries Q 177 [(0, .inr (.inr (some (9, 0)))), (1, .inl x1)] [] w bc bs) ∧ (¬ (w.1 128 0 (w.1 134 0 x1.toNat).toNat) ≤ (w.1 140 0 (w.1 134 0 x1.toNat).toNat) → am_M (mh_G X) SC d 0 0 mX12_takes [.inr (.inr (some (9, 0))), .inl x1, .inl 3, .inl (-1)] ((am_up w.1 140 0 (w.1 134 0 x1.toNat).toNat (am_w ((w.1 140 0 (w.1 134 0 x1.toNat).toNat) + 1))), w.2) (fun r w1 => am_A (mh_G X) SC (d + 1) mX12_tries Q 162 [(0, .inr (.inr (some (9, 0)))), (1, .inl x1), (2, .inl x2), (3, .inl x3)] (r.toList ++ []) w1 bc bs)))))))) ∧ (¬ x3 < 0 → am_M (mh_G X) SC d 0 0 mX12_least [.inr (.inr (some (9, 0))), .inl x2, .inl x3] w (fun r w1 => am_A (mh_G X) SC (d + 1) mX12_tries Q 93 [(0, .inr (.inr (some (9, 0)))), (1, .inl x1), (2, .inl x2), (3, .inl x3)] (r.toList ++ []) w1 bc bs)))) :
    am_A (mh_G X) SC (d + 1) mX12_tries Q 83 [(0, .inr (.inr (some (9, 0)))), (1, .inl x1), (2, .inl x2), (3, .inl x3)] [] w bc bs := by
  refine am_iload_n dX12_tries_83 (List.Mem.tail _ (List.Mem.tail _ (List.Mem.tail _ (List.Mem.head _)))) ?_
  refine am_iflt (tgt := 115) dX12_tries_84 (by decide) (fun c1 => ?_) (fun c1 => ?_)
  · replace h := h.1 c1
    refine am_aload_n dX12_tries_115 (List.Mem.head _) ?_
    refine am_getf (f := 74) (v := .inr (.inr (some (128, 0)))) dX12_tries_116 hc_10 (by decide) wd_1623 (by decide) rfl rfl ?_
    refine am_aload_n dX12_tries_119 (List.Mem.head _) ?_
    refine am_getf (f := 83) (v := .inr (.inr (some (134, 0)))) dX12_tries_120 hc_10 (by decide) wd_1632 (by decide) rfl rfl ?_
    refine am_iload_n dX12_tries_123 (List.Mem.tail _ (List.Mem.head _)) ?_
    have o2 := h.1
    replace h := h.2
    have o3 := h.1
    replace h := h.2
    refine am_iaload (v := (w.1 134 0 x1.toNat)) dX12_tries_124 (by decide) rfl o2 o3 rfl ?_
    have o4 := h.1
    replace h := h.2
    have o5 := h.1
    replace h := h.2
    refine am_iaload (v := (w.1 128 0 (w.1 134 0 x1.toNat).toNat)) dX12_tries_125 (by decide) rfl o4 o5 rfl ?_
    refine am_aload_n dX12_tries_126 (List.Mem.head _) ?_
    refine am_getf (f := 89) (v := .inr (.inr (some (140, 0)))) dX12_tries_127 hc_10 (by decide) wd_1638 (by decide) rfl rfl ?_
    refine am_aload_n dX12_tries_130 (List.Mem.head _) ?_
    refine am_getf (f := 83) (v := .inr (.inr (some (134, 0)))) dX12_tries_131 hc_10 (by decide) wd_1632 (by decide) rfl rfl ?_
    refine am_iload_n dX12_tries_134 (List.Mem.tail _ (List.Mem.head _)) ?_
    refine am_iaload (v := (w.1 134 0 x1.toNat)) dX12_tries_135 (by decide) rfl o2 o3 rfl ?_
    refine am_iaload (v := (w.1 140 0 (w.1 134 0 x1.toNat).toNat)) dX12_tries_136 (by decide) rfl o4 o5 rfl ?_
    refine am_icmple (tgt := 177) dX12_tries_137 (by decide) (fun c6 => ?_) (fun c6 => ?_)
    · replace h := h.1 c6
      exact am_sub [0, 1] rfl h
    · replace h := h.2 c6
      refine am_aload_n dX12_tries_140 (List.Mem.head _) ?_
      refine am_getf (f := 89) (v := .inr (.inr (some (140, 0)))) dX12_tries_141 hc_10 (by decide) wd_1638 (by decide) rfl rfl ?_
      refine am_aload_n dX12_tries_144 (List.Mem.head _) ?_
      refine am_getf (f := 83) (v := .inr (.inr (some (134, 0)))) dX12_tries_145 hc_10 (by decide) wd_1632 (by decide) rfl rfl ?_
      refine am_iload_n dX12_tries_148 (List.Mem.tail _ (List.Mem.head _)) ?_
      refine am_iaload (v := (w.1 134 0 x1.toNat)) dX12_tries_149 (by decide) rfl o2 o3 rfl ?_
      refine am_dup2 dX12_tries_150 rfl rfl ?_
      refine am_iaload (v := (w.1 140 0 (w.1 134 0 x1.toNat).toNat)) dX12_tries_151 (by decide) rfl o4 o5 rfl ?_
      refine am_iconst dX12_tries_152 (by unfold am_rg; omega) ?_
      refine am_iadd dX12_tries_153 ?_
      refine am_iastore dX12_tries_154 (Or.inl (by decide)) rfl o4 o5 ?_
      refine am_aload_n dX12_tries_155 (List.Mem.head _) ?_
      refine am_iload_n dX12_tries_156 (List.Mem.tail _ (List.Mem.head _)) ?_
      refine am_iconst dX12_tries_157 (by unfold am_rg; omega) ?_
      refine am_iconst dX12_tries_158 (by unfold am_rg; omega) ?_
      exact am_callv (d' := d) (kc := 0) (ks := 0) (as := [.inl x1, .inl 3, .inl (-1)]) dX12_tries_159 wc_X12_takes wd_2234 wd_2236 wd_104 wd_122 ds_X12_takes (by decide) (Nat.le_refl _) (Nat.le_of_ble_eq_true rfl) (Nat.zero_le _) (Nat.zero_le _) hc_10 (by decide) rfl rfl h
  · replace h := h.2 c1
    refine am_aload_n dX12_tries_87 (List.Mem.head _) ?_
    refine am_iload_n dX12_tries_88 (List.Mem.tail _ (List.Mem.tail _ (List.Mem.head _))) ?_
    refine am_iload_n dX12_tries_89 (List.Mem.tail _ (List.Mem.tail _ (List.Mem.tail _ (List.Mem.head _)))) ?_
    exact am_callv (d' := d) (kc := 0) (ks := 0) (as := [.inl x2, .inl x3]) dX12_tries_90 wc_X12_least wd_2238 wd_2240 wd_105 wd_122 ds_X12_least (by decide) (Nat.le_refl _) (Nat.le_of_ble_eq_true rfl) (Nat.zero_le _) (Nat.zero_le _) hc_10 (by decide) rfl rfl h
theorem bX12_tries_74a {SC : Nat → Nat} {X : mh_X} {d : Nat} {Q : Option am_V → am_W → Prop} {bc bs : Nat} {w : am_W} {x2 : Int} {x1 : Int}
    (h : (0 ≤ x1 ∧ (x1 < 5 ∧ am_A (mh_G X) SC (d + 1) mX12_tries Q 83 [(0, .inr (.inr (some (9, 0)))), (1, .inl x1), (2, .inl x2), (3, .inl (am_w ((w.1 134 0 x1.toNat) - 1)))] [] w bc bs))) :
    am_A (mh_G X) SC (d + 1) mX12_tries Q 74 [(2, .inl x2), (0, .inr (.inr (some (9, 0)))), (1, .inl x1)] [] w bc bs := by
  refine am_aload_n dX12_tries_74 (List.Mem.tail _ (List.Mem.head _)) ?_
  refine am_getf (f := 83) (v := .inr (.inr (some (134, 0)))) dX12_tries_75 hc_10 (by decide) wd_1632 (by decide) rfl rfl ?_
  refine am_iload_n dX12_tries_78 (List.Mem.tail _ (List.Mem.tail _ (List.Mem.head _))) ?_
  have o1 := h.1
  replace h := h.2
  have o2 := h.1
  replace h := h.2
  refine am_iaload (v := (w.1 134 0 x1.toNat)) dX12_tries_79 (by decide) rfl o1 o2 rfl ?_
  refine am_iconst dX12_tries_80 (by unfold am_rg; omega) ?_
  refine am_isub dX12_tries_81 ?_
  refine am_istore_n (ls' := [(3, .inl (am_w ((w.1 134 0 x1.toNat) - 1))), (2, .inl x2), (0, .inr (.inr (some (9, 0)))), (1, .inl x1)]) dX12_tries_82 (by decide) rfl ?_
  exact am_sub [2, 3, 1, 0] rfl h
theorem bX12_tries_177 {SC : Nat → Nat} {X : mh_X} {d : Nat} {Q : Option am_V → am_W → Prop} {bc bs : Nat} {w : am_W} {x1 : Int}
    (h : am_M (mh_G X) SC d 0 0 mX12_takes [.inr (.inr (some (9, 0))), .inl x1, .inl 4, .inl (-1)] w (fun r w1 => am_A (mh_G X) SC (d + 1) mX12_tries Q 184 [(0, .inr (.inr (some (9, 0)))), (1, .inl x1)] (r.toList ++ []) w1 bc bs)) :
    am_A (mh_G X) SC (d + 1) mX12_tries Q 177 [(0, .inr (.inr (some (9, 0)))), (1, .inl x1)] [] w bc bs := by
  refine am_aload_n dX12_tries_177 (List.Mem.head _) ?_
  refine am_iload_n dX12_tries_178 (List.Mem.tail _ (List.Mem.head _)) ?_
  refine am_iconst dX12_tries_179 (by unfold am_rg; omega) ?_
  refine am_iconst dX12_tries_180 (by unfold am_rg; omega) ?_
  exact am_callv (d' := d) (kc := 0) (ks := 0) (as := [.inl x1, .inl 4, .inl (-1)]) dX12_tries_181 wc_X12_takes wd_2234 wd_2236 wd_104 wd_122 ds_X12_takes (by decide) (Nat.le_refl _) (Nat.le_of_ble_eq_true rfl) (Nat.zero_le _) (Nat.zero_le _) hc_10 (by decide) rfl rfl h
theorem bX12_tries_162 {SC : Nat → Nat} {X : mh_X} {d : Nat} {Q : Option am_V → am_W → Prop} {bc bs : Nat} {w : am_W} {x1 : Int} {x2 : Int} {x3 : Int}
    (h : (0 ≤ x1 ∧ (x1 < 5 ∧ (0 ≤ (w.1 134 0 x1.toNat) ∧ ((w.1 134 0 x1.toNat) < 5 ∧ am_A (mh_G X) SC (d + 1) mX12_tries Q 177 [(0, .inr (.inr (some (9, 0)))), (1, .inl x1)] [] ((am_up w.1 140 0 (w.1 134 0 x1.toNat).toNat (am_w ((w.1 140 0 (w.1 134 0 x1.toNat).toNat) - 1))), w.2) bc bs))))) :
    am_A (mh_G X) SC (d + 1) mX12_tries Q 162 [(0, .inr (.inr (some (9, 0)))), (1, .inl x1), (2, .inl x2), (3, .inl x3)] [] w bc bs := by
  refine am_aload_n dX12_tries_162 (List.Mem.head _) ?_
  refine am_getf (f := 89) (v := .inr (.inr (some (140, 0)))) dX12_tries_163 hc_10 (by decide) wd_1638 (by decide) rfl rfl ?_
  refine am_aload_n dX12_tries_166 (List.Mem.head _) ?_
  refine am_getf (f := 83) (v := .inr (.inr (some (134, 0)))) dX12_tries_167 hc_10 (by decide) wd_1632 (by decide) rfl rfl ?_
  refine am_iload_n dX12_tries_170 (List.Mem.tail _ (List.Mem.head _)) ?_
  have o1 := h.1
  replace h := h.2
  have o2 := h.1
  replace h := h.2
  refine am_iaload (v := (w.1 134 0 x1.toNat)) dX12_tries_171 (by decide) rfl o1 o2 rfl ?_
  refine am_dup2 dX12_tries_172 rfl rfl ?_
  have o3 := h.1
  replace h := h.2
  have o4 := h.1
  replace h := h.2
  refine am_iaload (v := (w.1 140 0 (w.1 134 0 x1.toNat).toNat)) dX12_tries_173 (by decide) rfl o3 o4 rfl ?_
  refine am_iconst dX12_tries_174 (by unfold am_rg; omega) ?_
  refine am_isub dX12_tries_175 ?_
  refine am_iastore dX12_tries_176 (Or.inl (by decide)) rfl o3 o4 ?_
  exact am_sub [0, 1] rfl h
theorem bX12_tries_93 {SC : Nat → Nat} {X : mh_X} {d : Nat} {Q : Option am_V → am_W → Prop} {bc bs : Nat} {w : am_W} {x1 : Int} {x2 : Int} {x3 : Int} {xs0 : Int}
    (h : ((xs0 = (-1) → am_A (mh_G X) SC (d + 1) mX12_tries Q 109 [(0, .inr (.inr (some (9, 0)))), (1, .inl x1), (2, .inl x2), (3, .inl x3)] [] w bc bs) ∧ (¬ xs0 = (-1) → am_M (mh_G X) SC d 0 0 mX12_least [.inr (.inr (some (9, 0))), .inl x2, .inl x3] w (fun r w1 => am_A (mh_G X) SC (d + 1) mX12_tries Q 106 [(0, .inr (.inr (some (9, 0)))), (1, .inl x1), (2, .inl x2), (3, .inl x3)] (r.toList ++ [.inl 2, .inl x1, .inr (.inr (some (9, 0)))]) w1 bc bs)))) :
    am_A (mh_G X) SC (d + 1) mX12_tries Q 93 [(0, .inr (.inr (some (9, 0)))), (1, .inl x1), (2, .inl x2), (3, .inl x3)] [.inl xs0] w bc bs := by
  refine am_iconst dX12_tries_93 (by unfold am_rg; omega) ?_
  refine am_icmpeq (tgt := 109) dX12_tries_94 (by decide) (fun c1 => ?_) (fun c1 => ?_)
  · replace h := h.1 c1
    exact h
  · replace h := h.2 c1
    refine am_aload_n dX12_tries_97 (List.Mem.head _) ?_
    refine am_iload_n dX12_tries_98 (List.Mem.tail _ (List.Mem.head _)) ?_
    refine am_iconst dX12_tries_99 (by unfold am_rg; omega) ?_
    refine am_aload_n dX12_tries_100 (List.Mem.head _) ?_
    refine am_iload_n dX12_tries_101 (List.Mem.tail _ (List.Mem.tail _ (List.Mem.head _))) ?_
    refine am_iload_n dX12_tries_102 (List.Mem.tail _ (List.Mem.tail _ (List.Mem.tail _ (List.Mem.head _)))) ?_
    exact am_callv (d' := d) (kc := 0) (ks := 0) (as := [.inl x2, .inl x3]) dX12_tries_103 wc_X12_least wd_2238 wd_2240 wd_105 wd_122 ds_X12_least (by decide) (Nat.le_refl _) (Nat.le_of_ble_eq_true rfl) (Nat.zero_le _) (Nat.zero_le _) hc_10 (by decide) rfl rfl h
theorem bX12_tries_184 {SC : Nat → Nat} {X : mh_X} {d : Nat} {Q : Option am_V → am_W → Prop} {bc bs : Nat} {w : am_W} {x1 : Int}
    (h : Q none w) :
    am_A (mh_G X) SC (d + 1) mX12_tries Q 184 [(0, .inr (.inr (some (9, 0)))), (1, .inl x1)] [] w bc bs := by
  exact am_ret (r := none) dX12_tries_184 rfl rfl h
theorem bX12_tries_109 {SC : Nat → Nat} {X : mh_X} {d : Nat} {Q : Option am_V → am_W → Prop} {bc bs : Nat} {w : am_W} {x1 : Int} {x2 : Int} {x3 : Int}
    (h : am_A (mh_G X) SC (d + 1) mX12_tries Q 83 [(0, .inr (.inr (some (9, 0)))), (1, .inl x1), (2, .inl x2), (3, .inl (am_w (x3 + (-1))))] [] w bc bs) :
    am_A (mh_G X) SC (d + 1) mX12_tries Q 109 [(0, .inr (.inr (some (9, 0)))), (1, .inl x1), (2, .inl x2), (3, .inl x3)] [] w bc bs := by
  refine am_iinc (ls' := [(3, .inl (am_w (x3 + (-1)))), (0, .inr (.inr (some (9, 0)))), (1, .inl x1), (2, .inl x2)]) dX12_tries_109 (List.Mem.tail _ (List.Mem.tail _ (List.Mem.tail _ (List.Mem.head _)))) (by decide) rfl ?_
  refine am_goto (tgt := 83) dX12_tries_112 (by decide) ?_
  exact am_sub [1, 2, 3, 0] rfl h
theorem bX12_tries_106 {SC : Nat → Nat} {X : mh_X} {d : Nat} {Q : Option am_V → am_W → Prop} {bc bs : Nat} {w : am_W} {x1 : Int} {x2 : Int} {x3 : Int} {xs0 : Int} {xs1 : Int} {xs2 : Int}
    (h : am_M (mh_G X) SC d 0 0 mX12_takes [.inr (.inr (some (9, 0))), .inl xs2, .inl xs1, .inl xs0] w (fun r w1 => am_A (mh_G X) SC (d + 1) mX12_tries Q 109 [(0, .inr (.inr (some (9, 0)))), (1, .inl x1), (2, .inl x2), (3, .inl x3)] (r.toList ++ []) w1 bc bs)) :
    am_A (mh_G X) SC (d + 1) mX12_tries Q 106 [(0, .inr (.inr (some (9, 0)))), (1, .inl x1), (2, .inl x2), (3, .inl x3)] [.inl xs0, .inl xs1, .inl xs2, .inr (.inr (some (9, 0)))] w bc bs := by
  exact am_callv (d' := d) (kc := 0) (ks := 0) (as := [.inl xs2, .inl xs1, .inl xs0]) dX12_tries_106 wc_X12_takes wd_2234 wd_2236 wd_104 wd_122 ds_X12_takes (by decide) (Nat.le_refl _) (Nat.le_of_ble_eq_true rfl) (Nat.zero_le _) (Nat.zero_le _) hc_10 (by decide) rfl rfl h
-- MourningHouseModel.plans(II)Z
theorem dX12_plans_0 : decode mX12_plans.2.1 0 = .ok (.iload_n 1, 1) := by decide +kernel
theorem dX12_plans_1 : decode mX12_plans.2.1 1 = .ok (.ifCond .lt 28, 3) := by decide +kernel
theorem dX12_plans_4 : decode mX12_plans.2.1 4 = .ok (.iload_n 2, 1) := by decide +kernel
theorem dX12_plans_5 : decode mX12_plans.2.1 5 = .ok (.aload_n 0, 1) := by decide +kernel
theorem dX12_plans_6 : decode mX12_plans.2.1 6 = .ok (.getfield 444, 3) := by decide +kernel
theorem dX12_plans_9 : decode mX12_plans.2.1 9 = .ok (.ldc_w 317, 3) := by decide +kernel
theorem dX12_plans_12 : decode mX12_plans.2.1 12 = .ok (.invokestatic 318, 3) := by decide +kernel
theorem dX12_plans_15 : decode mX12_plans.2.1 15 = .ok (.ifCond .eq 14, 3) := by decide +kernel
theorem dX12_plans_18 : decode mX12_plans.2.1 18 = .ok (.iload_n 2, 1) := by decide +kernel
theorem dX12_plans_19 : decode mX12_plans.2.1 19 = .ok (.aload_n 0, 1) := by decide +kernel
theorem dX12_plans_20 : decode mX12_plans.2.1 20 = .ok (.getfield 444, 3) := by decide +kernel
theorem dX12_plans_23 : decode mX12_plans.2.1 23 = .ok (.isub, 1) := by decide +kernel
theorem dX12_plans_24 : decode mX12_plans.2.1 24 = .ok (.bipush 100, 2) := by decide +kernel
theorem dX12_plans_26 : decode mX12_plans.2.1 26 = .ok (.if_icmp .le 5, 3) := by decide +kernel
theorem dX12_plans_29 : decode mX12_plans.2.1 29 = .ok (.iconst 0, 1) := by decide +kernel
theorem dX12_plans_30 : decode mX12_plans.2.1 30 = .ok (.ireturn, 1) := by decide +kernel
theorem dX12_plans_31 : decode mX12_plans.2.1 31 = .ok (.aload_n 0, 1) := by decide +kernel
theorem dX12_plans_32 : decode mX12_plans.2.1 32 = .ok (.iconst 0, 1) := by decide +kernel
theorem dX12_plans_33 : decode mX12_plans.2.1 33 = .ok (.putfield 600, 3) := by decide +kernel
theorem dX12_plans_36 : decode mX12_plans.2.1 36 = .ok (.iconst 0, 1) := by decide +kernel
theorem dX12_plans_37 : decode mX12_plans.2.1 37 = .ok (.istore_n 3, 1) := by decide +kernel
theorem dX12_plans_38 : decode mX12_plans.2.1 38 = .ok (.iload_n 3, 1) := by decide +kernel
theorem dX12_plans_39 : decode mX12_plans.2.1 39 = .ok (.bipush 31, 2) := by decide +kernel
theorem dX12_plans_41 : decode mX12_plans.2.1 41 = .ok (.if_icmp .ge 70, 3) := by decide +kernel
theorem dX12_plans_44 : decode mX12_plans.2.1 44 = .ok (.iload_n 1, 1) := by decide +kernel
theorem dX12_plans_45 : decode mX12_plans.2.1 45 = .ok (.iload_n 3, 1) := by decide +kernel
theorem dX12_plans_46 : decode mX12_plans.2.1 46 = .ok (.ishr, 1) := by decide +kernel
theorem dX12_plans_47 : decode mX12_plans.2.1 47 = .ok (.iconst 1, 1) := by decide +kernel
theorem dX12_plans_48 : decode mX12_plans.2.1 48 = .ok (.iand, 1) := by decide +kernel
theorem dX12_plans_49 : decode mX12_plans.2.1 49 = .ok (.ifCond .ne 6, 3) := by decide +kernel
theorem dX12_plans_52 : decode mX12_plans.2.1 52 = .ok (.goto 53, 3) := by decide +kernel
theorem dX12_plans_55 : decode mX12_plans.2.1 55 = .ok (.aload_n 0, 1) := by decide +kernel
theorem dX12_plans_56 : decode mX12_plans.2.1 56 = .ok (.getfield 600, 3) := by decide +kernel
theorem dX12_plans_59 : decode mX12_plans.2.1 59 = .ok (.iconst 5, 1) := by decide +kernel
theorem dX12_plans_60 : decode mX12_plans.2.1 60 = .ok (.if_icmp .eq 23, 3) := by decide +kernel
theorem dX12_plans_63 : decode mX12_plans.2.1 63 = .ok (.aload_n 0, 1) := by decide +kernel
theorem dX12_plans_64 : decode mX12_plans.2.1 64 = .ok (.iload_n 3, 1) := by decide +kernel
theorem dX12_plans_65 : decode mX12_plans.2.1 65 = .ok (.invokevirtual 453, 3) := by decide +kernel
theorem dX12_plans_68 : decode mX12_plans.2.1 68 = .ok (.ifCond .eq 15, 3) := by decide +kernel
theorem dX12_plans_71 : decode mX12_plans.2.1 71 = .ok (.aload_n 0, 1) := by decide +kernel
theorem dX12_plans_72 : decode mX12_plans.2.1 72 = .ok (.getfield 167, 3) := by decide +kernel
theorem dX12_plans_75 : decode mX12_plans.2.1 75 = .ok (.iload_n 3, 1) := by decide +kernel
theorem dX12_plans_76 : decode mX12_plans.2.1 76 = .ok (.iaload, 1) := by decide +kernel
theorem dX12_plans_77 : decode mX12_plans.2.1 77 = .ok (.ldc_w 325, 3) := by decide +kernel
theorem dX12_plans_80 : decode mX12_plans.2.1 80 = .ok (.if_icmp .eq 5, 3) := by decide +kernel
theorem dX12_plans_83 : decode mX12_plans.2.1 83 = .ok (.iconst 0, 1) := by decide +kernel
theorem dX12_plans_84 : decode mX12_plans.2.1 84 = .ok (.ireturn, 1) := by decide +kernel
theorem dX12_plans_85 : decode mX12_plans.2.1 85 = .ok (.aload_n 0, 1) := by decide +kernel
theorem dX12_plans_86 : decode mX12_plans.2.1 86 = .ok (.getfield 258, 3) := by decide +kernel
theorem dX12_plans_89 : decode mX12_plans.2.1 89 = .ok (.aload_n 0, 1) := by decide +kernel
theorem dX12_plans_90 : decode mX12_plans.2.1 90 = .ok (.getfield 600, 3) := by decide +kernel
theorem dX12_plans_93 : decode mX12_plans.2.1 93 = .ok (.iload_n 3, 1) := by decide +kernel
theorem dX12_plans_94 : decode mX12_plans.2.1 94 = .ok (.iastore, 1) := by decide +kernel
theorem dX12_plans_95 : decode mX12_plans.2.1 95 = .ok (.aload_n 0, 1) := by decide +kernel
theorem dX12_plans_96 : decode mX12_plans.2.1 96 = .ok (.dup, 1) := by decide +kernel
theorem dX12_plans_97 : decode mX12_plans.2.1 97 = .ok (.getfield 600, 3) := by decide +kernel
theorem dX12_plans_100 : decode mX12_plans.2.1 100 = .ok (.iconst 1, 1) := by decide +kernel
theorem dX12_plans_101 : decode mX12_plans.2.1 101 = .ok (.iadd, 1) := by decide +kernel
theorem dX12_plans_102 : decode mX12_plans.2.1 102 = .ok (.putfield 600, 3) := by decide +kernel
theorem dX12_plans_105 : decode mX12_plans.2.1 105 = .ok (.iinc 3 1, 3) := by decide +kernel
theorem dX12_plans_108 : decode mX12_plans.2.1 108 = .ok (.goto (-70), 3) := by decide +kernel
theorem dX12_plans_111 : decode mX12_plans.2.1 111 = .ok (.aload_n 0, 1) := by decide +kernel
theorem dX12_plans_112 : decode mX12_plans.2.1 112 = .ok (.getfield 600, 3) := by decide +kernel
theorem dX12_plans_115 : decode mX12_plans.2.1 115 = .ok (.ifCond .ne 5, 3) := by decide +kernel
theorem dX12_plans_118 : decode mX12_plans.2.1 118 = .ok (.iconst 0, 1) := by decide +kernel
theorem dX12_plans_119 : decode mX12_plans.2.1 119 = .ok (.ireturn, 1) := by decide +kernel
theorem dX12_plans_120 : decode mX12_plans.2.1 120 = .ok (.iconst 0, 1) := by decide +kernel
theorem dX12_plans_121 : decode mX12_plans.2.1 121 = .ok (.istore_n 3, 1) := by decide +kernel
theorem dX12_plans_122 : decode mX12_plans.2.1 122 = .ok (.iload_n 3, 1) := by decide +kernel
theorem dX12_plans_123 : decode mX12_plans.2.1 123 = .ok (.aload_n 0, 1) := by decide +kernel
theorem dX12_plans_124 : decode mX12_plans.2.1 124 = .ok (.getfield 600, 3) := by decide +kernel
theorem dX12_plans_127 : decode mX12_plans.2.1 127 = .ok (.if_icmp .ge 30, 3) := by decide +kernel
theorem dX12_plans_130 : decode mX12_plans.2.1 130 = .ok (.aload_n 0, 1) := by decide +kernel
theorem dX12_plans_131 : decode mX12_plans.2.1 131 = .ok (.getfield 261, 3) := by decide +kernel
theorem dX12_plans_134 : decode mX12_plans.2.1 134 = .ok (.iload_n 3, 1) := by decide +kernel
theorem dX12_plans_135 : decode mX12_plans.2.1 135 = .ok (.aload_n 0, 1) := by decide +kernel
theorem dX12_plans_136 : decode mX12_plans.2.1 136 = .ok (.aload_n 0, 1) := by decide +kernel
theorem dX12_plans_137 : decode mX12_plans.2.1 137 = .ok (.getfield 258, 3) := by decide +kernel
theorem dX12_plans_140 : decode mX12_plans.2.1 140 = .ok (.iload_n 3, 1) := by decide +kernel
theorem dX12_plans_141 : decode mX12_plans.2.1 141 = .ok (.iaload, 1) := by decide +kernel
theorem dX12_plans_142 : decode mX12_plans.2.1 142 = .ok (.iload_n 2, 1) := by decide +kernel
theorem dX12_plans_143 : decode mX12_plans.2.1 143 = .ok (.aload_n 0, 1) := by decide +kernel
theorem dX12_plans_144 : decode mX12_plans.2.1 144 = .ok (.getfield 444, 3) := by decide +kernel
theorem dX12_plans_147 : decode mX12_plans.2.1 147 = .ok (.invokevirtual 560, 3) := by decide +kernel
theorem dX12_plans_150 : decode mX12_plans.2.1 150 = .ok (.iastore, 1) := by decide +kernel
theorem dX12_plans_151 : decode mX12_plans.2.1 151 = .ok (.iinc 3 1, 3) := by decide +kernel
theorem dX12_plans_154 : decode mX12_plans.2.1 154 = .ok (.goto (-32), 3) := by decide +kernel
theorem dX12_plans_157 : decode mX12_plans.2.1 157 = .ok (.iconst 0, 1) := by decide +kernel
theorem dX12_plans_158 : decode mX12_plans.2.1 158 = .ok (.istore_n 3, 1) := by decide +kernel
theorem dX12_plans_159 : decode mX12_plans.2.1 159 = .ok (.iload_n 3, 1) := by decide +kernel
theorem dX12_plans_160 : decode mX12_plans.2.1 160 = .ok (.bipush 40, 2) := by decide +kernel
theorem dX12_plans_162 : decode mX12_plans.2.1 162 = .ok (.if_icmp .ge 16, 3) := by decide +kernel
theorem dX12_plans_165 : decode mX12_plans.2.1 165 = .ok (.aload_n 0, 1) := by decide +kernel
theorem dX12_plans_166 : decode mX12_plans.2.1 166 = .ok (.getfield 276, 3) := by decide +kernel
theorem dX12_plans_169 : decode mX12_plans.2.1 169 = .ok (.iload_n 3, 1) := by decide +kernel
theorem dX12_plans_170 : decode mX12_plans.2.1 170 = .ok (.iconst 0, 1) := by decide +kernel
theorem dX12_plans_171 : decode mX12_plans.2.1 171 = .ok (.bastore, 1) := by decide +kernel
theorem dX12_plans_172 : decode mX12_plans.2.1 172 = .ok (.iinc 3 1, 3) := by decide +kernel
theorem dX12_plans_175 : decode mX12_plans.2.1 175 = .ok (.goto (-16), 3) := by decide +kernel
theorem dX12_plans_178 : decode mX12_plans.2.1 178 = .ok (.iconst 0, 1) := by decide +kernel
theorem dX12_plans_179 : decode mX12_plans.2.1 179 = .ok (.istore_n 3, 1) := by decide +kernel
theorem dX12_plans_180 : decode mX12_plans.2.1 180 = .ok (.iload_n 3, 1) := by decide +kernel
theorem dX12_plans_181 : decode mX12_plans.2.1 181 = .ok (.iconst 5, 1) := by decide +kernel
theorem dX12_plans_182 : decode mX12_plans.2.1 182 = .ok (.if_icmp .ge 16, 3) := by decide +kernel
theorem dX12_plans_185 : decode mX12_plans.2.1 185 = .ok (.aload_n 0, 1) := by decide +kernel
theorem dX12_plans_186 : decode mX12_plans.2.1 186 = .ok (.getfield 279, 3) := by decide +kernel
theorem dX12_plans_189 : decode mX12_plans.2.1 189 = .ok (.iload_n 3, 1) := by decide +kernel
theorem dX12_plans_190 : decode mX12_plans.2.1 190 = .ok (.iconst 0, 1) := by decide +kernel
theorem dX12_plans_191 : decode mX12_plans.2.1 191 = .ok (.iastore, 1) := by decide +kernel
theorem dX12_plans_192 : decode mX12_plans.2.1 192 = .ok (.iinc 3 1, 3) := by decide +kernel
theorem dX12_plans_195 : decode mX12_plans.2.1 195 = .ok (.goto (-15), 3) := by decide +kernel
theorem dX12_plans_198 : decode mX12_plans.2.1 198 = .ok (.aload_n 0, 1) := by decide +kernel
theorem dX12_plans_199 : decode mX12_plans.2.1 199 = .ok (.iload_n 2, 1) := by decide +kernel
theorem dX12_plans_200 : decode mX12_plans.2.1 200 = .ok (.aload_n 0, 1) := by decide +kernel
theorem dX12_plans_201 : decode mX12_plans.2.1 201 = .ok (.getfield 444, 3) := by decide +kernel
theorem dX12_plans_204 : decode mX12_plans.2.1 204 = .ok (.isub, 1) := by decide +kernel
theorem dX12_plans_205 : decode mX12_plans.2.1 205 = .ok (.putfield 603, 3) := by decide +kernel
theorem dX12_plans_208 : decode mX12_plans.2.1 208 = .ok (.aload_n 0, 1) := by decide +kernel
theorem dX12_plans_209 : decode mX12_plans.2.1 209 = .ok (.bipush 6, 2) := by decide +kernel
theorem dX12_plans_211 : decode mX12_plans.2.1 211 = .ok (.putfield 605, 3) := by decide +kernel
theorem dX12_plans_214 : decode mX12_plans.2.1 214 = .ok (.aload_n 0, 1) := by decide +kernel
theorem dX12_plans_215 : decode mX12_plans.2.1 215 = .ok (.iconst 0, 1) := by decide +kernel
theorem dX12_plans_216 : decode mX12_plans.2.1 216 = .ok (.invokevirtual 618, 3) := by decide +kernel
theorem dX12_plans_219 : decode mX12_plans.2.1 219 = .ok (.iconst 1, 1) := by decide +kernel
theorem dX12_plans_220 : decode mX12_plans.2.1 220 = .ok (.ireturn, 1) := by decide +kernel
theorem bX12_plans_0 {SC : Nat → Nat} {X : mh_X} {d : Nat} {Q : Option am_V → am_W → Prop} {bc bs : Nat} {w : am_W} {x1 : Int} {x2 : Int}
    (h : ((x1 < 0 → Q (some (.inl 0)) w) ∧ (¬ x1 < 0 → am_M (mh_G X) SC d 0 0 mX12_in [.inl x2, .inl (w.1 9 0 33), .inl 73047] w (fun r w1 => am_A (mh_G X) SC (d + 1) mX12_plans Q 15 [(0, .inr (.inr (some (9, 0)))), (1, .inl x1), (2, .inl x2)] (r.toList ++ []) w1 bc bs)))) :
    am_A (mh_G X) SC (d + 1) mX12_plans Q 0 [(0, .inr (.inr (some (9, 0)))), (1, .inl x1), (2, .inl x2)] [] w bc bs := by
  refine am_iload_n dX12_plans_0 (List.Mem.tail _ (List.Mem.head _)) ?_
  refine am_iflt (tgt := 29) dX12_plans_1 (by decide) (fun c1 => ?_) (fun c1 => ?_)
  · replace h := h.1 c1
    refine am_iconst dX12_plans_29 (by unfold am_rg; omega) ?_
    exact am_ret (r := some (.inl 0)) dX12_plans_30 (Or.inr (Or.inl ⟨rfl, (Or.inl rfl)⟩)) rfl h
  · replace h := h.2 c1
    refine am_iload_n dX12_plans_4 (List.Mem.tail _ (List.Mem.tail _ (List.Mem.head _))) ?_
    refine am_aload_n dX12_plans_5 (List.Mem.head _) ?_
    refine am_getf (f := 33) (v := .inl (w.1 9 0 33)) dX12_plans_6 hc_10 (by decide) wd_1582 (by decide) rfl rfl ?_
    refine am_ldcwV (n := 73047) dX12_plans_9 (by decide) wd_1858 (by unfold am_rg; omega) ?_
    exact am_calls (d' := d) (kc := 0) (ks := 0) (as := [.inl x2, .inl (w.1 9 0 33), .inl 73047]) dX12_plans_12 wc_X12_in wd_1859 wd_1860 wd_122 ds_X12_in (by decide) (Nat.le_refl _) (Nat.le_of_ble_eq_true rfl) (Nat.zero_le _) (Nat.zero_le _) rfl h
theorem bX12_plans_15 {SC : Nat → Nat} {X : mh_X} {d : Nat} {Q : Option am_V → am_W → Prop} {bc bs : Nat} {w : am_W} {x1 : Int} {x2 : Int} {xs0 : Int}
    (h : ((xs0 = 0 → Q (some (.inl 0)) w) ∧ (¬ xs0 = 0 → (((am_w (x2 - (w.1 9 0 33))) ≤ 100 → am_A (mh_G X) SC (d + 1) mX12_plans Q 38 [(0, .inr (.inr (some (9, 0)))), (1, .inl x1), (2, .inl x2), (3, .inl 0)] [] ((am_up w.1 9 0 91 0), w.2) bc bs) ∧ (¬ (am_w (x2 - (w.1 9 0 33))) ≤ 100 → Q (some (.inl 0)) w))))) :
    am_A (mh_G X) SC (d + 1) mX12_plans Q 15 [(0, .inr (.inr (some (9, 0)))), (1, .inl x1), (2, .inl x2)] [.inl xs0] w bc bs := by
  refine am_ifeq (tgt := 29) dX12_plans_15 (by decide) (fun c1 => ?_) (fun c1 => ?_)
  · replace h := h.1 c1
    refine am_iconst dX12_plans_29 (by unfold am_rg; omega) ?_
    exact am_ret (r := some (.inl 0)) dX12_plans_30 (Or.inr (Or.inl ⟨rfl, (Or.inl rfl)⟩)) rfl h
  · replace h := h.2 c1
    refine am_iload_n dX12_plans_18 (List.Mem.tail _ (List.Mem.tail _ (List.Mem.head _))) ?_
    refine am_aload_n dX12_plans_19 (List.Mem.head _) ?_
    refine am_getf (f := 33) (v := .inl (w.1 9 0 33)) dX12_plans_20 hc_10 (by decide) wd_1582 (by decide) rfl rfl ?_
    refine am_isub dX12_plans_23 ?_
    refine am_bipush dX12_plans_24 (by decide) (by unfold am_rg; omega) ?_
    refine am_icmple (tgt := 31) dX12_plans_26 (by decide) (fun c2 => ?_) (fun c2 => ?_)
    · replace h := h.1 c2
      refine am_aload_n dX12_plans_31 (List.Mem.head _) ?_
      refine am_iconst dX12_plans_32 (by unfold am_rg; omega) ?_
      refine am_putf (f := 91) dX12_plans_33 hc_10 (by decide) wd_1640 rfl (Or.inl rfl) (Or.inl (by decide)) rfl ?_
      refine am_iconst dX12_plans_36 (by unfold am_rg; omega) ?_
      refine am_istore_n (ls' := [(3, .inl 0), (0, .inr (.inr (some (9, 0)))), (1, .inl x1), (2, .inl x2)]) dX12_plans_37 (by decide) rfl ?_
      exact am_sub [1, 2, 3, 0] rfl h
    · replace h := h.2 c2
      refine am_iconst dX12_plans_29 (by unfold am_rg; omega) ?_
      exact am_ret (r := some (.inl 0)) dX12_plans_30 (Or.inr (Or.inl ⟨rfl, (Or.inl rfl)⟩)) rfl h
theorem bX12_plans_38 {SC : Nat → Nat} {X : mh_X} {d : Nat} {Q : Option am_V → am_W → Prop} {bc bs : Nat} {w : am_W} {x1 : Int} {x2 : Int} {x3 : Int}
    (h : ((31 ≤ x3 → ((¬ (w.1 9 0 91) = 0 → am_A (mh_G X) SC (d + 1) mX12_plans Q 122 [(0, .inr (.inr (some (9, 0)))), (2, .inl x2), (3, .inl 0)] [] w bc bs) ∧ ((w.1 9 0 91) = 0 → Q (some (.inl 0)) w))) ∧ (¬ 31 ≤ x3 → ((¬ (am_and (am_shr x1 x3) 1) = 0 → (((w.1 9 0 91) = 5 → Q (some (.inl 0)) w) ∧ (¬ (w.1 9 0 91) = 5 → am_M (mh_G X) SC d 0 0 mX12_isPerson [.inr (.inr (some (9, 0))), .inl x3] w (fun r w1 => am_A (mh_G X) SC (d + 1) mX12_plans Q 68 [(0, .inr (.inr (some (9, 0)))), (1, .inl x1), (2, .inl x2), (3, .inl x3)] (r.toList ++ []) w1 bc bs)))) ∧ ((am_and (am_shr x1 x3) 1) = 0 → am_A (mh_G X) SC (d + 1) mX12_plans Q 105 [(0, .inr (.inr (some (9, 0)))), (1, .inl x1), (2, .inl x2), (3, .inl x3)] [] w bc bs))))) :
    am_A (mh_G X) SC (d + 1) mX12_plans Q 38 [(0, .inr (.inr (some (9, 0)))), (1, .inl x1), (2, .inl x2), (3, .inl x3)] [] w bc bs := by
  refine am_iload_n dX12_plans_38 (List.Mem.tail _ (List.Mem.tail _ (List.Mem.tail _ (List.Mem.head _)))) ?_
  refine am_bipush dX12_plans_39 (by decide) (by unfold am_rg; omega) ?_
  refine am_icmpge (tgt := 111) dX12_plans_41 (by decide) (fun c1 => ?_) (fun c1 => ?_)
  · replace h := h.1 c1
    refine am_aload_n dX12_plans_111 (List.Mem.head _) ?_
    refine am_getf (f := 91) (v := .inl (w.1 9 0 91)) dX12_plans_112 hc_10 (by decide) wd_1640 (by decide) rfl rfl ?_
    refine am_ifne (tgt := 120) dX12_plans_115 (by decide) (fun c2 => ?_) (fun c2 => ?_)
    · replace h := h.1 c2
      refine am_iconst dX12_plans_120 (by unfold am_rg; omega) ?_
      refine am_istore_n (ls' := [(3, .inl 0), (0, .inr (.inr (some (9, 0)))), (1, .inl x1), (2, .inl x2)]) dX12_plans_121 (by decide) rfl ?_
      exact am_sub [1, 3, 0] rfl h
    · replace h := h.2 c2
      refine am_iconst dX12_plans_118 (by unfold am_rg; omega) ?_
      exact am_ret (r := some (.inl 0)) dX12_plans_119 (Or.inr (Or.inl ⟨rfl, (Or.inl rfl)⟩)) rfl h
  · replace h := h.2 c1
    refine am_iload_n dX12_plans_44 (List.Mem.tail _ (List.Mem.head _)) ?_
    refine am_iload_n dX12_plans_45 (List.Mem.tail _ (List.Mem.tail _ (List.Mem.tail _ (List.Mem.head _)))) ?_
    refine am_ishr dX12_plans_46 ?_
    refine am_iconst dX12_plans_47 (by unfold am_rg; omega) ?_
    refine am_iand dX12_plans_48 ?_
    refine am_ifne (tgt := 55) dX12_plans_49 (by decide) (fun c3 => ?_) (fun c3 => ?_)
    · replace h := h.1 c3
      refine am_aload_n dX12_plans_55 (List.Mem.head _) ?_
      refine am_getf (f := 91) (v := .inl (w.1 9 0 91)) dX12_plans_56 hc_10 (by decide) wd_1640 (by decide) rfl rfl ?_
      refine am_iconst dX12_plans_59 (by unfold am_rg; omega) ?_
      refine am_icmpeq (tgt := 83) dX12_plans_60 (by decide) (fun c4 => ?_) (fun c4 => ?_)
      · replace h := h.1 c4
        refine am_iconst dX12_plans_83 (by unfold am_rg; omega) ?_
        exact am_ret (r := some (.inl 0)) dX12_plans_84 (Or.inr (Or.inl ⟨rfl, (Or.inl rfl)⟩)) rfl h
      · replace h := h.2 c4
        refine am_aload_n dX12_plans_63 (List.Mem.head _) ?_
        refine am_iload_n dX12_plans_64 (List.Mem.tail _ (List.Mem.tail _ (List.Mem.tail _ (List.Mem.head _)))) ?_
        exact am_callv (d' := d) (kc := 0) (ks := 0) (as := [.inl x3]) dX12_plans_65 wc_X12_isPerson wd_2018 wd_2020 wd_73 wd_122 ds_X12_isPerson (by decide) (Nat.le_refl _) (Nat.le_of_ble_eq_true rfl) (Nat.zero_le _) (Nat.zero_le _) hc_10 (by decide) rfl rfl h
    · replace h := h.2 c3
      refine am_goto (tgt := 105) dX12_plans_52 (by decide) ?_
      exact h
theorem bX12_plans_122 {SC : Nat → Nat} {X : mh_X} {d : Nat} {Q : Option am_V → am_W → Prop} {bc bs : Nat} {w : am_W} {x2 : Int} {x3 : Int}
    (h : (((w.1 9 0 91) ≤ x3 → am_A (mh_G X) SC (d + 1) mX12_plans Q 159 [(0, .inr (.inr (some (9, 0)))), (2, .inl x2), (3, .inl 0)] [] w bc bs) ∧ (¬ (w.1 9 0 91) ≤ x3 → (0 ≤ x3 ∧ (x3 < 5 ∧ am_M (mh_G X) SC d 0 0 mX12_depthAt [.inr (.inr (some (9, 0))), .inl (w.1 133 0 x3.toNat), .inl x2, .inl (w.1 9 0 33)] w (fun r w1 => am_A (mh_G X) SC (d + 1) mX12_plans Q 150 [(0, .inr (.inr (some (9, 0)))), (2, .inl x2), (3, .inl x3)] (r.toList ++ [.inl x3, .inr (.inr (some (134, 0)))]) w1 bc bs)))))) :
    am_A (mh_G X) SC (d + 1) mX12_plans Q 122 [(0, .inr (.inr (some (9, 0)))), (2, .inl x2), (3, .inl x3)] [] w bc bs := by
  refine am_iload_n dX12_plans_122 (List.Mem.tail _ (List.Mem.tail _ (List.Mem.head _))) ?_
  refine am_aload_n dX12_plans_123 (List.Mem.head _) ?_
  refine am_getf (f := 91) (v := .inl (w.1 9 0 91)) dX12_plans_124 hc_10 (by decide) wd_1640 (by decide) rfl rfl ?_
  refine am_icmpge (tgt := 157) dX12_plans_127 (by decide) (fun c1 => ?_) (fun c1 => ?_)
  · replace h := h.1 c1
    refine am_iconst dX12_plans_157 (by unfold am_rg; omega) ?_
    refine am_istore_n (ls' := [(3, .inl 0), (0, .inr (.inr (some (9, 0)))), (2, .inl x2)]) dX12_plans_158 (by decide) rfl ?_
    exact am_sub [1, 2, 0] rfl h
  · replace h := h.2 c1
    refine am_aload_n dX12_plans_130 (List.Mem.head _) ?_
    refine am_getf (f := 83) (v := .inr (.inr (some (134, 0)))) dX12_plans_131 hc_10 (by decide) wd_1632 (by decide) rfl rfl ?_
    refine am_iload_n dX12_plans_134 (List.Mem.tail _ (List.Mem.tail _ (List.Mem.head _))) ?_
    refine am_aload_n dX12_plans_135 (List.Mem.head _) ?_
    refine am_aload_n dX12_plans_136 (List.Mem.head _) ?_
    refine am_getf (f := 82) (v := .inr (.inr (some (133, 0)))) dX12_plans_137 hc_10 (by decide) wd_1631 (by decide) rfl rfl ?_
    refine am_iload_n dX12_plans_140 (List.Mem.tail _ (List.Mem.tail _ (List.Mem.head _))) ?_
    have o2 := h.1
    replace h := h.2
    have o3 := h.1
    replace h := h.2
    refine am_iaload (v := (w.1 133 0 x3.toNat)) dX12_plans_141 (by decide) rfl o2 o3 rfl ?_
    refine am_iload_n dX12_plans_142 (List.Mem.tail _ (List.Mem.head _)) ?_
    refine am_aload_n dX12_plans_143 (List.Mem.head _) ?_
    refine am_getf (f := 33) (v := .inl (w.1 9 0 33)) dX12_plans_144 hc_10 (by decide) wd_1582 (by decide) rfl rfl ?_
    exact am_callv (d' := d) (kc := 0) (ks := 0) (as := [.inl (w.1 133 0 x3.toNat), .inl x2, .inl (w.1 9 0 33)]) dX12_plans_147 wc_X12_depthAt wd_2085 wd_2087 wd_83 wd_122 ds_X12_depthAt (by decide) (Nat.le_refl _) (Nat.le_of_ble_eq_true rfl) (Nat.zero_le _) (Nat.zero_le _) hc_10 (by decide) rfl rfl h
theorem bX12_plans_68 {SC : Nat → Nat} {X : mh_X} {d : Nat} {Q : Option am_V → am_W → Prop} {bc bs : Nat} {w : am_W} {x1 : Int} {x2 : Int} {x3 : Int} {xs0 : Int}
    (h : ((xs0 = 0 → Q (some (.inl 0)) w) ∧ (¬ xs0 = 0 → (0 ≤ x3 ∧ (x3 < 40 ∧ (((w.1 102 0 x3.toNat) = (-2147483648) → (0 ≤ (w.1 9 0 91) ∧ ((w.1 9 0 91) < 5 ∧ am_A (mh_G X) SC (d + 1) mX12_plans Q 105 [(0, .inr (.inr (some (9, 0)))), (1, .inl x1), (2, .inl x2), (3, .inl x3)] [] ((am_up (am_up w.1 133 0 (w.1 9 0 91).toNat x3) 9 0 91 (am_w ((w.1 9 0 91) + 1))), w.2) bc bs))) ∧ (¬ (w.1 102 0 x3.toNat) = (-2147483648) → Q (some (.inl 0)) w))))))) :
    am_A (mh_G X) SC (d + 1) mX12_plans Q 68 [(0, .inr (.inr (some (9, 0)))), (1, .inl x1), (2, .inl x2), (3, .inl x3)] [.inl xs0] w bc bs := by
  refine am_ifeq (tgt := 83) dX12_plans_68 (by decide) (fun c1 => ?_) (fun c1 => ?_)
  · replace h := h.1 c1
    refine am_iconst dX12_plans_83 (by unfold am_rg; omega) ?_
    exact am_ret (r := some (.inl 0)) dX12_plans_84 (Or.inr (Or.inl ⟨rfl, (Or.inl rfl)⟩)) rfl h
  · replace h := h.2 c1
    refine am_aload_n dX12_plans_71 (List.Mem.head _) ?_
    refine am_getf (f := 40) (v := .inr (.inr (some (102, 0)))) dX12_plans_72 hc_10 (by decide) wd_1589 (by decide) rfl rfl ?_
    refine am_iload_n dX12_plans_75 (List.Mem.tail _ (List.Mem.tail _ (List.Mem.tail _ (List.Mem.head _)))) ?_
    have o2 := h.1
    replace h := h.2
    have o3 := h.1
    replace h := h.2
    refine am_iaload (v := (w.1 102 0 x3.toNat)) dX12_plans_76 (by decide) rfl o2 o3 rfl ?_
    refine am_ldcwV (n := (-2147483648)) dX12_plans_77 (by decide) wd_1887 (by unfold am_rg; omega) ?_
    refine am_icmpeq (tgt := 85) dX12_plans_80 (by decide) (fun c4 => ?_) (fun c4 => ?_)
    · replace h := h.1 c4
      refine am_aload_n dX12_plans_85 (List.Mem.head _) ?_
      refine am_getf (f := 82) (v := .inr (.inr (some (133, 0)))) dX12_plans_86 hc_10 (by decide) wd_1631 (by decide) rfl rfl ?_
      refine am_aload_n dX12_plans_89 (List.Mem.head _) ?_
      refine am_getf (f := 91) (v := .inl (w.1 9 0 91)) dX12_plans_90 hc_10 (by decide) wd_1640 (by decide) rfl rfl ?_
      refine am_iload_n dX12_plans_93 (List.Mem.tail _ (List.Mem.tail _ (List.Mem.tail _ (List.Mem.head _)))) ?_
      have o5 := h.1
      replace h := h.2
      have o6 := h.1
      replace h := h.2
      refine am_iastore dX12_plans_94 (Or.inl (by decide)) rfl o5 o6 ?_
      refine am_aload_n dX12_plans_95 (List.Mem.head _) ?_
      refine am_dup dX12_plans_96 rfl ?_
      refine am_getf (f := 91) (v := .inl (w.1 9 0 91)) dX12_plans_97 hc_10 (by decide) wd_1640 (by decide) rfl rfl ?_
      refine am_iconst dX12_plans_100 (by unfold am_rg; omega) ?_
      refine am_iadd dX12_plans_101 ?_
      refine am_putf (f := 91) dX12_plans_102 hc_10 (by decide) wd_1640 rfl (Or.inl rfl) (Or.inl (by decide)) rfl ?_
      exact h
    · replace h := h.2 c4
      refine am_iconst dX12_plans_83 (by unfold am_rg; omega) ?_
      exact am_ret (r := some (.inl 0)) dX12_plans_84 (Or.inr (Or.inl ⟨rfl, (Or.inl rfl)⟩)) rfl h
theorem bX12_plans_105 {SC : Nat → Nat} {X : mh_X} {d : Nat} {Q : Option am_V → am_W → Prop} {bc bs : Nat} {w : am_W} {x1 : Int} {x2 : Int} {x3 : Int}
    (h : am_A (mh_G X) SC (d + 1) mX12_plans Q 38 [(0, .inr (.inr (some (9, 0)))), (1, .inl x1), (2, .inl x2), (3, .inl (am_w (x3 + 1)))] [] w bc bs) :
    am_A (mh_G X) SC (d + 1) mX12_plans Q 105 [(0, .inr (.inr (some (9, 0)))), (1, .inl x1), (2, .inl x2), (3, .inl x3)] [] w bc bs := by
  refine am_iinc (ls' := [(3, .inl (am_w (x3 + 1))), (0, .inr (.inr (some (9, 0)))), (1, .inl x1), (2, .inl x2)]) dX12_plans_105 (List.Mem.tail _ (List.Mem.tail _ (List.Mem.tail _ (List.Mem.head _)))) (by decide) rfl ?_
  refine am_goto (tgt := 38) dX12_plans_108 (by decide) ?_
  exact am_sub [1, 2, 3, 0] rfl h
theorem bX12_plans_159 {SC : Nat → Nat} {X : mh_X} {d : Nat} {Q : Option am_V → am_W → Prop} {bc bs : Nat} {w : am_W} {x2 : Int} {x3 : Int}
    (h : ((40 ≤ x3 → am_A (mh_G X) SC (d + 1) mX12_plans Q 180 [(0, .inr (.inr (some (9, 0)))), (2, .inl x2), (3, .inl 0)] [] w bc bs) ∧ (¬ 40 ≤ x3 → (0 ≤ x3 ∧ (x3 < 40 ∧ am_A (mh_G X) SC (d + 1) mX12_plans Q 159 [(0, .inr (.inr (some (9, 0)))), (2, .inl x2), (3, .inl (am_w (x3 + 1)))] [] ((am_up w.1 139 0 x3.toNat 0), w.2) bc bs))))) :
    am_A (mh_G X) SC (d + 1) mX12_plans Q 159 [(0, .inr (.inr (some (9, 0)))), (2, .inl x2), (3, .inl x3)] [] w bc bs := by
  refine am_iload_n dX12_plans_159 (List.Mem.tail _ (List.Mem.tail _ (List.Mem.head _))) ?_
  refine am_bipush dX12_plans_160 (by decide) (by unfold am_rg; omega) ?_
  refine am_icmpge (tgt := 178) dX12_plans_162 (by decide) (fun c1 => ?_) (fun c1 => ?_)
  · replace h := h.1 c1
    refine am_iconst dX12_plans_178 (by unfold am_rg; omega) ?_
    refine am_istore_n (ls' := [(3, .inl 0), (0, .inr (.inr (some (9, 0)))), (2, .inl x2)]) dX12_plans_179 (by decide) rfl ?_
    exact am_sub [1, 2, 0] rfl h
  · replace h := h.2 c1
    refine am_aload_n dX12_plans_165 (List.Mem.head _) ?_
    refine am_getf (f := 88) (v := .inr (.inr (some (139, 0)))) dX12_plans_166 hc_10 (by decide) wd_1637 (by decide) rfl rfl ?_
    refine am_iload_n dX12_plans_169 (List.Mem.tail _ (List.Mem.tail _ (List.Mem.head _))) ?_
    refine am_iconst dX12_plans_170 (by unfold am_rg; omega) ?_
    have o2 := h.1
    replace h := h.2
    have o3 := h.1
    replace h := h.2
    refine am_zastore (by decide) dX12_plans_171 (Or.inl (by decide)) rfl o2 o3 ?_
    refine am_iinc (ls' := [(3, .inl (am_w (x3 + 1))), (0, .inr (.inr (some (9, 0)))), (2, .inl x2)]) dX12_plans_172 (List.Mem.tail _ (List.Mem.tail _ (List.Mem.head _))) (by decide) rfl ?_
    refine am_goto (tgt := 159) dX12_plans_175 (by decide) ?_
    exact am_sub [1, 2, 0] rfl h
theorem bX12_plans_150 {SC : Nat → Nat} {X : mh_X} {d : Nat} {Q : Option am_V → am_W → Prop} {bc bs : Nat} {w : am_W} {x2 : Int} {x3 : Int} {xs0 : Int} {xs1 : Int}
    (h : (0 ≤ xs1 ∧ (xs1 < 5 ∧ am_A (mh_G X) SC (d + 1) mX12_plans Q 122 [(0, .inr (.inr (some (9, 0)))), (2, .inl x2), (3, .inl (am_w (x3 + 1)))] [] ((am_up w.1 134 0 xs1.toNat xs0), w.2) bc bs))) :
    am_A (mh_G X) SC (d + 1) mX12_plans Q 150 [(0, .inr (.inr (some (9, 0)))), (2, .inl x2), (3, .inl x3)] [.inl xs0, .inl xs1, .inr (.inr (some (134, 0)))] w bc bs := by
  have o1 := h.1
  replace h := h.2
  have o2 := h.1
  replace h := h.2
  refine am_iastore dX12_plans_150 (Or.inl (by decide)) rfl o1 o2 ?_
  refine am_iinc (ls' := [(3, .inl (am_w (x3 + 1))), (0, .inr (.inr (some (9, 0)))), (2, .inl x2)]) dX12_plans_151 (List.Mem.tail _ (List.Mem.tail _ (List.Mem.head _))) (by decide) rfl ?_
  refine am_goto (tgt := 122) dX12_plans_154 (by decide) ?_
  exact am_sub [1, 2, 0] rfl h
theorem bX12_plans_180 {SC : Nat → Nat} {X : mh_X} {d : Nat} {Q : Option am_V → am_W → Prop} {bc bs : Nat} {w : am_W} {x2 : Int} {x3 : Int}
    (h : ((5 ≤ x3 → am_M (mh_G X) SC d 0 0 mX12_tries [.inr (.inr (some (9, 0))), .inl 0] ((am_up (am_up w.1 9 0 95 (am_w (x2 - (w.1 9 0 33)))) 9 0 92 6), w.2) (fun r w1 => am_A (mh_G X) SC (d + 1) mX12_plans Q 219 [(0, .inr (.inr (some (9, 0)))), (2, .inl x2), (3, .inl x3)] (r.toList ++ []) w1 bc bs)) ∧ (¬ 5 ≤ x3 → (0 ≤ x3 ∧ (x3 < 5 ∧ am_A (mh_G X) SC (d + 1) mX12_plans Q 180 [(0, .inr (.inr (some (9, 0)))), (2, .inl x2), (3, .inl (am_w (x3 + 1)))] [] ((am_up w.1 140 0 x3.toNat 0), w.2) bc bs))))) :
    am_A (mh_G X) SC (d + 1) mX12_plans Q 180 [(0, .inr (.inr (some (9, 0)))), (2, .inl x2), (3, .inl x3)] [] w bc bs := by
  refine am_iload_n dX12_plans_180 (List.Mem.tail _ (List.Mem.tail _ (List.Mem.head _))) ?_
  refine am_iconst dX12_plans_181 (by unfold am_rg; omega) ?_
  refine am_icmpge (tgt := 198) dX12_plans_182 (by decide) (fun c1 => ?_) (fun c1 => ?_)
  · replace h := h.1 c1
    refine am_aload_n dX12_plans_198 (List.Mem.head _) ?_
    refine am_iload_n dX12_plans_199 (List.Mem.tail _ (List.Mem.head _)) ?_
    refine am_aload_n dX12_plans_200 (List.Mem.head _) ?_
    refine am_getf (f := 33) (v := .inl (w.1 9 0 33)) dX12_plans_201 hc_10 (by decide) wd_1582 (by decide) rfl rfl ?_
    refine am_isub dX12_plans_204 ?_
    refine am_putf (f := 95) dX12_plans_205 hc_10 (by decide) wd_1644 rfl (Or.inl rfl) (Or.inl (by decide)) rfl ?_
    refine am_aload_n dX12_plans_208 (List.Mem.head _) ?_
    refine am_bipush dX12_plans_209 (by decide) (by unfold am_rg; omega) ?_
    refine am_putf (f := 92) dX12_plans_211 hc_10 (by decide) wd_1641 rfl (Or.inl rfl) (Or.inl (by decide)) rfl ?_
    refine am_aload_n dX12_plans_214 (List.Mem.head _) ?_
    refine am_iconst dX12_plans_215 (by unfold am_rg; omega) ?_
    exact am_callv (d' := d) (kc := 0) (ks := 0) (as := [.inl 0]) dX12_plans_216 wc_X12_tries wd_2222 wd_2224 wd_101 wd_122 ds_X12_tries (by decide) (Nat.le_refl _) (Nat.le_of_ble_eq_true rfl) (Nat.zero_le _) (Nat.zero_le _) hc_10 (by decide) rfl rfl h
  · replace h := h.2 c1
    refine am_aload_n dX12_plans_185 (List.Mem.head _) ?_
    refine am_getf (f := 89) (v := .inr (.inr (some (140, 0)))) dX12_plans_186 hc_10 (by decide) wd_1638 (by decide) rfl rfl ?_
    refine am_iload_n dX12_plans_189 (List.Mem.tail _ (List.Mem.tail _ (List.Mem.head _))) ?_
    refine am_iconst dX12_plans_190 (by unfold am_rg; omega) ?_
    have o2 := h.1
    replace h := h.2
    have o3 := h.1
    replace h := h.2
    refine am_iastore dX12_plans_191 (Or.inl (by decide)) rfl o2 o3 ?_
    refine am_iinc (ls' := [(3, .inl (am_w (x3 + 1))), (0, .inr (.inr (some (9, 0)))), (2, .inl x2)]) dX12_plans_192 (List.Mem.tail _ (List.Mem.tail _ (List.Mem.head _))) (by decide) rfl ?_
    refine am_goto (tgt := 180) dX12_plans_195 (by decide) ?_
    exact am_sub [1, 2, 0] rfl h
theorem bX12_plans_219 {SC : Nat → Nat} {X : mh_X} {d : Nat} {Q : Option am_V → am_W → Prop} {bc bs : Nat} {w : am_W} {x2 : Int} {x3 : Int}
    (h : Q (some (.inl 1)) w) :
    am_A (mh_G X) SC (d + 1) mX12_plans Q 219 [(0, .inr (.inr (some (9, 0)))), (2, .inl x2), (3, .inl x3)] [] w bc bs := by
  refine am_iconst dX12_plans_219 (by unfold am_rg; omega) ?_
  exact am_ret (r := some (.inl 1)) dX12_plans_220 (Or.inr (Or.inl ⟨rfl, (Or.inr rfl)⟩)) rfl h
-- MourningHouseModel.plan(III)I
theorem dX12_plan_0 : decode mX12_plan.2.1 0 = .ok (.aload_n 0, 1) := by decide +kernel
theorem dX12_plan_1 : decode mX12_plan.2.1 1 = .ok (.iload_n 1, 1) := by decide +kernel
theorem dX12_plan_2 : decode mX12_plan.2.1 2 = .ok (.iload_n 2, 1) := by decide +kernel
theorem dX12_plan_3 : decode mX12_plan.2.1 3 = .ok (.invokevirtual 631, 3) := by decide +kernel
theorem dX12_plan_6 : decode mX12_plan.2.1 6 = .ok (.ifCond .eq 26, 3) := by decide +kernel
theorem dX12_plan_9 : decode mX12_plan.2.1 9 = .ok (.iload_n 3, 1) := by decide +kernel
theorem dX12_plan_10 : decode mX12_plan.2.1 10 = .ok (.iconst 0, 1) := by decide +kernel
theorem dX12_plan_11 : decode mX12_plan.2.1 11 = .ok (.aload_n 0, 1) := by decide +kernel
theorem dX12_plan_12 : decode mX12_plan.2.1 12 = .ok (.getfield 600, 3) := by decide +kernel
theorem dX12_plan_15 : decode mX12_plan.2.1 15 = .ok (.iconst 1, 1) := by decide +kernel
theorem dX12_plan_16 : decode mX12_plan.2.1 16 = .ok (.isub, 1) := by decide +kernel
theorem dX12_plan_17 : decode mX12_plan.2.1 17 = .ok (.invokestatic 318, 3) := by decide +kernel
theorem dX12_plan_20 : decode mX12_plan.2.1 20 = .ok (.ifCond .eq 12, 3) := by decide +kernel
theorem dX12_plan_23 : decode mX12_plan.2.1 23 = .ok (.aload_n 0, 1) := by decide +kernel
theorem dX12_plan_24 : decode mX12_plan.2.1 24 = .ok (.getfield 270, 3) := by decide +kernel
theorem dX12_plan_27 : decode mX12_plan.2.1 27 = .ok (.iload_n 3, 1) := by decide +kernel
theorem dX12_plan_28 : decode mX12_plan.2.1 28 = .ok (.iaload, 1) := by decide +kernel
theorem dX12_plan_29 : decode mX12_plan.2.1 29 = .ok (.goto 4, 3) := by decide +kernel
theorem dX12_plan_32 : decode mX12_plan.2.1 32 = .ok (.iconst (-1), 1) := by decide +kernel
theorem dX12_plan_33 : decode mX12_plan.2.1 33 = .ok (.ireturn, 1) := by decide +kernel
theorem bX12_plan_0 {SC : Nat → Nat} {X : mh_X} {d : Nat} {Q : Option am_V → am_W → Prop} {bc bs : Nat} {w : am_W} {x1 : Int} {x2 : Int} {x3 : Int}
    (h : am_M (mh_G X) SC d 0 0 mX12_plans [.inr (.inr (some (9, 0))), .inl x1, .inl x2] w (fun r w1 => am_A (mh_G X) SC (d + 1) mX12_plan Q 6 [(0, .inr (.inr (some (9, 0)))), (1, .inl x1), (2, .inl x2), (3, .inl x3)] (r.toList ++ []) w1 bc bs)) :
    am_A (mh_G X) SC (d + 1) mX12_plan Q 0 [(0, .inr (.inr (some (9, 0)))), (1, .inl x1), (2, .inl x2), (3, .inl x3)] [] w bc bs := by
  refine am_aload_n dX12_plan_0 (List.Mem.head _) ?_
  refine am_iload_n dX12_plan_1 (List.Mem.tail _ (List.Mem.head _)) ?_
  refine am_iload_n dX12_plan_2 (List.Mem.tail _ (List.Mem.tail _ (List.Mem.head _))) ?_
  exact am_callv (d' := d) (kc := 0) (ks := 0) (as := [.inl x1, .inl x2]) dX12_plan_3 wc_X12_plans wd_2218 wd_2220 wd_100 wd_122 ds_X12_plans (by decide) (Nat.le_refl _) (Nat.le_of_ble_eq_true rfl) (Nat.zero_le _) (Nat.zero_le _) hc_10 (by decide) rfl rfl h
theorem bX12_plan_6 {SC : Nat → Nat} {X : mh_X} {d : Nat} {Q : Option am_V → am_W → Prop} {bc bs : Nat} {w : am_W} {x1 : Int} {x2 : Int} {x3 : Int} {xs0 : Int}
    (h : ((xs0 = 0 → Q (some (.inl (-1))) w) ∧ (¬ xs0 = 0 → am_M (mh_G X) SC d 0 0 mX12_in [.inl x3, .inl 0, .inl (am_w ((w.1 9 0 91) - 1))] w (fun r w1 => am_A (mh_G X) SC (d + 1) mX12_plan Q 20 [(0, .inr (.inr (some (9, 0)))), (1, .inl x1), (2, .inl x2), (3, .inl x3)] (r.toList ++ []) w1 bc bs)))) :
    am_A (mh_G X) SC (d + 1) mX12_plan Q 6 [(0, .inr (.inr (some (9, 0)))), (1, .inl x1), (2, .inl x2), (3, .inl x3)] [.inl xs0] w bc bs := by
  refine am_ifeq (tgt := 32) dX12_plan_6 (by decide) (fun c1 => ?_) (fun c1 => ?_)
  · replace h := h.1 c1
    refine am_iconst dX12_plan_32 (by unfold am_rg; omega) ?_
    exact am_ret (r := some (.inl (-1))) dX12_plan_33 (Or.inl rfl) rfl h
  · replace h := h.2 c1
    refine am_iload_n dX12_plan_9 (List.Mem.tail _ (List.Mem.tail _ (List.Mem.tail _ (List.Mem.head _)))) ?_
    refine am_iconst dX12_plan_10 (by unfold am_rg; omega) ?_
    refine am_aload_n dX12_plan_11 (List.Mem.head _) ?_
    refine am_getf (f := 91) (v := .inl (w.1 9 0 91)) dX12_plan_12 hc_10 (by decide) wd_1640 (by decide) rfl rfl ?_
    refine am_iconst dX12_plan_15 (by unfold am_rg; omega) ?_
    refine am_isub dX12_plan_16 ?_
    exact am_calls (d' := d) (kc := 0) (ks := 0) (as := [.inl x3, .inl 0, .inl (am_w ((w.1 9 0 91) - 1))]) dX12_plan_17 wc_X12_in wd_1859 wd_1860 wd_122 ds_X12_in (by decide) (Nat.le_refl _) (Nat.le_of_ble_eq_true rfl) (Nat.zero_le _) (Nat.zero_le _) rfl h
theorem bX12_plan_20 {SC : Nat → Nat} {X : mh_X} {d : Nat} {Q : Option am_V → am_W → Prop} {bc bs : Nat} {w : am_W} {x1 : Int} {x2 : Int} {x3 : Int} {xs0 : Int}
    (h : ((xs0 = 0 → Q (some (.inl (-1))) w) ∧ (¬ xs0 = 0 → (0 ≤ x3 ∧ (x3 < 5 ∧ Q (some (.inl (w.1 137 0 x3.toNat))) w))))) :
    am_A (mh_G X) SC (d + 1) mX12_plan Q 20 [(0, .inr (.inr (some (9, 0)))), (1, .inl x1), (2, .inl x2), (3, .inl x3)] [.inl xs0] w bc bs := by
  refine am_ifeq (tgt := 32) dX12_plan_20 (by decide) (fun c1 => ?_) (fun c1 => ?_)
  · replace h := h.1 c1
    refine am_iconst dX12_plan_32 (by unfold am_rg; omega) ?_
    exact am_ret (r := some (.inl (-1))) dX12_plan_33 (Or.inl rfl) rfl h
  · replace h := h.2 c1
    refine am_aload_n dX12_plan_23 (List.Mem.head _) ?_
    refine am_getf (f := 86) (v := .inr (.inr (some (137, 0)))) dX12_plan_24 hc_10 (by decide) wd_1635 (by decide) rfl rfl ?_
    refine am_iload_n dX12_plan_27 (List.Mem.tail _ (List.Mem.tail _ (List.Mem.tail _ (List.Mem.head _)))) ?_
    have o2 := h.1
    replace h := h.2
    have o3 := h.1
    replace h := h.2
    refine am_iaload (v := (w.1 137 0 x3.toNat)) dX12_plan_28 (by decide) rfl o2 o3 rfl ?_
    refine am_goto (tgt := 33) dX12_plan_29 (by decide) ?_
    exact am_ret (r := some (.inl (w.1 137 0 x3.toNat))) dX12_plan_33 (Or.inl rfl) rfl h
-- MourningHouseModel.planned(III)I
theorem dX12_planned_0 : decode mX12_planned.2.1 0 = .ok (.aload_n 0, 1) := by decide +kernel
theorem dX12_planned_1 : decode mX12_planned.2.1 1 = .ok (.iload_n 1, 1) := by decide +kernel
theorem dX12_planned_2 : decode mX12_planned.2.1 2 = .ok (.iload_n 2, 1) := by decide +kernel
theorem dX12_planned_3 : decode mX12_planned.2.1 3 = .ok (.invokevirtual 631, 3) := by decide +kernel
theorem dX12_planned_6 : decode mX12_planned.2.1 6 = .ok (.ifCond .eq 26, 3) := by decide +kernel
theorem dX12_planned_9 : decode mX12_planned.2.1 9 = .ok (.iload_n 3, 1) := by decide +kernel
theorem dX12_planned_10 : decode mX12_planned.2.1 10 = .ok (.iconst 0, 1) := by decide +kernel
theorem dX12_planned_11 : decode mX12_planned.2.1 11 = .ok (.aload_n 0, 1) := by decide +kernel
theorem dX12_planned_12 : decode mX12_planned.2.1 12 = .ok (.getfield 600, 3) := by decide +kernel
theorem dX12_planned_15 : decode mX12_planned.2.1 15 = .ok (.iconst 1, 1) := by decide +kernel
theorem dX12_planned_16 : decode mX12_planned.2.1 16 = .ok (.isub, 1) := by decide +kernel
theorem dX12_planned_17 : decode mX12_planned.2.1 17 = .ok (.invokestatic 318, 3) := by decide +kernel
theorem dX12_planned_20 : decode mX12_planned.2.1 20 = .ok (.ifCond .eq 12, 3) := by decide +kernel
theorem dX12_planned_23 : decode mX12_planned.2.1 23 = .ok (.aload_n 0, 1) := by decide +kernel
theorem dX12_planned_24 : decode mX12_planned.2.1 24 = .ok (.getfield 273, 3) := by decide +kernel
theorem dX12_planned_27 : decode mX12_planned.2.1 27 = .ok (.iload_n 3, 1) := by decide +kernel
theorem dX12_planned_28 : decode mX12_planned.2.1 28 = .ok (.iaload, 1) := by decide +kernel
theorem dX12_planned_29 : decode mX12_planned.2.1 29 = .ok (.goto 4, 3) := by decide +kernel
theorem dX12_planned_32 : decode mX12_planned.2.1 32 = .ok (.iconst (-1), 1) := by decide +kernel
theorem dX12_planned_33 : decode mX12_planned.2.1 33 = .ok (.ireturn, 1) := by decide +kernel
theorem bX12_planned_0 {SC : Nat → Nat} {X : mh_X} {d : Nat} {Q : Option am_V → am_W → Prop} {bc bs : Nat} {w : am_W} {x1 : Int} {x2 : Int} {x3 : Int}
    (h : am_M (mh_G X) SC d 0 0 mX12_plans [.inr (.inr (some (9, 0))), .inl x1, .inl x2] w (fun r w1 => am_A (mh_G X) SC (d + 1) mX12_planned Q 6 [(0, .inr (.inr (some (9, 0)))), (1, .inl x1), (2, .inl x2), (3, .inl x3)] (r.toList ++ []) w1 bc bs)) :
    am_A (mh_G X) SC (d + 1) mX12_planned Q 0 [(0, .inr (.inr (some (9, 0)))), (1, .inl x1), (2, .inl x2), (3, .inl x3)] [] w bc bs := by
  refine am_aload_n dX12_planned_0 (List.Mem.head _) ?_
  refine am_iload_n dX12_planned_1 (List.Mem.tail _ (List.Mem.head _)) ?_
  refine am_iload_n dX12_planned_2 (List.Mem.tail _ (List.Mem.tail _ (List.Mem.head _))) ?_
  exact am_callv (d' := d) (kc := 0) (ks := 0) (as := [.inl x1, .inl x2]) dX12_planned_3 wc_X12_plans wd_2218 wd_2220 wd_100 wd_122 ds_X12_plans (by decide) (Nat.le_refl _) (Nat.le_of_ble_eq_true rfl) (Nat.zero_le _) (Nat.zero_le _) hc_10 (by decide) rfl rfl h
theorem bX12_planned_6 {SC : Nat → Nat} {X : mh_X} {d : Nat} {Q : Option am_V → am_W → Prop} {bc bs : Nat} {w : am_W} {x1 : Int} {x2 : Int} {x3 : Int} {xs0 : Int}
    (h : ((xs0 = 0 → Q (some (.inl (-1))) w) ∧ (¬ xs0 = 0 → am_M (mh_G X) SC d 0 0 mX12_in [.inl x3, .inl 0, .inl (am_w ((w.1 9 0 91) - 1))] w (fun r w1 => am_A (mh_G X) SC (d + 1) mX12_planned Q 20 [(0, .inr (.inr (some (9, 0)))), (1, .inl x1), (2, .inl x2), (3, .inl x3)] (r.toList ++ []) w1 bc bs)))) :
    am_A (mh_G X) SC (d + 1) mX12_planned Q 6 [(0, .inr (.inr (some (9, 0)))), (1, .inl x1), (2, .inl x2), (3, .inl x3)] [.inl xs0] w bc bs := by
  refine am_ifeq (tgt := 32) dX12_planned_6 (by decide) (fun c1 => ?_) (fun c1 => ?_)
  · replace h := h.1 c1
    refine am_iconst dX12_planned_32 (by unfold am_rg; omega) ?_
    exact am_ret (r := some (.inl (-1))) dX12_planned_33 (Or.inl rfl) rfl h
  · replace h := h.2 c1
    refine am_iload_n dX12_planned_9 (List.Mem.tail _ (List.Mem.tail _ (List.Mem.tail _ (List.Mem.head _)))) ?_
    refine am_iconst dX12_planned_10 (by unfold am_rg; omega) ?_
    refine am_aload_n dX12_planned_11 (List.Mem.head _) ?_
    refine am_getf (f := 91) (v := .inl (w.1 9 0 91)) dX12_planned_12 hc_10 (by decide) wd_1640 (by decide) rfl rfl ?_
    refine am_iconst dX12_planned_15 (by unfold am_rg; omega) ?_
    refine am_isub dX12_planned_16 ?_
    exact am_calls (d' := d) (kc := 0) (ks := 0) (as := [.inl x3, .inl 0, .inl (am_w ((w.1 9 0 91) - 1))]) dX12_planned_17 wc_X12_in wd_1859 wd_1860 wd_122 ds_X12_in (by decide) (Nat.le_refl _) (Nat.le_of_ble_eq_true rfl) (Nat.zero_le _) (Nat.zero_le _) rfl h
theorem bX12_planned_20 {SC : Nat → Nat} {X : mh_X} {d : Nat} {Q : Option am_V → am_W → Prop} {bc bs : Nat} {w : am_W} {x1 : Int} {x2 : Int} {x3 : Int} {xs0 : Int}
    (h : ((xs0 = 0 → Q (some (.inl (-1))) w) ∧ (¬ xs0 = 0 → (0 ≤ x3 ∧ (x3 < 5 ∧ Q (some (.inl (w.1 138 0 x3.toNat))) w))))) :
    am_A (mh_G X) SC (d + 1) mX12_planned Q 20 [(0, .inr (.inr (some (9, 0)))), (1, .inl x1), (2, .inl x2), (3, .inl x3)] [.inl xs0] w bc bs := by
  refine am_ifeq (tgt := 32) dX12_planned_20 (by decide) (fun c1 => ?_) (fun c1 => ?_)
  · replace h := h.1 c1
    refine am_iconst dX12_planned_32 (by unfold am_rg; omega) ?_
    exact am_ret (r := some (.inl (-1))) dX12_planned_33 (Or.inl rfl) rfl h
  · replace h := h.2 c1
    refine am_aload_n dX12_planned_23 (List.Mem.head _) ?_
    refine am_getf (f := 87) (v := .inr (.inr (some (138, 0)))) dX12_planned_24 hc_10 (by decide) wd_1636 (by decide) rfl rfl ?_
    refine am_iload_n dX12_planned_27 (List.Mem.tail _ (List.Mem.tail _ (List.Mem.tail _ (List.Mem.head _)))) ?_
    have o2 := h.1
    replace h := h.2
    have o3 := h.1
    replace h := h.2
    refine am_iaload (v := (w.1 138 0 x3.toNat)) dX12_planned_28 (by decide) rfl o2 o3 rfl ?_
    refine am_goto (tgt := 33) dX12_planned_29 (by decide) ?_
    exact am_ret (r := some (.inl (w.1 138 0 x3.toNat))) dX12_planned_33 (Or.inl rfl) rfl h
-- MourningHouseModel.writes(Ljava/lang/String;Z)V
theorem dX12_writes_0 : decode mX12_writes.2.1 0 = .ok (.iload_n 2, 1) := by decide +kernel
theorem dX12_writes_1 : decode mX12_writes.2.1 1 = .ok (.ifCond .ne 28, 3) := by decide +kernel
theorem dX12_writes_4 : decode mX12_writes.2.1 4 = .ok (.aload_n 0, 1) := by decide +kernel
theorem dX12_writes_5 : decode mX12_writes.2.1 5 = .ok (.getfield 634, 3) := by decide +kernel
theorem dX12_writes_8 : decode mX12_writes.2.1 8 = .ok (.ifCond .le 21, 3) := by decide +kernel
theorem dX12_writes_11 : decode mX12_writes.2.1 11 = .ok (.aload_n 0, 1) := by decide +kernel
theorem dX12_writes_12 : decode mX12_writes.2.1 12 = .ok (.getfield 285, 3) := by decide +kernel
theorem dX12_writes_15 : decode mX12_writes.2.1 15 = .ok (.aload_n 0, 1) := by decide +kernel
theorem dX12_writes_16 : decode mX12_writes.2.1 16 = .ok (.dup, 1) := by decide +kernel
theorem dX12_writes_17 : decode mX12_writes.2.1 17 = .ok (.getfield 634, 3) := by decide +kernel
theorem dX12_writes_20 : decode mX12_writes.2.1 20 = .ok (.dup_x1, 1) := by decide +kernel
theorem dX12_writes_21 : decode mX12_writes.2.1 21 = .ok (.iconst 1, 1) := by decide +kernel
theorem dX12_writes_22 : decode mX12_writes.2.1 22 = .ok (.iadd, 1) := by decide +kernel
theorem dX12_writes_23 : decode mX12_writes.2.1 23 = .ok (.putfield 634, 3) := by decide +kernel
theorem dX12_writes_26 : decode mX12_writes.2.1 26 = .ok (.bipush 32, 2) := by decide +kernel
theorem dX12_writes_28 : decode mX12_writes.2.1 28 = .ok (.bastore, 1) := by decide +kernel
theorem dX12_writes_29 : decode mX12_writes.2.1 29 = .ok (.iconst 0, 1) := by decide +kernel
theorem dX12_writes_30 : decode mX12_writes.2.1 30 = .ok (.istore_n 3, 1) := by decide +kernel
theorem dX12_writes_31 : decode mX12_writes.2.1 31 = .ok (.iload_n 3, 1) := by decide +kernel
theorem dX12_writes_32 : decode mX12_writes.2.1 32 = .ok (.aload_n 1, 1) := by decide +kernel
theorem dX12_writes_33 : decode mX12_writes.2.1 33 = .ok (.invokevirtual 365, 3) := by decide +kernel
theorem dX12_writes_36 : decode mX12_writes.2.1 36 = .ok (.if_icmp .ge 31, 3) := by decide +kernel
theorem dX12_writes_39 : decode mX12_writes.2.1 39 = .ok (.aload_n 0, 1) := by decide +kernel
theorem dX12_writes_40 : decode mX12_writes.2.1 40 = .ok (.getfield 285, 3) := by decide +kernel
theorem dX12_writes_43 : decode mX12_writes.2.1 43 = .ok (.aload_n 0, 1) := by decide +kernel
theorem dX12_writes_44 : decode mX12_writes.2.1 44 = .ok (.dup, 1) := by decide +kernel
theorem dX12_writes_45 : decode mX12_writes.2.1 45 = .ok (.getfield 634, 3) := by decide +kernel
theorem dX12_writes_48 : decode mX12_writes.2.1 48 = .ok (.dup_x1, 1) := by decide +kernel
theorem dX12_writes_49 : decode mX12_writes.2.1 49 = .ok (.iconst 1, 1) := by decide +kernel
theorem dX12_writes_50 : decode mX12_writes.2.1 50 = .ok (.iadd, 1) := by decide +kernel
theorem dX12_writes_51 : decode mX12_writes.2.1 51 = .ok (.putfield 634, 3) := by decide +kernel
theorem dX12_writes_54 : decode mX12_writes.2.1 54 = .ok (.aload_n 1, 1) := by decide +kernel
theorem dX12_writes_55 : decode mX12_writes.2.1 55 = .ok (.iload_n 3, 1) := by decide +kernel
theorem dX12_writes_56 : decode mX12_writes.2.1 56 = .ok (.invokevirtual 369, 3) := by decide +kernel
theorem dX12_writes_59 : decode mX12_writes.2.1 59 = .ok (.i2b, 1) := by decide +kernel
theorem dX12_writes_60 : decode mX12_writes.2.1 60 = .ok (.bastore, 1) := by decide +kernel
theorem dX12_writes_61 : decode mX12_writes.2.1 61 = .ok (.iinc 3 1, 3) := by decide +kernel
theorem dX12_writes_64 : decode mX12_writes.2.1 64 = .ok (.goto (-33), 3) := by decide +kernel
theorem dX12_writes_67 : decode mX12_writes.2.1 67 = .ok (.return_, 1) := by decide +kernel
theorem bX12_writes_0 {SC : Nat → Nat} {X : mh_X} {d : Nat} {Q : Option am_V → am_W → Prop} {bc bs : Nat} {w : am_W} {t1 : Nat} {j1 : Nat} {x2 : Int}
    (h : ((¬ x2 = 0 → am_A (mh_G X) SC (d + 1) mX12_writes Q 29 [(0, .inr (.inr (some (9, 0)))), (1, .inr (.inr (some (t1, j1))))] [] w bc bs) ∧ (x2 = 0 → (((w.1 9 0 98) ≤ 0 → am_A (mh_G X) SC (d + 1) mX12_writes Q 29 [(0, .inr (.inr (some (9, 0)))), (1, .inr (.inr (some (t1, j1))))] [] w bc bs) ∧ (¬ (w.1 9 0 98) ≤ 0 → (0 ≤ (w.1 9 0 98) ∧ ((w.1 9 0 98) < 400 ∧ ((-128 ≤ (32 : Int) ∧ (32 : Int) < 128) ∧ am_A (mh_G X) SC (d + 1) mX12_writes Q 29 [(0, .inr (.inr (some (9, 0)))), (1, .inr (.inr (some (t1, j1))))] [] ((am_up (am_up w.1 9 0 98 (am_w ((w.1 9 0 98) + 1))) 142 0 (w.1 9 0 98).toNat 32), w.2) bc bs)))))))) :
    am_A (mh_G X) SC (d + 1) mX12_writes Q 0 [(0, .inr (.inr (some (9, 0)))), (1, .inr (.inr (some (t1, j1)))), (2, .inl x2)] [] w bc bs := by
  refine am_iload_n dX12_writes_0 (List.Mem.tail _ (List.Mem.tail _ (List.Mem.head _))) ?_
  refine am_ifne (tgt := 29) dX12_writes_1 (by decide) (fun c1 => ?_) (fun c1 => ?_)
  · replace h := h.1 c1
    exact am_sub [0, 1] rfl h
  · replace h := h.2 c1
    refine am_aload_n dX12_writes_4 (List.Mem.head _) ?_
    refine am_getf (f := 98) (v := .inl (w.1 9 0 98)) dX12_writes_5 hc_10 (by decide) wd_1647 (by decide) rfl rfl ?_
    refine am_ifle (tgt := 29) dX12_writes_8 (by decide) (fun c2 => ?_) (fun c2 => ?_)
    · replace h := h.1 c2
      exact am_sub [0, 1] rfl h
    · replace h := h.2 c2
      refine am_aload_n dX12_writes_11 (List.Mem.head _) ?_
      refine am_getf (f := 96) (v := .inr (.inr (some (142, 0)))) dX12_writes_12 hc_10 (by decide) wd_1645 (by decide) rfl rfl ?_
      refine am_aload_n dX12_writes_15 (List.Mem.head _) ?_
      refine am_dup dX12_writes_16 rfl ?_
      refine am_getf (f := 98) (v := .inl (w.1 9 0 98)) dX12_writes_17 hc_10 (by decide) wd_1647 (by decide) rfl rfl ?_
      refine am_dup_x1 dX12_writes_20 rfl rfl ?_
      refine am_iconst dX12_writes_21 (by unfold am_rg; omega) ?_
      refine am_iadd dX12_writes_22 ?_
      refine am_putf (f := 98) dX12_writes_23 hc_10 (by decide) wd_1647 rfl (Or.inl rfl) (Or.inl (by decide)) rfl ?_
      refine am_bipush dX12_writes_26 (by decide) (by unfold am_rg; omega) ?_
      have o3 := h.1
      replace h := h.2
      have o4 := h.1
      replace h := h.2
      have o5 := h.1
      replace h := h.2
      refine am_bastore o5 dX12_writes_28 (Or.inl (by decide)) rfl o3 o4 ?_
      exact am_sub [0, 1] rfl h
theorem bX12_writes_29 {SC : Nat → Nat} {X : mh_X} {d : Nat} {Q : Option am_V → am_W → Prop} {bc bs : Nat} {w : am_W} {t1 : Nat} {j1 : Nat}
    (h : am_A (mh_G X) SC (d + 1) mX12_writes Q 31 [(0, .inr (.inr (some (9, 0)))), (1, .inr (.inr (some (t1, j1)))), (3, .inl 0)] [] w bc bs) :
    am_A (mh_G X) SC (d + 1) mX12_writes Q 29 [(0, .inr (.inr (some (9, 0)))), (1, .inr (.inr (some (t1, j1))))] [] w bc bs := by
  refine am_iconst dX12_writes_29 (by unfold am_rg; omega) ?_
  refine am_istore_n (ls' := [(3, .inl 0), (0, .inr (.inr (some (9, 0)))), (1, .inr (.inr (some (t1, j1))))]) dX12_writes_30 (by decide) rfl ?_
  exact am_sub [1, 2, 0] rfl h
theorem bX12_writes_31 {SC : Nat → Nat} {X : mh_X} {d : Nat} {Q : Option am_V → am_W → Prop} {bc bs : Nat} {w : am_W} {t1 : Nat} {j1 : Nat} {x3 : Int}
    (h : (t1 < 1100 ∧ (am_kd (mh_G X) w t1 j1 = 111 ∧ am_M (mh_G X) SC d 0 0 mJ0_length_8abf5 [.inr (.inr (some (t1, j1)))] w (fun r w1 => am_A (mh_G X) SC (d + 1) mX12_writes Q 36 [(0, .inr (.inr (some (9, 0)))), (1, .inr (.inr (some (t1, j1)))), (3, .inl x3)] (r.toList ++ [.inl x3]) w1 bc bs)))) :
    am_A (mh_G X) SC (d + 1) mX12_writes Q 31 [(0, .inr (.inr (some (9, 0)))), (1, .inr (.inr (some (t1, j1)))), (3, .inl x3)] [] w bc bs := by
  refine am_iload_n dX12_writes_31 (List.Mem.tail _ (List.Mem.tail _ (List.Mem.head _))) ?_
  refine am_aload_n dX12_writes_32 (List.Mem.tail _ (List.Mem.head _)) ?_
  have o1 := h.1
  replace h := h.2
  have o2 := h.1
  replace h := h.2
  exact am_callv (d' := d) (kc := 0) (ks := 0) (as := []) dX12_writes_33 wc_J0_length_8abf5 wd_1934 wd_722 wd_723 wd_124 ds_J0_length_8abf5 (by decide) (Nat.le_refl _) (Nat.le_of_ble_eq_true rfl) (Nat.zero_le _) (Nat.zero_le _) hc_11 o1 o2 rfl h
theorem bX12_writes_36 {SC : Nat → Nat} {X : mh_X} {d : Nat} {Q : Option am_V → am_W → Prop} {bc bs : Nat} {w : am_W} {t1 : Nat} {j1 : Nat} {x3 : Int} {xs0 : Int} {xs1 : Int}
    (h : ((xs0 ≤ xs1 → Q none w) ∧ (¬ xs0 ≤ xs1 → (t1 < 1100 ∧ (am_kd (mh_G X) ((am_up w.1 9 0 98 (am_w ((w.1 9 0 98) + 1))), w.2) t1 j1 = 111 ∧ am_M (mh_G X) SC d 0 0 mJ0_charAt_5068e [.inr (.inr (some (t1, j1))), .inl x3] ((am_up w.1 9 0 98 (am_w ((w.1 9 0 98) + 1))), w.2) (fun r w1 => am_A (mh_G X) SC (d + 1) mX12_writes Q 59 [(0, .inr (.inr (some (9, 0)))), (1, .inr (.inr (some (t1, j1)))), (3, .inl x3)] (r.toList ++ [.inl (w.1 9 0 98), .inr (.inr (some (142, 0)))]) w1 bc bs)))))) :
    am_A (mh_G X) SC (d + 1) mX12_writes Q 36 [(0, .inr (.inr (some (9, 0)))), (1, .inr (.inr (some (t1, j1)))), (3, .inl x3)] [.inl xs0, .inl xs1] w bc bs := by
  refine am_icmpge (tgt := 67) dX12_writes_36 (by decide) (fun c1 => ?_) (fun c1 => ?_)
  · replace h := h.1 c1
    exact am_ret (r := none) dX12_writes_67 rfl rfl h
  · replace h := h.2 c1
    refine am_aload_n dX12_writes_39 (List.Mem.head _) ?_
    refine am_getf (f := 96) (v := .inr (.inr (some (142, 0)))) dX12_writes_40 hc_10 (by decide) wd_1645 (by decide) rfl rfl ?_
    refine am_aload_n dX12_writes_43 (List.Mem.head _) ?_
    refine am_dup dX12_writes_44 rfl ?_
    refine am_getf (f := 98) (v := .inl (w.1 9 0 98)) dX12_writes_45 hc_10 (by decide) wd_1647 (by decide) rfl rfl ?_
    refine am_dup_x1 dX12_writes_48 rfl rfl ?_
    refine am_iconst dX12_writes_49 (by unfold am_rg; omega) ?_
    refine am_iadd dX12_writes_50 ?_
    refine am_putf (f := 98) dX12_writes_51 hc_10 (by decide) wd_1647 rfl (Or.inl rfl) (Or.inl (by decide)) rfl ?_
    refine am_aload_n dX12_writes_54 (List.Mem.tail _ (List.Mem.head _)) ?_
    refine am_iload_n dX12_writes_55 (List.Mem.tail _ (List.Mem.tail _ (List.Mem.head _))) ?_
    have o2 := h.1
    replace h := h.2
    have o3 := h.1
    replace h := h.2
    exact am_callv (d' := d) (kc := 0) (ks := 0) (as := [.inl x3]) dX12_writes_56 wc_J0_charAt_5068e wd_1935 wd_732 wd_733 wd_124 ds_J0_charAt_5068e (by decide) (Nat.le_refl _) (Nat.le_of_ble_eq_true rfl) (Nat.zero_le _) (Nat.zero_le _) hc_11 o2 o3 rfl h
theorem bX12_writes_59 {SC : Nat → Nat} {X : mh_X} {d : Nat} {Q : Option am_V → am_W → Prop} {bc bs : Nat} {w : am_W} {t1 : Nat} {j1 : Nat} {x3 : Int} {xs0 : Int} {xs1 : Int}
    (h : (0 ≤ xs1 ∧ (xs1 < 400 ∧ ((-128 ≤ ((am_i2b xs0) : Int) ∧ ((am_i2b xs0) : Int) < 128) ∧ am_A (mh_G X) SC (d + 1) mX12_writes Q 31 [(0, .inr (.inr (some (9, 0)))), (1, .inr (.inr (some (t1, j1)))), (3, .inl (am_w (x3 + 1)))] [] ((am_up w.1 142 0 xs1.toNat (am_i2b xs0)), w.2) bc bs)))) :
    am_A (mh_G X) SC (d + 1) mX12_writes Q 59 [(0, .inr (.inr (some (9, 0)))), (1, .inr (.inr (some (t1, j1)))), (3, .inl x3)] [.inl xs0, .inl xs1, .inr (.inr (some (142, 0)))] w bc bs := by
  refine am_i2bR dX12_writes_59 ?_
  have o1 := h.1
  replace h := h.2
  have o2 := h.1
  replace h := h.2
  have o3 := h.1
  replace h := h.2
  refine am_bastore o3 dX12_writes_60 (Or.inl (by decide)) rfl o1 o2 ?_
  refine am_iinc (ls' := [(3, .inl (am_w (x3 + 1))), (0, .inr (.inr (some (9, 0)))), (1, .inr (.inr (some (t1, j1))))]) dX12_writes_61 (List.Mem.tail _ (List.Mem.tail _ (List.Mem.head _))) (by decide) rfl ?_
  refine am_goto (tgt := 31) dX12_writes_64 (by decide) ?_
  exact am_sub [1, 2, 0] rfl h
-- MourningHouseModel.isRule(II)Z
theorem dX12_isRule_0 : decode mX12_isRule.2.1 0 = .ok (.iload_n 1, 1) := by decide +kernel
theorem dX12_isRule_1 : decode mX12_isRule.2.1 1 = .ok (.iconst 0, 1) := by decide +kernel
theorem dX12_isRule_2 : decode mX12_isRule.2.1 2 = .ok (.aload_n 0, 1) := by decide +kernel
theorem dX12_isRule_3 : decode mX12_isRule.2.1 3 = .ok (.getfield 435, 3) := by decide +kernel
theorem dX12_isRule_6 : decode mX12_isRule.2.1 6 = .ok (.iconst 1, 1) := by decide +kernel
theorem dX12_isRule_7 : decode mX12_isRule.2.1 7 = .ok (.isub, 1) := by decide +kernel
theorem dX12_isRule_8 : decode mX12_isRule.2.1 8 = .ok (.invokestatic 318, 3) := by decide +kernel
theorem dX12_isRule_11 : decode mX12_isRule.2.1 11 = .ok (.ifCond .eq 23, 3) := by decide +kernel
theorem dX12_isRule_14 : decode mX12_isRule.2.1 14 = .ok (.iload_n 2, 1) := by decide +kernel
theorem dX12_isRule_15 : decode mX12_isRule.2.1 15 = .ok (.iconst 0, 1) := by decide +kernel
theorem dX12_isRule_16 : decode mX12_isRule.2.1 16 = .ok (.aload_n 0, 1) := by decide +kernel
theorem dX12_isRule_17 : decode mX12_isRule.2.1 17 = .ok (.getfield 17, 3) := by decide +kernel
theorem dX12_isRule_20 : decode mX12_isRule.2.1 20 = .ok (.iload_n 1, 1) := by decide +kernel
theorem dX12_isRule_21 : decode mX12_isRule.2.1 21 = .ok (.iaload, 1) := by decide +kernel
theorem dX12_isRule_22 : decode mX12_isRule.2.1 22 = .ok (.iconst 1, 1) := by decide +kernel
theorem dX12_isRule_23 : decode mX12_isRule.2.1 23 = .ok (.isub, 1) := by decide +kernel
theorem dX12_isRule_24 : decode mX12_isRule.2.1 24 = .ok (.invokestatic 318, 3) := by decide +kernel
theorem dX12_isRule_27 : decode mX12_isRule.2.1 27 = .ok (.ifCond .eq 7, 3) := by decide +kernel
theorem dX12_isRule_30 : decode mX12_isRule.2.1 30 = .ok (.iconst 1, 1) := by decide +kernel
theorem dX12_isRule_31 : decode mX12_isRule.2.1 31 = .ok (.goto 4, 3) := by decide +kernel
theorem dX12_isRule_34 : decode mX12_isRule.2.1 34 = .ok (.iconst 0, 1) := by decide +kernel
theorem dX12_isRule_35 : decode mX12_isRule.2.1 35 = .ok (.ireturn, 1) := by decide +kernel
theorem bX12_isRule_0 {SC : Nat → Nat} {X : mh_X} {d : Nat} {Q : Option am_V → am_W → Prop} {bc bs : Nat} {w : am_W} {x1 : Int} {x2 : Int}
    (h : am_M (mh_G X) SC d 0 0 mX12_in [.inl x1, .inl 0, .inl (am_w ((w.1 9 0 21) - 1))] w (fun r w1 => am_A (mh_G X) SC (d + 1) mX12_isRule Q 11 [(0, .inr (.inr (some (9, 0)))), (1, .inl x1), (2, .inl x2)] (r.toList ++ []) w1 bc bs)) :
    am_A (mh_G X) SC (d + 1) mX12_isRule Q 0 [(0, .inr (.inr (some (9, 0)))), (1, .inl x1), (2, .inl x2)] [] w bc bs := by
  refine am_iload_n dX12_isRule_0 (List.Mem.tail _ (List.Mem.head _)) ?_
  refine am_iconst dX12_isRule_1 (by unfold am_rg; omega) ?_
  refine am_aload_n dX12_isRule_2 (List.Mem.head _) ?_
  refine am_getf (f := 21) (v := .inl (w.1 9 0 21)) dX12_isRule_3 hc_10 (by decide) wd_1570 (by decide) rfl rfl ?_
  refine am_iconst dX12_isRule_6 (by unfold am_rg; omega) ?_
  refine am_isub dX12_isRule_7 ?_
  exact am_calls (d' := d) (kc := 0) (ks := 0) (as := [.inl x1, .inl 0, .inl (am_w ((w.1 9 0 21) - 1))]) dX12_isRule_8 wc_X12_in wd_1859 wd_1860 wd_122 ds_X12_in (by decide) (Nat.le_refl _) (Nat.le_of_ble_eq_true rfl) (Nat.zero_le _) (Nat.zero_le _) rfl h
theorem bX12_isRule_11 {SC : Nat → Nat} {X : mh_X} {d : Nat} {Q : Option am_V → am_W → Prop} {bc bs : Nat} {w : am_W} {x1 : Int} {x2 : Int} {xs0 : Int}
    (h : ((xs0 = 0 → Q (some (.inl 0)) w) ∧ (¬ xs0 = 0 → (0 ≤ x1 ∧ (x1 < 7 ∧ am_M (mh_G X) SC d 0 0 mX12_in [.inl x2, .inl 0, .inl (am_w ((w.1 68 0 x1.toNat) - 1))] w (fun r w1 => am_A (mh_G X) SC (d + 1) mX12_isRule Q 27 [(0, .inr (.inr (some (9, 0)))), (1, .inl x1), (2, .inl x2)] (r.toList ++ []) w1 bc bs)))))) :
    am_A (mh_G X) SC (d + 1) mX12_isRule Q 11 [(0, .inr (.inr (some (9, 0)))), (1, .inl x1), (2, .inl x2)] [.inl xs0] w bc bs := by
  refine am_ifeq (tgt := 34) dX12_isRule_11 (by decide) (fun c1 => ?_) (fun c1 => ?_)
  · replace h := h.1 c1
    refine am_iconst dX12_isRule_34 (by unfold am_rg; omega) ?_
    exact am_ret (r := some (.inl 0)) dX12_isRule_35 (Or.inr (Or.inl ⟨rfl, (Or.inl rfl)⟩)) rfl h
  · replace h := h.2 c1
    refine am_iload_n dX12_isRule_14 (List.Mem.tail _ (List.Mem.tail _ (List.Mem.head _))) ?_
    refine am_iconst dX12_isRule_15 (by unfold am_rg; omega) ?_
    refine am_aload_n dX12_isRule_16 (List.Mem.head _) ?_
    refine am_getf (f := 6) (v := .inr (.inr (some (68, 0)))) dX12_isRule_17 hc_10 (by decide) wd_1555 (by decide) rfl rfl ?_
    refine am_iload_n dX12_isRule_20 (List.Mem.tail _ (List.Mem.head _)) ?_
    have o2 := h.1
    replace h := h.2
    have o3 := h.1
    replace h := h.2
    refine am_iaload (v := (w.1 68 0 x1.toNat)) dX12_isRule_21 (by decide) rfl o2 o3 rfl ?_
    refine am_iconst dX12_isRule_22 (by unfold am_rg; omega) ?_
    refine am_isub dX12_isRule_23 ?_
    exact am_calls (d' := d) (kc := 0) (ks := 0) (as := [.inl x2, .inl 0, .inl (am_w ((w.1 68 0 x1.toNat) - 1))]) dX12_isRule_24 wc_X12_in wd_1859 wd_1860 wd_122 ds_X12_in (by decide) (Nat.le_refl _) (Nat.le_of_ble_eq_true rfl) (Nat.zero_le _) (Nat.zero_le _) rfl h
theorem bX12_isRule_27 {SC : Nat → Nat} {X : mh_X} {d : Nat} {Q : Option am_V → am_W → Prop} {bc bs : Nat} {w : am_W} {x1 : Int} {x2 : Int} {xs0 : Int}
    (h : ((xs0 = 0 → Q (some (.inl 0)) w) ∧ (¬ xs0 = 0 → Q (some (.inl 1)) w))) :
    am_A (mh_G X) SC (d + 1) mX12_isRule Q 27 [(0, .inr (.inr (some (9, 0)))), (1, .inl x1), (2, .inl x2)] [.inl xs0] w bc bs := by
  refine am_ifeq (tgt := 34) dX12_isRule_27 (by decide) (fun c1 => ?_) (fun c1 => ?_)
  · replace h := h.1 c1
    refine am_iconst dX12_isRule_34 (by unfold am_rg; omega) ?_
    exact am_ret (r := some (.inl 0)) dX12_isRule_35 (Or.inr (Or.inl ⟨rfl, (Or.inl rfl)⟩)) rfl h
  · replace h := h.2 c1
    refine am_iconst dX12_isRule_30 (by unfold am_rg; omega) ?_
    refine am_goto (tgt := 35) dX12_isRule_31 (by decide) ?_
    exact am_ret (r := some (.inl 1)) dX12_isRule_35 (Or.inr (Or.inl ⟨rfl, (Or.inr rfl)⟩)) rfl h
-- MourningHouseModel.write(II)I
theorem dX12_write_0 : decode mX12_write.2.1 0 = .ok (.aload_n 0, 1) := by decide +kernel
theorem dX12_write_1 : decode mX12_write.2.1 1 = .ok (.iload_n 1, 1) := by decide +kernel
theorem dX12_write_2 : decode mX12_write.2.1 2 = .ok (.iload_n 2, 1) := by decide +kernel
theorem dX12_write_3 : decode mX12_write.2.1 3 = .ok (.invokevirtual 663, 3) := by decide +kernel
theorem dX12_write_6 : decode mX12_write.2.1 6 = .ok (.ifCond .ne 5, 3) := by decide +kernel
theorem dX12_write_9 : decode mX12_write.2.1 9 = .ok (.iconst (-1), 1) := by decide +kernel
theorem dX12_write_10 : decode mX12_write.2.1 10 = .ok (.ireturn, 1) := by decide +kernel
theorem dX12_write_11 : decode mX12_write.2.1 11 = .ok (.aload_n 0, 1) := by decide +kernel
theorem dX12_write_12 : decode mX12_write.2.1 12 = .ok (.iload_n 1, 1) := by decide +kernel
theorem dX12_write_13 : decode mX12_write.2.1 13 = .ok (.iload_n 2, 1) := by decide +kernel
theorem dX12_write_14 : decode mX12_write.2.1 14 = .ok (.invokevirtual 666, 3) := by decide +kernel
theorem dX12_write_17 : decode mX12_write.2.1 17 = .ok (.iconst 0, 1) := by decide +kernel
theorem dX12_write_18 : decode mX12_write.2.1 18 = .ok (.istore_n 3, 1) := by decide +kernel
theorem dX12_write_19 : decode mX12_write.2.1 19 = .ok (.iload_n 3, 1) := by decide +kernel
theorem dX12_write_20 : decode mX12_write.2.1 20 = .ok (.aload_n 0, 1) := by decide +kernel
theorem dX12_write_21 : decode mX12_write.2.1 21 = .ok (.getfield 634, 3) := by decide +kernel
theorem dX12_write_24 : decode mX12_write.2.1 24 = .ok (.if_icmp .ge 21, 3) := by decide +kernel
theorem dX12_write_27 : decode mX12_write.2.1 27 = .ok (.aload_n 0, 1) := by decide +kernel
theorem dX12_write_28 : decode mX12_write.2.1 28 = .ok (.getfield 288, 3) := by decide +kernel
theorem dX12_write_31 : decode mX12_write.2.1 31 = .ok (.iload_n 3, 1) := by decide +kernel
theorem dX12_write_32 : decode mX12_write.2.1 32 = .ok (.aload_n 0, 1) := by decide +kernel
theorem dX12_write_33 : decode mX12_write.2.1 33 = .ok (.getfield 285, 3) := by decide +kernel
theorem dX12_write_36 : decode mX12_write.2.1 36 = .ok (.iload_n 3, 1) := by decide +kernel
theorem dX12_write_37 : decode mX12_write.2.1 37 = .ok (.baload, 1) := by decide +kernel
theorem dX12_write_38 : decode mX12_write.2.1 38 = .ok (.bastore, 1) := by decide +kernel
theorem dX12_write_39 : decode mX12_write.2.1 39 = .ok (.iinc 3 1, 3) := by decide +kernel
theorem dX12_write_42 : decode mX12_write.2.1 42 = .ok (.goto (-23), 3) := by decide +kernel
theorem dX12_write_45 : decode mX12_write.2.1 45 = .ok (.aload_n 0, 1) := by decide +kernel
theorem dX12_write_46 : decode mX12_write.2.1 46 = .ok (.aload_n 0, 1) := by decide +kernel
theorem dX12_write_47 : decode mX12_write.2.1 47 = .ok (.getfield 634, 3) := by decide +kernel
theorem dX12_write_50 : decode mX12_write.2.1 50 = .ok (.putfield 669, 3) := by decide +kernel
theorem dX12_write_53 : decode mX12_write.2.1 53 = .ok (.aload_n 0, 1) := by decide +kernel
theorem dX12_write_54 : decode mX12_write.2.1 54 = .ok (.getfield 669, 3) := by decide +kernel
theorem dX12_write_57 : decode mX12_write.2.1 57 = .ok (.ireturn, 1) := by decide +kernel
theorem bX12_write_0 {SC : Nat → Nat} {X : mh_X} {d : Nat} {Q : Option am_V → am_W → Prop} {bc bs : Nat} {w : am_W} {x1 : Int} {x2 : Int}
    (h : am_M (mh_G X) SC d 0 0 mX12_isRule [.inr (.inr (some (9, 0))), .inl x1, .inl x2] w (fun r w1 => am_A (mh_G X) SC (d + 1) mX12_write Q 6 [(0, .inr (.inr (some (9, 0)))), (1, .inl x1), (2, .inl x2)] (r.toList ++ []) w1 bc bs)) :
    am_A (mh_G X) SC (d + 1) mX12_write Q 0 [(0, .inr (.inr (some (9, 0)))), (1, .inl x1), (2, .inl x2)] [] w bc bs := by
  refine am_aload_n dX12_write_0 (List.Mem.head _) ?_
  refine am_iload_n dX12_write_1 (List.Mem.tail _ (List.Mem.head _)) ?_
  refine am_iload_n dX12_write_2 (List.Mem.tail _ (List.Mem.tail _ (List.Mem.head _))) ?_
  exact am_callv (d' := d) (kc := 0) (ks := 0) (as := [.inl x1, .inl x2]) dX12_write_3 wc_X12_isRule wd_2250 wd_2252 wd_106 wd_122 ds_X12_isRule (by decide) (Nat.le_refl _) (Nat.le_of_ble_eq_true rfl) (Nat.zero_le _) (Nat.zero_le _) hc_10 (by decide) rfl rfl h
theorem bX12_write_6 {SC : Nat → Nat} {X : mh_X} {d : Nat} {Q : Option am_V → am_W → Prop} {bc bs : Nat} {w : am_W} {x1 : Int} {x2 : Int} {xs0 : Int}
    (h : ((¬ xs0 = 0 → am_M (mh_G X) SC d 0 0 mX12_writesRule [.inr (.inr (some (9, 0))), .inl x1, .inl x2] w (fun r w1 => am_A (mh_G X) SC (d + 1) mX12_write Q 17 [(0, .inr (.inr (some (9, 0)))), (1, .inl x1), (2, .inl x2)] (r.toList ++ []) w1 bc bs)) ∧ (xs0 = 0 → Q (some (.inl (-1))) w))) :
    am_A (mh_G X) SC (d + 1) mX12_write Q 6 [(0, .inr (.inr (some (9, 0)))), (1, .inl x1), (2, .inl x2)] [.inl xs0] w bc bs := by
  refine am_ifne (tgt := 11) dX12_write_6 (by decide) (fun c1 => ?_) (fun c1 => ?_)
  · replace h := h.1 c1
    refine am_aload_n dX12_write_11 (List.Mem.head _) ?_
    refine am_iload_n dX12_write_12 (List.Mem.tail _ (List.Mem.head _)) ?_
    refine am_iload_n dX12_write_13 (List.Mem.tail _ (List.Mem.tail _ (List.Mem.head _))) ?_
    exact am_callv (d' := d) (kc := 0) (ks := 0) (as := [.inl x1, .inl x2]) dX12_write_14 wc_X12_writesRule wd_2254 wd_2256 wd_107 wd_122 ds_X12_writesRule (by decide) (Nat.le_refl _) (Nat.le_of_ble_eq_true rfl) (Nat.zero_le _) (Nat.zero_le _) hc_10 (by decide) rfl rfl h
  · replace h := h.2 c1
    refine am_iconst dX12_write_9 (by unfold am_rg; omega) ?_
    exact am_ret (r := some (.inl (-1))) dX12_write_10 (Or.inl rfl) rfl h
theorem bX12_write_17 {SC : Nat → Nat} {X : mh_X} {d : Nat} {Q : Option am_V → am_W → Prop} {bc bs : Nat} {w : am_W} {x1 : Int} {x2 : Int}
    (h : am_A (mh_G X) SC (d + 1) mX12_write Q 19 [(0, .inr (.inr (some (9, 0)))), (3, .inl 0)] [] w bc bs) :
    am_A (mh_G X) SC (d + 1) mX12_write Q 17 [(0, .inr (.inr (some (9, 0)))), (1, .inl x1), (2, .inl x2)] [] w bc bs := by
  refine am_iconst dX12_write_17 (by unfold am_rg; omega) ?_
  refine am_istore_n (ls' := [(3, .inl 0), (0, .inr (.inr (some (9, 0)))), (1, .inl x1), (2, .inl x2)]) dX12_write_18 (by decide) rfl ?_
  exact am_sub [1, 0] rfl h
theorem bX12_write_19 {SC : Nat → Nat} {X : mh_X} {d : Nat} {Q : Option am_V → am_W → Prop} {bc bs : Nat} {w : am_W} {x3 : Int}
    (h : (((w.1 9 0 98) ≤ x3 → Q (some (.inl ((am_up w.1 9 0 99 (w.1 9 0 98)) 9 0 99))) ((am_up w.1 9 0 99 (w.1 9 0 98)), w.2)) ∧ (¬ (w.1 9 0 98) ≤ x3 → (0 ≤ x3 ∧ (x3 < 400 ∧ ((-128 ≤ ((w.1 142 0 x3.toNat) : Int) ∧ ((w.1 142 0 x3.toNat) : Int) < 128) ∧ am_A (mh_G X) SC (d + 1) mX12_write Q 19 [(0, .inr (.inr (some (9, 0)))), (3, .inl (am_w (x3 + 1)))] [] ((am_up w.1 143 0 x3.toNat (w.1 142 0 x3.toNat)), w.2) bc bs)))))) :
    am_A (mh_G X) SC (d + 1) mX12_write Q 19 [(0, .inr (.inr (some (9, 0)))), (3, .inl x3)] [] w bc bs := by
  refine am_iload_n dX12_write_19 (List.Mem.tail _ (List.Mem.head _)) ?_
  refine am_aload_n dX12_write_20 (List.Mem.head _) ?_
  refine am_getf (f := 98) (v := .inl (w.1 9 0 98)) dX12_write_21 hc_10 (by decide) wd_1647 (by decide) rfl rfl ?_
  refine am_icmpge (tgt := 45) dX12_write_24 (by decide) (fun c1 => ?_) (fun c1 => ?_)
  · replace h := h.1 c1
    refine am_aload_n dX12_write_45 (List.Mem.head _) ?_
    refine am_aload_n dX12_write_46 (List.Mem.head _) ?_
    refine am_getf (f := 98) (v := .inl (w.1 9 0 98)) dX12_write_47 hc_10 (by decide) wd_1647 (by decide) rfl rfl ?_
    refine am_putf (f := 99) dX12_write_50 hc_10 (by decide) wd_1648 rfl (Or.inl rfl) (Or.inl (by decide)) rfl ?_
    refine am_aload_n dX12_write_53 (List.Mem.head _) ?_
    refine am_getf (f := 99) (v := .inl ((am_up w.1 9 0 99 (w.1 9 0 98)) 9 0 99)) dX12_write_54 hc_10 (by decide) wd_1648 (by decide) rfl rfl ?_
    exact am_ret (r := some (.inl ((am_up w.1 9 0 99 (w.1 9 0 98)) 9 0 99))) dX12_write_57 (Or.inl rfl) rfl h
  · replace h := h.2 c1
    refine am_aload_n dX12_write_27 (List.Mem.head _) ?_
    refine am_getf (f := 97) (v := .inr (.inr (some (143, 0)))) dX12_write_28 hc_10 (by decide) wd_1646 (by decide) rfl rfl ?_
    refine am_iload_n dX12_write_31 (List.Mem.tail _ (List.Mem.head _)) ?_
    refine am_aload_n dX12_write_32 (List.Mem.head _) ?_
    refine am_getf (f := 96) (v := .inr (.inr (some (142, 0)))) dX12_write_33 hc_10 (by decide) wd_1645 (by decide) rfl rfl ?_
    refine am_iload_n dX12_write_36 (List.Mem.tail _ (List.Mem.head _)) ?_
    have o2 := h.1
    replace h := h.2
    have o3 := h.1
    replace h := h.2
    refine am_baload (v := (w.1 142 0 x3.toNat)) dX12_write_37 (by decide) rfl o2 o3 rfl ?_
    have o4 := h.1
    replace h := h.2
    refine am_bastore o4 dX12_write_38 (Or.inl (by decide)) rfl o2 o3 ?_
    refine am_iinc (ls' := [(3, .inl (am_w (x3 + 1))), (0, .inr (.inr (some (9, 0))))]) dX12_write_39 (List.Mem.tail _ (List.Mem.head _)) (by decide) rfl ?_
    refine am_goto (tgt := 19) dX12_write_42 (by decide) ?_
    exact am_sub [1, 0] rfl h
-- MourningHouseModel.out(I)I
theorem dX12_out_0 : decode mX12_out.2.1 0 = .ok (.iload_n 1, 1) := by decide +kernel
theorem dX12_out_1 : decode mX12_out.2.1 1 = .ok (.iconst 0, 1) := by decide +kernel
theorem dX12_out_2 : decode mX12_out.2.1 2 = .ok (.aload_n 0, 1) := by decide +kernel
theorem dX12_out_3 : decode mX12_out.2.1 3 = .ok (.getfield 669, 3) := by decide +kernel
theorem dX12_out_6 : decode mX12_out.2.1 6 = .ok (.iconst 1, 1) := by decide +kernel
theorem dX12_out_7 : decode mX12_out.2.1 7 = .ok (.isub, 1) := by decide +kernel
theorem dX12_out_8 : decode mX12_out.2.1 8 = .ok (.invokestatic 318, 3) := by decide +kernel
theorem dX12_out_11 : decode mX12_out.2.1 11 = .ok (.ifCond .eq 12, 3) := by decide +kernel
theorem dX12_out_14 : decode mX12_out.2.1 14 = .ok (.aload_n 0, 1) := by decide +kernel
theorem dX12_out_15 : decode mX12_out.2.1 15 = .ok (.getfield 288, 3) := by decide +kernel
theorem dX12_out_18 : decode mX12_out.2.1 18 = .ok (.iload_n 1, 1) := by decide +kernel
theorem dX12_out_19 : decode mX12_out.2.1 19 = .ok (.baload, 1) := by decide +kernel
theorem dX12_out_20 : decode mX12_out.2.1 20 = .ok (.goto 4, 3) := by decide +kernel
theorem dX12_out_23 : decode mX12_out.2.1 23 = .ok (.iconst (-1), 1) := by decide +kernel
theorem dX12_out_24 : decode mX12_out.2.1 24 = .ok (.ireturn, 1) := by decide +kernel
theorem bX12_out_0 {SC : Nat → Nat} {X : mh_X} {d : Nat} {Q : Option am_V → am_W → Prop} {bc bs : Nat} {w : am_W} {x1 : Int}
    (h : am_M (mh_G X) SC d 0 0 mX12_in [.inl x1, .inl 0, .inl (am_w ((w.1 9 0 99) - 1))] w (fun r w1 => am_A (mh_G X) SC (d + 1) mX12_out Q 11 [(0, .inr (.inr (some (9, 0)))), (1, .inl x1)] (r.toList ++ []) w1 bc bs)) :
    am_A (mh_G X) SC (d + 1) mX12_out Q 0 [(0, .inr (.inr (some (9, 0)))), (1, .inl x1)] [] w bc bs := by
  refine am_iload_n dX12_out_0 (List.Mem.tail _ (List.Mem.head _)) ?_
  refine am_iconst dX12_out_1 (by unfold am_rg; omega) ?_
  refine am_aload_n dX12_out_2 (List.Mem.head _) ?_
  refine am_getf (f := 99) (v := .inl (w.1 9 0 99)) dX12_out_3 hc_10 (by decide) wd_1648 (by decide) rfl rfl ?_
  refine am_iconst dX12_out_6 (by unfold am_rg; omega) ?_
  refine am_isub dX12_out_7 ?_
  exact am_calls (d' := d) (kc := 0) (ks := 0) (as := [.inl x1, .inl 0, .inl (am_w ((w.1 9 0 99) - 1))]) dX12_out_8 wc_X12_in wd_1859 wd_1860 wd_122 ds_X12_in (by decide) (Nat.le_refl _) (Nat.le_of_ble_eq_true rfl) (Nat.zero_le _) (Nat.zero_le _) rfl h
theorem bX12_out_11 {SC : Nat → Nat} {X : mh_X} {d : Nat} {Q : Option am_V → am_W → Prop} {bc bs : Nat} {w : am_W} {x1 : Int} {xs0 : Int}
    (h : ((xs0 = 0 → Q (some (.inl (-1))) w) ∧ (¬ xs0 = 0 → (0 ≤ x1 ∧ (x1 < 400 ∧ Q (some (.inl (w.1 143 0 x1.toNat))) w))))) :
    am_A (mh_G X) SC (d + 1) mX12_out Q 11 [(0, .inr (.inr (some (9, 0)))), (1, .inl x1)] [.inl xs0] w bc bs := by
  refine am_ifeq (tgt := 23) dX12_out_11 (by decide) (fun c1 => ?_) (fun c1 => ?_)
  · replace h := h.1 c1
    refine am_iconst dX12_out_23 (by unfold am_rg; omega) ?_
    exact am_ret (r := some (.inl (-1))) dX12_out_24 (Or.inl rfl) rfl h
  · replace h := h.2 c1
    refine am_aload_n dX12_out_14 (List.Mem.head _) ?_
    refine am_getf (f := 97) (v := .inr (.inr (some (143, 0)))) dX12_out_15 hc_10 (by decide) wd_1646 (by decide) rfl rfl ?_
    refine am_iload_n dX12_out_18 (List.Mem.tail _ (List.Mem.head _)) ?_
    have o2 := h.1
    replace h := h.2
    have o3 := h.1
    replace h := h.2
    refine am_baload (v := (w.1 143 0 x1.toNat)) dX12_out_19 (by decide) rfl o2 o3 rfl ?_
    refine am_goto (tgt := 24) dX12_out_20 (by decide) ?_
    exact am_ret (r := some (.inl (w.1 143 0 x1.toNat))) dX12_out_24 (Or.inl rfl) rfl h
-- MourningHouseModel.areAlike(III)Z
theorem dX12_areAlike_0 : decode mX12_areAlike.2.1 0 = .ok (.aload_n 0, 1) := by decide +kernel
theorem dX12_areAlike_1 : decode mX12_areAlike.2.1 1 = .ok (.getfield 28, 3) := by decide +kernel
theorem dX12_areAlike_4 : decode mX12_areAlike.2.1 4 = .ok (.iload_n 1, 1) := by decide +kernel
theorem dX12_areAlike_5 : decode mX12_areAlike.2.1 5 = .ok (.aaload, 1) := by decide +kernel
theorem dX12_areAlike_6 : decode mX12_areAlike.2.1 6 = .ok (.iload_n 2, 1) := by decide +kernel
theorem dX12_areAlike_7 : decode mX12_areAlike.2.1 7 = .ok (.iaload, 1) := by decide +kernel
theorem dX12_areAlike_8 : decode mX12_areAlike.2.1 8 = .ok (.aload_n 0, 1) := by decide +kernel
theorem dX12_areAlike_9 : decode mX12_areAlike.2.1 9 = .ok (.getfield 28, 3) := by decide +kernel
theorem dX12_areAlike_12 : decode mX12_areAlike.2.1 12 = .ok (.iload_n 1, 1) := by decide +kernel
theorem dX12_areAlike_13 : decode mX12_areAlike.2.1 13 = .ok (.aaload, 1) := by decide +kernel
theorem dX12_areAlike_14 : decode mX12_areAlike.2.1 14 = .ok (.iload_n 3, 1) := by decide +kernel
theorem dX12_areAlike_15 : decode mX12_areAlike.2.1 15 = .ok (.iaload, 1) := by decide +kernel
theorem dX12_areAlike_16 : decode mX12_areAlike.2.1 16 = .ok (.if_icmp .ne 26, 3) := by decide +kernel
theorem dX12_areAlike_19 : decode mX12_areAlike.2.1 19 = .ok (.aload_n 0, 1) := by decide +kernel
theorem dX12_areAlike_20 : decode mX12_areAlike.2.1 20 = .ok (.getfield 31, 3) := by decide +kernel
theorem dX12_areAlike_23 : decode mX12_areAlike.2.1 23 = .ok (.iload_n 1, 1) := by decide +kernel
theorem dX12_areAlike_24 : decode mX12_areAlike.2.1 24 = .ok (.aaload, 1) := by decide +kernel
theorem dX12_areAlike_25 : decode mX12_areAlike.2.1 25 = .ok (.iload_n 2, 1) := by decide +kernel
theorem dX12_areAlike_26 : decode mX12_areAlike.2.1 26 = .ok (.iaload, 1) := by decide +kernel
theorem dX12_areAlike_27 : decode mX12_areAlike.2.1 27 = .ok (.aload_n 0, 1) := by decide +kernel
theorem dX12_areAlike_28 : decode mX12_areAlike.2.1 28 = .ok (.getfield 31, 3) := by decide +kernel
theorem dX12_areAlike_31 : decode mX12_areAlike.2.1 31 = .ok (.iload_n 1, 1) := by decide +kernel
theorem dX12_areAlike_32 : decode mX12_areAlike.2.1 32 = .ok (.aaload, 1) := by decide +kernel
theorem dX12_areAlike_33 : decode mX12_areAlike.2.1 33 = .ok (.iload_n 3, 1) := by decide +kernel
theorem dX12_areAlike_34 : decode mX12_areAlike.2.1 34 = .ok (.iaload, 1) := by decide +kernel
theorem dX12_areAlike_35 : decode mX12_areAlike.2.1 35 = .ok (.if_icmp .ne 7, 3) := by decide +kernel
theorem dX12_areAlike_38 : decode mX12_areAlike.2.1 38 = .ok (.iconst 1, 1) := by decide +kernel
theorem dX12_areAlike_39 : decode mX12_areAlike.2.1 39 = .ok (.goto 4, 3) := by decide +kernel
theorem dX12_areAlike_42 : decode mX12_areAlike.2.1 42 = .ok (.iconst 0, 1) := by decide +kernel
theorem dX12_areAlike_43 : decode mX12_areAlike.2.1 43 = .ok (.istore 4, 2) := by decide +kernel
theorem dX12_areAlike_45 : decode mX12_areAlike.2.1 45 = .ok (.iconst 0, 1) := by decide +kernel
theorem dX12_areAlike_46 : decode mX12_areAlike.2.1 46 = .ok (.istore 5, 2) := by decide +kernel
theorem dX12_areAlike_48 : decode mX12_areAlike.2.1 48 = .ok (.iload 5, 2) := by decide +kernel
theorem dX12_areAlike_50 : decode mX12_areAlike.2.1 50 = .ok (.iconst 3, 1) := by decide +kernel
theorem dX12_areAlike_51 : decode mX12_areAlike.2.1 51 = .ok (.aload_n 0, 1) := by decide +kernel
theorem dX12_areAlike_52 : decode mX12_areAlike.2.1 52 = .ok (.getfield 28, 3) := by decide +kernel
theorem dX12_areAlike_55 : decode mX12_areAlike.2.1 55 = .ok (.iload_n 1, 1) := by decide +kernel
theorem dX12_areAlike_56 : decode mX12_areAlike.2.1 56 = .ok (.aaload, 1) := by decide +kernel
theorem dX12_areAlike_57 : decode mX12_areAlike.2.1 57 = .ok (.iload_n 2, 1) := by decide +kernel
theorem dX12_areAlike_58 : decode mX12_areAlike.2.1 58 = .ok (.iaload, 1) := by decide +kernel
theorem dX12_areAlike_59 : decode mX12_areAlike.2.1 59 = .ok (.imul, 1) := by decide +kernel
theorem dX12_areAlike_60 : decode mX12_areAlike.2.1 60 = .ok (.if_icmp .ge 46, 3) := by decide +kernel
theorem dX12_areAlike_63 : decode mX12_areAlike.2.1 63 = .ok (.iload 4, 2) := by decide +kernel
theorem dX12_areAlike_65 : decode mX12_areAlike.2.1 65 = .ok (.ifCond .eq 41, 3) := by decide +kernel
theorem dX12_areAlike_68 : decode mX12_areAlike.2.1 68 = .ok (.aload_n 0, 1) := by decide +kernel
theorem dX12_areAlike_69 : decode mX12_areAlike.2.1 69 = .ok (.getfield 39, 3) := by decide +kernel
theorem dX12_areAlike_72 : decode mX12_areAlike.2.1 72 = .ok (.iload_n 1, 1) := by decide +kernel
theorem dX12_areAlike_73 : decode mX12_areAlike.2.1 73 = .ok (.aaload, 1) := by decide +kernel
theorem dX12_areAlike_74 : decode mX12_areAlike.2.1 74 = .ok (.iload_n 2, 1) := by decide +kernel
theorem dX12_areAlike_75 : decode mX12_areAlike.2.1 75 = .ok (.aaload, 1) := by decide +kernel
theorem dX12_areAlike_76 : decode mX12_areAlike.2.1 76 = .ok (.iload 5, 2) := by decide +kernel
theorem dX12_areAlike_78 : decode mX12_areAlike.2.1 78 = .ok (.iaload, 1) := by decide +kernel
theorem dX12_areAlike_79 : decode mX12_areAlike.2.1 79 = .ok (.aload_n 0, 1) := by decide +kernel
theorem dX12_areAlike_80 : decode mX12_areAlike.2.1 80 = .ok (.getfield 39, 3) := by decide +kernel
theorem dX12_areAlike_83 : decode mX12_areAlike.2.1 83 = .ok (.iload_n 1, 1) := by decide +kernel
theorem dX12_areAlike_84 : decode mX12_areAlike.2.1 84 = .ok (.aaload, 1) := by decide +kernel
theorem dX12_areAlike_85 : decode mX12_areAlike.2.1 85 = .ok (.iload_n 3, 1) := by decide +kernel
theorem dX12_areAlike_86 : decode mX12_areAlike.2.1 86 = .ok (.aaload, 1) := by decide +kernel
theorem dX12_areAlike_87 : decode mX12_areAlike.2.1 87 = .ok (.iload 5, 2) := by decide +kernel
theorem dX12_areAlike_89 : decode mX12_areAlike.2.1 89 = .ok (.iaload, 1) := by decide +kernel
theorem dX12_areAlike_90 : decode mX12_areAlike.2.1 90 = .ok (.if_icmp .ne 7, 3) := by decide +kernel
theorem dX12_areAlike_93 : decode mX12_areAlike.2.1 93 = .ok (.iconst 1, 1) := by decide +kernel
theorem dX12_areAlike_94 : decode mX12_areAlike.2.1 94 = .ok (.goto 4, 3) := by decide +kernel
theorem dX12_areAlike_97 : decode mX12_areAlike.2.1 97 = .ok (.iconst 0, 1) := by decide +kernel
theorem dX12_areAlike_98 : decode mX12_areAlike.2.1 98 = .ok (.istore 4, 2) := by decide +kernel
theorem dX12_areAlike_100 : decode mX12_areAlike.2.1 100 = .ok (.iinc 5 1, 3) := by decide +kernel
theorem dX12_areAlike_103 : decode mX12_areAlike.2.1 103 = .ok (.goto (-55), 3) := by decide +kernel
theorem dX12_areAlike_106 : decode mX12_areAlike.2.1 106 = .ok (.iload 4, 2) := by decide +kernel
theorem dX12_areAlike_108 : decode mX12_areAlike.2.1 108 = .ok (.ireturn, 1) := by decide +kernel
theorem bX12_areAlike_0 {SC : Nat → Nat} {X : mh_X} {d : Nat} {Q : Option am_V → am_W → Prop} {bc bs : Nat} {w : am_W} {x1 : Int} {x2 : Int} {x3 : Int}
    (h : (0 ≤ x1 ∧ (x1 < 7 ∧ (0 ≤ x2 ∧ (x2 < 30 ∧ (0 ≤ x3 ∧ (x3 < 30 ∧ ((¬ (w.1 73 x1.toNat x2.toNat) = (w.1 73 x1.toNat x3.toNat) → am_A (mh_G X) SC (d + 1) mX12_areAlike Q 42 [(0, .inr (.inr (some (9, 0)))), (1, .inl x1), (2, .inl x2), (3, .inl x3)] [] w bc bs) ∧ ((w.1 73 x1.toNat x2.toNat) = (w.1 73 x1.toNat x3.toNat) → ((¬ (w.1 75 x1.toNat x2.toNat) = (w.1 75 x1.toNat x3.toNat) → am_A (mh_G X) SC (d + 1) mX12_areAlike Q 42 [(0, .inr (.inr (some (9, 0)))), (1, .inl x1), (2, .inl x2), (3, .inl x3)] [] w bc bs) ∧ ((w.1 75 x1.toNat x2.toNat) = (w.1 75 x1.toNat x3.toNat) → am_A (mh_G X) SC (d + 1) mX12_areAlike Q 43 [(0, .inr (.inr (some (9, 0)))), (1, .inl x1), (2, .inl x2), (3, .inl x3)] [.inl 1] w bc bs))))))))))) :
    am_A (mh_G X) SC (d + 1) mX12_areAlike Q 0 [(0, .inr (.inr (some (9, 0)))), (1, .inl x1), (2, .inl x2), (3, .inl x3)] [] w bc bs := by
  refine am_aload_n dX12_areAlike_0 (List.Mem.head _) ?_
  refine am_getf (f := 9) (v := .inr (.inr (some (72, 0)))) dX12_areAlike_1 hc_10 (by decide) wd_1558 (by decide) rfl rfl ?_
  refine am_iload_n dX12_areAlike_4 (List.Mem.tail _ (List.Mem.head _)) ?_
  have o1 := h.1
  replace h := h.2
  have o2 := h.1
  replace h := h.2
  refine am_aaload (kd := 5) (r := some (73, x1.toNat)) dX12_areAlike_5 (by decide) rfl (by decide) (by decide) o1 o2 rfl ?_
  refine am_iload_n dX12_areAlike_6 (List.Mem.tail _ (List.Mem.tail _ (List.Mem.head _))) ?_
  have o3 := h.1
  replace h := h.2
  have o4 := h.1
  replace h := h.2
  refine am_iaload (v := (w.1 73 x1.toNat x2.toNat)) dX12_areAlike_7 (by decide) rfl o3 o4 rfl ?_
  refine am_aload_n dX12_areAlike_8 (List.Mem.head _) ?_
  refine am_getf (f := 9) (v := .inr (.inr (some (72, 0)))) dX12_areAlike_9 hc_10 (by decide) wd_1558 (by decide) rfl rfl ?_
  refine am_iload_n dX12_areAlike_12 (List.Mem.tail _ (List.Mem.head _)) ?_
  refine am_aaload (kd := 5) (r := some (73, x1.toNat)) dX12_areAlike_13 (by decide) rfl (by decide) (by decide) o1 o2 rfl ?_
  refine am_iload_n dX12_areAlike_14 (List.Mem.tail _ (List.Mem.tail _ (List.Mem.tail _ (List.Mem.head _)))) ?_
  have o5 := h.1
  replace h := h.2
  have o6 := h.1
  replace h := h.2
  refine am_iaload (v := (w.1 73 x1.toNat x3.toNat)) dX12_areAlike_15 (by decide) rfl o5 o6 rfl ?_
  refine am_icmpne (tgt := 42) dX12_areAlike_16 (by decide) (fun c7 => ?_) (fun c7 => ?_)
  · replace h := h.1 c7
    exact h
  · replace h := h.2 c7
    refine am_aload_n dX12_areAlike_19 (List.Mem.head _) ?_
    refine am_getf (f := 10) (v := .inr (.inr (some (74, 0)))) dX12_areAlike_20 hc_10 (by decide) wd_1559 (by decide) rfl rfl ?_
    refine am_iload_n dX12_areAlike_23 (List.Mem.tail _ (List.Mem.head _)) ?_
    refine am_aaload (kd := 5) (r := some (75, x1.toNat)) dX12_areAlike_24 (by decide) rfl (by decide) (by decide) o1 o2 rfl ?_
    refine am_iload_n dX12_areAlike_25 (List.Mem.tail _ (List.Mem.tail _ (List.Mem.head _))) ?_
    refine am_iaload (v := (w.1 75 x1.toNat x2.toNat)) dX12_areAlike_26 (by decide) rfl o3 o4 rfl ?_
    refine am_aload_n dX12_areAlike_27 (List.Mem.head _) ?_
    refine am_getf (f := 10) (v := .inr (.inr (some (74, 0)))) dX12_areAlike_28 hc_10 (by decide) wd_1559 (by decide) rfl rfl ?_
    refine am_iload_n dX12_areAlike_31 (List.Mem.tail _ (List.Mem.head _)) ?_
    refine am_aaload (kd := 5) (r := some (75, x1.toNat)) dX12_areAlike_32 (by decide) rfl (by decide) (by decide) o1 o2 rfl ?_
    refine am_iload_n dX12_areAlike_33 (List.Mem.tail _ (List.Mem.tail _ (List.Mem.tail _ (List.Mem.head _)))) ?_
    refine am_iaload (v := (w.1 75 x1.toNat x3.toNat)) dX12_areAlike_34 (by decide) rfl o5 o6 rfl ?_
    refine am_icmpne (tgt := 42) dX12_areAlike_35 (by decide) (fun c8 => ?_) (fun c8 => ?_)
    · replace h := h.1 c8
      exact h
    · replace h := h.2 c8
      refine am_iconst dX12_areAlike_38 (by unfold am_rg; omega) ?_
      refine am_goto (tgt := 43) dX12_areAlike_39 (by decide) ?_
      exact h
theorem bX12_areAlike_42 {SC : Nat → Nat} {X : mh_X} {d : Nat} {Q : Option am_V → am_W → Prop} {bc bs : Nat} {w : am_W} {x1 : Int} {x2 : Int} {x3 : Int}
    (h : am_A (mh_G X) SC (d + 1) mX12_areAlike Q 43 [(0, .inr (.inr (some (9, 0)))), (1, .inl x1), (2, .inl x2), (3, .inl x3)] [.inl 0] w bc bs) :
    am_A (mh_G X) SC (d + 1) mX12_areAlike Q 42 [(0, .inr (.inr (some (9, 0)))), (1, .inl x1), (2, .inl x2), (3, .inl x3)] [] w bc bs := by
  refine am_iconst dX12_areAlike_42 (by unfold am_rg; omega) ?_
  exact h
theorem bX12_areAlike_43 {SC : Nat → Nat} {X : mh_X} {d : Nat} {Q : Option am_V → am_W → Prop} {bc bs : Nat} {w : am_W} {x1 : Int} {x2 : Int} {x3 : Int} {xs0 : Int}
    (h : am_A (mh_G X) SC (d + 1) mX12_areAlike Q 48 [(0, .inr (.inr (some (9, 0)))), (1, .inl x1), (2, .inl x2), (3, .inl x3), (4, .inl xs0), (5, .inl 0)] [] w bc bs) :
    am_A (mh_G X) SC (d + 1) mX12_areAlike Q 43 [(0, .inr (.inr (some (9, 0)))), (1, .inl x1), (2, .inl x2), (3, .inl x3)] [.inl xs0] w bc bs := by
  refine am_istore (ls' := [(4, .inl xs0), (0, .inr (.inr (some (9, 0)))), (1, .inl x1), (2, .inl x2), (3, .inl x3)]) dX12_areAlike_43 (by decide) rfl ?_
  refine am_iconst dX12_areAlike_45 (by unfold am_rg; omega) ?_
  refine am_istore (ls' := [(5, .inl 0), (4, .inl xs0), (0, .inr (.inr (some (9, 0)))), (1, .inl x1), (2, .inl x2), (3, .inl x3)]) dX12_areAlike_46 (by decide) rfl ?_
  exact am_sub [2, 3, 4, 5, 1, 0] rfl h
theorem bX12_areAlike_48 {SC : Nat → Nat} {X : mh_X} {d : Nat} {Q : Option am_V → am_W → Prop} {bc bs : Nat} {w : am_W} {x1 : Int} {x2 : Int} {x3 : Int} {x4 : Int} {x5 : Int}
    (h : (0 ≤ x1 ∧ (x1 < 7 ∧ (0 ≤ x2 ∧ (x2 < 30 ∧ (((am_w (3 * (w.1 73 x1.toNat x2.toNat))) ≤ x5 → ((x4 = 0 ∨ x4 = 1) ∧ Q (some (.inl x4)) w)) ∧ (¬ (am_w (3 * (w.1 73 x1.toNat x2.toNat))) ≤ x5 → ((x4 = 0 → ((x4 = 0 ∨ x4 = 1) ∧ Q (some (.inl x4)) w)) ∧ (¬ x4 = 0 → (0 ≤ x5 ∧ (x5 < 12 ∧ (0 ≤ x3 ∧ (x3 < 30 ∧ ((¬ (w.1 81 (30 * x1.toNat + x2.toNat) x5.toNat) = (w.1 81 (30 * x1.toNat + x3.toNat) x5.toNat) → am_A (mh_G X) SC (d + 1) mX12_areAlike Q 98 [(0, .inr (.inr (some (9, 0)))), (1, .inl x1), (2, .inl x2), (3, .inl x3), (5, .inl x5)] [.inl 0] w bc bs) ∧ ((w.1 81 (30 * x1.toNat + x2.toNat) x5.toNat) = (w.1 81 (30 * x1.toNat + x3.toNat) x5.toNat) → am_A (mh_G X) SC (d + 1) mX12_areAlike Q 98 [(0, .inr (.inr (some (9, 0)))), (1, .inl x1), (2, .inl x2), (3, .inl x3), (5, .inl x5)] [.inl 1] w bc bs))))))))))))))) :
    am_A (mh_G X) SC (d + 1) mX12_areAlike Q 48 [(0, .inr (.inr (some (9, 0)))), (1, .inl x1), (2, .inl x2), (3, .inl x3), (4, .inl x4), (5, .inl x5)] [] w bc bs := by
  refine am_iload dX12_areAlike_48 (List.Mem.tail _ (List.Mem.tail _ (List.Mem.tail _ (List.Mem.tail _ (List.Mem.tail _ (List.Mem.head _)))))) ?_
  refine am_iconst dX12_areAlike_50 (by unfold am_rg; omega) ?_
  refine am_aload_n dX12_areAlike_51 (List.Mem.head _) ?_
  refine am_getf (f := 9) (v := .inr (.inr (some (72, 0)))) dX12_areAlike_52 hc_10 (by decide) wd_1558 (by decide) rfl rfl ?_
  refine am_iload_n dX12_areAlike_55 (List.Mem.tail _ (List.Mem.head _)) ?_
  have o1 := h.1
  replace h := h.2
  have o2 := h.1
  replace h := h.2
  refine am_aaload (kd := 5) (r := some (73, x1.toNat)) dX12_areAlike_56 (by decide) rfl (by decide) (by decide) o1 o2 rfl ?_
  refine am_iload_n dX12_areAlike_57 (List.Mem.tail _ (List.Mem.tail _ (List.Mem.head _))) ?_
  have o3 := h.1
  replace h := h.2
  have o4 := h.1
  replace h := h.2
  refine am_iaload (v := (w.1 73 x1.toNat x2.toNat)) dX12_areAlike_58 (by decide) rfl o3 o4 rfl ?_
  refine am_imul dX12_areAlike_59 ?_
  refine am_icmpge (tgt := 106) dX12_areAlike_60 (by decide) (fun c5 => ?_) (fun c5 => ?_)
  · replace h := h.1 c5
    refine am_iload dX12_areAlike_106 (List.Mem.tail _ (List.Mem.tail _ (List.Mem.tail _ (List.Mem.tail _ (List.Mem.head _))))) ?_
    have o6 := h.1
    replace h := h.2
    exact am_ret (r := some (.inl x4)) dX12_areAlike_108 (Or.inr (Or.inl ⟨rfl, o6⟩)) rfl h
  · replace h := h.2 c5
    refine am_iload dX12_areAlike_63 (List.Mem.tail _ (List.Mem.tail _ (List.Mem.tail _ (List.Mem.tail _ (List.Mem.head _))))) ?_
    refine am_ifeq (tgt := 106) dX12_areAlike_65 (by decide) (fun c7 => ?_) (fun c7 => ?_)
    · replace h := h.1 c7
      refine am_iload dX12_areAlike_106 (List.Mem.tail _ (List.Mem.tail _ (List.Mem.tail _ (List.Mem.tail _ (List.Mem.head _))))) ?_
      have o8 := h.1
      replace h := h.2
      exact am_ret (r := some (.inl x4)) dX12_areAlike_108 (Or.inr (Or.inl ⟨rfl, o8⟩)) rfl h
    · replace h := h.2 c7
      refine am_aload_n dX12_areAlike_68 (List.Mem.head _) ?_
      refine am_getf (f := 12) (v := .inr (.inr (some (79, 0)))) dX12_areAlike_69 hc_10 (by decide) wd_1561 (by decide) rfl rfl ?_
      refine am_iload_n dX12_areAlike_72 (List.Mem.tail _ (List.Mem.head _)) ?_
      refine am_aaload (kd := 6) (r := some (80, x1.toNat)) dX12_areAlike_73 (by decide) rfl (by decide) (by decide) o1 o2 rfl ?_
      refine am_iload_n dX12_areAlike_74 (List.Mem.tail _ (List.Mem.tail _ (List.Mem.head _))) ?_
      refine am_aaload (kd := 5) (r := some (81, (30 * x1.toNat + x2.toNat))) dX12_areAlike_75 (by decide) rfl (by decide) (by decide) o3 o4 rfl ?_
      refine am_iload dX12_areAlike_76 (List.Mem.tail _ (List.Mem.tail _ (List.Mem.tail _ (List.Mem.tail _ (List.Mem.tail _ (List.Mem.head _)))))) ?_
      have o9 := h.1
      replace h := h.2
      have o10 := h.1
      replace h := h.2
      refine am_iaload (v := (w.1 81 (30 * x1.toNat + x2.toNat) x5.toNat)) dX12_areAlike_78 (by decide) rfl o9 o10 rfl ?_
      refine am_aload_n dX12_areAlike_79 (List.Mem.head _) ?_
      refine am_getf (f := 12) (v := .inr (.inr (some (79, 0)))) dX12_areAlike_80 hc_10 (by decide) wd_1561 (by decide) rfl rfl ?_
      refine am_iload_n dX12_areAlike_83 (List.Mem.tail _ (List.Mem.head _)) ?_
      refine am_aaload (kd := 6) (r := some (80, x1.toNat)) dX12_areAlike_84 (by decide) rfl (by decide) (by decide) o1 o2 rfl ?_
      refine am_iload_n dX12_areAlike_85 (List.Mem.tail _ (List.Mem.tail _ (List.Mem.tail _ (List.Mem.head _)))) ?_
      have o11 := h.1
      replace h := h.2
      have o12 := h.1
      replace h := h.2
      refine am_aaload (kd := 5) (r := some (81, (30 * x1.toNat + x3.toNat))) dX12_areAlike_86 (by decide) rfl (by decide) (by decide) o11 o12 rfl ?_
      refine am_iload dX12_areAlike_87 (List.Mem.tail _ (List.Mem.tail _ (List.Mem.tail _ (List.Mem.tail _ (List.Mem.tail _ (List.Mem.head _)))))) ?_
      refine am_iaload (v := (w.1 81 (30 * x1.toNat + x3.toNat) x5.toNat)) dX12_areAlike_89 (by decide) rfl o9 o10 rfl ?_
      refine am_icmpne (tgt := 97) dX12_areAlike_90 (by decide) (fun c13 => ?_) (fun c13 => ?_)
      · replace h := h.1 c13
        refine am_iconst dX12_areAlike_97 (by unfold am_rg; omega) ?_
        exact am_sub [0, 1, 2, 3, 5] rfl h
      · replace h := h.2 c13
        refine am_iconst dX12_areAlike_93 (by unfold am_rg; omega) ?_
        refine am_goto (tgt := 98) dX12_areAlike_94 (by decide) ?_
        exact am_sub [0, 1, 2, 3, 5] rfl h
theorem bX12_areAlike_98 {SC : Nat → Nat} {X : mh_X} {d : Nat} {Q : Option am_V → am_W → Prop} {bc bs : Nat} {w : am_W} {x1 : Int} {x2 : Int} {x3 : Int} {x5 : Int} {xs0 : Int}
    (h : am_A (mh_G X) SC (d + 1) mX12_areAlike Q 48 [(0, .inr (.inr (some (9, 0)))), (1, .inl x1), (2, .inl x2), (3, .inl x3), (4, .inl xs0), (5, .inl (am_w (x5 + 1)))] [] w bc bs) :
    am_A (mh_G X) SC (d + 1) mX12_areAlike Q 98 [(0, .inr (.inr (some (9, 0)))), (1, .inl x1), (2, .inl x2), (3, .inl x3), (5, .inl x5)] [.inl xs0] w bc bs := by
  refine am_istore (ls' := [(4, .inl xs0), (0, .inr (.inr (some (9, 0)))), (1, .inl x1), (2, .inl x2), (3, .inl x3), (5, .inl x5)]) dX12_areAlike_98 (by decide) rfl ?_
  refine am_iinc (ls' := [(5, .inl (am_w (x5 + 1))), (4, .inl xs0), (0, .inr (.inr (some (9, 0)))), (1, .inl x1), (2, .inl x2), (3, .inl x3)]) dX12_areAlike_100 (List.Mem.tail _ (List.Mem.tail _ (List.Mem.tail _ (List.Mem.tail _ (List.Mem.tail _ (List.Mem.head _)))))) (by decide) rfl ?_
  refine am_goto (tgt := 48) dX12_areAlike_103 (by decide) ?_
  exact am_sub [2, 3, 4, 5, 1, 0] rfl h
-- MourningHouseModel.areOne(III)Z
theorem dX12_areOne_0 : decode mX12_areOne.2.1 0 = .ok (.aload_n 0, 1) := by decide +kernel
theorem dX12_areOne_1 : decode mX12_areOne.2.1 1 = .ok (.getfield 25, 3) := by decide +kernel
theorem dX12_areOne_4 : decode mX12_areOne.2.1 4 = .ok (.iload_n 1, 1) := by decide +kernel
theorem dX12_areOne_5 : decode mX12_areOne.2.1 5 = .ok (.aaload, 1) := by decide +kernel
theorem dX12_areOne_6 : decode mX12_areOne.2.1 6 = .ok (.iload_n 2, 1) := by decide +kernel
theorem dX12_areOne_7 : decode mX12_areOne.2.1 7 = .ok (.iaload, 1) := by decide +kernel
theorem dX12_areOne_8 : decode mX12_areOne.2.1 8 = .ok (.aload_n 0, 1) := by decide +kernel
theorem dX12_areOne_9 : decode mX12_areOne.2.1 9 = .ok (.getfield 25, 3) := by decide +kernel
theorem dX12_areOne_12 : decode mX12_areOne.2.1 12 = .ok (.iload_n 1, 1) := by decide +kernel
theorem dX12_areOne_13 : decode mX12_areOne.2.1 13 = .ok (.aaload, 1) := by decide +kernel
theorem dX12_areOne_14 : decode mX12_areOne.2.1 14 = .ok (.iload_n 3, 1) := by decide +kernel
theorem dX12_areOne_15 : decode mX12_areOne.2.1 15 = .ok (.iaload, 1) := by decide +kernel
theorem dX12_areOne_16 : decode mX12_areOne.2.1 16 = .ok (.if_icmp .ne 7, 3) := by decide +kernel
theorem dX12_areOne_19 : decode mX12_areOne.2.1 19 = .ok (.iconst 1, 1) := by decide +kernel
theorem dX12_areOne_20 : decode mX12_areOne.2.1 20 = .ok (.goto 4, 3) := by decide +kernel
theorem dX12_areOne_23 : decode mX12_areOne.2.1 23 = .ok (.iconst 0, 1) := by decide +kernel
theorem dX12_areOne_24 : decode mX12_areOne.2.1 24 = .ok (.istore 4, 2) := by decide +kernel
theorem dX12_areOne_26 : decode mX12_areOne.2.1 26 = .ok (.iconst 0, 1) := by decide +kernel
theorem dX12_areOne_27 : decode mX12_areOne.2.1 27 = .ok (.istore 5, 2) := by decide +kernel
theorem dX12_areOne_29 : decode mX12_areOne.2.1 29 = .ok (.iload 5, 2) := by decide +kernel
theorem dX12_areOne_31 : decode mX12_areOne.2.1 31 = .ok (.aload_n 0, 1) := by decide +kernel
theorem dX12_areOne_32 : decode mX12_areOne.2.1 32 = .ok (.getfield 25, 3) := by decide +kernel
theorem dX12_areOne_35 : decode mX12_areOne.2.1 35 = .ok (.iload_n 1, 1) := by decide +kernel
theorem dX12_areOne_36 : decode mX12_areOne.2.1 36 = .ok (.aaload, 1) := by decide +kernel
theorem dX12_areOne_37 : decode mX12_areOne.2.1 37 = .ok (.iload_n 2, 1) := by decide +kernel
theorem dX12_areOne_38 : decode mX12_areOne.2.1 38 = .ok (.iaload, 1) := by decide +kernel
theorem dX12_areOne_39 : decode mX12_areOne.2.1 39 = .ok (.if_icmp .ge 46, 3) := by decide +kernel
theorem dX12_areOne_42 : decode mX12_areOne.2.1 42 = .ok (.iload 4, 2) := by decide +kernel
theorem dX12_areOne_44 : decode mX12_areOne.2.1 44 = .ok (.ifCond .eq 41, 3) := by decide +kernel
theorem dX12_areOne_47 : decode mX12_areOne.2.1 47 = .ok (.aload_n 0, 1) := by decide +kernel
theorem dX12_areOne_48 : decode mX12_areOne.2.1 48 = .ok (.getfield 36, 3) := by decide +kernel
theorem dX12_areOne_51 : decode mX12_areOne.2.1 51 = .ok (.iload_n 1, 1) := by decide +kernel
theorem dX12_areOne_52 : decode mX12_areOne.2.1 52 = .ok (.aaload, 1) := by decide +kernel
theorem dX12_areOne_53 : decode mX12_areOne.2.1 53 = .ok (.iload_n 2, 1) := by decide +kernel
theorem dX12_areOne_54 : decode mX12_areOne.2.1 54 = .ok (.aaload, 1) := by decide +kernel
theorem dX12_areOne_55 : decode mX12_areOne.2.1 55 = .ok (.iload 5, 2) := by decide +kernel
theorem dX12_areOne_57 : decode mX12_areOne.2.1 57 = .ok (.iaload, 1) := by decide +kernel
theorem dX12_areOne_58 : decode mX12_areOne.2.1 58 = .ok (.aload_n 0, 1) := by decide +kernel
theorem dX12_areOne_59 : decode mX12_areOne.2.1 59 = .ok (.getfield 36, 3) := by decide +kernel
theorem dX12_areOne_62 : decode mX12_areOne.2.1 62 = .ok (.iload_n 1, 1) := by decide +kernel
theorem dX12_areOne_63 : decode mX12_areOne.2.1 63 = .ok (.aaload, 1) := by decide +kernel
theorem dX12_areOne_64 : decode mX12_areOne.2.1 64 = .ok (.iload_n 3, 1) := by decide +kernel
theorem dX12_areOne_65 : decode mX12_areOne.2.1 65 = .ok (.aaload, 1) := by decide +kernel
theorem dX12_areOne_66 : decode mX12_areOne.2.1 66 = .ok (.iload 5, 2) := by decide +kernel
theorem dX12_areOne_68 : decode mX12_areOne.2.1 68 = .ok (.iaload, 1) := by decide +kernel
theorem dX12_areOne_69 : decode mX12_areOne.2.1 69 = .ok (.if_icmp .ne 7, 3) := by decide +kernel
theorem dX12_areOne_72 : decode mX12_areOne.2.1 72 = .ok (.iconst 1, 1) := by decide +kernel
theorem dX12_areOne_73 : decode mX12_areOne.2.1 73 = .ok (.goto 4, 3) := by decide +kernel
theorem dX12_areOne_76 : decode mX12_areOne.2.1 76 = .ok (.iconst 0, 1) := by decide +kernel
theorem dX12_areOne_77 : decode mX12_areOne.2.1 77 = .ok (.istore 4, 2) := by decide +kernel
theorem dX12_areOne_79 : decode mX12_areOne.2.1 79 = .ok (.iinc 5 1, 3) := by decide +kernel
theorem dX12_areOne_82 : decode mX12_areOne.2.1 82 = .ok (.goto (-53), 3) := by decide +kernel
theorem dX12_areOne_85 : decode mX12_areOne.2.1 85 = .ok (.iload 4, 2) := by decide +kernel
theorem dX12_areOne_87 : decode mX12_areOne.2.1 87 = .ok (.ireturn, 1) := by decide +kernel
theorem bX12_areOne_0 {SC : Nat → Nat} {X : mh_X} {d : Nat} {Q : Option am_V → am_W → Prop} {bc bs : Nat} {w : am_W} {x1 : Int} {x2 : Int} {x3 : Int}
    (h : (0 ≤ x1 ∧ (x1 < 7 ∧ (0 ≤ x2 ∧ (x2 < 30 ∧ (0 ≤ x3 ∧ (x3 < 30 ∧ ((¬ (w.1 71 x1.toNat x2.toNat) = (w.1 71 x1.toNat x3.toNat) → am_A (mh_G X) SC (d + 1) mX12_areOne Q 24 [(0, .inr (.inr (some (9, 0)))), (1, .inl x1), (2, .inl x2), (3, .inl x3)] [.inl 0] w bc bs) ∧ ((w.1 71 x1.toNat x2.toNat) = (w.1 71 x1.toNat x3.toNat) → am_A (mh_G X) SC (d + 1) mX12_areOne Q 24 [(0, .inr (.inr (some (9, 0)))), (1, .inl x1), (2, .inl x2), (3, .inl x3)] [.inl 1] w bc bs))))))))) :
    am_A (mh_G X) SC (d + 1) mX12_areOne Q 0 [(0, .inr (.inr (some (9, 0)))), (1, .inl x1), (2, .inl x2), (3, .inl x3)] [] w bc bs := by
  refine am_aload_n dX12_areOne_0 (List.Mem.head _) ?_
  refine am_getf (f := 8) (v := .inr (.inr (some (70, 0)))) dX12_areOne_1 hc_10 (by decide) wd_1557 (by decide) rfl rfl ?_
  refine am_iload_n dX12_areOne_4 (List.Mem.tail _ (List.Mem.head _)) ?_
  have o1 := h.1
  replace h := h.2
  have o2 := h.1
  replace h := h.2
  refine am_aaload (kd := 5) (r := some (71, x1.toNat)) dX12_areOne_5 (by decide) rfl (by decide) (by decide) o1 o2 rfl ?_
  refine am_iload_n dX12_areOne_6 (List.Mem.tail _ (List.Mem.tail _ (List.Mem.head _))) ?_
  have o3 := h.1
  replace h := h.2
  have o4 := h.1
  replace h := h.2
  refine am_iaload (v := (w.1 71 x1.toNat x2.toNat)) dX12_areOne_7 (by decide) rfl o3 o4 rfl ?_
  refine am_aload_n dX12_areOne_8 (List.Mem.head _) ?_
  refine am_getf (f := 8) (v := .inr (.inr (some (70, 0)))) dX12_areOne_9 hc_10 (by decide) wd_1557 (by decide) rfl rfl ?_
  refine am_iload_n dX12_areOne_12 (List.Mem.tail _ (List.Mem.head _)) ?_
  refine am_aaload (kd := 5) (r := some (71, x1.toNat)) dX12_areOne_13 (by decide) rfl (by decide) (by decide) o1 o2 rfl ?_
  refine am_iload_n dX12_areOne_14 (List.Mem.tail _ (List.Mem.tail _ (List.Mem.tail _ (List.Mem.head _)))) ?_
  have o5 := h.1
  replace h := h.2
  have o6 := h.1
  replace h := h.2
  refine am_iaload (v := (w.1 71 x1.toNat x3.toNat)) dX12_areOne_15 (by decide) rfl o5 o6 rfl ?_
  refine am_icmpne (tgt := 23) dX12_areOne_16 (by decide) (fun c7 => ?_) (fun c7 => ?_)
  · replace h := h.1 c7
    refine am_iconst dX12_areOne_23 (by unfold am_rg; omega) ?_
    exact h
  · replace h := h.2 c7
    refine am_iconst dX12_areOne_19 (by unfold am_rg; omega) ?_
    refine am_goto (tgt := 24) dX12_areOne_20 (by decide) ?_
    exact h
theorem bX12_areOne_24 {SC : Nat → Nat} {X : mh_X} {d : Nat} {Q : Option am_V → am_W → Prop} {bc bs : Nat} {w : am_W} {x1 : Int} {x2 : Int} {x3 : Int} {xs0 : Int}
    (h : am_A (mh_G X) SC (d + 1) mX12_areOne Q 29 [(0, .inr (.inr (some (9, 0)))), (1, .inl x1), (2, .inl x2), (3, .inl x3), (4, .inl xs0), (5, .inl 0)] [] w bc bs) :
    am_A (mh_G X) SC (d + 1) mX12_areOne Q 24 [(0, .inr (.inr (some (9, 0)))), (1, .inl x1), (2, .inl x2), (3, .inl x3)] [.inl xs0] w bc bs := by
  refine am_istore (ls' := [(4, .inl xs0), (0, .inr (.inr (some (9, 0)))), (1, .inl x1), (2, .inl x2), (3, .inl x3)]) dX12_areOne_24 (by decide) rfl ?_
  refine am_iconst dX12_areOne_26 (by unfold am_rg; omega) ?_
  refine am_istore (ls' := [(5, .inl 0), (4, .inl xs0), (0, .inr (.inr (some (9, 0)))), (1, .inl x1), (2, .inl x2), (3, .inl x3)]) dX12_areOne_27 (by decide) rfl ?_
  exact am_sub [2, 3, 4, 5, 1, 0] rfl h
theorem bX12_areOne_29 {SC : Nat → Nat} {X : mh_X} {d : Nat} {Q : Option am_V → am_W → Prop} {bc bs : Nat} {w : am_W} {x1 : Int} {x2 : Int} {x3 : Int} {x4 : Int} {x5 : Int}
    (h : (0 ≤ x1 ∧ (x1 < 7 ∧ (0 ≤ x2 ∧ (x2 < 30 ∧ (((w.1 71 x1.toNat x2.toNat) ≤ x5 → ((x4 = 0 ∨ x4 = 1) ∧ Q (some (.inl x4)) w)) ∧ (¬ (w.1 71 x1.toNat x2.toNat) ≤ x5 → ((x4 = 0 → ((x4 = 0 ∨ x4 = 1) ∧ Q (some (.inl x4)) w)) ∧ (¬ x4 = 0 → (0 ≤ x5 ∧ (x5 < 4 ∧ (0 ≤ x3 ∧ (x3 < 30 ∧ ((¬ (w.1 78 (30 * x1.toNat + x2.toNat) x5.toNat) = (w.1 78 (30 * x1.toNat + x3.toNat) x5.toNat) → am_A (mh_G X) SC (d + 1) mX12_areOne Q 77 [(0, .inr (.inr (some (9, 0)))), (1, .inl x1), (2, .inl x2), (3, .inl x3), (5, .inl x5)] [.inl 0] w bc bs) ∧ ((w.1 78 (30 * x1.toNat + x2.toNat) x5.toNat) = (w.1 78 (30 * x1.toNat + x3.toNat) x5.toNat) → am_A (mh_G X) SC (d + 1) mX12_areOne Q 77 [(0, .inr (.inr (some (9, 0)))), (1, .inl x1), (2, .inl x2), (3, .inl x3), (5, .inl x5)] [.inl 1] w bc bs))))))))))))))) :
    am_A (mh_G X) SC (d + 1) mX12_areOne Q 29 [(0, .inr (.inr (some (9, 0)))), (1, .inl x1), (2, .inl x2), (3, .inl x3), (4, .inl x4), (5, .inl x5)] [] w bc bs := by
  refine am_iload dX12_areOne_29 (List.Mem.tail _ (List.Mem.tail _ (List.Mem.tail _ (List.Mem.tail _ (List.Mem.tail _ (List.Mem.head _)))))) ?_
  refine am_aload_n dX12_areOne_31 (List.Mem.head _) ?_
  refine am_getf (f := 8) (v := .inr (.inr (some (70, 0)))) dX12_areOne_32 hc_10 (by decide) wd_1557 (by decide) rfl rfl ?_
  refine am_iload_n dX12_areOne_35 (List.Mem.tail _ (List.Mem.head _)) ?_
  have o1 := h.1
  replace h := h.2
  have o2 := h.1
  replace h := h.2
  refine am_aaload (kd := 5) (r := some (71, x1.toNat)) dX12_areOne_36 (by decide) rfl (by decide) (by decide) o1 o2 rfl ?_
  refine am_iload_n dX12_areOne_37 (List.Mem.tail _ (List.Mem.tail _ (List.Mem.head _))) ?_
  have o3 := h.1
  replace h := h.2
  have o4 := h.1
  replace h := h.2
  refine am_iaload (v := (w.1 71 x1.toNat x2.toNat)) dX12_areOne_38 (by decide) rfl o3 o4 rfl ?_
  refine am_icmpge (tgt := 85) dX12_areOne_39 (by decide) (fun c5 => ?_) (fun c5 => ?_)
  · replace h := h.1 c5
    refine am_iload dX12_areOne_85 (List.Mem.tail _ (List.Mem.tail _ (List.Mem.tail _ (List.Mem.tail _ (List.Mem.head _))))) ?_
    have o6 := h.1
    replace h := h.2
    exact am_ret (r := some (.inl x4)) dX12_areOne_87 (Or.inr (Or.inl ⟨rfl, o6⟩)) rfl h
  · replace h := h.2 c5
    refine am_iload dX12_areOne_42 (List.Mem.tail _ (List.Mem.tail _ (List.Mem.tail _ (List.Mem.tail _ (List.Mem.head _))))) ?_
    refine am_ifeq (tgt := 85) dX12_areOne_44 (by decide) (fun c7 => ?_) (fun c7 => ?_)
    · replace h := h.1 c7
      refine am_iload dX12_areOne_85 (List.Mem.tail _ (List.Mem.tail _ (List.Mem.tail _ (List.Mem.tail _ (List.Mem.head _))))) ?_
      have o8 := h.1
      replace h := h.2
      exact am_ret (r := some (.inl x4)) dX12_areOne_87 (Or.inr (Or.inl ⟨rfl, o8⟩)) rfl h
    · replace h := h.2 c7
      refine am_aload_n dX12_areOne_47 (List.Mem.head _) ?_
      refine am_getf (f := 11) (v := .inr (.inr (some (76, 0)))) dX12_areOne_48 hc_10 (by decide) wd_1560 (by decide) rfl rfl ?_
      refine am_iload_n dX12_areOne_51 (List.Mem.tail _ (List.Mem.head _)) ?_
      refine am_aaload (kd := 6) (r := some (77, x1.toNat)) dX12_areOne_52 (by decide) rfl (by decide) (by decide) o1 o2 rfl ?_
      refine am_iload_n dX12_areOne_53 (List.Mem.tail _ (List.Mem.tail _ (List.Mem.head _))) ?_
      refine am_aaload (kd := 5) (r := some (78, (30 * x1.toNat + x2.toNat))) dX12_areOne_54 (by decide) rfl (by decide) (by decide) o3 o4 rfl ?_
      refine am_iload dX12_areOne_55 (List.Mem.tail _ (List.Mem.tail _ (List.Mem.tail _ (List.Mem.tail _ (List.Mem.tail _ (List.Mem.head _)))))) ?_
      have o9 := h.1
      replace h := h.2
      have o10 := h.1
      replace h := h.2
      refine am_iaload (v := (w.1 78 (30 * x1.toNat + x2.toNat) x5.toNat)) dX12_areOne_57 (by decide) rfl o9 o10 rfl ?_
      refine am_aload_n dX12_areOne_58 (List.Mem.head _) ?_
      refine am_getf (f := 11) (v := .inr (.inr (some (76, 0)))) dX12_areOne_59 hc_10 (by decide) wd_1560 (by decide) rfl rfl ?_
      refine am_iload_n dX12_areOne_62 (List.Mem.tail _ (List.Mem.head _)) ?_
      refine am_aaload (kd := 6) (r := some (77, x1.toNat)) dX12_areOne_63 (by decide) rfl (by decide) (by decide) o1 o2 rfl ?_
      refine am_iload_n dX12_areOne_64 (List.Mem.tail _ (List.Mem.tail _ (List.Mem.tail _ (List.Mem.head _)))) ?_
      have o11 := h.1
      replace h := h.2
      have o12 := h.1
      replace h := h.2
      refine am_aaload (kd := 5) (r := some (78, (30 * x1.toNat + x3.toNat))) dX12_areOne_65 (by decide) rfl (by decide) (by decide) o11 o12 rfl ?_
      refine am_iload dX12_areOne_66 (List.Mem.tail _ (List.Mem.tail _ (List.Mem.tail _ (List.Mem.tail _ (List.Mem.tail _ (List.Mem.head _)))))) ?_
      refine am_iaload (v := (w.1 78 (30 * x1.toNat + x3.toNat) x5.toNat)) dX12_areOne_68 (by decide) rfl o9 o10 rfl ?_
      refine am_icmpne (tgt := 76) dX12_areOne_69 (by decide) (fun c13 => ?_) (fun c13 => ?_)
      · replace h := h.1 c13
        refine am_iconst dX12_areOne_76 (by unfold am_rg; omega) ?_
        exact am_sub [0, 1, 2, 3, 5] rfl h
      · replace h := h.2 c13
        refine am_iconst dX12_areOne_72 (by unfold am_rg; omega) ?_
        refine am_goto (tgt := 77) dX12_areOne_73 (by decide) ?_
        exact am_sub [0, 1, 2, 3, 5] rfl h
theorem bX12_areOne_77 {SC : Nat → Nat} {X : mh_X} {d : Nat} {Q : Option am_V → am_W → Prop} {bc bs : Nat} {w : am_W} {x1 : Int} {x2 : Int} {x3 : Int} {x5 : Int} {xs0 : Int}
    (h : am_A (mh_G X) SC (d + 1) mX12_areOne Q 29 [(0, .inr (.inr (some (9, 0)))), (1, .inl x1), (2, .inl x2), (3, .inl x3), (4, .inl xs0), (5, .inl (am_w (x5 + 1)))] [] w bc bs) :
    am_A (mh_G X) SC (d + 1) mX12_areOne Q 77 [(0, .inr (.inr (some (9, 0)))), (1, .inl x1), (2, .inl x2), (3, .inl x3), (5, .inl x5)] [.inl xs0] w bc bs := by
  refine am_istore (ls' := [(4, .inl xs0), (0, .inr (.inr (some (9, 0)))), (1, .inl x1), (2, .inl x2), (3, .inl x3), (5, .inl x5)]) dX12_areOne_77 (by decide) rfl ?_
  refine am_iinc (ls' := [(5, .inl (am_w (x5 + 1))), (4, .inl xs0), (0, .inr (.inr (some (9, 0)))), (1, .inl x1), (2, .inl x2), (3, .inl x3)]) dX12_areOne_79 (List.Mem.tail _ (List.Mem.tail _ (List.Mem.tail _ (List.Mem.tail _ (List.Mem.tail _ (List.Mem.head _)))))) (by decide) rfl ?_
  refine am_goto (tgt := 29) dX12_areOne_82 (by decide) ?_
  exact am_sub [2, 3, 4, 5, 1, 0] rfl h
-- MourningHouseModel.quarrel(II)I
theorem dX12_quarrel_0 : decode mX12_quarrel.2.1 0 = .ok (.iload_n 1, 1) := by decide +kernel
theorem dX12_quarrel_1 : decode mX12_quarrel.2.1 1 = .ok (.iconst 0, 1) := by decide +kernel
theorem dX12_quarrel_2 : decode mX12_quarrel.2.1 2 = .ok (.aload_n 0, 1) := by decide +kernel
theorem dX12_quarrel_3 : decode mX12_quarrel.2.1 3 = .ok (.getfield 435, 3) := by decide +kernel
theorem dX12_quarrel_6 : decode mX12_quarrel.2.1 6 = .ok (.iconst 1, 1) := by decide +kernel
theorem dX12_quarrel_7 : decode mX12_quarrel.2.1 7 = .ok (.isub, 1) := by decide +kernel
theorem dX12_quarrel_8 : decode mX12_quarrel.2.1 8 = .ok (.invokestatic 318, 3) := by decide +kernel
theorem dX12_quarrel_11 : decode mX12_quarrel.2.1 11 = .ok (.ifCond .ne 5, 3) := by decide +kernel
theorem dX12_quarrel_14 : decode mX12_quarrel.2.1 14 = .ok (.iconst (-1), 1) := by decide +kernel
theorem dX12_quarrel_15 : decode mX12_quarrel.2.1 15 = .ok (.ireturn, 1) := by decide +kernel
theorem dX12_quarrel_16 : decode mX12_quarrel.2.1 16 = .ok (.iconst 0, 1) := by decide +kernel
theorem dX12_quarrel_17 : decode mX12_quarrel.2.1 17 = .ok (.istore_n 3, 1) := by decide +kernel
theorem dX12_quarrel_18 : decode mX12_quarrel.2.1 18 = .ok (.iconst 0, 1) := by decide +kernel
theorem dX12_quarrel_19 : decode mX12_quarrel.2.1 19 = .ok (.istore 4, 2) := by decide +kernel
theorem dX12_quarrel_21 : decode mX12_quarrel.2.1 21 = .ok (.iload 4, 2) := by decide +kernel
theorem dX12_quarrel_23 : decode mX12_quarrel.2.1 23 = .ok (.aload_n 0, 1) := by decide +kernel
theorem dX12_quarrel_24 : decode mX12_quarrel.2.1 24 = .ok (.getfield 17, 3) := by decide +kernel
theorem dX12_quarrel_27 : decode mX12_quarrel.2.1 27 = .ok (.iload_n 1, 1) := by decide +kernel
theorem dX12_quarrel_28 : decode mX12_quarrel.2.1 28 = .ok (.iaload, 1) := by decide +kernel
theorem dX12_quarrel_29 : decode mX12_quarrel.2.1 29 = .ok (.if_icmp .ge 76, 3) := by decide +kernel
theorem dX12_quarrel_32 : decode mX12_quarrel.2.1 32 = .ok (.iload 4, 2) := by decide +kernel
theorem dX12_quarrel_34 : decode mX12_quarrel.2.1 34 = .ok (.iconst 1, 1) := by decide +kernel
theorem dX12_quarrel_35 : decode mX12_quarrel.2.1 35 = .ok (.iadd, 1) := by decide +kernel
theorem dX12_quarrel_36 : decode mX12_quarrel.2.1 36 = .ok (.istore 5, 2) := by decide +kernel
theorem dX12_quarrel_38 : decode mX12_quarrel.2.1 38 = .ok (.iload 5, 2) := by decide +kernel
theorem dX12_quarrel_40 : decode mX12_quarrel.2.1 40 = .ok (.aload_n 0, 1) := by decide +kernel
theorem dX12_quarrel_41 : decode mX12_quarrel.2.1 41 = .ok (.getfield 17, 3) := by decide +kernel
theorem dX12_quarrel_44 : decode mX12_quarrel.2.1 44 = .ok (.iload_n 1, 1) := by decide +kernel
theorem dX12_quarrel_45 : decode mX12_quarrel.2.1 45 = .ok (.iaload, 1) := by decide +kernel
theorem dX12_quarrel_46 : decode mX12_quarrel.2.1 46 = .ok (.if_icmp .ge 53, 3) := by decide +kernel
theorem dX12_quarrel_49 : decode mX12_quarrel.2.1 49 = .ok (.aload_n 0, 1) := by decide +kernel
theorem dX12_quarrel_50 : decode mX12_quarrel.2.1 50 = .ok (.iload_n 1, 1) := by decide +kernel
theorem dX12_quarrel_51 : decode mX12_quarrel.2.1 51 = .ok (.iload 4, 2) := by decide +kernel
theorem dX12_quarrel_53 : decode mX12_quarrel.2.1 53 = .ok (.iload 5, 2) := by decide +kernel
theorem dX12_quarrel_55 : decode mX12_quarrel.2.1 55 = .ok (.invokevirtual 672, 3) := by decide +kernel
theorem dX12_quarrel_58 : decode mX12_quarrel.2.1 58 = .ok (.ifCond .eq 35, 3) := by decide +kernel
theorem dX12_quarrel_61 : decode mX12_quarrel.2.1 61 = .ok (.aload_n 0, 1) := by decide +kernel
theorem dX12_quarrel_62 : decode mX12_quarrel.2.1 62 = .ok (.iload_n 1, 1) := by decide +kernel
theorem dX12_quarrel_63 : decode mX12_quarrel.2.1 63 = .ok (.iload 4, 2) := by decide +kernel
theorem dX12_quarrel_65 : decode mX12_quarrel.2.1 65 = .ok (.iload 5, 2) := by decide +kernel
theorem dX12_quarrel_67 : decode mX12_quarrel.2.1 67 = .ok (.invokevirtual 675, 3) := by decide +kernel
theorem dX12_quarrel_70 : decode mX12_quarrel.2.1 70 = .ok (.ifCond .eq 6, 3) := by decide +kernel
theorem dX12_quarrel_73 : decode mX12_quarrel.2.1 73 = .ok (.goto 20, 3) := by decide +kernel
theorem dX12_quarrel_76 : decode mX12_quarrel.2.1 76 = .ok (.iload_n 3, 1) := by decide +kernel
theorem dX12_quarrel_77 : decode mX12_quarrel.2.1 77 = .ok (.iload_n 2, 1) := by decide +kernel
theorem dX12_quarrel_78 : decode mX12_quarrel.2.1 78 = .ok (.if_icmp .ne 12, 3) := by decide +kernel
theorem dX12_quarrel_81 : decode mX12_quarrel.2.1 81 = .ok (.bipush 100, 2) := by decide +kernel
theorem dX12_quarrel_83 : decode mX12_quarrel.2.1 83 = .ok (.iload 4, 2) := by decide +kernel
theorem dX12_quarrel_85 : decode mX12_quarrel.2.1 85 = .ok (.imul, 1) := by decide +kernel
theorem dX12_quarrel_86 : decode mX12_quarrel.2.1 86 = .ok (.iload 5, 2) := by decide +kernel
theorem dX12_quarrel_88 : decode mX12_quarrel.2.1 88 = .ok (.iadd, 1) := by decide +kernel
theorem dX12_quarrel_89 : decode mX12_quarrel.2.1 89 = .ok (.ireturn, 1) := by decide +kernel
theorem dX12_quarrel_90 : decode mX12_quarrel.2.1 90 = .ok (.iinc 3 1, 3) := by decide +kernel
theorem dX12_quarrel_93 : decode mX12_quarrel.2.1 93 = .ok (.iinc 5 1, 3) := by decide +kernel
theorem dX12_quarrel_96 : decode mX12_quarrel.2.1 96 = .ok (.goto (-58), 3) := by decide +kernel
theorem dX12_quarrel_99 : decode mX12_quarrel.2.1 99 = .ok (.iinc 4 1, 3) := by decide +kernel
theorem dX12_quarrel_102 : decode mX12_quarrel.2.1 102 = .ok (.goto (-81), 3) := by decide +kernel
theorem dX12_quarrel_105 : decode mX12_quarrel.2.1 105 = .ok (.iconst (-1), 1) := by decide +kernel
theorem dX12_quarrel_106 : decode mX12_quarrel.2.1 106 = .ok (.ireturn, 1) := by decide +kernel
theorem bX12_quarrel_0 {SC : Nat → Nat} {X : mh_X} {d : Nat} {Q : Option am_V → am_W → Prop} {bc bs : Nat} {w : am_W} {x1 : Int} {x2 : Int}
    (h : am_M (mh_G X) SC d 0 0 mX12_in [.inl x1, .inl 0, .inl (am_w ((w.1 9 0 21) - 1))] w (fun r w1 => am_A (mh_G X) SC (d + 1) mX12_quarrel Q 11 [(0, .inr (.inr (some (9, 0)))), (1, .inl x1), (2, .inl x2)] (r.toList ++ []) w1 bc bs)) :
    am_A (mh_G X) SC (d + 1) mX12_quarrel Q 0 [(0, .inr (.inr (some (9, 0)))), (1, .inl x1), (2, .inl x2)] [] w bc bs := by
  refine am_iload_n dX12_quarrel_0 (List.Mem.tail _ (List.Mem.head _)) ?_
  refine am_iconst dX12_quarrel_1 (by unfold am_rg; omega) ?_
  refine am_aload_n dX12_quarrel_2 (List.Mem.head _) ?_
  refine am_getf (f := 21) (v := .inl (w.1 9 0 21)) dX12_quarrel_3 hc_10 (by decide) wd_1570 (by decide) rfl rfl ?_
  refine am_iconst dX12_quarrel_6 (by unfold am_rg; omega) ?_
  refine am_isub dX12_quarrel_7 ?_
  exact am_calls (d' := d) (kc := 0) (ks := 0) (as := [.inl x1, .inl 0, .inl (am_w ((w.1 9 0 21) - 1))]) dX12_quarrel_8 wc_X12_in wd_1859 wd_1860 wd_122 ds_X12_in (by decide) (Nat.le_refl _) (Nat.le_of_ble_eq_true rfl) (Nat.zero_le _) (Nat.zero_le _) rfl h
theorem bX12_quarrel_11 {SC : Nat → Nat} {X : mh_X} {d : Nat} {Q : Option am_V → am_W → Prop} {bc bs : Nat} {w : am_W} {x1 : Int} {x2 : Int} {xs0 : Int}
    (h : ((¬ xs0 = 0 → am_A (mh_G X) SC (d + 1) mX12_quarrel Q 21 [(0, .inr (.inr (some (9, 0)))), (1, .inl x1), (2, .inl x2), (3, .inl 0), (4, .inl 0)] [] w bc bs) ∧ (xs0 = 0 → Q (some (.inl (-1))) w))) :
    am_A (mh_G X) SC (d + 1) mX12_quarrel Q 11 [(0, .inr (.inr (some (9, 0)))), (1, .inl x1), (2, .inl x2)] [.inl xs0] w bc bs := by
  refine am_ifne (tgt := 16) dX12_quarrel_11 (by decide) (fun c1 => ?_) (fun c1 => ?_)
  · replace h := h.1 c1
    refine am_iconst dX12_quarrel_16 (by unfold am_rg; omega) ?_
    refine am_istore_n (ls' := [(3, .inl 0), (0, .inr (.inr (some (9, 0)))), (1, .inl x1), (2, .inl x2)]) dX12_quarrel_17 (by decide) rfl ?_
    refine am_iconst dX12_quarrel_18 (by unfold am_rg; omega) ?_
    refine am_istore (ls' := [(4, .inl 0), (3, .inl 0), (0, .inr (.inr (some (9, 0)))), (1, .inl x1), (2, .inl x2)]) dX12_quarrel_19 (by decide) rfl ?_
    exact am_sub [2, 3, 4, 1, 0] rfl h
  · replace h := h.2 c1
    refine am_iconst dX12_quarrel_14 (by unfold am_rg; omega) ?_
    exact am_ret (r := some (.inl (-1))) dX12_quarrel_15 (Or.inl rfl) rfl h
theorem bX12_quarrel_21 {SC : Nat → Nat} {X : mh_X} {d : Nat} {Q : Option am_V → am_W → Prop} {bc bs : Nat} {w : am_W} {x1 : Int} {x2 : Int} {x3 : Int} {x4 : Int}
    (h : (0 ≤ x1 ∧ (x1 < 7 ∧ (((w.1 68 0 x1.toNat) ≤ x4 → Q (some (.inl (-1))) w) ∧ (¬ (w.1 68 0 x1.toNat) ≤ x4 → am_A (mh_G X) SC (d + 1) mX12_quarrel Q 38 [(0, .inr (.inr (some (9, 0)))), (1, .inl x1), (2, .inl x2), (3, .inl x3), (4, .inl x4), (5, .inl (am_w (x4 + 1)))] [] w bc bs))))) :
    am_A (mh_G X) SC (d + 1) mX12_quarrel Q 21 [(0, .inr (.inr (some (9, 0)))), (1, .inl x1), (2, .inl x2), (3, .inl x3), (4, .inl x4)] [] w bc bs := by
  refine am_iload dX12_quarrel_21 (List.Mem.tail _ (List.Mem.tail _ (List.Mem.tail _ (List.Mem.tail _ (List.Mem.head _))))) ?_
  refine am_aload_n dX12_quarrel_23 (List.Mem.head _) ?_
  refine am_getf (f := 6) (v := .inr (.inr (some (68, 0)))) dX12_quarrel_24 hc_10 (by decide) wd_1555 (by decide) rfl rfl ?_
  refine am_iload_n dX12_quarrel_27 (List.Mem.tail _ (List.Mem.head _)) ?_
  have o1 := h.1
  replace h := h.2
  have o2 := h.1
  replace h := h.2
  refine am_iaload (v := (w.1 68 0 x1.toNat)) dX12_quarrel_28 (by decide) rfl o1 o2 rfl ?_
  refine am_icmpge (tgt := 105) dX12_quarrel_29 (by decide) (fun c3 => ?_) (fun c3 => ?_)
  · replace h := h.1 c3
    refine am_iconst dX12_quarrel_105 (by unfold am_rg; omega) ?_
    exact am_ret (r := some (.inl (-1))) dX12_quarrel_106 (Or.inl rfl) rfl h
  · replace h := h.2 c3
    refine am_iload dX12_quarrel_32 (List.Mem.tail _ (List.Mem.tail _ (List.Mem.tail _ (List.Mem.tail _ (List.Mem.head _))))) ?_
    refine am_iconst dX12_quarrel_34 (by unfold am_rg; omega) ?_
    refine am_iadd dX12_quarrel_35 ?_
    refine am_istore (ls' := [(5, .inl (am_w (x4 + 1))), (0, .inr (.inr (some (9, 0)))), (1, .inl x1), (2, .inl x2), (3, .inl x3), (4, .inl x4)]) dX12_quarrel_36 (by decide) rfl ?_
    exact am_sub [1, 2, 3, 4, 5, 0] rfl h
theorem bX12_quarrel_38 {SC : Nat → Nat} {X : mh_X} {d : Nat} {Q : Option am_V → am_W → Prop} {bc bs : Nat} {w : am_W} {x1 : Int} {x2 : Int} {x3 : Int} {x4 : Int} {x5 : Int}
    (h : (0 ≤ x1 ∧ (x1 < 7 ∧ (((w.1 68 0 x1.toNat) ≤ x5 → am_A (mh_G X) SC (d + 1) mX12_quarrel Q 21 [(0, .inr (.inr (some (9, 0)))), (1, .inl x1), (2, .inl x2), (3, .inl x3), (4, .inl (am_w (x4 + 1)))] [] w bc bs) ∧ (¬ (w.1 68 0 x1.toNat) ≤ x5 → am_M (mh_G X) SC d 0 0 mX12_areOne [.inr (.inr (some (9, 0))), .inl x1, .inl x4, .inl x5] w (fun r w1 => am_A (mh_G X) SC (d + 1) mX12_quarrel Q 58 [(0, .inr (.inr (some (9, 0)))), (1, .inl x1), (2, .inl x2), (3, .inl x3), (4, .inl x4), (5, .inl x5)] (r.toList ++ []) w1 bc bs)))))) :
    am_A (mh_G X) SC (d + 1) mX12_quarrel Q 38 [(0, .inr (.inr (some (9, 0)))), (1, .inl x1), (2, .inl x2), (3, .inl x3), (4, .inl x4), (5, .inl x5)] [] w bc bs := by
  refine am_iload dX12_quarrel_38 (List.Mem.tail _ (List.Mem.tail _ (List.Mem.tail _ (List.Mem.tail _ (List.Mem.tail _ (List.Mem.head _)))))) ?_
  refine am_aload_n dX12_quarrel_40 (List.Mem.head _) ?_
  refine am_getf (f := 6) (v := .inr (.inr (some (68, 0)))) dX12_quarrel_41 hc_10 (by decide) wd_1555 (by decide) rfl rfl ?_
  refine am_iload_n dX12_quarrel_44 (List.Mem.tail _ (List.Mem.head _)) ?_
  have o1 := h.1
  replace h := h.2
  have o2 := h.1
  replace h := h.2
  refine am_iaload (v := (w.1 68 0 x1.toNat)) dX12_quarrel_45 (by decide) rfl o1 o2 rfl ?_
  refine am_icmpge (tgt := 99) dX12_quarrel_46 (by decide) (fun c3 => ?_) (fun c3 => ?_)
  · replace h := h.1 c3
    refine am_iinc (ls' := [(4, .inl (am_w (x4 + 1))), (0, .inr (.inr (some (9, 0)))), (1, .inl x1), (2, .inl x2), (3, .inl x3), (5, .inl x5)]) dX12_quarrel_99 (List.Mem.tail _ (List.Mem.tail _ (List.Mem.tail _ (List.Mem.tail _ (List.Mem.head _))))) (by decide) rfl ?_
    refine am_goto (tgt := 21) dX12_quarrel_102 (by decide) ?_
    exact am_sub [1, 2, 3, 4, 0] rfl h
  · replace h := h.2 c3
    refine am_aload_n dX12_quarrel_49 (List.Mem.head _) ?_
    refine am_iload_n dX12_quarrel_50 (List.Mem.tail _ (List.Mem.head _)) ?_
    refine am_iload dX12_quarrel_51 (List.Mem.tail _ (List.Mem.tail _ (List.Mem.tail _ (List.Mem.tail _ (List.Mem.head _))))) ?_
    refine am_iload dX12_quarrel_53 (List.Mem.tail _ (List.Mem.tail _ (List.Mem.tail _ (List.Mem.tail _ (List.Mem.tail _ (List.Mem.head _)))))) ?_
    exact am_callv (d' := d) (kc := 0) (ks := 0) (as := [.inl x1, .inl x4, .inl x5]) dX12_quarrel_55 wc_X12_areOne wd_2483 wd_2485 wd_109 wd_122 ds_X12_areOne (by decide) (Nat.le_refl _) (Nat.le_of_ble_eq_true rfl) (Nat.zero_le _) (Nat.zero_le _) hc_10 (by decide) rfl rfl h
theorem bX12_quarrel_58 {SC : Nat → Nat} {X : mh_X} {d : Nat} {Q : Option am_V → am_W → Prop} {bc bs : Nat} {w : am_W} {x1 : Int} {x2 : Int} {x3 : Int} {x4 : Int} {x5 : Int} {xs0 : Int}
    (h : ((xs0 = 0 → am_A (mh_G X) SC (d + 1) mX12_quarrel Q 93 [(0, .inr (.inr (some (9, 0)))), (1, .inl x1), (2, .inl x2), (3, .inl x3), (4, .inl x4), (5, .inl x5)] [] w bc bs) ∧ (¬ xs0 = 0 → am_M (mh_G X) SC d 0 0 mX12_areAlike [.inr (.inr (some (9, 0))), .inl x1, .inl x4, .inl x5] w (fun r w1 => am_A (mh_G X) SC (d + 1) mX12_quarrel Q 70 [(0, .inr (.inr (some (9, 0)))), (1, .inl x1), (2, .inl x2), (3, .inl x3), (4, .inl x4), (5, .inl x5)] (r.toList ++ []) w1 bc bs)))) :
    am_A (mh_G X) SC (d + 1) mX12_quarrel Q 58 [(0, .inr (.inr (some (9, 0)))), (1, .inl x1), (2, .inl x2), (3, .inl x3), (4, .inl x4), (5, .inl x5)] [.inl xs0] w bc bs := by
  refine am_ifeq (tgt := 93) dX12_quarrel_58 (by decide) (fun c1 => ?_) (fun c1 => ?_)
  · replace h := h.1 c1
    exact h
  · replace h := h.2 c1
    refine am_aload_n dX12_quarrel_61 (List.Mem.head _) ?_
    refine am_iload_n dX12_quarrel_62 (List.Mem.tail _ (List.Mem.head _)) ?_
    refine am_iload dX12_quarrel_63 (List.Mem.tail _ (List.Mem.tail _ (List.Mem.tail _ (List.Mem.tail _ (List.Mem.head _))))) ?_
    refine am_iload dX12_quarrel_65 (List.Mem.tail _ (List.Mem.tail _ (List.Mem.tail _ (List.Mem.tail _ (List.Mem.tail _ (List.Mem.head _)))))) ?_
    exact am_callv (d' := d) (kc := 0) (ks := 0) (as := [.inl x1, .inl x4, .inl x5]) dX12_quarrel_67 wc_X12_areAlike wd_2487 wd_2489 wd_110 wd_122 ds_X12_areAlike (by decide) (Nat.le_refl _) (Nat.le_of_ble_eq_true rfl) (Nat.zero_le _) (Nat.zero_le _) hc_10 (by decide) rfl rfl h
theorem bX12_quarrel_93 {SC : Nat → Nat} {X : mh_X} {d : Nat} {Q : Option am_V → am_W → Prop} {bc bs : Nat} {w : am_W} {x1 : Int} {x2 : Int} {x3 : Int} {x4 : Int} {x5 : Int}
    (h : am_A (mh_G X) SC (d + 1) mX12_quarrel Q 38 [(0, .inr (.inr (some (9, 0)))), (1, .inl x1), (2, .inl x2), (3, .inl x3), (4, .inl x4), (5, .inl (am_w (x5 + 1)))] [] w bc bs) :
    am_A (mh_G X) SC (d + 1) mX12_quarrel Q 93 [(0, .inr (.inr (some (9, 0)))), (1, .inl x1), (2, .inl x2), (3, .inl x3), (4, .inl x4), (5, .inl x5)] [] w bc bs := by
  refine am_iinc (ls' := [(5, .inl (am_w (x5 + 1))), (0, .inr (.inr (some (9, 0)))), (1, .inl x1), (2, .inl x2), (3, .inl x3), (4, .inl x4)]) dX12_quarrel_93 (List.Mem.tail _ (List.Mem.tail _ (List.Mem.tail _ (List.Mem.tail _ (List.Mem.tail _ (List.Mem.head _)))))) (by decide) rfl ?_
  refine am_goto (tgt := 38) dX12_quarrel_96 (by decide) ?_
  exact am_sub [1, 2, 3, 4, 5, 0] rfl h
theorem bX12_quarrel_70 {SC : Nat → Nat} {X : mh_X} {d : Nat} {Q : Option am_V → am_W → Prop} {bc bs : Nat} {w : am_W} {x1 : Int} {x2 : Int} {x3 : Int} {x4 : Int} {x5 : Int} {xs0 : Int}
    (h : ((xs0 = 0 → ((¬ x3 = x2 → am_A (mh_G X) SC (d + 1) mX12_quarrel Q 93 [(0, .inr (.inr (some (9, 0)))), (1, .inl x1), (2, .inl x2), (3, .inl (am_w (x3 + 1))), (4, .inl x4), (5, .inl x5)] [] w bc bs) ∧ (x3 = x2 → Q (some (.inl (am_w ((am_w (100 * x4)) + x5)))) w))) ∧ (¬ xs0 = 0 → am_A (mh_G X) SC (d + 1) mX12_quarrel Q 93 [(0, .inr (.inr (some (9, 0)))), (1, .inl x1), (2, .inl x2), (3, .inl x3), (4, .inl x4), (5, .inl x5)] [] w bc bs))) :
    am_A (mh_G X) SC (d + 1) mX12_quarrel Q 70 [(0, .inr (.inr (some (9, 0)))), (1, .inl x1), (2, .inl x2), (3, .inl x3), (4, .inl x4), (5, .inl x5)] [.inl xs0] w bc bs := by
  refine am_ifeq (tgt := 76) dX12_quarrel_70 (by decide) (fun c1 => ?_) (fun c1 => ?_)
  · replace h := h.1 c1
    refine am_iload_n dX12_quarrel_76 (List.Mem.tail _ (List.Mem.tail _ (List.Mem.tail _ (List.Mem.head _)))) ?_
    refine am_iload_n dX12_quarrel_77 (List.Mem.tail _ (List.Mem.tail _ (List.Mem.head _))) ?_
    refine am_icmpne (tgt := 90) dX12_quarrel_78 (by decide) (fun c2 => ?_) (fun c2 => ?_)
    · replace h := h.1 c2
      refine am_iinc (ls' := [(3, .inl (am_w (x3 + 1))), (0, .inr (.inr (some (9, 0)))), (1, .inl x1), (2, .inl x2), (4, .inl x4), (5, .inl x5)]) dX12_quarrel_90 (List.Mem.tail _ (List.Mem.tail _ (List.Mem.tail _ (List.Mem.head _)))) (by decide) rfl ?_
      exact am_sub [1, 2, 3, 0, 4, 5] rfl h
    · replace h := h.2 c2
      refine am_bipush dX12_quarrel_81 (by decide) (by unfold am_rg; omega) ?_
      refine am_iload dX12_quarrel_83 (List.Mem.tail _ (List.Mem.tail _ (List.Mem.tail _ (List.Mem.tail _ (List.Mem.head _))))) ?_
      refine am_imul dX12_quarrel_85 ?_
      refine am_iload dX12_quarrel_86 (List.Mem.tail _ (List.Mem.tail _ (List.Mem.tail _ (List.Mem.tail _ (List.Mem.tail _ (List.Mem.head _)))))) ?_
      refine am_iadd dX12_quarrel_88 ?_
      exact am_ret (r := some (.inl (am_w ((am_w (100 * x4)) + x5)))) dX12_quarrel_89 (Or.inl rfl) rfl h
  · replace h := h.2 c1
    refine am_goto (tgt := 93) dX12_quarrel_73 (by decide) ?_
    exact h
-- MourningHouseModel.worn(II)I
theorem dX12_worn_0 : decode mX12_worn.2.1 0 = .ok (.iload_n 1, 1) := by decide +kernel
theorem dX12_worn_1 : decode mX12_worn.2.1 1 = .ok (.iconst 0, 1) := by decide +kernel
theorem dX12_worn_2 : decode mX12_worn.2.1 2 = .ok (.aload_n 0, 1) := by decide +kernel
theorem dX12_worn_3 : decode mX12_worn.2.1 3 = .ok (.getfield 582, 3) := by decide +kernel
theorem dX12_worn_6 : decode mX12_worn.2.1 6 = .ok (.iconst 1, 1) := by decide +kernel
theorem dX12_worn_7 : decode mX12_worn.2.1 7 = .ok (.isub, 1) := by decide +kernel
theorem dX12_worn_8 : decode mX12_worn.2.1 8 = .ok (.invokestatic 318, 3) := by decide +kernel
theorem dX12_worn_11 : decode mX12_worn.2.1 11 = .ok (.ifCond .ne 5, 3) := by decide +kernel
theorem dX12_worn_14 : decode mX12_worn.2.1 14 = .ok (.iconst (-1), 1) := by decide +kernel
theorem dX12_worn_15 : decode mX12_worn.2.1 15 = .ok (.ireturn, 1) := by decide +kernel
theorem dX12_worn_16 : decode mX12_worn.2.1 16 = .ok (.iload_n 2, 1) := by decide +kernel
theorem dX12_worn_17 : decode mX12_worn.2.1 17 = .ok (.ifCond .ne 12, 3) := by decide +kernel
theorem dX12_worn_20 : decode mX12_worn.2.1 20 = .ok (.aload_n 0, 1) := by decide +kernel
theorem dX12_worn_21 : decode mX12_worn.2.1 21 = .ok (.getfield 237, 3) := by decide +kernel
theorem dX12_worn_24 : decode mX12_worn.2.1 24 = .ok (.iload_n 1, 1) := by decide +kernel
theorem dX12_worn_25 : decode mX12_worn.2.1 25 = .ok (.iaload, 1) := by decide +kernel
theorem dX12_worn_26 : decode mX12_worn.2.1 26 = .ok (.goto 39, 3) := by decide +kernel
theorem dX12_worn_29 : decode mX12_worn.2.1 29 = .ok (.iload_n 2, 1) := by decide +kernel
theorem dX12_worn_30 : decode mX12_worn.2.1 30 = .ok (.iconst 1, 1) := by decide +kernel
theorem dX12_worn_31 : decode mX12_worn.2.1 31 = .ok (.if_icmp .ne 12, 3) := by decide +kernel
theorem dX12_worn_34 : decode mX12_worn.2.1 34 = .ok (.aload_n 0, 1) := by decide +kernel
theorem dX12_worn_35 : decode mX12_worn.2.1 35 = .ok (.getfield 240, 3) := by decide +kernel
theorem dX12_worn_38 : decode mX12_worn.2.1 38 = .ok (.iload_n 1, 1) := by decide +kernel
theorem dX12_worn_39 : decode mX12_worn.2.1 39 = .ok (.iaload, 1) := by decide +kernel
theorem dX12_worn_40 : decode mX12_worn.2.1 40 = .ok (.goto 25, 3) := by decide +kernel
theorem dX12_worn_43 : decode mX12_worn.2.1 43 = .ok (.iload_n 2, 1) := by decide +kernel
theorem dX12_worn_44 : decode mX12_worn.2.1 44 = .ok (.iconst 2, 1) := by decide +kernel
theorem dX12_worn_45 : decode mX12_worn.2.1 45 = .ok (.if_icmp .ne 19, 3) := by decide +kernel
theorem dX12_worn_48 : decode mX12_worn.2.1 48 = .ok (.aload_n 0, 1) := by decide +kernel
theorem dX12_worn_49 : decode mX12_worn.2.1 49 = .ok (.iload_n 1, 1) := by decide +kernel
theorem dX12_worn_50 : decode mX12_worn.2.1 50 = .ok (.invokevirtual 591, 3) := by decide +kernel
theorem dX12_worn_53 : decode mX12_worn.2.1 53 = .ok (.ifCond .eq 7, 3) := by decide +kernel
theorem dX12_worn_56 : decode mX12_worn.2.1 56 = .ok (.iconst 0, 1) := by decide +kernel
theorem dX12_worn_57 : decode mX12_worn.2.1 57 = .ok (.goto 8, 3) := by decide +kernel
theorem dX12_worn_60 : decode mX12_worn.2.1 60 = .ok (.iconst 1, 1) := by decide +kernel
theorem dX12_worn_61 : decode mX12_worn.2.1 61 = .ok (.goto 4, 3) := by decide +kernel
theorem dX12_worn_64 : decode mX12_worn.2.1 64 = .ok (.iconst (-1), 1) := by decide +kernel
theorem dX12_worn_65 : decode mX12_worn.2.1 65 = .ok (.ireturn, 1) := by decide +kernel
theorem bX12_worn_0 {SC : Nat → Nat} {X : mh_X} {d : Nat} {Q : Option am_V → am_W → Prop} {bc bs : Nat} {w : am_W} {x1 : Int} {x2 : Int}
    (h : am_M (mh_G X) SC d 0 0 mX12_in [.inl x1, .inl 0, .inl (am_w ((w.1 9 0 75) - 1))] w (fun r w1 => am_A (mh_G X) SC (d + 1) mX12_worn Q 11 [(0, .inr (.inr (some (9, 0)))), (1, .inl x1), (2, .inl x2)] (r.toList ++ []) w1 bc bs)) :
    am_A (mh_G X) SC (d + 1) mX12_worn Q 0 [(0, .inr (.inr (some (9, 0)))), (1, .inl x1), (2, .inl x2)] [] w bc bs := by
  refine am_iload_n dX12_worn_0 (List.Mem.tail _ (List.Mem.head _)) ?_
  refine am_iconst dX12_worn_1 (by unfold am_rg; omega) ?_
  refine am_aload_n dX12_worn_2 (List.Mem.head _) ?_
  refine am_getf (f := 75) (v := .inl (w.1 9 0 75)) dX12_worn_3 hc_10 (by decide) wd_1624 (by decide) rfl rfl ?_
  refine am_iconst dX12_worn_6 (by unfold am_rg; omega) ?_
  refine am_isub dX12_worn_7 ?_
  exact am_calls (d' := d) (kc := 0) (ks := 0) (as := [.inl x1, .inl 0, .inl (am_w ((w.1 9 0 75) - 1))]) dX12_worn_8 wc_X12_in wd_1859 wd_1860 wd_122 ds_X12_in (by decide) (Nat.le_refl _) (Nat.le_of_ble_eq_true rfl) (Nat.zero_le _) (Nat.zero_le _) rfl h
theorem bX12_worn_11 {SC : Nat → Nat} {X : mh_X} {d : Nat} {Q : Option am_V → am_W → Prop} {bc bs : Nat} {w : am_W} {x1 : Int} {x2 : Int} {xs0 : Int}
    (h : ((¬ xs0 = 0 → ((¬ x2 = 0 → ((¬ x2 = 1 → ((¬ x2 = 2 → Q (some (.inl (-1))) w) ∧ (x2 = 2 → am_M (mh_G X) SC d 0 0 mX12_hasTask [.inr (.inr (some (9, 0))), .inl x1] w (fun r w1 => am_A (mh_G X) SC (d + 1) mX12_worn Q 53 [(0, .inr (.inr (some (9, 0)))), (1, .inl x1), (2, .inl x2)] (r.toList ++ []) w1 bc bs)))) ∧ (x2 = 1 → (0 ≤ x1 ∧ (x1 < 40 ∧ Q (some (.inl (w.1 127 0 x1.toNat))) w))))) ∧ (x2 = 0 → (0 ≤ x1 ∧ (x1 < 40 ∧ Q (some (.inl (w.1 126 0 x1.toNat))) w))))) ∧ (xs0 = 0 → Q (some (.inl (-1))) w))) :
    am_A (mh_G X) SC (d + 1) mX12_worn Q 11 [(0, .inr (.inr (some (9, 0)))), (1, .inl x1), (2, .inl x2)] [.inl xs0] w bc bs := by
  refine am_ifne (tgt := 16) dX12_worn_11 (by decide) (fun c1 => ?_) (fun c1 => ?_)
  · replace h := h.1 c1
    refine am_iload_n dX12_worn_16 (List.Mem.tail _ (List.Mem.tail _ (List.Mem.head _))) ?_
    refine am_ifne (tgt := 29) dX12_worn_17 (by decide) (fun c2 => ?_) (fun c2 => ?_)
    · replace h := h.1 c2
      refine am_iload_n dX12_worn_29 (List.Mem.tail _ (List.Mem.tail _ (List.Mem.head _))) ?_
      refine am_iconst dX12_worn_30 (by unfold am_rg; omega) ?_
      refine am_icmpne (tgt := 43) dX12_worn_31 (by decide) (fun c3 => ?_) (fun c3 => ?_)
      · replace h := h.1 c3
        refine am_iload_n dX12_worn_43 (List.Mem.tail _ (List.Mem.tail _ (List.Mem.head _))) ?_
        refine am_iconst dX12_worn_44 (by unfold am_rg; omega) ?_
        refine am_icmpne (tgt := 64) dX12_worn_45 (by decide) (fun c4 => ?_) (fun c4 => ?_)
        · replace h := h.1 c4
          refine am_iconst dX12_worn_64 (by unfold am_rg; omega) ?_
          exact am_ret (r := some (.inl (-1))) dX12_worn_65 (Or.inl rfl) rfl h
        · replace h := h.2 c4
          refine am_aload_n dX12_worn_48 (List.Mem.head _) ?_
          refine am_iload_n dX12_worn_49 (List.Mem.tail _ (List.Mem.head _)) ?_
          exact am_callv (d' := d) (kc := 0) (ks := 0) (as := [.inl x1]) dX12_worn_50 wc_X12_hasTask wd_2202 wd_2204 wd_98 wd_122 ds_X12_hasTask (by decide) (Nat.le_refl _) (Nat.le_of_ble_eq_true rfl) (Nat.zero_le _) (Nat.zero_le _) hc_10 (by decide) rfl rfl h
      · replace h := h.2 c3
        refine am_aload_n dX12_worn_34 (List.Mem.head _) ?_
        refine am_getf (f := 73) (v := .inr (.inr (some (127, 0)))) dX12_worn_35 hc_10 (by decide) wd_1622 (by decide) rfl rfl ?_
        refine am_iload_n dX12_worn_38 (List.Mem.tail _ (List.Mem.head _)) ?_
        have o5 := h.1
        replace h := h.2
        have o6 := h.1
        replace h := h.2
        refine am_iaload (v := (w.1 127 0 x1.toNat)) dX12_worn_39 (by decide) rfl o5 o6 rfl ?_
        refine am_goto (tgt := 65) dX12_worn_40 (by decide) ?_
        exact am_ret (r := some (.inl (w.1 127 0 x1.toNat))) dX12_worn_65 (Or.inl rfl) rfl h
    · replace h := h.2 c2
      refine am_aload_n dX12_worn_20 (List.Mem.head _) ?_
      refine am_getf (f := 72) (v := .inr (.inr (some (126, 0)))) dX12_worn_21 hc_10 (by decide) wd_1621 (by decide) rfl rfl ?_
      refine am_iload_n dX12_worn_24 (List.Mem.tail _ (List.Mem.head _)) ?_
      have o7 := h.1
      replace h := h.2
      have o8 := h.1
      replace h := h.2
      refine am_iaload (v := (w.1 126 0 x1.toNat)) dX12_worn_25 (by decide) rfl o7 o8 rfl ?_
      refine am_goto (tgt := 65) dX12_worn_26 (by decide) ?_
      exact am_ret (r := some (.inl (w.1 126 0 x1.toNat))) dX12_worn_65 (Or.inl rfl) rfl h
  · replace h := h.2 c1
    refine am_iconst dX12_worn_14 (by unfold am_rg; omega) ?_
    exact am_ret (r := some (.inl (-1))) dX12_worn_15 (Or.inl rfl) rfl h
theorem bX12_worn_53 {SC : Nat → Nat} {X : mh_X} {d : Nat} {Q : Option am_V → am_W → Prop} {bc bs : Nat} {w : am_W} {x1 : Int} {x2 : Int} {xs0 : Int}
    (h : ((xs0 = 0 → Q (some (.inl 1)) w) ∧ (¬ xs0 = 0 → Q (some (.inl 0)) w))) :
    am_A (mh_G X) SC (d + 1) mX12_worn Q 53 [(0, .inr (.inr (some (9, 0)))), (1, .inl x1), (2, .inl x2)] [.inl xs0] w bc bs := by
  refine am_ifeq (tgt := 60) dX12_worn_53 (by decide) (fun c1 => ?_) (fun c1 => ?_)
  · replace h := h.1 c1
    refine am_iconst dX12_worn_60 (by unfold am_rg; omega) ?_
    refine am_goto (tgt := 65) dX12_worn_61 (by decide) ?_
    exact am_ret (r := some (.inl 1)) dX12_worn_65 (Or.inl rfl) rfl h
  · replace h := h.2 c1
    refine am_iconst dX12_worn_56 (by unfold am_rg; omega) ?_
    refine am_goto (tgt := 65) dX12_worn_57 (by decide) ?_
    exact am_ret (r := some (.inl 0)) dX12_worn_65 (Or.inl rfl) rfl h
-- MourningHouseModel.told(II)I
theorem dX12_told_0 : decode mX12_told.2.1 0 = .ok (.aload_n 0, 1) := by decide +kernel
theorem dX12_told_1 : decode mX12_told.2.1 1 = .ok (.iload_n 1, 1) := by decide +kernel
theorem dX12_told_2 : decode mX12_told.2.1 2 = .ok (.invokevirtual 453, 3) := by decide +kernel
theorem dX12_told_5 : decode mX12_told.2.1 5 = .ok (.ifCond .ne 7, 3) := by decide +kernel
theorem dX12_told_8 : decode mX12_told.2.1 8 = .ok (.ldc_w 325, 3) := by decide +kernel
theorem dX12_told_11 : decode mX12_told.2.1 11 = .ok (.ireturn, 1) := by decide +kernel
theorem dX12_told_12 : decode mX12_told.2.1 12 = .ok (.iload_n 2, 1) := by decide +kernel
theorem dX12_told_13 : decode mX12_told.2.1 13 = .ok (.tableswitch 142 0 6 #[43, 50, 57, 80, 103, 110, 117], 43) := by decide +kernel
theorem dX12_told_56 : decode mX12_told.2.1 56 = .ok (.aload_n 0, 1) := by decide +kernel
theorem dX12_told_57 : decode mX12_told.2.1 57 = .ok (.getfield 151, 3) := by decide +kernel
theorem dX12_told_60 : decode mX12_told.2.1 60 = .ok (.iload_n 1, 1) := by decide +kernel
theorem dX12_told_61 : decode mX12_told.2.1 61 = .ok (.iaload, 1) := by decide +kernel
theorem dX12_told_62 : decode mX12_told.2.1 62 = .ok (.ireturn, 1) := by decide +kernel
theorem dX12_told_63 : decode mX12_told.2.1 63 = .ok (.aload_n 0, 1) := by decide +kernel
theorem dX12_told_64 : decode mX12_told.2.1 64 = .ok (.getfield 154, 3) := by decide +kernel
theorem dX12_told_67 : decode mX12_told.2.1 67 = .ok (.iload_n 1, 1) := by decide +kernel
theorem dX12_told_68 : decode mX12_told.2.1 68 = .ok (.iaload, 1) := by decide +kernel
theorem dX12_told_69 : decode mX12_told.2.1 69 = .ok (.ireturn, 1) := by decide +kernel
theorem dX12_told_70 : decode mX12_told.2.1 70 = .ok (.aload_n 0, 1) := by decide +kernel
theorem dX12_told_71 : decode mX12_told.2.1 71 = .ok (.getfield 157, 3) := by decide +kernel
theorem dX12_told_74 : decode mX12_told.2.1 74 = .ok (.iload_n 1, 1) := by decide +kernel
theorem dX12_told_75 : decode mX12_told.2.1 75 = .ok (.iaload, 1) := by decide +kernel
theorem dX12_told_76 : decode mX12_told.2.1 76 = .ok (.iconst (-1), 1) := by decide +kernel
theorem dX12_told_77 : decode mX12_told.2.1 77 = .ok (.if_icmp .ne 9, 3) := by decide +kernel
theorem dX12_told_80 : decode mX12_told.2.1 80 = .ok (.ldc_w 325, 3) := by decide +kernel
theorem dX12_told_83 : decode mX12_told.2.1 83 = .ok (.goto 9, 3) := by decide +kernel
theorem dX12_told_86 : decode mX12_told.2.1 86 = .ok (.aload_n 0, 1) := by decide +kernel
theorem dX12_told_87 : decode mX12_told.2.1 87 = .ok (.getfield 157, 3) := by decide +kernel
theorem dX12_told_90 : decode mX12_told.2.1 90 = .ok (.iload_n 1, 1) := by decide +kernel
theorem dX12_told_91 : decode mX12_told.2.1 91 = .ok (.iaload, 1) := by decide +kernel
theorem dX12_told_92 : decode mX12_told.2.1 92 = .ok (.ireturn, 1) := by decide +kernel
theorem dX12_told_93 : decode mX12_told.2.1 93 = .ok (.aload_n 0, 1) := by decide +kernel
theorem dX12_told_94 : decode mX12_told.2.1 94 = .ok (.getfield 159, 3) := by decide +kernel
theorem dX12_told_97 : decode mX12_told.2.1 97 = .ok (.iload_n 1, 1) := by decide +kernel
theorem dX12_told_98 : decode mX12_told.2.1 98 = .ok (.iaload, 1) := by decide +kernel
theorem dX12_told_99 : decode mX12_told.2.1 99 = .ok (.iconst (-1), 1) := by decide +kernel
theorem dX12_told_100 : decode mX12_told.2.1 100 = .ok (.if_icmp .ne 9, 3) := by decide +kernel
theorem dX12_told_103 : decode mX12_told.2.1 103 = .ok (.ldc_w 325, 3) := by decide +kernel
theorem dX12_told_106 : decode mX12_told.2.1 106 = .ok (.goto 9, 3) := by decide +kernel
theorem dX12_told_109 : decode mX12_told.2.1 109 = .ok (.aload_n 0, 1) := by decide +kernel
theorem dX12_told_110 : decode mX12_told.2.1 110 = .ok (.getfield 159, 3) := by decide +kernel
theorem dX12_told_113 : decode mX12_told.2.1 113 = .ok (.iload_n 1, 1) := by decide +kernel
theorem dX12_told_114 : decode mX12_told.2.1 114 = .ok (.iaload, 1) := by decide +kernel
theorem dX12_told_115 : decode mX12_told.2.1 115 = .ok (.ireturn, 1) := by decide +kernel
theorem dX12_told_116 : decode mX12_told.2.1 116 = .ok (.aload_n 0, 1) := by decide +kernel
theorem dX12_told_117 : decode mX12_told.2.1 117 = .ok (.getfield 161, 3) := by decide +kernel
theorem dX12_told_120 : decode mX12_told.2.1 120 = .ok (.iload_n 1, 1) := by decide +kernel
theorem dX12_told_121 : decode mX12_told.2.1 121 = .ok (.iaload, 1) := by decide +kernel
theorem dX12_told_122 : decode mX12_told.2.1 122 = .ok (.ireturn, 1) := by decide +kernel
theorem dX12_told_123 : decode mX12_told.2.1 123 = .ok (.aload_n 0, 1) := by decide +kernel
theorem dX12_told_124 : decode mX12_told.2.1 124 = .ok (.getfield 167, 3) := by decide +kernel
theorem dX12_told_127 : decode mX12_told.2.1 127 = .ok (.iload_n 1, 1) := by decide +kernel
theorem dX12_told_128 : decode mX12_told.2.1 128 = .ok (.iaload, 1) := by decide +kernel
theorem dX12_told_129 : decode mX12_told.2.1 129 = .ok (.ireturn, 1) := by decide +kernel
theorem dX12_told_130 : decode mX12_told.2.1 130 = .ok (.aload_n 0, 1) := by decide +kernel
theorem dX12_told_131 : decode mX12_told.2.1 131 = .ok (.getfield 167, 3) := by decide +kernel
theorem dX12_told_134 : decode mX12_told.2.1 134 = .ok (.iload_n 1, 1) := by decide +kernel
theorem dX12_told_135 : decode mX12_told.2.1 135 = .ok (.iaload, 1) := by decide +kernel
theorem dX12_told_136 : decode mX12_told.2.1 136 = .ok (.ldc_w 325, 3) := by decide +kernel
theorem dX12_told_139 : decode mX12_told.2.1 139 = .ok (.if_icmp .ne 9, 3) := by decide +kernel
theorem dX12_told_142 : decode mX12_told.2.1 142 = .ok (.ldc_w 325, 3) := by decide +kernel
theorem dX12_told_145 : decode mX12_told.2.1 145 = .ok (.goto 9, 3) := by decide +kernel
theorem dX12_told_148 : decode mX12_told.2.1 148 = .ok (.aload_n 0, 1) := by decide +kernel
theorem dX12_told_149 : decode mX12_told.2.1 149 = .ok (.getfield 170, 3) := by decide +kernel
theorem dX12_told_152 : decode mX12_told.2.1 152 = .ok (.iload_n 1, 1) := by decide +kernel
theorem dX12_told_153 : decode mX12_told.2.1 153 = .ok (.iaload, 1) := by decide +kernel
theorem dX12_told_154 : decode mX12_told.2.1 154 = .ok (.ireturn, 1) := by decide +kernel
theorem dX12_told_155 : decode mX12_told.2.1 155 = .ok (.ldc_w 325, 3) := by decide +kernel
theorem dX12_told_158 : decode mX12_told.2.1 158 = .ok (.ireturn, 1) := by decide +kernel
theorem bX12_told_0 {SC : Nat → Nat} {X : mh_X} {d : Nat} {Q : Option am_V → am_W → Prop} {bc bs : Nat} {w : am_W} {x1 : Int} {x2 : Int}
    (h : am_M (mh_G X) SC d 0 0 mX12_isPerson [.inr (.inr (some (9, 0))), .inl x1] w (fun r w1 => am_A (mh_G X) SC (d + 1) mX12_told Q 5 [(0, .inr (.inr (some (9, 0)))), (1, .inl x1), (2, .inl x2)] (r.toList ++ []) w1 bc bs)) :
    am_A (mh_G X) SC (d + 1) mX12_told Q 0 [(0, .inr (.inr (some (9, 0)))), (1, .inl x1), (2, .inl x2)] [] w bc bs := by
  refine am_aload_n dX12_told_0 (List.Mem.head _) ?_
  refine am_iload_n dX12_told_1 (List.Mem.tail _ (List.Mem.head _)) ?_
  exact am_callv (d' := d) (kc := 0) (ks := 0) (as := [.inl x1]) dX12_told_2 wc_X12_isPerson wd_2018 wd_2020 wd_73 wd_122 ds_X12_isPerson (by decide) (Nat.le_refl _) (Nat.le_of_ble_eq_true rfl) (Nat.zero_le _) (Nat.zero_le _) hc_10 (by decide) rfl rfl h
theorem bX12_told_5 {SC : Nat → Nat} {X : mh_X} {d : Nat} {Q : Option am_V → am_W → Prop} {bc bs : Nat} {w : am_W} {x1 : Int} {x2 : Int} {xs0 : Int}
    (h : ((¬ xs0 = 0 → (((x2 < 0 ∨ 6 < x2) → Q (some (.inl (-2147483648))) w) ∧ (x2 = 0 → (0 ≤ x1 ∧ (x1 < 40 ∧ Q (some (.inl (w.1 96 0 x1.toNat))) w))) ∧ (x2 = 1 → (0 ≤ x1 ∧ (x1 < 40 ∧ Q (some (.inl (w.1 97 0 x1.toNat))) w))) ∧ (x2 = 2 → (0 ≤ x1 ∧ (x1 < 40 ∧ ((¬ (w.1 98 0 x1.toNat) = (-1) → Q (some (.inl (w.1 98 0 x1.toNat))) w) ∧ ((w.1 98 0 x1.toNat) = (-1) → Q (some (.inl (-2147483648))) w))))) ∧ (x2 = 3 → (0 ≤ x1 ∧ (x1 < 40 ∧ ((¬ (w.1 99 0 x1.toNat) = (-1) → Q (some (.inl (w.1 99 0 x1.toNat))) w) ∧ ((w.1 99 0 x1.toNat) = (-1) → Q (some (.inl (-2147483648))) w))))) ∧ (x2 = 4 → (0 ≤ x1 ∧ (x1 < 40 ∧ Q (some (.inl (w.1 100 0 x1.toNat))) w))) ∧ (x2 = 5 → (0 ≤ x1 ∧ (x1 < 40 ∧ Q (some (.inl (w.1 102 0 x1.toNat))) w))) ∧ (x2 = 6 → (0 ≤ x1 ∧ (x1 < 40 ∧ ((¬ (w.1 102 0 x1.toNat) = (-2147483648) → Q (some (.inl (w.1 103 0 x1.toNat))) w) ∧ ((w.1 102 0 x1.toNat) = (-2147483648) → Q (some (.inl (-2147483648))) w))))))) ∧ (xs0 = 0 → Q (some (.inl (-2147483648))) w))) :
    am_A (mh_G X) SC (d + 1) mX12_told Q 5 [(0, .inr (.inr (some (9, 0)))), (1, .inl x1), (2, .inl x2)] [.inl xs0] w bc bs := by
  refine am_ifne (tgt := 12) dX12_told_5 (by decide) (fun c1 => ?_) (fun c1 => ?_)
  · replace h := h.1 c1
    refine am_iload_n dX12_told_12 (List.Mem.tail _ (List.Mem.tail _ (List.Mem.head _))) ?_
    by_cases c2 : x2 < 0 ∨ 6 < x2
    · replace h := h.1 c2
      refine am_tswOut (tgt := 155) dX12_told_13 c2 (by decide) ?_
      refine am_ldcwV (n := (-2147483648)) dX12_told_155 (by decide) wd_1887 (by unfold am_rg; omega) ?_
      exact am_ret (r := some (.inl (-2147483648))) dX12_told_158 (Or.inl rfl) rfl h
    · replace h := h.2
      rcases (show x2 = 0 ∨ x2 = 1 ∨ x2 = 2 ∨ x2 = 3 ∨ x2 = 4 ∨ x2 = 5 ∨ x2 = 6 by omega) with c2 | c2 | c2 | c2 | c2 | c2 | c2
      · replace h := h.1 c2
        refine am_tswIn (off := 43) (tgt := 56) dX12_told_13 (by omega) (by omega) (by rw [c2]; decide) (by decide) ?_
        refine am_aload_n dX12_told_56 (List.Mem.head _) ?_
        refine am_getf (f := 34) (v := .inr (.inr (some (96, 0)))) dX12_told_57 hc_10 (by decide) wd_1583 (by decide) rfl rfl ?_
        refine am_iload_n dX12_told_60 (List.Mem.tail _ (List.Mem.head _)) ?_
        have o3 := h.1
        replace h := h.2
        have o4 := h.1
        replace h := h.2
        refine am_iaload (v := (w.1 96 0 x1.toNat)) dX12_told_61 (by decide) rfl o3 o4 rfl ?_
        exact am_ret (r := some (.inl (w.1 96 0 x1.toNat))) dX12_told_62 (Or.inl rfl) rfl h
      · replace h := h.2.1 c2
        refine am_tswIn (off := 50) (tgt := 63) dX12_told_13 (by omega) (by omega) (by rw [c2]; decide) (by decide) ?_
        refine am_aload_n dX12_told_63 (List.Mem.head _) ?_
        refine am_getf (f := 35) (v := .inr (.inr (some (97, 0)))) dX12_told_64 hc_10 (by decide) wd_1584 (by decide) rfl rfl ?_
        refine am_iload_n dX12_told_67 (List.Mem.tail _ (List.Mem.head _)) ?_
        have o5 := h.1
        replace h := h.2
        have o6 := h.1
        replace h := h.2
        refine am_iaload (v := (w.1 97 0 x1.toNat)) dX12_told_68 (by decide) rfl o5 o6 rfl ?_
        exact am_ret (r := some (.inl (w.1 97 0 x1.toNat))) dX12_told_69 (Or.inl rfl) rfl h
      · replace h := h.2.2.1 c2
        refine am_tswIn (off := 57) (tgt := 70) dX12_told_13 (by omega) (by omega) (by rw [c2]; decide) (by decide) ?_
        refine am_aload_n dX12_told_70 (List.Mem.head _) ?_
        refine am_getf (f := 36) (v := .inr (.inr (some (98, 0)))) dX12_told_71 hc_10 (by decide) wd_1585 (by decide) rfl rfl ?_
        refine am_iload_n dX12_told_74 (List.Mem.tail _ (List.Mem.head _)) ?_
        have o7 := h.1
        replace h := h.2
        have o8 := h.1
        replace h := h.2
        refine am_iaload (v := (w.1 98 0 x1.toNat)) dX12_told_75 (by decide) rfl o7 o8 rfl ?_
        refine am_iconst dX12_told_76 (by unfold am_rg; omega) ?_
        refine am_icmpne (tgt := 86) dX12_told_77 (by decide) (fun c9 => ?_) (fun c9 => ?_)
        · replace h := h.1 c9
          refine am_aload_n dX12_told_86 (List.Mem.head _) ?_
          refine am_getf (f := 36) (v := .inr (.inr (some (98, 0)))) dX12_told_87 hc_10 (by decide) wd_1585 (by decide) rfl rfl ?_
          refine am_iload_n dX12_told_90 (List.Mem.tail _ (List.Mem.head _)) ?_
          refine am_iaload (v := (w.1 98 0 x1.toNat)) dX12_told_91 (by decide) rfl o7 o8 rfl ?_
          exact am_ret (r := some (.inl (w.1 98 0 x1.toNat))) dX12_told_92 (Or.inl rfl) rfl h
        · replace h := h.2 c9
          refine am_ldcwV (n := (-2147483648)) dX12_told_80 (by decide) wd_1887 (by unfold am_rg; omega) ?_
          refine am_goto (tgt := 92) dX12_told_83 (by decide) ?_
          exact am_ret (r := some (.inl (-2147483648))) dX12_told_92 (Or.inl rfl) rfl h
      · replace h := h.2.2.2.1 c2
        refine am_tswIn (off := 80) (tgt := 93) dX12_told_13 (by omega) (by omega) (by rw [c2]; decide) (by decide) ?_
        refine am_aload_n dX12_told_93 (List.Mem.head _) ?_
        refine am_getf (f := 37) (v := .inr (.inr (some (99, 0)))) dX12_told_94 hc_10 (by decide) wd_1586 (by decide) rfl rfl ?_
        refine am_iload_n dX12_told_97 (List.Mem.tail _ (List.Mem.head _)) ?_
        have o10 := h.1
        replace h := h.2
        have o11 := h.1
        replace h := h.2
        refine am_iaload (v := (w.1 99 0 x1.toNat)) dX12_told_98 (by decide) rfl o10 o11 rfl ?_
        refine am_iconst dX12_told_99 (by unfold am_rg; omega) ?_
        refine am_icmpne (tgt := 109) dX12_told_100 (by decide) (fun c12 => ?_) (fun c12 => ?_)
        · replace h := h.1 c12
          refine am_aload_n dX12_told_109 (List.Mem.head _) ?_
          refine am_getf (f := 37) (v := .inr (.inr (some (99, 0)))) dX12_told_110 hc_10 (by decide) wd_1586 (by decide) rfl rfl ?_
          refine am_iload_n dX12_told_113 (List.Mem.tail _ (List.Mem.head _)) ?_
          refine am_iaload (v := (w.1 99 0 x1.toNat)) dX12_told_114 (by decide) rfl o10 o11 rfl ?_
          exact am_ret (r := some (.inl (w.1 99 0 x1.toNat))) dX12_told_115 (Or.inl rfl) rfl h
        · replace h := h.2 c12
          refine am_ldcwV (n := (-2147483648)) dX12_told_103 (by decide) wd_1887 (by unfold am_rg; omega) ?_
          refine am_goto (tgt := 115) dX12_told_106 (by decide) ?_
          exact am_ret (r := some (.inl (-2147483648))) dX12_told_115 (Or.inl rfl) rfl h
      · replace h := h.2.2.2.2.1 c2
        refine am_tswIn (off := 103) (tgt := 116) dX12_told_13 (by omega) (by omega) (by rw [c2]; decide) (by decide) ?_
        refine am_aload_n dX12_told_116 (List.Mem.head _) ?_
        refine am_getf (f := 38) (v := .inr (.inr (some (100, 0)))) dX12_told_117 hc_10 (by decide) wd_1587 (by decide) rfl rfl ?_
        refine am_iload_n dX12_told_120 (List.Mem.tail _ (List.Mem.head _)) ?_
        have o13 := h.1
        replace h := h.2
        have o14 := h.1
        replace h := h.2
        refine am_iaload (v := (w.1 100 0 x1.toNat)) dX12_told_121 (by decide) rfl o13 o14 rfl ?_
        exact am_ret (r := some (.inl (w.1 100 0 x1.toNat))) dX12_told_122 (Or.inl rfl) rfl h
      · replace h := h.2.2.2.2.2.1 c2
        refine am_tswIn (off := 110) (tgt := 123) dX12_told_13 (by omega) (by omega) (by rw [c2]; decide) (by decide) ?_
        refine am_aload_n dX12_told_123 (List.Mem.head _) ?_
        refine am_getf (f := 40) (v := .inr (.inr (some (102, 0)))) dX12_told_124 hc_10 (by decide) wd_1589 (by decide) rfl rfl ?_
        refine am_iload_n dX12_told_127 (List.Mem.tail _ (List.Mem.head _)) ?_
        have o15 := h.1
        replace h := h.2
        have o16 := h.1
        replace h := h.2
        refine am_iaload (v := (w.1 102 0 x1.toNat)) dX12_told_128 (by decide) rfl o15 o16 rfl ?_
        exact am_ret (r := some (.inl (w.1 102 0 x1.toNat))) dX12_told_129 (Or.inl rfl) rfl h
      · replace h := h.2.2.2.2.2.2 c2
        refine am_tswIn (off := 117) (tgt := 130) dX12_told_13 (by omega) (by omega) (by rw [c2]; decide) (by decide) ?_
        refine am_aload_n dX12_told_130 (List.Mem.head _) ?_
        refine am_getf (f := 40) (v := .inr (.inr (some (102, 0)))) dX12_told_131 hc_10 (by decide) wd_1589 (by decide) rfl rfl ?_
        refine am_iload_n dX12_told_134 (List.Mem.tail _ (List.Mem.head _)) ?_
        have o17 := h.1
        replace h := h.2
        have o18 := h.1
        replace h := h.2
        refine am_iaload (v := (w.1 102 0 x1.toNat)) dX12_told_135 (by decide) rfl o17 o18 rfl ?_
        refine am_ldcwV (n := (-2147483648)) dX12_told_136 (by decide) wd_1887 (by unfold am_rg; omega) ?_
        refine am_icmpne (tgt := 148) dX12_told_139 (by decide) (fun c19 => ?_) (fun c19 => ?_)
        · replace h := h.1 c19
          refine am_aload_n dX12_told_148 (List.Mem.head _) ?_
          refine am_getf (f := 41) (v := .inr (.inr (some (103, 0)))) dX12_told_149 hc_10 (by decide) wd_1590 (by decide) rfl rfl ?_
          refine am_iload_n dX12_told_152 (List.Mem.tail _ (List.Mem.head _)) ?_
          refine am_iaload (v := (w.1 103 0 x1.toNat)) dX12_told_153 (by decide) rfl o17 o18 rfl ?_
          exact am_ret (r := some (.inl (w.1 103 0 x1.toNat))) dX12_told_154 (Or.inl rfl) rfl h
        · replace h := h.2 c19
          refine am_ldcwV (n := (-2147483648)) dX12_told_142 (by decide) wd_1887 (by unfold am_rg; omega) ?_
          refine am_goto (tgt := 154) dX12_told_145 (by decide) ?_
          exact am_ret (r := some (.inl (-2147483648))) dX12_told_154 (Or.inl rfl) rfl h
  · replace h := h.2 c1
    refine am_ldcwV (n := (-2147483648)) dX12_told_8 (by decide) wd_1887 (by unfold am_rg; omega) ?_
    exact am_ret (r := some (.inl (-2147483648))) dX12_told_11 (Or.inl rfl) rfl h
-- MourningHouseModel.count(I)I
theorem dX12_count_0 : decode mX12_count.2.1 0 = .ok (.iload_n 1, 1) := by decide +kernel
theorem dX12_count_1 : decode mX12_count.2.1 1 = .ok (.bipush 10, 2) := by decide +kernel
theorem dX12_count_3 : decode mX12_count.2.1 3 = .ok (.bipush 14, 2) := by decide +kernel
theorem dX12_count_5 : decode mX12_count.2.1 5 = .ok (.invokestatic 318, 3) := by decide +kernel
theorem dX12_count_8 : decode mX12_count.2.1 8 = .ok (.ifCond .eq 13, 3) := by decide +kernel
theorem dX12_count_11 : decode mX12_count.2.1 11 = .ok (.aload_n 0, 1) := by decide +kernel
theorem dX12_count_12 : decode mX12_count.2.1 12 = .ok (.getfield 243, 3) := by decide +kernel
theorem dX12_count_15 : decode mX12_count.2.1 15 = .ok (.iload_n 1, 1) := by decide +kernel
theorem dX12_count_16 : decode mX12_count.2.1 16 = .ok (.bipush 10, 2) := by decide +kernel
theorem dX12_count_18 : decode mX12_count.2.1 18 = .ok (.isub, 1) := by decide +kernel
theorem dX12_count_19 : decode mX12_count.2.1 19 = .ok (.iaload, 1) := by decide +kernel
theorem dX12_count_20 : decode mX12_count.2.1 20 = .ok (.ireturn, 1) := by decide +kernel
theorem dX12_count_21 : decode mX12_count.2.1 21 = .ok (.iload_n 1, 1) := by decide +kernel
theorem dX12_count_22 : decode mX12_count.2.1 22 = .ok (.tableswitch 104 0 9 #[54, 59, 64, 69, 74, 79, 84, 89, 94, 99], 54) := by decide +kernel
theorem dX12_count_76 : decode mX12_count.2.1 76 = .ok (.aload_n 0, 1) := by decide +kernel
theorem dX12_count_77 : decode mX12_count.2.1 77 = .ok (.getfield 444, 3) := by decide +kernel
theorem dX12_count_80 : decode mX12_count.2.1 80 = .ok (.ireturn, 1) := by decide +kernel
theorem dX12_count_81 : decode mX12_count.2.1 81 = .ok (.aload_n 0, 1) := by decide +kernel
theorem dX12_count_82 : decode mX12_count.2.1 82 = .ok (.getfield 447, 3) := by decide +kernel
theorem dX12_count_85 : decode mX12_count.2.1 85 = .ok (.ireturn, 1) := by decide +kernel
theorem dX12_count_86 : decode mX12_count.2.1 86 = .ok (.aload_n 0, 1) := by decide +kernel
theorem dX12_count_87 : decode mX12_count.2.1 87 = .ok (.getfield 435, 3) := by decide +kernel
theorem dX12_count_90 : decode mX12_count.2.1 90 = .ok (.ireturn, 1) := by decide +kernel
theorem dX12_count_91 : decode mX12_count.2.1 91 = .ok (.aload_n 0, 1) := by decide +kernel
theorem dX12_count_92 : decode mX12_count.2.1 92 = .ok (.getfield 456, 3) := by decide +kernel
theorem dX12_count_95 : decode mX12_count.2.1 95 = .ok (.ireturn, 1) := by decide +kernel
theorem dX12_count_96 : decode mX12_count.2.1 96 = .ok (.aload_n 0, 1) := by decide +kernel
theorem dX12_count_97 : decode mX12_count.2.1 97 = .ok (.getfield 459, 3) := by decide +kernel
theorem dX12_count_100 : decode mX12_count.2.1 100 = .ok (.ireturn, 1) := by decide +kernel
theorem dX12_count_101 : decode mX12_count.2.1 101 = .ok (.aload_n 0, 1) := by decide +kernel
theorem dX12_count_102 : decode mX12_count.2.1 102 = .ok (.getfield 573, 3) := by decide +kernel
theorem dX12_count_105 : decode mX12_count.2.1 105 = .ok (.ireturn, 1) := by decide +kernel
theorem dX12_count_106 : decode mX12_count.2.1 106 = .ok (.aload_n 0, 1) := by decide +kernel
theorem dX12_count_107 : decode mX12_count.2.1 107 = .ok (.getfield 582, 3) := by decide +kernel
theorem dX12_count_110 : decode mX12_count.2.1 110 = .ok (.ireturn, 1) := by decide +kernel
theorem dX12_count_111 : decode mX12_count.2.1 111 = .ok (.aload_n 0, 1) := by decide +kernel
theorem dX12_count_112 : decode mX12_count.2.1 112 = .ok (.getfield 576, 3) := by decide +kernel
theorem dX12_count_115 : decode mX12_count.2.1 115 = .ok (.ireturn, 1) := by decide +kernel
theorem dX12_count_116 : decode mX12_count.2.1 116 = .ok (.aload_n 0, 1) := by decide +kernel
theorem dX12_count_117 : decode mX12_count.2.1 117 = .ok (.getfield 588, 3) := by decide +kernel
theorem dX12_count_120 : decode mX12_count.2.1 120 = .ok (.ireturn, 1) := by decide +kernel
theorem dX12_count_121 : decode mX12_count.2.1 121 = .ok (.aload_n 0, 1) := by decide +kernel
theorem dX12_count_122 : decode mX12_count.2.1 122 = .ok (.getfield 329, 3) := by decide +kernel
theorem dX12_count_125 : decode mX12_count.2.1 125 = .ok (.ireturn, 1) := by decide +kernel
theorem dX12_count_126 : decode mX12_count.2.1 126 = .ok (.iconst (-1), 1) := by decide +kernel
theorem dX12_count_127 : decode mX12_count.2.1 127 = .ok (.ireturn, 1) := by decide +kernel
theorem bX12_count_0 {SC : Nat → Nat} {X : mh_X} {d : Nat} {Q : Option am_V → am_W → Prop} {bc bs : Nat} {w : am_W} {x1 : Int}
    (h : am_M (mh_G X) SC d 0 0 mX12_in [.inl x1, .inl 10, .inl 14] w (fun r w1 => am_A (mh_G X) SC (d + 1) mX12_count Q 8 [(0, .inr (.inr (some (9, 0)))), (1, .inl x1)] (r.toList ++ []) w1 bc bs)) :
    am_A (mh_G X) SC (d + 1) mX12_count Q 0 [(0, .inr (.inr (some (9, 0)))), (1, .inl x1)] [] w bc bs := by
  refine am_iload_n dX12_count_0 (List.Mem.tail _ (List.Mem.head _)) ?_
  refine am_bipush dX12_count_1 (by decide) (by unfold am_rg; omega) ?_
  refine am_bipush dX12_count_3 (by decide) (by unfold am_rg; omega) ?_
  exact am_calls (d' := d) (kc := 0) (ks := 0) (as := [.inl x1, .inl 10, .inl 14]) dX12_count_5 wc_X12_in wd_1859 wd_1860 wd_122 ds_X12_in (by decide) (Nat.le_refl _) (Nat.le_of_ble_eq_true rfl) (Nat.zero_le _) (Nat.zero_le _) rfl h
theorem bX12_count_8 {SC : Nat → Nat} {X : mh_X} {d : Nat} {Q : Option am_V → am_W → Prop} {bc bs : Nat} {w : am_W} {x1 : Int} {xs0 : Int}
    (h : ((xs0 = 0 → (((x1 < 0 ∨ 9 < x1) → Q (some (.inl (-1))) w) ∧ (x1 = 0 → Q (some (.inl (w.1 9 0 33))) w) ∧ (x1 = 1 → Q (some (.inl (w.1 9 0 42))) w) ∧ (x1 = 2 → Q (some (.inl (w.1 9 0 21))) w) ∧ (x1 = 3 → Q (some (.inl (w.1 9 0 47))) w) ∧ (x1 = 4 → Q (some (.inl (w.1 9 0 52))) w) ∧ (x1 = 5 → Q (some (.inl (w.1 9 0 70))) w) ∧ (x1 = 6 → Q (some (.inl (w.1 9 0 75))) w) ∧ (x1 = 7 → Q (some (.inl (w.1 9 0 81))) w) ∧ (x1 = 8 → Q (some (.inl (w.1 9 0 76))) w) ∧ (x1 = 9 → Q (some (.inl (w.1 9 0 1))) w))) ∧ (¬ xs0 = 0 → (0 ≤ (am_w (x1 - 10)) ∧ ((am_w (x1 - 10)) < 5 ∧ Q (some (.inl (w.1 128 0 (am_w (x1 - 10)).toNat))) w))))) :
    am_A (mh_G X) SC (d + 1) mX12_count Q 8 [(0, .inr (.inr (some (9, 0)))), (1, .inl x1)] [.inl xs0] w bc bs := by
  refine am_ifeq (tgt := 21) dX12_count_8 (by decide) (fun c1 => ?_) (fun c1 => ?_)
  · replace h := h.1 c1
    refine am_iload_n dX12_count_21 (List.Mem.tail _ (List.Mem.head _)) ?_
    by_cases c2 : x1 < 0 ∨ 9 < x1
    · replace h := h.1 c2
      refine am_tswOut (tgt := 126) dX12_count_22 c2 (by decide) ?_
      refine am_iconst dX12_count_126 (by unfold am_rg; omega) ?_
      exact am_ret (r := some (.inl (-1))) dX12_count_127 (Or.inl rfl) rfl h
    · replace h := h.2
      rcases (show x1 = 0 ∨ x1 = 1 ∨ x1 = 2 ∨ x1 = 3 ∨ x1 = 4 ∨ x1 = 5 ∨ x1 = 6 ∨ x1 = 7 ∨ x1 = 8 ∨ x1 = 9 by omega) with c2 | c2 | c2 | c2 | c2 | c2 | c2 | c2 | c2 | c2
      · replace h := h.1 c2
        refine am_tswIn (off := 54) (tgt := 76) dX12_count_22 (by omega) (by omega) (by rw [c2]; decide) (by decide) ?_
        refine am_aload_n dX12_count_76 (List.Mem.head _) ?_
        refine am_getf (f := 33) (v := .inl (w.1 9 0 33)) dX12_count_77 hc_10 (by decide) wd_1582 (by decide) rfl rfl ?_
        exact am_ret (r := some (.inl (w.1 9 0 33))) dX12_count_80 (Or.inl rfl) rfl h
      · replace h := h.2.1 c2
        refine am_tswIn (off := 59) (tgt := 81) dX12_count_22 (by omega) (by omega) (by rw [c2]; decide) (by decide) ?_
        refine am_aload_n dX12_count_81 (List.Mem.head _) ?_
        refine am_getf (f := 42) (v := .inl (w.1 9 0 42)) dX12_count_82 hc_10 (by decide) wd_1591 (by decide) rfl rfl ?_
        exact am_ret (r := some (.inl (w.1 9 0 42))) dX12_count_85 (Or.inl rfl) rfl h
      · replace h := h.2.2.1 c2
        refine am_tswIn (off := 64) (tgt := 86) dX12_count_22 (by omega) (by omega) (by rw [c2]; decide) (by decide) ?_
        refine am_aload_n dX12_count_86 (List.Mem.head _) ?_
        refine am_getf (f := 21) (v := .inl (w.1 9 0 21)) dX12_count_87 hc_10 (by decide) wd_1570 (by decide) rfl rfl ?_
        exact am_ret (r := some (.inl (w.1 9 0 21))) dX12_count_90 (Or.inl rfl) rfl h
      · replace h := h.2.2.2.1 c2
        refine am_tswIn (off := 69) (tgt := 91) dX12_count_22 (by omega) (by omega) (by rw [c2]; decide) (by decide) ?_
        refine am_aload_n dX12_count_91 (List.Mem.head _) ?_
        refine am_getf (f := 47) (v := .inl (w.1 9 0 47)) dX12_count_92 hc_10 (by decide) wd_1596 (by decide) rfl rfl ?_
        exact am_ret (r := some (.inl (w.1 9 0 47))) dX12_count_95 (Or.inl rfl) rfl h
      · replace h := h.2.2.2.2.1 c2
        refine am_tswIn (off := 74) (tgt := 96) dX12_count_22 (by omega) (by omega) (by rw [c2]; decide) (by decide) ?_
        refine am_aload_n dX12_count_96 (List.Mem.head _) ?_
        refine am_getf (f := 52) (v := .inl (w.1 9 0 52)) dX12_count_97 hc_10 (by decide) wd_1601 (by decide) rfl rfl ?_
        exact am_ret (r := some (.inl (w.1 9 0 52))) dX12_count_100 (Or.inl rfl) rfl h
      · replace h := h.2.2.2.2.2.1 c2
        refine am_tswIn (off := 79) (tgt := 101) dX12_count_22 (by omega) (by omega) (by rw [c2]; decide) (by decide) ?_
        refine am_aload_n dX12_count_101 (List.Mem.head _) ?_
        refine am_getf (f := 70) (v := .inl (w.1 9 0 70)) dX12_count_102 hc_10 (by decide) wd_1619 (by decide) rfl rfl ?_
        exact am_ret (r := some (.inl (w.1 9 0 70))) dX12_count_105 (Or.inl rfl) rfl h
      · replace h := h.2.2.2.2.2.2.1 c2
        refine am_tswIn (off := 84) (tgt := 106) dX12_count_22 (by omega) (by omega) (by rw [c2]; decide) (by decide) ?_
        refine am_aload_n dX12_count_106 (List.Mem.head _) ?_
        refine am_getf (f := 75) (v := .inl (w.1 9 0 75)) dX12_count_107 hc_10 (by decide) wd_1624 (by decide) rfl rfl ?_
        exact am_ret (r := some (.inl (w.1 9 0 75))) dX12_count_110 (Or.inl rfl) rfl h
      · replace h := h.2.2.2.2.2.2.2.1 c2
        refine am_tswIn (off := 89) (tgt := 111) dX12_count_22 (by omega) (by omega) (by rw [c2]; decide) (by decide) ?_
        refine am_aload_n dX12_count_111 (List.Mem.head _) ?_
        refine am_getf (f := 81) (v := .inl (w.1 9 0 81)) dX12_count_112 hc_10 (by decide) wd_1630 (by decide) rfl rfl ?_
        exact am_ret (r := some (.inl (w.1 9 0 81))) dX12_count_115 (Or.inl rfl) rfl h
      · replace h := h.2.2.2.2.2.2.2.2.1 c2
        refine am_tswIn (off := 94) (tgt := 116) dX12_count_22 (by omega) (by omega) (by rw [c2]; decide) (by decide) ?_
        refine am_aload_n dX12_count_116 (List.Mem.head _) ?_
        refine am_getf (f := 76) (v := .inl (w.1 9 0 76)) dX12_count_117 hc_10 (by decide) wd_1625 (by decide) rfl rfl ?_
        exact am_ret (r := some (.inl (w.1 9 0 76))) dX12_count_120 (Or.inl rfl) rfl h
      · replace h := h.2.2.2.2.2.2.2.2.2 c2
        refine am_tswIn (off := 99) (tgt := 121) dX12_count_22 (by omega) (by omega) (by rw [c2]; decide) (by decide) ?_
        refine am_aload_n dX12_count_121 (List.Mem.head _) ?_
        refine am_getf (f := 1) (v := .inl (w.1 9 0 1)) dX12_count_122 hc_10 (by decide) wd_1550 (by decide) rfl rfl ?_
        exact am_ret (r := some (.inl (w.1 9 0 1))) dX12_count_125 (Or.inl rfl) rfl h
  · replace h := h.2 c1
    refine am_aload_n dX12_count_11 (List.Mem.head _) ?_
    refine am_getf (f := 74) (v := .inr (.inr (some (128, 0)))) dX12_count_12 hc_10 (by decide) wd_1623 (by decide) rfl rfl ?_
    refine am_iload_n dX12_count_15 (List.Mem.tail _ (List.Mem.head _)) ?_
    refine am_bipush dX12_count_16 (by decide) (by unfold am_rg; omega) ?_
    refine am_isub dX12_count_18 ?_
    have o3 := h.1
    replace h := h.2
    have o4 := h.1
    replace h := h.2
    refine am_iaload (v := (w.1 128 0 (am_w (x1 - 10)).toNat)) dX12_count_19 (by decide) rfl o3 o4 rfl ?_
    exact am_ret (r := some (.inl (w.1 128 0 (am_w (x1 - 10)).toNat))) dX12_count_20 (Or.inl rfl) rfl h
