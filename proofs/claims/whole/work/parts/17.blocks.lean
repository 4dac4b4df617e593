-- MourningHouseModel.lengthOf(II)I
theorem dX12_lengthOf_0 : decode mX12_lengthOf.2.1 0 = .ok (.iload_n 1, 1) := by decide +kernel
theorem dX12_lengthOf_1 : decode mX12_lengthOf.2.1 1 = .ok (.iconst 2, 1) := by decide +kernel
theorem dX12_lengthOf_2 : decode mX12_lengthOf.2.1 2 = .ok (.if_icmp .ne 18, 3) := by decide +kernel
theorem dX12_lengthOf_5 : decode mX12_lengthOf.2.1 5 = .ok (.iload_n 0, 1) := by decide +kernel
theorem dX12_lengthOf_6 : decode mX12_lengthOf.2.1 6 = .ok (.invokestatic 291, 3) := by decide +kernel
theorem dX12_lengthOf_9 : decode mX12_lengthOf.2.1 9 = .ok (.ifCond .eq 8, 3) := by decide +kernel
theorem dX12_lengthOf_12 : decode mX12_lengthOf.2.1 12 = .ok (.bipush 29, 2) := by decide +kernel
theorem dX12_lengthOf_14 : decode mX12_lengthOf.2.1 14 = .ok (.goto 5, 3) := by decide +kernel
theorem dX12_lengthOf_17 : decode mX12_lengthOf.2.1 17 = .ok (.bipush 28, 2) := by decide +kernel
theorem dX12_lengthOf_19 : decode mX12_lengthOf.2.1 19 = .ok (.ireturn, 1) := by decide +kernel
theorem dX12_lengthOf_20 : decode mX12_lengthOf.2.1 20 = .ok (.iload_n 1, 1) := by decide +kernel
theorem dX12_lengthOf_21 : decode mX12_lengthOf.2.1 21 = .ok (.iconst 4, 1) := by decide +kernel
theorem dX12_lengthOf_22 : decode mX12_lengthOf.2.1 22 = .ok (.if_icmp .eq 21, 3) := by decide +kernel
theorem dX12_lengthOf_25 : decode mX12_lengthOf.2.1 25 = .ok (.iload_n 1, 1) := by decide +kernel
theorem dX12_lengthOf_26 : decode mX12_lengthOf.2.1 26 = .ok (.bipush 6, 2) := by decide +kernel
theorem dX12_lengthOf_28 : decode mX12_lengthOf.2.1 28 = .ok (.if_icmp .eq 15, 3) := by decide +kernel
theorem dX12_lengthOf_31 : decode mX12_lengthOf.2.1 31 = .ok (.iload_n 1, 1) := by decide +kernel
theorem dX12_lengthOf_32 : decode mX12_lengthOf.2.1 32 = .ok (.bipush 9, 2) := by decide +kernel
theorem dX12_lengthOf_34 : decode mX12_lengthOf.2.1 34 = .ok (.if_icmp .eq 9, 3) := by decide +kernel
theorem dX12_lengthOf_37 : decode mX12_lengthOf.2.1 37 = .ok (.iload_n 1, 1) := by decide +kernel
theorem dX12_lengthOf_38 : decode mX12_lengthOf.2.1 38 = .ok (.bipush 11, 2) := by decide +kernel
theorem dX12_lengthOf_40 : decode mX12_lengthOf.2.1 40 = .ok (.if_icmp .ne 8, 3) := by decide +kernel
theorem dX12_lengthOf_43 : decode mX12_lengthOf.2.1 43 = .ok (.bipush 30, 2) := by decide +kernel
theorem dX12_lengthOf_45 : decode mX12_lengthOf.2.1 45 = .ok (.goto 5, 3) := by decide +kernel
theorem dX12_lengthOf_48 : decode mX12_lengthOf.2.1 48 = .ok (.bipush 31, 2) := by decide +kernel
theorem dX12_lengthOf_50 : decode mX12_lengthOf.2.1 50 = .ok (.ireturn, 1) := by decide +kernel
theorem sX12_lengthOf {SC : Nat → Nat} {X : mh_X} {d kc ks : Nat} {Q : Option am_V → am_W → Prop} {w : am_W} {x0 : Int} {x1 : Int}
    (h : Q (some (.inl (if x1 = 2 then (if ((am_w (Int.tmod x0 4)) = 0 ∧ (¬ (am_w (Int.tmod x0 100)) = 0 ∨ ((am_w (Int.tmod x0 400)) = 0))) then 29 else 28) else (if x1 = 4 then 30 else (if x1 = 6 then 30 else (if x1 = 9 then 30 else (if x1 = 11 then 30 else 31))))))) w) : am_M (mh_G X) SC (d + 2) kc ks mX12_lengthOf [.inl x0, .inl x1] w Q := by
  refine am_M_of (by decide) (Nat.le_of_ble_eq_true rfl) ?_
  show am_A (mh_G X) SC (d + 2) mX12_lengthOf Q 0 [(0, .inl x0), (1, .inl x1)] [] w kc ks
  refine am_iload_n dX12_lengthOf_0 (List.Mem.tail _ (List.Mem.head _)) ?_
  refine am_iconst dX12_lengthOf_1 (by unfold am_rg; omega) ?_
  refine am_icmpne (tgt := 20) dX12_lengthOf_2 (by decide) (fun c1 => ?_) (fun c1 => ?_)
  · refine am_iload_n dX12_lengthOf_20 (List.Mem.tail _ (List.Mem.head _)) ?_
    refine am_iconst dX12_lengthOf_21 (by unfold am_rg; omega) ?_
    refine am_icmpeq (tgt := 43) dX12_lengthOf_22 (by decide) (fun c2 => ?_) (fun c2 => ?_)
    · refine am_bipush dX12_lengthOf_43 (by decide) (by unfold am_rg; omega) ?_
      refine am_goto (tgt := 50) dX12_lengthOf_45 (by decide) ?_
      rw [show ((if x1 = 2 then (if ((am_w (Int.tmod x0 4)) = 0 ∧ (¬ (am_w (Int.tmod x0 100)) = 0 ∨ ((am_w (Int.tmod x0 400)) = 0))) then 29 else 28) else (if x1 = 4 then 30 else (if x1 = 6 then 30 else (if x1 = 9 then 30 else (if x1 = 11 then 30 else 31))))) : Int) = 30 from (if_neg c1).trans (if_pos c2)] at h
      exact am_ret (r := some (.inl 30)) dX12_lengthOf_50 (Or.inl rfl) rfl h
    · refine am_iload_n dX12_lengthOf_25 (List.Mem.tail _ (List.Mem.head _)) ?_
      refine am_bipush dX12_lengthOf_26 (by decide) (by unfold am_rg; omega) ?_
      refine am_icmpeq (tgt := 43) dX12_lengthOf_28 (by decide) (fun c3 => ?_) (fun c3 => ?_)
      · refine am_bipush dX12_lengthOf_43 (by decide) (by unfold am_rg; omega) ?_
        refine am_goto (tgt := 50) dX12_lengthOf_45 (by decide) ?_
        rw [show ((if x1 = 2 then (if ((am_w (Int.tmod x0 4)) = 0 ∧ (¬ (am_w (Int.tmod x0 100)) = 0 ∨ ((am_w (Int.tmod x0 400)) = 0))) then 29 else 28) else (if x1 = 4 then 30 else (if x1 = 6 then 30 else (if x1 = 9 then 30 else (if x1 = 11 then 30 else 31))))) : Int) = 30 from (if_neg c1).trans ((if_neg c2).trans (if_pos c3))] at h
        exact am_ret (r := some (.inl 30)) dX12_lengthOf_50 (Or.inl rfl) rfl h
      · refine am_iload_n dX12_lengthOf_31 (List.Mem.tail _ (List.Mem.head _)) ?_
        refine am_bipush dX12_lengthOf_32 (by decide) (by unfold am_rg; omega) ?_
        refine am_icmpeq (tgt := 43) dX12_lengthOf_34 (by decide) (fun c4 => ?_) (fun c4 => ?_)
        · refine am_bipush dX12_lengthOf_43 (by decide) (by unfold am_rg; omega) ?_
          refine am_goto (tgt := 50) dX12_lengthOf_45 (by decide) ?_
          rw [show ((if x1 = 2 then (if ((am_w (Int.tmod x0 4)) = 0 ∧ (¬ (am_w (Int.tmod x0 100)) = 0 ∨ ((am_w (Int.tmod x0 400)) = 0))) then 29 else 28) else (if x1 = 4 then 30 else (if x1 = 6 then 30 else (if x1 = 9 then 30 else (if x1 = 11 then 30 else 31))))) : Int) = 30 from (if_neg c1).trans ((if_neg c2).trans ((if_neg c3).trans (if_pos c4)))] at h
          exact am_ret (r := some (.inl 30)) dX12_lengthOf_50 (Or.inl rfl) rfl h
        · refine am_iload_n dX12_lengthOf_37 (List.Mem.tail _ (List.Mem.head _)) ?_
          refine am_bipush dX12_lengthOf_38 (by decide) (by unfold am_rg; omega) ?_
          refine am_icmpne (tgt := 48) dX12_lengthOf_40 (by decide) (fun c5 => ?_) (fun c5 => ?_)
          · refine am_bipush dX12_lengthOf_48 (by decide) (by unfold am_rg; omega) ?_
            rw [show ((if x1 = 2 then (if ((am_w (Int.tmod x0 4)) = 0 ∧ (¬ (am_w (Int.tmod x0 100)) = 0 ∨ ((am_w (Int.tmod x0 400)) = 0))) then 29 else 28) else (if x1 = 4 then 30 else (if x1 = 6 then 30 else (if x1 = 9 then 30 else (if x1 = 11 then 30 else 31))))) : Int) = 31 from (if_neg c1).trans ((if_neg c2).trans ((if_neg c3).trans ((if_neg c4).trans (if_neg c5))))] at h
            exact am_ret (r := some (.inl 31)) dX12_lengthOf_50 (Or.inl rfl) rfl h
          · refine am_bipush dX12_lengthOf_43 (by decide) (by unfold am_rg; omega) ?_
            refine am_goto (tgt := 50) dX12_lengthOf_45 (by decide) ?_
            rw [show ((if x1 = 2 then (if ((am_w (Int.tmod x0 4)) = 0 ∧ (¬ (am_w (Int.tmod x0 100)) = 0 ∨ ((am_w (Int.tmod x0 400)) = 0))) then 29 else 28) else (if x1 = 4 then 30 else (if x1 = 6 then 30 else (if x1 = 9 then 30 else (if x1 = 11 then 30 else 31))))) : Int) = 30 from (if_neg c1).trans ((if_neg c2).trans ((if_neg c3).trans ((if_neg c4).trans (if_pos c5))))] at h
            exact am_ret (r := some (.inl 30)) dX12_lengthOf_50 (Or.inl rfl) rfl h
  · refine am_iload_n dX12_lengthOf_5 (List.Mem.head _) ?_
    refine am_calls (d' := d + 1) (kc := 0) (ks := 0) (as := [.inl x0]) dX12_lengthOf_6 wc_X12_isLeap wd_1877 wd_1878 wd_122 ds_X12_isLeap (by decide) (by omega) (Nat.le_of_ble_eq_true rfl) (Nat.zero_le _) (Nat.zero_le _) rfl (sX12_isLeap (d := d + 0) (x0 := x0)  ?_)
    show am_A (mh_G X) SC (d + 2) mX12_lengthOf Q 9 [(0, .inl x0), (1, .inl x1)] [.inl (if ((am_w (Int.tmod x0 4)) = 0 ∧ (¬ (am_w (Int.tmod x0 100)) = 0 ∨ ((am_w (Int.tmod x0 400)) = 0))) then 1 else 0)] w kc ks
    refine am_ifeq (tgt := 17) dX12_lengthOf_9 (by decide) (fun c6 => ?_) (fun c6 => ?_)
    · replace c6 := am_beq1 c6
      refine am_bipush dX12_lengthOf_17 (by decide) (by unfold am_rg; omega) ?_
      rw [show ((if x1 = 2 then (if ((am_w (Int.tmod x0 4)) = 0 ∧ (¬ (am_w (Int.tmod x0 100)) = 0 ∨ ((am_w (Int.tmod x0 400)) = 0))) then 29 else 28) else (if x1 = 4 then 30 else (if x1 = 6 then 30 else (if x1 = 9 then 30 else (if x1 = 11 then 30 else 31))))) : Int) = 28 from (if_pos c1).trans (if_neg c6)] at h
      exact am_ret (r := some (.inl 28)) dX12_lengthOf_19 (Or.inl rfl) rfl h
    · replace c6 := am_beq2 c6
      refine am_bipush dX12_lengthOf_12 (by decide) (by unfold am_rg; omega) ?_
      refine am_goto (tgt := 19) dX12_lengthOf_14 (by decide) ?_
      rw [show ((if x1 = 2 then (if ((am_w (Int.tmod x0 4)) = 0 ∧ (¬ (am_w (Int.tmod x0 100)) = 0 ∨ ((am_w (Int.tmod x0 400)) = 0))) then 29 else 28) else (if x1 = 4 then 30 else (if x1 = 6 then 30 else (if x1 = 9 then 30 else (if x1 = 11 then 30 else 31))))) : Int) = 29 from (if_pos c1).trans (if_pos c6)] at h
      exact am_ret (r := some (.inl 29)) dX12_lengthOf_19 (Or.inl rfl) rfl h
-- MourningHouseModel.ahead(I)I
theorem dX12_ahead_0 : decode mX12_ahead.2.1 0 = .ok (.iload_n 0, 1) := by decide +kernel
theorem dX12_ahead_1 : decode mX12_ahead.2.1 1 = .ok (.iconst 1, 1) := by decide +kernel
theorem dX12_ahead_2 : decode mX12_ahead.2.1 2 = .ok (.isub, 1) := by decide +kernel
theorem dX12_ahead_3 : decode mX12_ahead.2.1 3 = .ok (.istore_n 1, 1) := by decide +kernel
theorem dX12_ahead_4 : decode mX12_ahead.2.1 4 = .ok (.sipush 365, 3) := by decide +kernel
theorem dX12_ahead_7 : decode mX12_ahead.2.1 7 = .ok (.iload_n 1, 1) := by decide +kernel
theorem dX12_ahead_8 : decode mX12_ahead.2.1 8 = .ok (.imul, 1) := by decide +kernel
theorem dX12_ahead_9 : decode mX12_ahead.2.1 9 = .ok (.iload_n 1, 1) := by decide +kernel
theorem dX12_ahead_10 : decode mX12_ahead.2.1 10 = .ok (.iconst 4, 1) := by decide +kernel
theorem dX12_ahead_11 : decode mX12_ahead.2.1 11 = .ok (.idiv, 1) := by decide +kernel
theorem dX12_ahead_12 : decode mX12_ahead.2.1 12 = .ok (.iadd, 1) := by decide +kernel
theorem dX12_ahead_13 : decode mX12_ahead.2.1 13 = .ok (.iload_n 1, 1) := by decide +kernel
theorem dX12_ahead_14 : decode mX12_ahead.2.1 14 = .ok (.bipush 100, 2) := by decide +kernel
theorem dX12_ahead_16 : decode mX12_ahead.2.1 16 = .ok (.idiv, 1) := by decide +kernel
theorem dX12_ahead_17 : decode mX12_ahead.2.1 17 = .ok (.isub, 1) := by decide +kernel
theorem dX12_ahead_18 : decode mX12_ahead.2.1 18 = .ok (.iload_n 1, 1) := by decide +kernel
theorem dX12_ahead_19 : decode mX12_ahead.2.1 19 = .ok (.sipush 400, 3) := by decide +kernel
theorem dX12_ahead_22 : decode mX12_ahead.2.1 22 = .ok (.idiv, 1) := by decide +kernel
theorem dX12_ahead_23 : decode mX12_ahead.2.1 23 = .ok (.iadd, 1) := by decide +kernel
theorem dX12_ahead_24 : decode mX12_ahead.2.1 24 = .ok (.ireturn, 1) := by decide +kernel
theorem sX12_ahead {SC : Nat → Nat} {X : mh_X} {d kc ks : Nat} {Q : Option am_V → am_W → Prop} {w : am_W} {x0 : Int}
    (h : Q (some (.inl (am_w ((am_w ((am_w ((am_w (365 * (am_w (x0 - 1)))) + (am_w (Int.tdiv (am_w (x0 - 1)) 4)))) - (am_w (Int.tdiv (am_w (x0 - 1)) 100)))) + (am_w (Int.tdiv (am_w (x0 - 1)) 400)))))) w) : am_M (mh_G X) SC (d + 1) kc ks mX12_ahead [.inl x0] w Q := by
  refine am_M_of (by decide) (Nat.le_of_ble_eq_true rfl) ?_
  show am_A (mh_G X) SC (d + 1) mX12_ahead Q 0 [(0, .inl x0)] [] w kc ks
  refine am_iload_n dX12_ahead_0 (List.Mem.head _) ?_
  refine am_iconst dX12_ahead_1 (by unfold am_rg; omega) ?_
  refine am_isub dX12_ahead_2 ?_
  refine am_istore_n (ls' := [(1, .inl (am_w (x0 - 1))), (0, .inl x0)]) dX12_ahead_3 (by decide) rfl ?_
  refine am_sipush dX12_ahead_4 (by decide) (by unfold am_rg; omega) ?_
  refine am_iload_n dX12_ahead_7 (List.Mem.head _) ?_
  refine am_imul dX12_ahead_8 ?_
  refine am_iload_n dX12_ahead_9 (List.Mem.head _) ?_
  refine am_iconst dX12_ahead_10 (by unfold am_rg; omega) ?_
  refine am_idiv dX12_ahead_11 (by decide) ?_
  refine am_iadd dX12_ahead_12 ?_
  refine am_iload_n dX12_ahead_13 (List.Mem.head _) ?_
  refine am_bipush dX12_ahead_14 (by decide) (by unfold am_rg; omega) ?_
  refine am_idiv dX12_ahead_16 (by decide) ?_
  refine am_isub dX12_ahead_17 ?_
  refine am_iload_n dX12_ahead_18 (List.Mem.head _) ?_
  refine am_sipush dX12_ahead_19 (by decide) (by unfold am_rg; omega) ?_
  refine am_idiv dX12_ahead_22 (by decide) ?_
  refine am_iadd dX12_ahead_23 ?_
  exact am_ret (r := some (.inl (am_w ((am_w ((am_w ((am_w (365 * (am_w (x0 - 1)))) + (am_w (Int.tdiv (am_w (x0 - 1)) 4)))) - (am_w (Int.tdiv (am_w (x0 - 1)) 100)))) + (am_w (Int.tdiv (am_w (x0 - 1)) 400)))))) dX12_ahead_24 (Or.inl rfl) rfl h
-- MourningHouseModel.dayOf(III)I
theorem dX12_dayOf_0 : decode mX12_dayOf.2.1 0 = .ok (.iload_n 0, 1) := by decide +kernel
theorem dX12_dayOf_1 : decode mX12_dayOf.2.1 1 = .ok (.invokestatic 295, 3) := by decide +kernel
theorem dX12_dayOf_4 : decode mX12_dayOf.2.1 4 = .ok (.sipush 1800, 3) := by decide +kernel
theorem dX12_dayOf_7 : decode mX12_dayOf.2.1 7 = .ok (.invokestatic 295, 3) := by decide +kernel
theorem dX12_dayOf_10 : decode mX12_dayOf.2.1 10 = .ok (.isub, 1) := by decide +kernel
theorem dX12_dayOf_11 : decode mX12_dayOf.2.1 11 = .ok (.istore_n 3, 1) := by decide +kernel
theorem dX12_dayOf_12 : decode mX12_dayOf.2.1 12 = .ok (.iconst 1, 1) := by decide +kernel
theorem dX12_dayOf_13 : decode mX12_dayOf.2.1 13 = .ok (.istore 4, 2) := by decide +kernel
theorem dX12_dayOf_15 : decode mX12_dayOf.2.1 15 = .ok (.iload 4, 2) := by decide +kernel
theorem dX12_dayOf_17 : decode mX12_dayOf.2.1 17 = .ok (.iload_n 1, 1) := by decide +kernel
theorem dX12_dayOf_18 : decode mX12_dayOf.2.1 18 = .ok (.if_icmp .ge 18, 3) := by decide +kernel
theorem dX12_dayOf_21 : decode mX12_dayOf.2.1 21 = .ok (.iload_n 3, 1) := by decide +kernel
theorem dX12_dayOf_22 : decode mX12_dayOf.2.1 22 = .ok (.iload_n 0, 1) := by decide +kernel
theorem dX12_dayOf_23 : decode mX12_dayOf.2.1 23 = .ok (.iload 4, 2) := by decide +kernel
theorem dX12_dayOf_25 : decode mX12_dayOf.2.1 25 = .ok (.invokestatic 299, 3) := by decide +kernel
theorem dX12_dayOf_28 : decode mX12_dayOf.2.1 28 = .ok (.iadd, 1) := by decide +kernel
theorem dX12_dayOf_29 : decode mX12_dayOf.2.1 29 = .ok (.istore_n 3, 1) := by decide +kernel
theorem dX12_dayOf_30 : decode mX12_dayOf.2.1 30 = .ok (.iinc 4 1, 3) := by decide +kernel
theorem dX12_dayOf_33 : decode mX12_dayOf.2.1 33 = .ok (.goto (-18), 3) := by decide +kernel
theorem dX12_dayOf_36 : decode mX12_dayOf.2.1 36 = .ok (.iload_n 3, 1) := by decide +kernel
theorem dX12_dayOf_37 : decode mX12_dayOf.2.1 37 = .ok (.iload_n 2, 1) := by decide +kernel
theorem dX12_dayOf_38 : decode mX12_dayOf.2.1 38 = .ok (.iadd, 1) := by decide +kernel
theorem dX12_dayOf_39 : decode mX12_dayOf.2.1 39 = .ok (.iconst 1, 1) := by decide +kernel
theorem dX12_dayOf_40 : decode mX12_dayOf.2.1 40 = .ok (.isub, 1) := by decide +kernel
theorem dX12_dayOf_41 : decode mX12_dayOf.2.1 41 = .ok (.ireturn, 1) := by decide +kernel
theorem bX12_dayOf_0 {SC : Nat → Nat} {X : mh_X} {d : Nat} {Q : Option am_V → am_W → Prop} {bc bs : Nat} {w : am_W} {x0 : Int} {x1 : Int} {x2 : Int}
    (h : (∀ n1 : Int, n1 = (am_w ((am_w ((am_w ((am_w ((am_w (365 * (am_w (x0 - 1)))) + (am_w (Int.tdiv (am_w (x0 - 1)) 4)))) - (am_w (Int.tdiv (am_w (x0 - 1)) 100)))) + (am_w (Int.tdiv (am_w (x0 - 1)) 400)))) - (am_w ((am_w ((am_w ((am_w (365 * (am_w ((1800 : Int) - 1)))) + (am_w (Int.tdiv (am_w ((1800 : Int) - 1)) 4)))) - (am_w (Int.tdiv (am_w ((1800 : Int) - 1)) 100)))) + (am_w (Int.tdiv (am_w ((1800 : Int) - 1)) 400)))))) → am_A (mh_G X) SC (d + 3) mX12_dayOf Q 15 [(0, .inl x0), (1, .inl x1), (2, .inl x2), (3, .inl n1), (4, .inl 1)] [] w bc bs)) :
    am_A (mh_G X) SC (d + 3) mX12_dayOf Q 0 [(0, .inl x0), (1, .inl x1), (2, .inl x2)] [] w bc bs := by
  refine am_iload_n dX12_dayOf_0 (List.Mem.head _) ?_
  refine am_calls (d' := d + 2) (kc := 0) (ks := 0) (as := [.inl x0]) dX12_dayOf_1 wc_X12_ahead wd_1871 wd_1872 wd_122 ds_X12_ahead (by decide) (by omega) (Nat.le_of_ble_eq_true rfl) (Nat.zero_le _) (Nat.zero_le _) rfl (sX12_ahead (d := d + 1) (x0 := x0)  ?_)
  show am_A (mh_G X) SC (d + 3) mX12_dayOf Q 4 [(0, .inl x0), (1, .inl x1), (2, .inl x2)] [.inl (am_w ((am_w ((am_w ((am_w (365 * (am_w (x0 - 1)))) + (am_w (Int.tdiv (am_w (x0 - 1)) 4)))) - (am_w (Int.tdiv (am_w (x0 - 1)) 100)))) + (am_w (Int.tdiv (am_w (x0 - 1)) 400))))] w bc bs
  refine am_sipush dX12_dayOf_4 (by decide) (by unfold am_rg; omega) ?_
  refine am_calls (d' := d + 2) (kc := 0) (ks := 0) (as := [.inl 1800]) dX12_dayOf_7 wc_X12_ahead wd_1871 wd_1872 wd_122 ds_X12_ahead (by decide) (by omega) (Nat.le_of_ble_eq_true rfl) (Nat.zero_le _) (Nat.zero_le _) rfl (sX12_ahead (d := d + 1) (x0 := 1800)  ?_)
  show am_A (mh_G X) SC (d + 3) mX12_dayOf Q 10 [(0, .inl x0), (1, .inl x1), (2, .inl x2)] [.inl (am_w ((am_w ((am_w ((am_w (365 * (am_w ((1800 : Int) - 1)))) + (am_w (Int.tdiv (am_w ((1800 : Int) - 1)) 4)))) - (am_w (Int.tdiv (am_w ((1800 : Int) - 1)) 100)))) + (am_w (Int.tdiv (am_w ((1800 : Int) - 1)) 400)))), .inl (am_w ((am_w ((am_w ((am_w (365 * (am_w (x0 - 1)))) + (am_w (Int.tdiv (am_w (x0 - 1)) 4)))) - (am_w (Int.tdiv (am_w (x0 - 1)) 100)))) + (am_w (Int.tdiv (am_w (x0 - 1)) 400))))] w bc bs
  refine am_isub dX12_dayOf_10 ?_
  refine am_named (fun n1 en1 => ?_)
  replace h := h n1 en1
  refine am_istore_n (ls' := [(3, .inl n1), (0, .inl x0), (1, .inl x1), (2, .inl x2)]) dX12_dayOf_11 (by decide) rfl ?_
  refine am_iconst dX12_dayOf_12 (by unfold am_rg; omega) ?_
  refine am_istore (ls' := [(4, .inl 1), (3, .inl n1), (0, .inl x0), (1, .inl x1), (2, .inl x2)]) dX12_dayOf_13 (by decide) rfl ?_
  exact am_sub [2, 3, 4, 1, 0] rfl h
theorem bX12_dayOf_15 {SC : Nat → Nat} {X : mh_X} {d : Nat} {Q : Option am_V → am_W → Prop} {bc bs : Nat} {w : am_W} {x0 : Int} {x1 : Int} {x2 : Int} {x3 : Int} {x4 : Int}
    (h : ((x1 ≤ x4 → Q (some (.inl (am_w ((am_w (x3 + x2)) - 1)))) w) ∧ (¬ x1 ≤ x4 → am_M (mh_G X) SC (d + 2) 0 0 mX12_lengthOf [.inl x0, .inl x4] w (fun r w1 => am_A (mh_G X) SC (d + 3) mX12_dayOf Q 28 [(0, .inl x0), (1, .inl x1), (2, .inl x2), (3, .inl x3), (4, .inl x4)] (r.toList ++ [.inl x3]) w1 bc bs)))) :
    am_A (mh_G X) SC (d + 3) mX12_dayOf Q 15 [(0, .inl x0), (1, .inl x1), (2, .inl x2), (3, .inl x3), (4, .inl x4)] [] w bc bs := by
  refine am_iload dX12_dayOf_15 (List.Mem.tail _ (List.Mem.tail _ (List.Mem.tail _ (List.Mem.tail _ (List.Mem.head _))))) ?_
  refine am_iload_n dX12_dayOf_17 (List.Mem.tail _ (List.Mem.head _)) ?_
  refine am_icmpge (tgt := 36) dX12_dayOf_18 (by decide) (fun c1 => ?_) (fun c1 => ?_)
  · replace h := h.1 c1
    refine am_iload_n dX12_dayOf_36 (List.Mem.tail _ (List.Mem.tail _ (List.Mem.tail _ (List.Mem.head _)))) ?_
    refine am_iload_n dX12_dayOf_37 (List.Mem.tail _ (List.Mem.tail _ (List.Mem.head _))) ?_
    refine am_iadd dX12_dayOf_38 ?_
    refine am_iconst dX12_dayOf_39 (by unfold am_rg; omega) ?_
    refine am_isub dX12_dayOf_40 ?_
    exact am_ret (r := some (.inl (am_w ((am_w (x3 + x2)) - 1)))) dX12_dayOf_41 (Or.inl rfl) rfl h
  · replace h := h.2 c1
    refine am_iload_n dX12_dayOf_21 (List.Mem.tail _ (List.Mem.tail _ (List.Mem.tail _ (List.Mem.head _)))) ?_
    refine am_iload_n dX12_dayOf_22 (List.Mem.head _) ?_
    refine am_iload dX12_dayOf_23 (List.Mem.tail _ (List.Mem.tail _ (List.Mem.tail _ (List.Mem.tail _ (List.Mem.head _))))) ?_
    exact am_calls (d' := d + 2) (kc := 0) (ks := 0) (as := [.inl x0, .inl x4]) dX12_dayOf_25 wc_X12_lengthOf wd_1874 wd_1875 wd_122 ds_X12_lengthOf (by decide) (by omega) (Nat.le_of_ble_eq_true rfl) (Nat.zero_le _) (Nat.zero_le _) rfl h
theorem bX12_dayOf_28 {SC : Nat → Nat} {X : mh_X} {d : Nat} {Q : Option am_V → am_W → Prop} {bc bs : Nat} {w : am_W} {x0 : Int} {x1 : Int} {x2 : Int} {x3 : Int} {x4 : Int} {xs0 : Int} {xs1 : Int}
    (h : am_A (mh_G X) SC (d + 3) mX12_dayOf Q 15 [(0, .inl x0), (1, .inl x1), (2, .inl x2), (3, .inl (am_w (xs1 + xs0))), (4, .inl (am_w (x4 + 1)))] [] w bc bs) :
    am_A (mh_G X) SC (d + 3) mX12_dayOf Q 28 [(0, .inl x0), (1, .inl x1), (2, .inl x2), (3, .inl x3), (4, .inl x4)] [.inl xs0, .inl xs1] w bc bs := by
  refine am_iadd dX12_dayOf_28 ?_
  refine am_istore_n (ls' := [(3, .inl (am_w (xs1 + xs0))), (0, .inl x0), (1, .inl x1), (2, .inl x2), (4, .inl x4)]) dX12_dayOf_29 (by decide) rfl ?_
  refine am_iinc (ls' := [(4, .inl (am_w (x4 + 1))), (3, .inl (am_w (xs1 + xs0))), (0, .inl x0), (1, .inl x1), (2, .inl x2)]) dX12_dayOf_30 (List.Mem.tail _ (List.Mem.tail _ (List.Mem.tail _ (List.Mem.tail _ (List.Mem.head _))))) (by decide) rfl ?_
  refine am_goto (tgt := 15) dX12_dayOf_33 (by decide) ?_
  exact am_sub [2, 3, 4, 1, 0] rfl h
-- MourningHouseModel.yearOf(I)I
theorem dX12_yearOf_0 : decode mX12_yearOf.2.1 0 = .ok (.sipush 1700, 3) := by decide +kernel
theorem dX12_yearOf_3 : decode mX12_yearOf.2.1 3 = .ok (.iload_n 0, 1) := by decide +kernel
theorem dX12_yearOf_4 : decode mX12_yearOf.2.1 4 = .ok (.sipush 1700, 3) := by decide +kernel
theorem dX12_yearOf_7 : decode mX12_yearOf.2.1 7 = .ok (.iconst 1, 1) := by decide +kernel
theorem dX12_yearOf_8 : decode mX12_yearOf.2.1 8 = .ok (.iconst 1, 1) := by decide +kernel
theorem dX12_yearOf_9 : decode mX12_yearOf.2.1 9 = .ok (.invokestatic 303, 3) := by decide +kernel
theorem dX12_yearOf_12 : decode mX12_yearOf.2.1 12 = .ok (.isub, 1) := by decide +kernel
theorem dX12_yearOf_13 : decode mX12_yearOf.2.1 13 = .ok (.sipush 366, 3) := by decide +kernel
theorem dX12_yearOf_16 : decode mX12_yearOf.2.1 16 = .ok (.idiv, 1) := by decide +kernel
theorem dX12_yearOf_17 : decode mX12_yearOf.2.1 17 = .ok (.iadd, 1) := by decide +kernel
theorem dX12_yearOf_18 : decode mX12_yearOf.2.1 18 = .ok (.istore_n 1, 1) := by decide +kernel
theorem dX12_yearOf_19 : decode mX12_yearOf.2.1 19 = .ok (.iload_n 1, 1) := by decide +kernel
theorem dX12_yearOf_20 : decode mX12_yearOf.2.1 20 = .ok (.iconst 1, 1) := by decide +kernel
theorem dX12_yearOf_21 : decode mX12_yearOf.2.1 21 = .ok (.iadd, 1) := by decide +kernel
theorem dX12_yearOf_22 : decode mX12_yearOf.2.1 22 = .ok (.iconst 1, 1) := by decide +kernel
theorem dX12_yearOf_23 : decode mX12_yearOf.2.1 23 = .ok (.iconst 1, 1) := by decide +kernel
theorem dX12_yearOf_24 : decode mX12_yearOf.2.1 24 = .ok (.invokestatic 303, 3) := by decide +kernel
theorem dX12_yearOf_27 : decode mX12_yearOf.2.1 27 = .ok (.iload_n 0, 1) := by decide +kernel
theorem dX12_yearOf_28 : decode mX12_yearOf.2.1 28 = .ok (.if_icmp .gt 9, 3) := by decide +kernel
theorem dX12_yearOf_31 : decode mX12_yearOf.2.1 31 = .ok (.iinc 1 1, 3) := by decide +kernel
theorem dX12_yearOf_34 : decode mX12_yearOf.2.1 34 = .ok (.goto (-15), 3) := by decide +kernel
theorem dX12_yearOf_37 : decode mX12_yearOf.2.1 37 = .ok (.iload_n 1, 1) := by decide +kernel
theorem dX12_yearOf_38 : decode mX12_yearOf.2.1 38 = .ok (.ireturn, 1) := by decide +kernel
theorem bX12_yearOf_0 {SC : Nat → Nat} {X : mh_X} {d : Nat} {Q : Option am_V → am_W → Prop} {bc bs : Nat} {w : am_W} {x0 : Int}
    (h : am_M (mh_G X) SC (d + 3) 0 0 mX12_dayOf [.inl 1700, .inl 1, .inl 1] w (fun r w1 => am_A (mh_G X) SC (d + 4) mX12_yearOf Q 12 [(0, .inl x0)] (r.toList ++ [.inl x0, .inl 1700]) w1 bc bs)) :
    am_A (mh_G X) SC (d + 4) mX12_yearOf Q 0 [(0, .inl x0)] [] w bc bs := by
  refine am_sipush dX12_yearOf_0 (by decide) (by unfold am_rg; omega) ?_
  refine am_iload_n dX12_yearOf_3 (List.Mem.head _) ?_
  refine am_sipush dX12_yearOf_4 (by decide) (by unfold am_rg; omega) ?_
  refine am_iconst dX12_yearOf_7 (by unfold am_rg; omega) ?_
  refine am_iconst dX12_yearOf_8 (by unfold am_rg; omega) ?_
  exact am_calls (d' := d + 3) (kc := 0) (ks := 0) (as := [.inl 1700, .inl 1, .inl 1]) dX12_yearOf_9 wc_X12_dayOf wd_1868 wd_1869 wd_122 ds_X12_dayOf (by decide) (by omega) (Nat.le_of_ble_eq_true rfl) (Nat.zero_le _) (Nat.zero_le _) rfl h
theorem bX12_yearOf_12 {SC : Nat → Nat} {X : mh_X} {d : Nat} {Q : Option am_V → am_W → Prop} {bc bs : Nat} {w : am_W} {x0 : Int} {xs0 : Int} {xs1 : Int} {xs2 : Int}
    (h : am_A (mh_G X) SC (d + 4) mX12_yearOf Q 19 [(0, .inl x0), (1, .inl (am_w (xs2 + (am_w (Int.tdiv (am_w (xs1 - xs0)) 366)))))] [] w bc bs) :
    am_A (mh_G X) SC (d + 4) mX12_yearOf Q 12 [(0, .inl x0)] [.inl xs0, .inl xs1, .inl xs2] w bc bs := by
  refine am_isub dX12_yearOf_12 ?_
  refine am_sipush dX12_yearOf_13 (by decide) (by unfold am_rg; omega) ?_
  refine am_idiv dX12_yearOf_16 (by decide) ?_
  refine am_iadd dX12_yearOf_17 ?_
  refine am_istore_n (ls' := [(1, .inl (am_w (xs2 + (am_w (Int.tdiv (am_w (xs1 - xs0)) 366))))), (0, .inl x0)]) dX12_yearOf_18 (by decide) rfl ?_
  exact am_sub [1, 0] rfl h
theorem bX12_yearOf_19 {SC : Nat → Nat} {X : mh_X} {d : Nat} {Q : Option am_V → am_W → Prop} {bc bs : Nat} {w : am_W} {x0 : Int} {x1 : Int}
    (h : am_M (mh_G X) SC (d + 3) 0 0 mX12_dayOf [.inl (am_w (x1 + 1)), .inl 1, .inl 1] w (fun r w1 => am_A (mh_G X) SC (d + 4) mX12_yearOf Q 27 [(0, .inl x0), (1, .inl x1)] (r.toList ++ []) w1 bc bs)) :
    am_A (mh_G X) SC (d + 4) mX12_yearOf Q 19 [(0, .inl x0), (1, .inl x1)] [] w bc bs := by
  refine am_iload_n dX12_yearOf_19 (List.Mem.tail _ (List.Mem.head _)) ?_
  refine am_iconst dX12_yearOf_20 (by unfold am_rg; omega) ?_
  refine am_iadd dX12_yearOf_21 ?_
  refine am_iconst dX12_yearOf_22 (by unfold am_rg; omega) ?_
  refine am_iconst dX12_yearOf_23 (by unfold am_rg; omega) ?_
  exact am_calls (d' := d + 3) (kc := 0) (ks := 0) (as := [.inl (am_w (x1 + 1)), .inl 1, .inl 1]) dX12_yearOf_24 wc_X12_dayOf wd_1868 wd_1869 wd_122 ds_X12_dayOf (by decide) (by omega) (Nat.le_of_ble_eq_true rfl) (Nat.zero_le _) (Nat.zero_le _) rfl h
theorem bX12_yearOf_27 {SC : Nat → Nat} {X : mh_X} {d : Nat} {Q : Option am_V → am_W → Prop} {bc bs : Nat} {w : am_W} {x0 : Int} {x1 : Int} {xs0 : Int}
    (h : ((x0 < xs0 → Q (some (.inl x1)) w) ∧ (¬ x0 < xs0 → am_A (mh_G X) SC (d + 4) mX12_yearOf Q 19 [(0, .inl x0), (1, .inl (am_w (x1 + 1)))] [] w bc bs))) :
    am_A (mh_G X) SC (d + 4) mX12_yearOf Q 27 [(0, .inl x0), (1, .inl x1)] [.inl xs0] w bc bs := by
  refine am_iload_n dX12_yearOf_27 (List.Mem.head _) ?_
  refine am_icmpgt (tgt := 37) dX12_yearOf_28 (by decide) (fun c1 => ?_) (fun c1 => ?_)
  · replace h := h.1 c1
    refine am_iload_n dX12_yearOf_37 (List.Mem.tail _ (List.Mem.head _)) ?_
    exact am_ret (r := some (.inl x1)) dX12_yearOf_38 (Or.inl rfl) rfl h
  · replace h := h.2 c1
    refine am_iinc (ls' := [(1, .inl (am_w (x1 + 1))), (0, .inl x0)]) dX12_yearOf_31 (List.Mem.tail _ (List.Mem.head _)) (by decide) rfl ?_
    refine am_goto (tgt := 19) dX12_yearOf_34 (by decide) ?_
    exact am_sub [1, 0] rfl h
-- MourningHouseModel.monthOf(I)I
theorem dX12_monthOf_0 : decode mX12_monthOf.2.1 0 = .ok (.iload_n 0, 1) := by decide +kernel
theorem dX12_monthOf_1 : decode mX12_monthOf.2.1 1 = .ok (.invokestatic 307, 3) := by decide +kernel
theorem dX12_monthOf_4 : decode mX12_monthOf.2.1 4 = .ok (.istore_n 1, 1) := by decide +kernel
theorem dX12_monthOf_5 : decode mX12_monthOf.2.1 5 = .ok (.iconst 1, 1) := by decide +kernel
theorem dX12_monthOf_6 : decode mX12_monthOf.2.1 6 = .ok (.istore_n 2, 1) := by decide +kernel
theorem dX12_monthOf_7 : decode mX12_monthOf.2.1 7 = .ok (.iload_n 2, 1) := by decide +kernel
theorem dX12_monthOf_8 : decode mX12_monthOf.2.1 8 = .ok (.bipush 12, 2) := by decide +kernel
theorem dX12_monthOf_10 : decode mX12_monthOf.2.1 10 = .ok (.if_icmp .ge 21, 3) := by decide +kernel
theorem dX12_monthOf_13 : decode mX12_monthOf.2.1 13 = .ok (.iload_n 1, 1) := by decide +kernel
theorem dX12_monthOf_14 : decode mX12_monthOf.2.1 14 = .ok (.iload_n 2, 1) := by decide +kernel
theorem dX12_monthOf_15 : decode mX12_monthOf.2.1 15 = .ok (.iconst 1, 1) := by decide +kernel
theorem dX12_monthOf_16 : decode mX12_monthOf.2.1 16 = .ok (.iadd, 1) := by decide +kernel
theorem dX12_monthOf_17 : decode mX12_monthOf.2.1 17 = .ok (.iconst 1, 1) := by decide +kernel
theorem dX12_monthOf_18 : decode mX12_monthOf.2.1 18 = .ok (.invokestatic 303, 3) := by decide +kernel
theorem dX12_monthOf_21 : decode mX12_monthOf.2.1 21 = .ok (.iload_n 0, 1) := by decide +kernel
theorem dX12_monthOf_22 : decode mX12_monthOf.2.1 22 = .ok (.if_icmp .gt 9, 3) := by decide +kernel
theorem dX12_monthOf_25 : decode mX12_monthOf.2.1 25 = .ok (.iinc 2 1, 3) := by decide +kernel
theorem dX12_monthOf_28 : decode mX12_monthOf.2.1 28 = .ok (.goto (-21), 3) := by decide +kernel
theorem dX12_monthOf_31 : decode mX12_monthOf.2.1 31 = .ok (.iload_n 2, 1) := by decide +kernel
theorem dX12_monthOf_32 : decode mX12_monthOf.2.1 32 = .ok (.ireturn, 1) := by decide +kernel
theorem bX12_monthOf_0 {SC : Nat → Nat} {X : mh_X} {d : Nat} {Q : Option am_V → am_W → Prop} {bc bs : Nat} {w : am_W} {x0 : Int}
    (h : am_M (mh_G X) SC (d + 4) 0 0 mX12_yearOf [.inl x0] w (fun r w1 => am_A (mh_G X) SC (d + 5) mX12_monthOf Q 4 [(0, .inl x0)] (r.toList ++ []) w1 bc bs)) :
    am_A (mh_G X) SC (d + 5) mX12_monthOf Q 0 [(0, .inl x0)] [] w bc bs := by
  refine am_iload_n dX12_monthOf_0 (List.Mem.head _) ?_
  exact am_calls (d' := d + 4) (kc := 0) (ks := 0) (as := [.inl x0]) dX12_monthOf_1 wc_X12_yearOf wd_1865 wd_1866 wd_122 ds_X12_yearOf (by decide) (by omega) (Nat.le_of_ble_eq_true rfl) (Nat.zero_le _) (Nat.zero_le _) rfl h
theorem bX12_monthOf_4 {SC : Nat → Nat} {X : mh_X} {d : Nat} {Q : Option am_V → am_W → Prop} {bc bs : Nat} {w : am_W} {x0 : Int} {xs0 : Int}
    (h : am_A (mh_G X) SC (d + 5) mX12_monthOf Q 7 [(0, .inl x0), (1, .inl xs0), (2, .inl 1)] [] w bc bs) :
    am_A (mh_G X) SC (d + 5) mX12_monthOf Q 4 [(0, .inl x0)] [.inl xs0] w bc bs := by
  refine am_istore_n (ls' := [(1, .inl xs0), (0, .inl x0)]) dX12_monthOf_4 (by decide) rfl ?_
  refine am_iconst dX12_monthOf_5 (by unfold am_rg; omega) ?_
  refine am_istore_n (ls' := [(2, .inl 1), (1, .inl xs0), (0, .inl x0)]) dX12_monthOf_6 (by decide) rfl ?_
  exact am_sub [2, 1, 0] rfl h
theorem bX12_monthOf_7 {SC : Nat → Nat} {X : mh_X} {d : Nat} {Q : Option am_V → am_W → Prop} {bc bs : Nat} {w : am_W} {x0 : Int} {x1 : Int} {x2 : Int}
    (h : ((12 ≤ x2 → Q (some (.inl x2)) w) ∧ (¬ 12 ≤ x2 → am_M (mh_G X) SC (d + 4) 0 0 mX12_dayOf [.inl x1, .inl (am_w (x2 + 1)), .inl 1] w (fun r w1 => am_A (mh_G X) SC (d + 5) mX12_monthOf Q 21 [(0, .inl x0), (1, .inl x1), (2, .inl x2)] (r.toList ++ []) w1 bc bs)))) :
    am_A (mh_G X) SC (d + 5) mX12_monthOf Q 7 [(0, .inl x0), (1, .inl x1), (2, .inl x2)] [] w bc bs := by
  refine am_iload_n dX12_monthOf_7 (List.Mem.tail _ (List.Mem.tail _ (List.Mem.head _))) ?_
  refine am_bipush dX12_monthOf_8 (by decide) (by unfold am_rg; omega) ?_
  refine am_icmpge (tgt := 31) dX12_monthOf_10 (by decide) (fun c1 => ?_) (fun c1 => ?_)
  · replace h := h.1 c1
    refine am_iload_n dX12_monthOf_31 (List.Mem.tail _ (List.Mem.tail _ (List.Mem.head _))) ?_
    exact am_ret (r := some (.inl x2)) dX12_monthOf_32 (Or.inl rfl) rfl h
  · replace h := h.2 c1
    refine am_iload_n dX12_monthOf_13 (List.Mem.tail _ (List.Mem.head _)) ?_
    refine am_iload_n dX12_monthOf_14 (List.Mem.tail _ (List.Mem.tail _ (List.Mem.head _))) ?_
    refine am_iconst dX12_monthOf_15 (by unfold am_rg; omega) ?_
    refine am_iadd dX12_monthOf_16 ?_
    refine am_iconst dX12_monthOf_17 (by unfold am_rg; omega) ?_
    exact am_calls (d' := d + 4) (kc := 0) (ks := 0) (as := [.inl x1, .inl (am_w (x2 + 1)), .inl 1]) dX12_monthOf_18 wc_X12_dayOf wd_1868 wd_1869 wd_122 ds_X12_dayOf (by decide) (by omega) (Nat.le_of_ble_eq_true rfl) (Nat.zero_le _) (Nat.zero_le _) rfl h
theorem bX12_monthOf_21 {SC : Nat → Nat} {X : mh_X} {d : Nat} {Q : Option am_V → am_W → Prop} {bc bs : Nat} {w : am_W} {x0 : Int} {x1 : Int} {x2 : Int} {xs0 : Int}
    (h : ((x0 < xs0 → Q (some (.inl x2)) w) ∧ (¬ x0 < xs0 → am_A (mh_G X) SC (d + 5) mX12_monthOf Q 7 [(0, .inl x0), (1, .inl x1), (2, .inl (am_w (x2 + 1)))] [] w bc bs))) :
    am_A (mh_G X) SC (d + 5) mX12_monthOf Q 21 [(0, .inl x0), (1, .inl x1), (2, .inl x2)] [.inl xs0] w bc bs := by
  refine am_iload_n dX12_monthOf_21 (List.Mem.head _) ?_
  refine am_icmpgt (tgt := 31) dX12_monthOf_22 (by decide) (fun c1 => ?_) (fun c1 => ?_)
  · replace h := h.1 c1
    refine am_iload_n dX12_monthOf_31 (List.Mem.tail _ (List.Mem.tail _ (List.Mem.head _))) ?_
    exact am_ret (r := some (.inl x2)) dX12_monthOf_32 (Or.inl rfl) rfl h
  · replace h := h.2 c1
    refine am_iinc (ls' := [(2, .inl (am_w (x2 + 1))), (0, .inl x0), (1, .inl x1)]) dX12_monthOf_25 (List.Mem.tail _ (List.Mem.tail _ (List.Mem.head _))) (by decide) rfl ?_
    refine am_goto (tgt := 7) dX12_monthOf_28 (by decide) ?_
    exact am_sub [1, 2, 0] rfl h
-- MourningHouseModel.dateOf(I)I
theorem dX12_dateOf_0 : decode mX12_dateOf.2.1 0 = .ok (.iload_n 0, 1) := by decide +kernel
theorem dX12_dateOf_1 : decode mX12_dateOf.2.1 1 = .ok (.invokestatic 307, 3) := by decide +kernel
theorem dX12_dateOf_4 : decode mX12_dateOf.2.1 4 = .ok (.istore_n 1, 1) := by decide +kernel
theorem dX12_dateOf_5 : decode mX12_dateOf.2.1 5 = .ok (.iload_n 0, 1) := by decide +kernel
theorem dX12_dateOf_6 : decode mX12_dateOf.2.1 6 = .ok (.invokestatic 310, 3) := by decide +kernel
theorem dX12_dateOf_9 : decode mX12_dateOf.2.1 9 = .ok (.istore_n 2, 1) := by decide +kernel
theorem dX12_dateOf_10 : decode mX12_dateOf.2.1 10 = .ok (.sipush 10000, 3) := by decide +kernel
theorem dX12_dateOf_13 : decode mX12_dateOf.2.1 13 = .ok (.iload_n 1, 1) := by decide +kernel
theorem dX12_dateOf_14 : decode mX12_dateOf.2.1 14 = .ok (.imul, 1) := by decide +kernel
theorem dX12_dateOf_15 : decode mX12_dateOf.2.1 15 = .ok (.bipush 100, 2) := by decide +kernel
theorem dX12_dateOf_17 : decode mX12_dateOf.2.1 17 = .ok (.iload_n 2, 1) := by decide +kernel
theorem dX12_dateOf_18 : decode mX12_dateOf.2.1 18 = .ok (.imul, 1) := by decide +kernel
theorem dX12_dateOf_19 : decode mX12_dateOf.2.1 19 = .ok (.iadd, 1) := by decide +kernel
theorem dX12_dateOf_20 : decode mX12_dateOf.2.1 20 = .ok (.iload_n 0, 1) := by decide +kernel
theorem dX12_dateOf_21 : decode mX12_dateOf.2.1 21 = .ok (.iadd, 1) := by decide +kernel
theorem dX12_dateOf_22 : decode mX12_dateOf.2.1 22 = .ok (.iload_n 1, 1) := by decide +kernel
theorem dX12_dateOf_23 : decode mX12_dateOf.2.1 23 = .ok (.iload_n 2, 1) := by decide +kernel
theorem dX12_dateOf_24 : decode mX12_dateOf.2.1 24 = .ok (.iconst 1, 1) := by decide +kernel
theorem dX12_dateOf_25 : decode mX12_dateOf.2.1 25 = .ok (.invokestatic 303, 3) := by decide +kernel
theorem dX12_dateOf_28 : decode mX12_dateOf.2.1 28 = .ok (.isub, 1) := by decide +kernel
theorem dX12_dateOf_29 : decode mX12_dateOf.2.1 29 = .ok (.iconst 1, 1) := by decide +kernel
theorem dX12_dateOf_30 : decode mX12_dateOf.2.1 30 = .ok (.iadd, 1) := by decide +kernel
theorem dX12_dateOf_31 : decode mX12_dateOf.2.1 31 = .ok (.ireturn, 1) := by decide +kernel
theorem bX12_dateOf_0 {SC : Nat → Nat} {X : mh_X} {d : Nat} {Q : Option am_V → am_W → Prop} {bc bs : Nat} {w : am_W} {x0 : Int}
    (h : am_M (mh_G X) SC (d + 5) 0 0 mX12_yearOf [.inl x0] w (fun r w1 => am_A (mh_G X) SC (d + 6) mX12_dateOf Q 4 [(0, .inl x0)] (r.toList ++ []) w1 bc bs)) :
    am_A (mh_G X) SC (d + 6) mX12_dateOf Q 0 [(0, .inl x0)] [] w bc bs := by
  refine am_iload_n dX12_dateOf_0 (List.Mem.head _) ?_
  exact am_calls (d' := d + 5) (kc := 0) (ks := 0) (as := [.inl x0]) dX12_dateOf_1 wc_X12_yearOf wd_1865 wd_1866 wd_122 ds_X12_yearOf (by decide) (by omega) (Nat.le_of_ble_eq_true rfl) (Nat.zero_le _) (Nat.zero_le _) rfl h
theorem bX12_dateOf_4 {SC : Nat → Nat} {X : mh_X} {d : Nat} {Q : Option am_V → am_W → Prop} {bc bs : Nat} {w : am_W} {x0 : Int} {xs0 : Int}
    (h : am_M (mh_G X) SC (d + 5) 0 0 mX12_monthOf [.inl x0] w (fun r w1 => am_A (mh_G X) SC (d + 6) mX12_dateOf Q 9 [(1, .inl xs0), (0, .inl x0)] (r.toList ++ []) w1 bc bs)) :
    am_A (mh_G X) SC (d + 6) mX12_dateOf Q 4 [(0, .inl x0)] [.inl xs0] w bc bs := by
  refine am_istore_n (ls' := [(1, .inl xs0), (0, .inl x0)]) dX12_dateOf_4 (by decide) rfl ?_
  refine am_iload_n dX12_dateOf_5 (List.Mem.tail _ (List.Mem.head _)) ?_
  exact am_calls (d' := d + 5) (kc := 0) (ks := 0) (as := [.inl x0]) dX12_dateOf_6 wc_X12_monthOf wd_1880 wd_1881 wd_122 ds_X12_monthOf (by decide) (by omega) (Nat.le_of_ble_eq_true rfl) (Nat.zero_le _) (Nat.zero_le _) rfl h
theorem bX12_dateOf_9 {SC : Nat → Nat} {X : mh_X} {d : Nat} {Q : Option am_V → am_W → Prop} {bc bs : Nat} {w : am_W} {x1 : Int} {x0 : Int} {xs0 : Int}
    (h : am_M (mh_G X) SC (d + 5) 0 0 mX12_dayOf [.inl x1, .inl xs0, .inl 1] w (fun r w1 => am_A (mh_G X) SC (d + 6) mX12_dateOf Q 28 [(2, .inl xs0), (1, .inl x1), (0, .inl x0)] (r.toList ++ [.inl (am_w ((am_w ((am_w (10000 * x1)) + (am_w (100 * xs0)))) + x0))]) w1 bc bs)) :
    am_A (mh_G X) SC (d + 6) mX12_dateOf Q 9 [(1, .inl x1), (0, .inl x0)] [.inl xs0] w bc bs := by
  refine am_istore_n (ls' := [(2, .inl xs0), (1, .inl x1), (0, .inl x0)]) dX12_dateOf_9 (by decide) rfl ?_
  refine am_sipush dX12_dateOf_10 (by decide) (by unfold am_rg; omega) ?_
  refine am_iload_n dX12_dateOf_13 (List.Mem.tail _ (List.Mem.head _)) ?_
  refine am_imul dX12_dateOf_14 ?_
  refine am_bipush dX12_dateOf_15 (by decide) (by unfold am_rg; omega) ?_
  refine am_iload_n dX12_dateOf_17 (List.Mem.head _) ?_
  refine am_imul dX12_dateOf_18 ?_
  refine am_iadd dX12_dateOf_19 ?_
  refine am_iload_n dX12_dateOf_20 (List.Mem.tail _ (List.Mem.tail _ (List.Mem.head _))) ?_
  refine am_iadd dX12_dateOf_21 ?_
  refine am_iload_n dX12_dateOf_22 (List.Mem.tail _ (List.Mem.head _)) ?_
  refine am_iload_n dX12_dateOf_23 (List.Mem.head _) ?_
  refine am_iconst dX12_dateOf_24 (by unfold am_rg; omega) ?_
  exact am_calls (d' := d + 5) (kc := 0) (ks := 0) (as := [.inl x1, .inl xs0, .inl 1]) dX12_dateOf_25 wc_X12_dayOf wd_1868 wd_1869 wd_122 ds_X12_dayOf (by decide) (by omega) (Nat.le_of_ble_eq_true rfl) (Nat.zero_le _) (Nat.zero_le _) rfl h
theorem bX12_dateOf_28 {SC : Nat → Nat} {X : mh_X} {d : Nat} {Q : Option am_V → am_W → Prop} {bc bs : Nat} {w : am_W} {x2 : Int} {x1 : Int} {x0 : Int} {xs0 : Int} {xs1 : Int}
    (h : Q (some (.inl (am_w ((am_w (xs1 - xs0)) + 1)))) w) :
    am_A (mh_G X) SC (d + 6) mX12_dateOf Q 28 [(2, .inl x2), (1, .inl x1), (0, .inl x0)] [.inl xs0, .inl xs1] w bc bs := by
  refine am_isub dX12_dateOf_28 ?_
  refine am_iconst dX12_dateOf_29 (by unfold am_rg; omega) ?_
  refine am_iadd dX12_dateOf_30 ?_
  exact am_ret (r := some (.inl (am_w ((am_w (xs1 - xs0)) + 1)))) dX12_dateOf_31 (Or.inl rfl) rfl h
-- MourningHouseModel.behind(II)I
theorem dX12_behind_0 : decode mX12_behind.2.1 0 = .ok (.iload_n 0, 1) := by decide +kernel
theorem dX12_behind_1 : decode mX12_behind.2.1 1 = .ok (.invokestatic 313, 3) := by decide +kernel
theorem dX12_behind_4 : decode mX12_behind.2.1 4 = .ok (.istore_n 2, 1) := by decide +kernel
theorem dX12_behind_5 : decode mX12_behind.2.1 5 = .ok (.bipush 12, 2) := by decide +kernel
theorem dX12_behind_7 : decode mX12_behind.2.1 7 = .ok (.iload_n 2, 1) := by decide +kernel
theorem dX12_behind_8 : decode mX12_behind.2.1 8 = .ok (.sipush 10000, 3) := by decide +kernel
theorem dX12_behind_11 : decode mX12_behind.2.1 11 = .ok (.idiv, 1) := by decide +kernel
theorem dX12_behind_12 : decode mX12_behind.2.1 12 = .ok (.imul, 1) := by decide +kernel
theorem dX12_behind_13 : decode mX12_behind.2.1 13 = .ok (.iload_n 2, 1) := by decide +kernel
theorem dX12_behind_14 : decode mX12_behind.2.1 14 = .ok (.bipush 100, 2) := by decide +kernel
theorem dX12_behind_16 : decode mX12_behind.2.1 16 = .ok (.idiv, 1) := by decide +kernel
theorem dX12_behind_17 : decode mX12_behind.2.1 17 = .ok (.bipush 100, 2) := by decide +kernel
theorem dX12_behind_19 : decode mX12_behind.2.1 19 = .ok (.irem, 1) := by decide +kernel
theorem dX12_behind_20 : decode mX12_behind.2.1 20 = .ok (.iadd, 1) := by decide +kernel
theorem dX12_behind_21 : decode mX12_behind.2.1 21 = .ok (.iconst 1, 1) := by decide +kernel
theorem dX12_behind_22 : decode mX12_behind.2.1 22 = .ok (.isub, 1) := by decide +kernel
theorem dX12_behind_23 : decode mX12_behind.2.1 23 = .ok (.iload_n 1, 1) := by decide +kernel
theorem dX12_behind_24 : decode mX12_behind.2.1 24 = .ok (.iadd, 1) := by decide +kernel
theorem dX12_behind_25 : decode mX12_behind.2.1 25 = .ok (.istore_n 3, 1) := by decide +kernel
theorem dX12_behind_26 : decode mX12_behind.2.1 26 = .ok (.iload_n 3, 1) := by decide +kernel
theorem dX12_behind_27 : decode mX12_behind.2.1 27 = .ok (.bipush 12, 2) := by decide +kernel
theorem dX12_behind_29 : decode mX12_behind.2.1 29 = .ok (.idiv, 1) := by decide +kernel
theorem dX12_behind_30 : decode mX12_behind.2.1 30 = .ok (.istore 4, 2) := by decide +kernel
theorem dX12_behind_32 : decode mX12_behind.2.1 32 = .ok (.iload_n 3, 1) := by decide +kernel
theorem dX12_behind_33 : decode mX12_behind.2.1 33 = .ok (.bipush 12, 2) := by decide +kernel
theorem dX12_behind_35 : decode mX12_behind.2.1 35 = .ok (.irem, 1) := by decide +kernel
theorem dX12_behind_36 : decode mX12_behind.2.1 36 = .ok (.iconst 1, 1) := by decide +kernel
theorem dX12_behind_37 : decode mX12_behind.2.1 37 = .ok (.iadd, 1) := by decide +kernel
theorem dX12_behind_38 : decode mX12_behind.2.1 38 = .ok (.istore 5, 2) := by decide +kernel
theorem dX12_behind_40 : decode mX12_behind.2.1 40 = .ok (.iload_n 2, 1) := by decide +kernel
theorem dX12_behind_41 : decode mX12_behind.2.1 41 = .ok (.bipush 100, 2) := by decide +kernel
theorem dX12_behind_43 : decode mX12_behind.2.1 43 = .ok (.irem, 1) := by decide +kernel
theorem dX12_behind_44 : decode mX12_behind.2.1 44 = .ok (.istore 6, 2) := by decide +kernel
theorem dX12_behind_46 : decode mX12_behind.2.1 46 = .ok (.iload 4, 2) := by decide +kernel
theorem dX12_behind_48 : decode mX12_behind.2.1 48 = .ok (.iload 5, 2) := by decide +kernel
theorem dX12_behind_50 : decode mX12_behind.2.1 50 = .ok (.iload 6, 2) := by decide +kernel
theorem dX12_behind_52 : decode mX12_behind.2.1 52 = .ok (.iload 4, 2) := by decide +kernel
theorem dX12_behind_54 : decode mX12_behind.2.1 54 = .ok (.iload 5, 2) := by decide +kernel
theorem dX12_behind_56 : decode mX12_behind.2.1 56 = .ok (.invokestatic 299, 3) := by decide +kernel
theorem dX12_behind_59 : decode mX12_behind.2.1 59 = .ok (.if_icmp .ge 8, 3) := by decide +kernel
theorem dX12_behind_62 : decode mX12_behind.2.1 62 = .ok (.iload 6, 2) := by decide +kernel
theorem dX12_behind_64 : decode mX12_behind.2.1 64 = .ok (.goto 10, 3) := by decide +kernel
theorem dX12_behind_67 : decode mX12_behind.2.1 67 = .ok (.iload 4, 2) := by decide +kernel
theorem dX12_behind_69 : decode mX12_behind.2.1 69 = .ok (.iload 5, 2) := by decide +kernel
theorem dX12_behind_71 : decode mX12_behind.2.1 71 = .ok (.invokestatic 299, 3) := by decide +kernel
theorem dX12_behind_74 : decode mX12_behind.2.1 74 = .ok (.invokestatic 303, 3) := by decide +kernel
theorem dX12_behind_77 : decode mX12_behind.2.1 77 = .ok (.ireturn, 1) := by decide +kernel
theorem bX12_behind_0 {SC : Nat → Nat} {X : mh_X} {d : Nat} {Q : Option am_V → am_W → Prop} {bc bs : Nat} {w : am_W} {x0 : Int} {x1 : Int}
    (h : am_M (mh_G X) SC (d + 6) 0 0 mX12_dateOf [.inl x0] w (fun r w1 => am_A (mh_G X) SC (d + 7) mX12_behind Q 4 [(0, .inl x0), (1, .inl x1)] (r.toList ++ []) w1 bc bs)) :
    am_A (mh_G X) SC (d + 7) mX12_behind Q 0 [(0, .inl x0), (1, .inl x1)] [] w bc bs := by
  refine am_iload_n dX12_behind_0 (List.Mem.head _) ?_
  exact am_calls (d' := d + 6) (kc := 0) (ks := 0) (as := [.inl x0]) dX12_behind_1 wc_X12_dateOf wd_1862 wd_1863 wd_122 ds_X12_dateOf (by decide) (by omega) (Nat.le_of_ble_eq_true rfl) (Nat.zero_le _) (Nat.zero_le _) rfl h
theorem bX12_behind_4 {SC : Nat → Nat} {X : mh_X} {d : Nat} {Q : Option am_V → am_W → Prop} {bc bs : Nat} {w : am_W} {x0 : Int} {x1 : Int} {xs0 : Int}
    (h : (∀ n1 : Int, n1 = (am_w ((am_w ((am_w ((am_w (12 * (am_w (Int.tdiv xs0 10000)))) + (am_w (Int.tmod (am_w (Int.tdiv xs0 100)) 100)))) - 1)) + x1)) → am_M (mh_G X) SC (d + 6) 0 0 mX12_lengthOf [.inl (am_w (Int.tdiv n1 12)), .inl (am_w ((am_w (Int.tmod n1 12)) + 1))] w (fun r w1 => am_A (mh_G X) SC (d + 7) mX12_behind Q 59 [(6, .inl (am_w (Int.tmod xs0 100))), (5, .inl (am_w ((am_w (Int.tmod n1 12)) + 1))), (4, .inl (am_w (Int.tdiv n1 12))), (3, .inl n1), (2, .inl xs0), (0, .inl x0), (1, .inl x1)] (r.toList ++ [.inl (am_w (Int.tmod xs0 100)), .inl (am_w ((am_w (Int.tmod n1 12)) + 1)), .inl (am_w (Int.tdiv n1 12))]) w1 bc bs))) :
    am_A (mh_G X) SC (d + 7) mX12_behind Q 4 [(0, .inl x0), (1, .inl x1)] [.inl xs0] w bc bs := by
  refine am_istore_n (ls' := [(2, .inl xs0), (0, .inl x0), (1, .inl x1)]) dX12_behind_4 (by decide) rfl ?_
  refine am_bipush dX12_behind_5 (by decide) (by unfold am_rg; omega) ?_
  refine am_iload_n dX12_behind_7 (List.Mem.head _) ?_
  refine am_sipush dX12_behind_8 (by decide) (by unfold am_rg; omega) ?_
  refine am_idiv dX12_behind_11 (by decide) ?_
  refine am_imul dX12_behind_12 ?_
  refine am_iload_n dX12_behind_13 (List.Mem.head _) ?_
  refine am_bipush dX12_behind_14 (by decide) (by unfold am_rg; omega) ?_
  refine am_idiv dX12_behind_16 (by decide) ?_
  refine am_bipush dX12_behind_17 (by decide) (by unfold am_rg; omega) ?_
  refine am_irem dX12_behind_19 (by decide) ?_
  refine am_iadd dX12_behind_20 ?_
  refine am_iconst dX12_behind_21 (by unfold am_rg; omega) ?_
  refine am_isub dX12_behind_22 ?_
  refine am_iload_n dX12_behind_23 (List.Mem.tail _ (List.Mem.tail _ (List.Mem.head _))) ?_
  refine am_iadd dX12_behind_24 ?_
  refine am_named (fun n1 en1 => ?_)
  replace h := h n1 en1
  refine am_istore_n (ls' := [(3, .inl n1), (2, .inl xs0), (0, .inl x0), (1, .inl x1)]) dX12_behind_25 (by decide) rfl ?_
  refine am_iload_n dX12_behind_26 (List.Mem.head _) ?_
  refine am_bipush dX12_behind_27 (by decide) (by unfold am_rg; omega) ?_
  refine am_idiv dX12_behind_29 (by decide) ?_
  refine am_istore (ls' := [(4, .inl (am_w (Int.tdiv n1 12))), (3, .inl n1), (2, .inl xs0), (0, .inl x0), (1, .inl x1)]) dX12_behind_30 (by decide) rfl ?_
  refine am_iload_n dX12_behind_32 (List.Mem.tail _ (List.Mem.head _)) ?_
  refine am_bipush dX12_behind_33 (by decide) (by unfold am_rg; omega) ?_
  refine am_irem dX12_behind_35 (by decide) ?_
  refine am_iconst dX12_behind_36 (by unfold am_rg; omega) ?_
  refine am_iadd dX12_behind_37 ?_
  refine am_istore (ls' := [(5, .inl (am_w ((am_w (Int.tmod n1 12)) + 1))), (4, .inl (am_w (Int.tdiv n1 12))), (3, .inl n1), (2, .inl xs0), (0, .inl x0), (1, .inl x1)]) dX12_behind_38 (by decide) rfl ?_
  refine am_iload_n dX12_behind_40 (List.Mem.tail _ (List.Mem.tail _ (List.Mem.tail _ (List.Mem.head _)))) ?_
  refine am_bipush dX12_behind_41 (by decide) (by unfold am_rg; omega) ?_
  refine am_irem dX12_behind_43 (by decide) ?_
  refine am_istore (ls' := [(6, .inl (am_w (Int.tmod xs0 100))), (5, .inl (am_w ((am_w (Int.tmod n1 12)) + 1))), (4, .inl (am_w (Int.tdiv n1 12))), (3, .inl n1), (2, .inl xs0), (0, .inl x0), (1, .inl x1)]) dX12_behind_44 (by decide) rfl ?_
  refine am_iload dX12_behind_46 (List.Mem.tail _ (List.Mem.tail _ (List.Mem.head _))) ?_
  refine am_iload dX12_behind_48 (List.Mem.tail _ (List.Mem.head _)) ?_
  refine am_iload dX12_behind_50 (List.Mem.head _) ?_
  refine am_iload dX12_behind_52 (List.Mem.tail _ (List.Mem.tail _ (List.Mem.head _))) ?_
  refine am_iload dX12_behind_54 (List.Mem.tail _ (List.Mem.head _)) ?_
  exact am_calls (d' := d + 6) (kc := 0) (ks := 0) (as := [.inl (am_w (Int.tdiv n1 12)), .inl (am_w ((am_w (Int.tmod n1 12)) + 1))]) dX12_behind_56 wc_X12_lengthOf wd_1874 wd_1875 wd_122 ds_X12_lengthOf (by decide) (by omega) (Nat.le_of_ble_eq_true rfl) (Nat.zero_le _) (Nat.zero_le _) rfl h
theorem bX12_behind_59 {SC : Nat → Nat} {X : mh_X} {d : Nat} {Q : Option am_V → am_W → Prop} {bc bs : Nat} {w : am_W} {x6 : Int} {x5 : Int} {x4 : Int} {x3 : Int} {x2 : Int} {x0 : Int} {x1 : Int} {xs0 : Int} {xs1 : Int} {xs2 : Int} {xs3 : Int}
    (h : ((xs0 ≤ xs1 → am_M (mh_G X) SC (d + 6) 0 0 mX12_lengthOf [.inl x4, .inl x5] w (fun r w1 => am_A (mh_G X) SC (d + 7) mX12_behind Q 74 [(6, .inl x6), (5, .inl x5), (4, .inl x4), (3, .inl x3), (2, .inl x2), (0, .inl x0), (1, .inl x1)] (r.toList ++ [.inl xs2, .inl xs3]) w1 bc bs)) ∧ (¬ xs0 ≤ xs1 → am_A (mh_G X) SC (d + 7) mX12_behind Q 74 [] [.inl x6, .inl xs2, .inl xs3] w bc bs))) :
    am_A (mh_G X) SC (d + 7) mX12_behind Q 59 [(6, .inl x6), (5, .inl x5), (4, .inl x4), (3, .inl x3), (2, .inl x2), (0, .inl x0), (1, .inl x1)] [.inl xs0, .inl xs1, .inl xs2, .inl xs3] w bc bs := by
  refine am_icmpge (tgt := 67) dX12_behind_59 (by decide) (fun c1 => ?_) (fun c1 => ?_)
  · replace h := h.1 c1
    refine am_iload dX12_behind_67 (List.Mem.tail _ (List.Mem.tail _ (List.Mem.head _))) ?_
    refine am_iload dX12_behind_69 (List.Mem.tail _ (List.Mem.head _)) ?_
    exact am_calls (d' := d + 6) (kc := 0) (ks := 0) (as := [.inl x4, .inl x5]) dX12_behind_71 wc_X12_lengthOf wd_1874 wd_1875 wd_122 ds_X12_lengthOf (by decide) (by omega) (Nat.le_of_ble_eq_true rfl) (Nat.zero_le _) (Nat.zero_le _) rfl h
  · replace h := h.2 c1
    refine am_iload dX12_behind_62 (List.Mem.head _) ?_
    refine am_goto (tgt := 74) dX12_behind_64 (by decide) ?_
    exact am_sub [] rfl h
theorem bX12_behind_74 {SC : Nat → Nat} {X : mh_X} {d : Nat} {Q : Option am_V → am_W → Prop} {bc bs : Nat} {w : am_W} {x6 : Int} {x5 : Int} {x4 : Int} {x3 : Int} {x2 : Int} {x0 : Int} {x1 : Int} {xs0 : Int} {xs1 : Int} {xs2 : Int}
    (h : am_M (mh_G X) SC (d + 6) 0 0 mX12_dayOf [.inl xs2, .inl xs1, .inl xs0] w (fun r w1 => am_A (mh_G X) SC (d + 7) mX12_behind Q 77 [(6, .inl x6), (5, .inl x5), (4, .inl x4), (3, .inl x3), (2, .inl x2), (0, .inl x0), (1, .inl x1)] (r.toList ++ []) w1 bc bs)) :
    am_A (mh_G X) SC (d + 7) mX12_behind Q 74 [(6, .inl x6), (5, .inl x5), (4, .inl x4), (3, .inl x3), (2, .inl x2), (0, .inl x0), (1, .inl x1)] [.inl xs0, .inl xs1, .inl xs2] w bc bs := by
  exact am_calls (d' := d + 6) (kc := 0) (ks := 0) (as := [.inl xs2, .inl xs1, .inl xs0]) dX12_behind_74 wc_X12_dayOf wd_1868 wd_1869 wd_122 ds_X12_dayOf (by decide) (by omega) (Nat.le_of_ble_eq_true rfl) (Nat.zero_le _) (Nat.zero_le _) rfl h
theorem bX12_behind_74a {SC : Nat → Nat} {X : mh_X} {d : Nat} {Q : Option am_V → am_W → Prop} {bc bs : Nat} {w : am_W} {xs0 : Int} {xs1 : Int} {xs2 : Int}
    (h : am_M (mh_G X) SC (d + 6) 0 0 mX12_dayOf [.inl xs2, .inl xs1, .inl xs0] w (fun r w1 => am_A (mh_G X) SC (d + 7) mX12_behind Q 77 [] (r.toList ++ []) w1 bc bs)) :
    am_A (mh_G X) SC (d + 7) mX12_behind Q 74 [] [.inl xs0, .inl xs1, .inl xs2] w bc bs := by
  exact am_calls (d' := d + 6) (kc := 0) (ks := 0) (as := [.inl xs2, .inl xs1, .inl xs0]) dX12_behind_74 wc_X12_dayOf wd_1868 wd_1869 wd_122 ds_X12_dayOf (by decide) (by omega) (Nat.le_of_ble_eq_true rfl) (Nat.zero_le _) (Nat.zero_le _) rfl h
theorem bX12_behind_77 {SC : Nat → Nat} {X : mh_X} {d : Nat} {Q : Option am_V → am_W → Prop} {bc bs : Nat} {w : am_W} {x6 : Int} {x5 : Int} {x4 : Int} {x3 : Int} {x2 : Int} {x0 : Int} {x1 : Int} {xs0 : Int}
    (h : Q (some (.inl xs0)) w) :
    am_A (mh_G X) SC (d + 7) mX12_behind Q 77 [(6, .inl x6), (5, .inl x5), (4, .inl x4), (3, .inl x3), (2, .inl x2), (0, .inl x0), (1, .inl x1)] [.inl xs0] w bc bs := by
  exact am_ret (r := some (.inl xs0)) dX12_behind_77 (Or.inl rfl) rfl h
theorem bX12_behind_77a {SC : Nat → Nat} {X : mh_X} {d : Nat} {Q : Option am_V → am_W → Prop} {bc bs : Nat} {w : am_W} {xs0 : Int}
    (h : Q (some (.inl xs0)) w) :
    am_A (mh_G X) SC (d + 7) mX12_behind Q 77 [] [.inl xs0] w bc bs := by
  exact am_ret (r := some (.inl xs0)) dX12_behind_77 (Or.inl rfl) rfl h
-- MourningHouseModel.isDay(I)Z
theorem dX12_isDay_0 : decode mX12_isDay.2.1 0 = .ok (.iload_n 0, 1) := by decide +kernel
theorem dX12_isDay_1 : decode mX12_isDay.2.1 1 = .ok (.ldc_w 316, 3) := by decide +kernel
theorem dX12_isDay_4 : decode mX12_isDay.2.1 4 = .ok (.ldc_w 317, 3) := by decide +kernel
theorem dX12_isDay_7 : decode mX12_isDay.2.1 7 = .ok (.invokestatic 318, 3) := by decide +kernel
theorem dX12_isDay_10 : decode mX12_isDay.2.1 10 = .ok (.ireturn, 1) := by decide +kernel
theorem sX12_isDay {SC : Nat → Nat} {X : mh_X} {d kc ks : Nat} {Q : Option am_V → am_W → Prop} {w : am_W} {x0 : Int}
    (h : Q (some (.inl (if (¬ x0 < ((-36524) : Int) ∧ (¬ (73047 : Int) < x0)) then 1 else 0))) w) : am_M (mh_G X) SC (d + 2) kc ks mX12_isDay [.inl x0] w Q := by
  refine am_M_of (by decide) (Nat.le_of_ble_eq_true rfl) ?_
  show am_A (mh_G X) SC (d + 2) mX12_isDay Q 0 [(0, .inl x0)] [] w kc ks
  refine am_iload_n dX12_isDay_0 (List.Mem.head _) ?_
  refine am_ldcwV (n := (-36524)) dX12_isDay_1 (by decide) wd_1857 (by unfold am_rg; omega) ?_
  refine am_ldcwV (n := 73047) dX12_isDay_4 (by decide) wd_1858 (by unfold am_rg; omega) ?_
  refine am_calls (d' := d + 1) (kc := 0) (ks := 0) (as := [.inl x0, .inl (-36524), .inl 73047]) dX12_isDay_7 wc_X12_in wd_1859 wd_1860 wd_122 ds_X12_in (by decide) (by omega) (Nat.le_of_ble_eq_true rfl) (Nat.zero_le _) (Nat.zero_le _) rfl (sX12_in (d := d + 0) (x0 := x0) (x1 := (-36524)) (x2 := 73047)  ?_)
  show am_A (mh_G X) SC (d + 2) mX12_isDay Q 10 [(0, .inl x0)] [.inl (if (¬ x0 < ((-36524) : Int) ∧ (¬ (73047 : Int) < x0)) then 1 else 0)] w kc ks
  exact am_ret (r := some (.inl (if (¬ x0 < ((-36524) : Int) ∧ (¬ (73047 : Int) < x0)) then 1 else 0))) dX12_isDay_10 (Or.inr (Or.inl ⟨rfl, am_b01⟩)) rfl h
-- MourningHouseModel.date(I)I
theorem dX12_date_0 : decode mX12_date.2.1 0 = .ok (.iload_n 1, 1) := by decide +kernel
theorem dX12_date_1 : decode mX12_date.2.1 1 = .ok (.invokestatic 322, 3) := by decide +kernel
theorem dX12_date_4 : decode mX12_date.2.1 4 = .ok (.ifCond .eq 10, 3) := by decide +kernel
theorem dX12_date_7 : decode mX12_date.2.1 7 = .ok (.iload_n 1, 1) := by decide +kernel
theorem dX12_date_8 : decode mX12_date.2.1 8 = .ok (.invokestatic 313, 3) := by decide +kernel
theorem dX12_date_11 : decode mX12_date.2.1 11 = .ok (.goto 4, 3) := by decide +kernel
theorem dX12_date_14 : decode mX12_date.2.1 14 = .ok (.iconst (-1), 1) := by decide +kernel
theorem dX12_date_15 : decode mX12_date.2.1 15 = .ok (.ireturn, 1) := by decide +kernel
theorem bX12_date_0 {SC : Nat → Nat} {X : mh_X} {d : Nat} {Q : Option am_V → am_W → Prop} {bc bs : Nat} {w : am_W} {x1 : Int}
    (h : ((¬ (¬ x1 < ((-36524) : Int) ∧ (¬ (73047 : Int) < x1)) → Q (some (.inl (-1))) w) ∧ ((¬ x1 < ((-36524) : Int) ∧ (¬ (73047 : Int) < x1)) → am_M (mh_G X) SC (d + 6) 0 0 mX12_dateOf [.inl x1] w (fun r w1 => am_A (mh_G X) SC (d + 7) mX12_date Q 11 [(0, .inr (.inr (some (9, 0)))), (1, .inl x1)] (r.toList ++ []) w1 bc bs)))) :
    am_A (mh_G X) SC (d + 7) mX12_date Q 0 [(0, .inr (.inr (some (9, 0)))), (1, .inl x1)] [] w bc bs := by
  refine am_iload_n dX12_date_0 (List.Mem.tail _ (List.Mem.head _)) ?_
  refine am_calls (d' := d + 6) (kc := 0) (ks := 0) (as := [.inl x1]) dX12_date_1 wc_X12_isDay wd_1854 wd_1855 wd_122 ds_X12_isDay (by decide) (by omega) (Nat.le_of_ble_eq_true rfl) (Nat.zero_le _) (Nat.zero_le _) rfl (sX12_isDay (d := d + 4) (x0 := x1)  ?_)
  show am_A (mh_G X) SC (d + 7) mX12_date Q 4 [(0, .inr (.inr (some (9, 0)))), (1, .inl x1)] [.inl (if (¬ x1 < ((-36524) : Int) ∧ (¬ (73047 : Int) < x1)) then 1 else 0)] w bc bs
  refine am_ifeq (tgt := 14) dX12_date_4 (by decide) (fun c1 => ?_) (fun c1 => ?_)
  · replace c1 := am_beq1 c1
    replace h := h.1 c1
    refine am_iconst dX12_date_14 (by unfold am_rg; omega) ?_
    exact am_ret (r := some (.inl (-1))) dX12_date_15 (Or.inl rfl) rfl h
  · replace c1 := am_beq2 c1
    replace h := h.2 c1
    refine am_iload_n dX12_date_7 (List.Mem.tail _ (List.Mem.head _)) ?_
    exact am_calls (d' := d + 6) (kc := 0) (ks := 0) (as := [.inl x1]) dX12_date_8 wc_X12_dateOf wd_1862 wd_1863 wd_122 ds_X12_dateOf (by decide) (by omega) (Nat.le_of_ble_eq_true rfl) (Nat.zero_le _) (Nat.zero_le _) rfl h
theorem bX12_date_11 {SC : Nat → Nat} {X : mh_X} {d : Nat} {Q : Option am_V → am_W → Prop} {bc bs : Nat} {w : am_W} {x1 : Int} {xs0 : Int}
    (h : Q (some (.inl xs0)) w) :
    am_A (mh_G X) SC (d + 7) mX12_date Q 11 [(0, .inr (.inr (some (9, 0)))), (1, .inl x1)] [.inl xs0] w bc bs := by
  refine am_goto (tgt := 15) dX12_date_11 (by decide) ?_
  exact am_ret (r := some (.inl xs0)) dX12_date_15 (Or.inl rfl) rfl h
-- MourningHouseModel.day(I)I
theorem dX12_day_0 : decode mX12_day.2.1 0 = .ok (.iload_n 1, 1) := by decide +kernel
theorem dX12_day_1 : decode mX12_day.2.1 1 = .ok (.sipush 10000, 3) := by decide +kernel
theorem dX12_day_4 : decode mX12_day.2.1 4 = .ok (.idiv, 1) := by decide +kernel
theorem dX12_day_5 : decode mX12_day.2.1 5 = .ok (.istore_n 2, 1) := by decide +kernel
theorem dX12_day_6 : decode mX12_day.2.1 6 = .ok (.iload_n 1, 1) := by decide +kernel
theorem dX12_day_7 : decode mX12_day.2.1 7 = .ok (.bipush 100, 2) := by decide +kernel
theorem dX12_day_9 : decode mX12_day.2.1 9 = .ok (.idiv, 1) := by decide +kernel
theorem dX12_day_10 : decode mX12_day.2.1 10 = .ok (.bipush 100, 2) := by decide +kernel
theorem dX12_day_12 : decode mX12_day.2.1 12 = .ok (.irem, 1) := by decide +kernel
theorem dX12_day_13 : decode mX12_day.2.1 13 = .ok (.istore_n 3, 1) := by decide +kernel
theorem dX12_day_14 : decode mX12_day.2.1 14 = .ok (.iload_n 1, 1) := by decide +kernel
theorem dX12_day_15 : decode mX12_day.2.1 15 = .ok (.ifCond .lt 42, 3) := by decide +kernel
theorem dX12_day_18 : decode mX12_day.2.1 18 = .ok (.iload_n 2, 1) := by decide +kernel
theorem dX12_day_19 : decode mX12_day.2.1 19 = .ok (.sipush 1700, 3) := by decide +kernel
theorem dX12_day_22 : decode mX12_day.2.1 22 = .ok (.sipush 1999, 3) := by decide +kernel
theorem dX12_day_25 : decode mX12_day.2.1 25 = .ok (.invokestatic 318, 3) := by decide +kernel
theorem dX12_day_28 : decode mX12_day.2.1 28 = .ok (.ifCond .eq 29, 3) := by decide +kernel
theorem dX12_day_31 : decode mX12_day.2.1 31 = .ok (.iload_n 3, 1) := by decide +kernel
theorem dX12_day_32 : decode mX12_day.2.1 32 = .ok (.iconst 1, 1) := by decide +kernel
theorem dX12_day_33 : decode mX12_day.2.1 33 = .ok (.bipush 12, 2) := by decide +kernel
theorem dX12_day_35 : decode mX12_day.2.1 35 = .ok (.invokestatic 318, 3) := by decide +kernel
theorem dX12_day_38 : decode mX12_day.2.1 38 = .ok (.ifCond .eq 19, 3) := by decide +kernel
theorem dX12_day_41 : decode mX12_day.2.1 41 = .ok (.iload_n 1, 1) := by decide +kernel
theorem dX12_day_42 : decode mX12_day.2.1 42 = .ok (.bipush 100, 2) := by decide +kernel
theorem dX12_day_44 : decode mX12_day.2.1 44 = .ok (.irem, 1) := by decide +kernel
theorem dX12_day_45 : decode mX12_day.2.1 45 = .ok (.iconst 1, 1) := by decide +kernel
theorem dX12_day_46 : decode mX12_day.2.1 46 = .ok (.iload_n 2, 1) := by decide +kernel
theorem dX12_day_47 : decode mX12_day.2.1 47 = .ok (.iload_n 3, 1) := by decide +kernel
theorem dX12_day_48 : decode mX12_day.2.1 48 = .ok (.invokestatic 299, 3) := by decide +kernel
theorem dX12_day_51 : decode mX12_day.2.1 51 = .ok (.invokestatic 318, 3) := by decide +kernel
theorem dX12_day_54 : decode mX12_day.2.1 54 = .ok (.ifCond .ne 7, 3) := by decide +kernel
theorem dX12_day_57 : decode mX12_day.2.1 57 = .ok (.ldc_w 325, 3) := by decide +kernel
theorem dX12_day_60 : decode mX12_day.2.1 60 = .ok (.ireturn, 1) := by decide +kernel
theorem dX12_day_61 : decode mX12_day.2.1 61 = .ok (.iload_n 2, 1) := by decide +kernel
theorem dX12_day_62 : decode mX12_day.2.1 62 = .ok (.iload_n 3, 1) := by decide +kernel
theorem dX12_day_63 : decode mX12_day.2.1 63 = .ok (.iload_n 1, 1) := by decide +kernel
theorem dX12_day_64 : decode mX12_day.2.1 64 = .ok (.bipush 100, 2) := by decide +kernel
theorem dX12_day_66 : decode mX12_day.2.1 66 = .ok (.irem, 1) := by decide +kernel
theorem dX12_day_67 : decode mX12_day.2.1 67 = .ok (.invokestatic 303, 3) := by decide +kernel
theorem dX12_day_70 : decode mX12_day.2.1 70 = .ok (.istore 4, 2) := by decide +kernel
theorem dX12_day_72 : decode mX12_day.2.1 72 = .ok (.iload 4, 2) := by decide +kernel
theorem dX12_day_74 : decode mX12_day.2.1 74 = .ok (.invokestatic 322, 3) := by decide +kernel
theorem dX12_day_77 : decode mX12_day.2.1 77 = .ok (.ifCond .eq 8, 3) := by decide +kernel
theorem dX12_day_80 : decode mX12_day.2.1 80 = .ok (.iload 4, 2) := by decide +kernel
theorem dX12_day_82 : decode mX12_day.2.1 82 = .ok (.goto 6, 3) := by decide +kernel
theorem dX12_day_85 : decode mX12_day.2.1 85 = .ok (.ldc_w 325, 3) := by decide +kernel
theorem dX12_day_88 : decode mX12_day.2.1 88 = .ok (.ireturn, 1) := by decide +kernel
theorem bX12_day_0 {SC : Nat → Nat} {X : mh_X} {d : Nat} {Q : Option am_V → am_W → Prop} {bc bs : Nat} {w : am_W} {x1 : Int}
    (h : ((x1 < 0 → Q (some (.inl (-2147483648))) w) ∧ (¬ x1 < 0 → ((¬ (¬ (am_w (Int.tdiv x1 10000)) < (1700 : Int) ∧ (¬ (1999 : Int) < (am_w (Int.tdiv x1 10000)))) → Q (some (.inl (-2147483648))) w) ∧ ((¬ (am_w (Int.tdiv x1 10000)) < (1700 : Int) ∧ (¬ (1999 : Int) < (am_w (Int.tdiv x1 10000)))) → ((¬ (¬ (am_w (Int.tmod (am_w (Int.tdiv x1 100)) 100)) < (1 : Int) ∧ (¬ (12 : Int) < (am_w (Int.tmod (am_w (Int.tdiv x1 100)) 100)))) → Q (some (.inl (-2147483648))) w) ∧ ((¬ (am_w (Int.tmod (am_w (Int.tdiv x1 100)) 100)) < (1 : Int) ∧ (¬ (12 : Int) < (am_w (Int.tmod (am_w (Int.tdiv x1 100)) 100)))) → am_M (mh_G X) SC (d + 3) 0 0 mX12_lengthOf [.inl (am_w (Int.tdiv x1 10000)), .inl (am_w (Int.tmod (am_w (Int.tdiv x1 100)) 100))] w (fun r w1 => am_A (mh_G X) SC (d + 4) mX12_day Q 51 [(3, .inl (am_w (Int.tmod (am_w (Int.tdiv x1 100)) 100))), (2, .inl (am_w (Int.tdiv x1 10000))), (0, .inr (.inr (some (9, 0)))), (1, .inl x1)] (r.toList ++ [.inl 1, .inl (am_w (Int.tmod x1 100))]) w1 bc bs)))))))) :
    am_A (mh_G X) SC (d + 4) mX12_day Q 0 [(0, .inr (.inr (some (9, 0)))), (1, .inl x1)] [] w bc bs := by
  refine am_iload_n dX12_day_0 (List.Mem.tail _ (List.Mem.head _)) ?_
  refine am_sipush dX12_day_1 (by decide) (by unfold am_rg; omega) ?_
  refine am_idiv dX12_day_4 (by decide) ?_
  refine am_istore_n (ls' := [(2, .inl (am_w (Int.tdiv x1 10000))), (0, .inr (.inr (some (9, 0)))), (1, .inl x1)]) dX12_day_5 (by decide) rfl ?_
  refine am_iload_n dX12_day_6 (List.Mem.tail _ (List.Mem.tail _ (List.Mem.head _))) ?_
  refine am_bipush dX12_day_7 (by decide) (by unfold am_rg; omega) ?_
  refine am_idiv dX12_day_9 (by decide) ?_
  refine am_bipush dX12_day_10 (by decide) (by unfold am_rg; omega) ?_
  refine am_irem dX12_day_12 (by decide) ?_
  refine am_istore_n (ls' := [(3, .inl (am_w (Int.tmod (am_w (Int.tdiv x1 100)) 100))), (2, .inl (am_w (Int.tdiv x1 10000))), (0, .inr (.inr (some (9, 0)))), (1, .inl x1)]) dX12_day_13 (by decide) rfl ?_
  refine am_iload_n dX12_day_14 (List.Mem.tail _ (List.Mem.tail _ (List.Mem.tail _ (List.Mem.head _)))) ?_
  refine am_iflt (tgt := 57) dX12_day_15 (by decide) (fun c1 => ?_) (fun c1 => ?_)
  · replace h := h.1 c1
    refine am_ldcwV (n := (-2147483648)) dX12_day_57 (by decide) wd_1887 (by unfold am_rg; omega) ?_
    exact am_ret (r := some (.inl (-2147483648))) dX12_day_60 (Or.inl rfl) rfl h
  · replace h := h.2 c1
    refine am_iload_n dX12_day_18 (List.Mem.tail _ (List.Mem.head _)) ?_
    refine am_sipush dX12_day_19 (by decide) (by unfold am_rg; omega) ?_
    refine am_sipush dX12_day_22 (by decide) (by unfold am_rg; omega) ?_
    refine am_calls (d' := d + 3) (kc := 0) (ks := 0) (as := [.inl (am_w (Int.tdiv x1 10000)), .inl 1700, .inl 1999]) dX12_day_25 wc_X12_in wd_1859 wd_1860 wd_122 ds_X12_in (by decide) (by omega) (Nat.le_of_ble_eq_true rfl) (Nat.zero_le _) (Nat.zero_le _) rfl (sX12_in (d := d + 2) (x0 := (am_w (Int.tdiv x1 10000))) (x1 := 1700) (x2 := 1999)  ?_)
    show am_A (mh_G X) SC (d + 4) mX12_day Q 28 [(3, .inl (am_w (Int.tmod (am_w (Int.tdiv x1 100)) 100))), (2, .inl (am_w (Int.tdiv x1 10000))), (0, .inr (.inr (some (9, 0)))), (1, .inl x1)] [.inl (if (¬ (am_w (Int.tdiv x1 10000)) < (1700 : Int) ∧ (¬ (1999 : Int) < (am_w (Int.tdiv x1 10000)))) then 1 else 0)] w bc bs
    refine am_ifeq (tgt := 57) dX12_day_28 (by decide) (fun c2 => ?_) (fun c2 => ?_)
    · replace c2 := am_beq1 c2
      replace h := h.1 c2
      refine am_ldcwV (n := (-2147483648)) dX12_day_57 (by decide) wd_1887 (by unfold am_rg; omega) ?_
      exact am_ret (r := some (.inl (-2147483648))) dX12_day_60 (Or.inl rfl) rfl h
    · replace c2 := am_beq2 c2
      replace h := h.2 c2
      refine am_iload_n dX12_day_31 (List.Mem.head _) ?_
      refine am_iconst dX12_day_32 (by unfold am_rg; omega) ?_
      refine am_bipush dX12_day_33 (by decide) (by unfold am_rg; omega) ?_
      refine am_calls (d' := d + 3) (kc := 0) (ks := 0) (as := [.inl (am_w (Int.tmod (am_w (Int.tdiv x1 100)) 100)), .inl 1, .inl 12]) dX12_day_35 wc_X12_in wd_1859 wd_1860 wd_122 ds_X12_in (by decide) (by omega) (Nat.le_of_ble_eq_true rfl) (Nat.zero_le _) (Nat.zero_le _) rfl (sX12_in (d := d + 2) (x0 := (am_w (Int.tmod (am_w (Int.tdiv x1 100)) 100))) (x1 := 1) (x2 := 12)  ?_)
      show am_A (mh_G X) SC (d + 4) mX12_day Q 38 [(3, .inl (am_w (Int.tmod (am_w (Int.tdiv x1 100)) 100))), (2, .inl (am_w (Int.tdiv x1 10000))), (0, .inr (.inr (some (9, 0)))), (1, .inl x1)] [.inl (if (¬ (am_w (Int.tmod (am_w (Int.tdiv x1 100)) 100)) < (1 : Int) ∧ (¬ (12 : Int) < (am_w (Int.tmod (am_w (Int.tdiv x1 100)) 100)))) then 1 else 0)] w bc bs
      refine am_ifeq (tgt := 57) dX12_day_38 (by decide) (fun c3 => ?_) (fun c3 => ?_)
      · replace c3 := am_beq1 c3
        replace h := h.1 c3
        refine am_ldcwV (n := (-2147483648)) dX12_day_57 (by decide) wd_1887 (by unfold am_rg; omega) ?_
        exact am_ret (r := some (.inl (-2147483648))) dX12_day_60 (Or.inl rfl) rfl h
      · replace c3 := am_beq2 c3
        replace h := h.2 c3
        refine am_iload_n dX12_day_41 (List.Mem.tail _ (List.Mem.tail _ (List.Mem.tail _ (List.Mem.head _)))) ?_
        refine am_bipush dX12_day_42 (by decide) (by unfold am_rg; omega) ?_
        refine am_irem dX12_day_44 (by decide) ?_
        refine am_iconst dX12_day_45 (by unfold am_rg; omega) ?_
        refine am_iload_n dX12_day_46 (List.Mem.tail _ (List.Mem.head _)) ?_
        refine am_iload_n dX12_day_47 (List.Mem.head _) ?_
        exact am_calls (d' := d + 3) (kc := 0) (ks := 0) (as := [.inl (am_w (Int.tdiv x1 10000)), .inl (am_w (Int.tmod (am_w (Int.tdiv x1 100)) 100))]) dX12_day_48 wc_X12_lengthOf wd_1874 wd_1875 wd_122 ds_X12_lengthOf (by decide) (by omega) (Nat.le_of_ble_eq_true rfl) (Nat.zero_le _) (Nat.zero_le _) rfl h
theorem bX12_day_51 {SC : Nat → Nat} {X : mh_X} {d : Nat} {Q : Option am_V → am_W → Prop} {bc bs : Nat} {w : am_W} {x3 : Int} {x2 : Int} {x1 : Int} {xs0 : Int} {xs1 : Int} {xs2 : Int}
    (h : (((¬ xs2 < xs1 ∧ (¬ xs0 < xs2)) → am_M (mh_G X) SC (d + 3) 0 0 mX12_dayOf [.inl x2, .inl x3, .inl (am_w (Int.tmod x1 100))] w (fun r w1 => am_A (mh_G X) SC (d + 4) mX12_day Q 70 [(3, .inl x3), (2, .inl x2), (0, .inr (.inr (some (9, 0)))), (1, .inl x1)] (r.toList ++ []) w1 bc bs)) ∧ (¬ (¬ xs2 < xs1 ∧ (¬ xs0 < xs2)) → Q (some (.inl (-2147483648))) w))) :
    am_A (mh_G X) SC (d + 4) mX12_day Q 51 [(3, .inl x3), (2, .inl x2), (0, .inr (.inr (some (9, 0)))), (1, .inl x1)] [.inl xs0, .inl xs1, .inl xs2] w bc bs := by
  refine am_calls (d' := d + 3) (kc := 0) (ks := 0) (as := [.inl xs2, .inl xs1, .inl xs0]) dX12_day_51 wc_X12_in wd_1859 wd_1860 wd_122 ds_X12_in (by decide) (by omega) (Nat.le_of_ble_eq_true rfl) (Nat.zero_le _) (Nat.zero_le _) rfl (sX12_in (d := d + 2) (x0 := xs2) (x1 := xs1) (x2 := xs0)  ?_)
  show am_A (mh_G X) SC (d + 4) mX12_day Q 54 [(3, .inl x3), (2, .inl x2), (0, .inr (.inr (some (9, 0)))), (1, .inl x1)] [.inl (if (¬ xs2 < xs1 ∧ (¬ xs0 < xs2)) then 1 else 0)] w bc bs
  refine am_ifne (tgt := 61) dX12_day_54 (by decide) (fun c1 => ?_) (fun c1 => ?_)
  · replace c1 := am_bne1 c1
    replace h := h.1 c1
    refine am_iload_n dX12_day_61 (List.Mem.tail _ (List.Mem.head _)) ?_
    refine am_iload_n dX12_day_62 (List.Mem.head _) ?_
    refine am_iload_n dX12_day_63 (List.Mem.tail _ (List.Mem.tail _ (List.Mem.tail _ (List.Mem.head _)))) ?_
    refine am_bipush dX12_day_64 (by decide) (by unfold am_rg; omega) ?_
    refine am_irem dX12_day_66 (by decide) ?_
    exact am_calls (d' := d + 3) (kc := 0) (ks := 0) (as := [.inl x2, .inl x3, .inl (am_w (Int.tmod x1 100))]) dX12_day_67 wc_X12_dayOf wd_1868 wd_1869 wd_122 ds_X12_dayOf (by decide) (by omega) (Nat.le_of_ble_eq_true rfl) (Nat.zero_le _) (Nat.zero_le _) rfl h
  · replace c1 := am_bne2 c1
    replace h := h.2 c1
    refine am_ldcwV (n := (-2147483648)) dX12_day_57 (by decide) wd_1887 (by unfold am_rg; omega) ?_
    exact am_ret (r := some (.inl (-2147483648))) dX12_day_60 (Or.inl rfl) rfl h
theorem bX12_day_70 {SC : Nat → Nat} {X : mh_X} {d : Nat} {Q : Option am_V → am_W → Prop} {bc bs : Nat} {w : am_W} {x3 : Int} {x2 : Int} {x1 : Int} {xs0 : Int}
    (h : ((¬ (¬ xs0 < ((-36524) : Int) ∧ (¬ (73047 : Int) < xs0)) → Q (some (.inl (-2147483648))) w) ∧ ((¬ xs0 < ((-36524) : Int) ∧ (¬ (73047 : Int) < xs0)) → Q (some (.inl xs0)) w))) :
    am_A (mh_G X) SC (d + 4) mX12_day Q 70 [(3, .inl x3), (2, .inl x2), (0, .inr (.inr (some (9, 0)))), (1, .inl x1)] [.inl xs0] w bc bs := by
  refine am_istore (ls' := [(4, .inl xs0), (3, .inl x3), (2, .inl x2), (0, .inr (.inr (some (9, 0)))), (1, .inl x1)]) dX12_day_70 (by decide) rfl ?_
  refine am_iload dX12_day_72 (List.Mem.head _) ?_
  refine am_calls (d' := d + 3) (kc := 0) (ks := 0) (as := [.inl xs0]) dX12_day_74 wc_X12_isDay wd_1854 wd_1855 wd_122 ds_X12_isDay (by decide) (by omega) (Nat.le_of_ble_eq_true rfl) (Nat.zero_le _) (Nat.zero_le _) rfl (sX12_isDay (d := d + 1) (x0 := xs0)  ?_)
  show am_A (mh_G X) SC (d + 4) mX12_day Q 77 [(4, .inl xs0), (3, .inl x3), (2, .inl x2), (0, .inr (.inr (some (9, 0)))), (1, .inl x1)] [.inl (if (¬ xs0 < ((-36524) : Int) ∧ (¬ (73047 : Int) < xs0)) then 1 else 0)] w bc bs
  refine am_ifeq (tgt := 85) dX12_day_77 (by decide) (fun c1 => ?_) (fun c1 => ?_)
  · replace c1 := am_beq1 c1
    replace h := h.1 c1
    refine am_ldcwV (n := (-2147483648)) dX12_day_85 (by decide) wd_1887 (by unfold am_rg; omega) ?_
    exact am_ret (r := some (.inl (-2147483648))) dX12_day_88 (Or.inl rfl) rfl h
  · replace c1 := am_beq2 c1
    replace h := h.2 c1
    refine am_iload dX12_day_80 (List.Mem.head _) ?_
    refine am_goto (tgt := 88) dX12_day_82 (by decide) ?_
    exact am_ret (r := some (.inl xs0)) dX12_day_88 (Or.inl rfl) rfl h
-- MourningHouseModel.months(II)I
theorem dX12_months_0 : decode mX12_months.2.1 0 = .ok (.iload_n 1, 1) := by decide +kernel
theorem dX12_months_1 : decode mX12_months.2.1 1 = .ok (.invokestatic 322, 3) := by decide +kernel
theorem dX12_months_4 : decode mX12_months.2.1 4 = .ok (.ifCond .eq 14, 3) := by decide +kernel
theorem dX12_months_7 : decode mX12_months.2.1 7 = .ok (.iload_n 2, 1) := by decide +kernel
theorem dX12_months_8 : decode mX12_months.2.1 8 = .ok (.iconst 0, 1) := by decide +kernel
theorem dX12_months_9 : decode mX12_months.2.1 9 = .ok (.sipush 12000, 3) := by decide +kernel
theorem dX12_months_12 : decode mX12_months.2.1 12 = .ok (.invokestatic 318, 3) := by decide +kernel
theorem dX12_months_15 : decode mX12_months.2.1 15 = .ok (.ifCond .ne 7, 3) := by decide +kernel
theorem dX12_months_18 : decode mX12_months.2.1 18 = .ok (.ldc_w 325, 3) := by decide +kernel
theorem dX12_months_21 : decode mX12_months.2.1 21 = .ok (.ireturn, 1) := by decide +kernel
theorem dX12_months_22 : decode mX12_months.2.1 22 = .ok (.iload_n 1, 1) := by decide +kernel
theorem dX12_months_23 : decode mX12_months.2.1 23 = .ok (.iload_n 2, 1) := by decide +kernel
theorem dX12_months_24 : decode mX12_months.2.1 24 = .ok (.invokestatic 326, 3) := by decide +kernel
theorem dX12_months_27 : decode mX12_months.2.1 27 = .ok (.istore_n 3, 1) := by decide +kernel
theorem dX12_months_28 : decode mX12_months.2.1 28 = .ok (.iload_n 3, 1) := by decide +kernel
theorem dX12_months_29 : decode mX12_months.2.1 29 = .ok (.invokestatic 322, 3) := by decide +kernel
theorem dX12_months_32 : decode mX12_months.2.1 32 = .ok (.ifCond .eq 7, 3) := by decide +kernel
theorem dX12_months_35 : decode mX12_months.2.1 35 = .ok (.iload_n 3, 1) := by decide +kernel
theorem dX12_months_36 : decode mX12_months.2.1 36 = .ok (.goto 6, 3) := by decide +kernel
theorem dX12_months_39 : decode mX12_months.2.1 39 = .ok (.ldc_w 325, 3) := by decide +kernel
theorem dX12_months_42 : decode mX12_months.2.1 42 = .ok (.ireturn, 1) := by decide +kernel
theorem bX12_months_0 {SC : Nat → Nat} {X : mh_X} {d : Nat} {Q : Option am_V → am_W → Prop} {bc bs : Nat} {w : am_W} {x1 : Int} {x2 : Int}
    (h : ((¬ (¬ x1 < ((-36524) : Int) ∧ (¬ (73047 : Int) < x1)) → Q (some (.inl (-2147483648))) w) ∧ ((¬ x1 < ((-36524) : Int) ∧ (¬ (73047 : Int) < x1)) → (((¬ x2 < (0 : Int) ∧ (¬ (12000 : Int) < x2)) → am_M (mh_G X) SC (d + 7) 0 0 mX12_behind [.inl x1, .inl x2] w (fun r w1 => am_A (mh_G X) SC (d + 8) mX12_months Q 27 [(0, .inr (.inr (some (9, 0)))), (1, .inl x1), (2, .inl x2)] (r.toList ++ []) w1 bc bs)) ∧ (¬ (¬ x2 < (0 : Int) ∧ (¬ (12000 : Int) < x2)) → Q (some (.inl (-2147483648))) w))))) :
    am_A (mh_G X) SC (d + 8) mX12_months Q 0 [(0, .inr (.inr (some (9, 0)))), (1, .inl x1), (2, .inl x2)] [] w bc bs := by
  refine am_iload_n dX12_months_0 (List.Mem.tail _ (List.Mem.head _)) ?_
  refine am_calls (d' := d + 7) (kc := 0) (ks := 0) (as := [.inl x1]) dX12_months_1 wc_X12_isDay wd_1854 wd_1855 wd_122 ds_X12_isDay (by decide) (by omega) (Nat.le_of_ble_eq_true rfl) (Nat.zero_le _) (Nat.zero_le _) rfl (sX12_isDay (d := d + 5) (x0 := x1)  ?_)
  show am_A (mh_G X) SC (d + 8) mX12_months Q 4 [(0, .inr (.inr (some (9, 0)))), (1, .inl x1), (2, .inl x2)] [.inl (if (¬ x1 < ((-36524) : Int) ∧ (¬ (73047 : Int) < x1)) then 1 else 0)] w bc bs
  refine am_ifeq (tgt := 18) dX12_months_4 (by decide) (fun c1 => ?_) (fun c1 => ?_)
  · replace c1 := am_beq1 c1
    replace h := h.1 c1
    refine am_ldcwV (n := (-2147483648)) dX12_months_18 (by decide) wd_1887 (by unfold am_rg; omega) ?_
    exact am_ret (r := some (.inl (-2147483648))) dX12_months_21 (Or.inl rfl) rfl h
  · replace c1 := am_beq2 c1
    replace h := h.2 c1
    refine am_iload_n dX12_months_7 (List.Mem.tail _ (List.Mem.tail _ (List.Mem.head _))) ?_
    refine am_iconst dX12_months_8 (by unfold am_rg; omega) ?_
    refine am_sipush dX12_months_9 (by decide) (by unfold am_rg; omega) ?_
    refine am_calls (d' := d + 7) (kc := 0) (ks := 0) (as := [.inl x2, .inl 0, .inl 12000]) dX12_months_12 wc_X12_in wd_1859 wd_1860 wd_122 ds_X12_in (by decide) (by omega) (Nat.le_of_ble_eq_true rfl) (Nat.zero_le _) (Nat.zero_le _) rfl (sX12_in (d := d + 6) (x0 := x2) (x1 := 0) (x2 := 12000)  ?_)
    show am_A (mh_G X) SC (d + 8) mX12_months Q 15 [(0, .inr (.inr (some (9, 0)))), (1, .inl x1), (2, .inl x2)] [.inl (if (¬ x2 < (0 : Int) ∧ (¬ (12000 : Int) < x2)) then 1 else 0)] w bc bs
    refine am_ifne (tgt := 22) dX12_months_15 (by decide) (fun c2 => ?_) (fun c2 => ?_)
    · replace c2 := am_bne1 c2
      replace h := h.1 c2
      refine am_iload_n dX12_months_22 (List.Mem.tail _ (List.Mem.head _)) ?_
      refine am_iload_n dX12_months_23 (List.Mem.tail _ (List.Mem.tail _ (List.Mem.head _))) ?_
      exact am_calls (d' := d + 7) (kc := 0) (ks := 0) (as := [.inl x1, .inl x2]) dX12_months_24 wc_X12_behind wd_1892 wd_1893 wd_122 ds_X12_behind (by decide) (by omega) (Nat.le_of_ble_eq_true rfl) (Nat.zero_le _) (Nat.zero_le _) rfl h
    · replace c2 := am_bne2 c2
      replace h := h.2 c2
      refine am_ldcwV (n := (-2147483648)) dX12_months_18 (by decide) wd_1887 (by unfold am_rg; omega) ?_
      exact am_ret (r := some (.inl (-2147483648))) dX12_months_21 (Or.inl rfl) rfl h
theorem bX12_months_27 {SC : Nat → Nat} {X : mh_X} {d : Nat} {Q : Option am_V → am_W → Prop} {bc bs : Nat} {w : am_W} {x1 : Int} {x2 : Int} {xs0 : Int}
    (h : ((¬ (¬ xs0 < ((-36524) : Int) ∧ (¬ (73047 : Int) < xs0)) → Q (some (.inl (-2147483648))) w) ∧ ((¬ xs0 < ((-36524) : Int) ∧ (¬ (73047 : Int) < xs0)) → Q (some (.inl xs0)) w))) :
    am_A (mh_G X) SC (d + 8) mX12_months Q 27 [(0, .inr (.inr (some (9, 0)))), (1, .inl x1), (2, .inl x2)] [.inl xs0] w bc bs := by
  refine am_istore_n (ls' := [(3, .inl xs0), (0, .inr (.inr (some (9, 0)))), (1, .inl x1), (2, .inl x2)]) dX12_months_27 (by decide) rfl ?_
  refine am_iload_n dX12_months_28 (List.Mem.head _) ?_
  refine am_calls (d' := d + 7) (kc := 0) (ks := 0) (as := [.inl xs0]) dX12_months_29 wc_X12_isDay wd_1854 wd_1855 wd_122 ds_X12_isDay (by decide) (by omega) (Nat.le_of_ble_eq_true rfl) (Nat.zero_le _) (Nat.zero_le _) rfl (sX12_isDay (d := d + 5) (x0 := xs0)  ?_)
  show am_A (mh_G X) SC (d + 8) mX12_months Q 32 [(3, .inl xs0), (0, .inr (.inr (some (9, 0)))), (1, .inl x1), (2, .inl x2)] [.inl (if (¬ xs0 < ((-36524) : Int) ∧ (¬ (73047 : Int) < xs0)) then 1 else 0)] w bc bs
  refine am_ifeq (tgt := 39) dX12_months_32 (by decide) (fun c1 => ?_) (fun c1 => ?_)
  · replace c1 := am_beq1 c1
    replace h := h.1 c1
    refine am_ldcwV (n := (-2147483648)) dX12_months_39 (by decide) wd_1887 (by unfold am_rg; omega) ?_
    exact am_ret (r := some (.inl (-2147483648))) dX12_months_42 (Or.inl rfl) rfl h
  · replace c1 := am_beq2 c1
    replace h := h.2 c1
    refine am_iload_n dX12_months_35 (List.Mem.head _) ?_
    refine am_goto (tgt := 42) dX12_months_36 (by decide) ?_
    exact am_ret (r := some (.inl xs0)) dX12_months_42 (Or.inl rfl) rfl h
-- MourningHouseModel.feeds(I)V
theorem dX12_feeds_0 : decode mX12_feeds.2.1 0 = .ok (.iconst 3, 1) := by decide +kernel
theorem dX12_feeds_1 : decode mX12_feeds.2.1 1 = .ok (.istore_n 2, 1) := by decide +kernel
theorem dX12_feeds_2 : decode mX12_feeds.2.1 2 = .ok (.iload_n 2, 1) := by decide +kernel
theorem dX12_feeds_3 : decode mX12_feeds.2.1 3 = .ok (.ifCond .lt 35, 3) := by decide +kernel
theorem dX12_feeds_6 : decode mX12_feeds.2.1 6 = .ok (.aload_n 0, 1) := by decide +kernel
theorem dX12_feeds_7 : decode mX12_feeds.2.1 7 = .ok (.getfield 9, 3) := by decide +kernel
theorem dX12_feeds_10 : decode mX12_feeds.2.1 10 = .ok (.aload_n 0, 1) := by decide +kernel
theorem dX12_feeds_11 : decode mX12_feeds.2.1 11 = .ok (.getfield 329, 3) := by decide +kernel
theorem dX12_feeds_14 : decode mX12_feeds.2.1 14 = .ok (.iload_n 1, 1) := by decide +kernel
theorem dX12_feeds_15 : decode mX12_feeds.2.1 15 = .ok (.bipush 8, 2) := by decide +kernel
theorem dX12_feeds_17 : decode mX12_feeds.2.1 17 = .ok (.iload_n 2, 1) := by decide +kernel
theorem dX12_feeds_18 : decode mX12_feeds.2.1 18 = .ok (.imul, 1) := by decide +kernel
theorem dX12_feeds_19 : decode mX12_feeds.2.1 19 = .ok (.iushr, 1) := by decide +kernel
theorem dX12_feeds_20 : decode mX12_feeds.2.1 20 = .ok (.i2b, 1) := by decide +kernel
theorem dX12_feeds_21 : decode mX12_feeds.2.1 21 = .ok (.bastore, 1) := by decide +kernel
theorem dX12_feeds_22 : decode mX12_feeds.2.1 22 = .ok (.aload_n 0, 1) := by decide +kernel
theorem dX12_feeds_23 : decode mX12_feeds.2.1 23 = .ok (.dup, 1) := by decide +kernel
theorem dX12_feeds_24 : decode mX12_feeds.2.1 24 = .ok (.getfield 329, 3) := by decide +kernel
theorem dX12_feeds_27 : decode mX12_feeds.2.1 27 = .ok (.iconst 1, 1) := by decide +kernel
theorem dX12_feeds_28 : decode mX12_feeds.2.1 28 = .ok (.iadd, 1) := by decide +kernel
theorem dX12_feeds_29 : decode mX12_feeds.2.1 29 = .ok (.putfield 329, 3) := by decide +kernel
theorem dX12_feeds_32 : decode mX12_feeds.2.1 32 = .ok (.iinc 2 (-1), 3) := by decide +kernel
theorem dX12_feeds_35 : decode mX12_feeds.2.1 35 = .ok (.goto (-33), 3) := by decide +kernel
theorem dX12_feeds_38 : decode mX12_feeds.2.1 38 = .ok (.return_, 1) := by decide +kernel
theorem bX12_feeds_0 {SC : Nat → Nat} {X : mh_X} {d : Nat} {Q : Option am_V → am_W → Prop} {bc bs : Nat} {w : am_W} {x1 : Int}
    (h : am_A (mh_G X) SC (d + 1) mX12_feeds Q 2 [(0, .inr (.inr (some (9, 0)))), (1, .inl x1), (2, .inl 3)] [] w bc bs) :
    am_A (mh_G X) SC (d + 1) mX12_feeds Q 0 [(0, .inr (.inr (some (9, 0)))), (1, .inl x1)] [] w bc bs := by
  refine am_iconst dX12_feeds_0 (by unfold am_rg; omega) ?_
  refine am_istore_n (ls' := [(2, .inl 3), (0, .inr (.inr (some (9, 0)))), (1, .inl x1)]) dX12_feeds_1 (by decide) rfl ?_
  exact am_sub [1, 2, 0] rfl h
theorem bX12_feeds_2 {SC : Nat → Nat} {X : mh_X} {d : Nat} {Q : Option am_V → am_W → Prop} {bc bs : Nat} {w : am_W} {x1 : Int} {x2 : Int}
    (h : ((x2 < 0 → Q none w) ∧ (¬ x2 < 0 → (0 ≤ (w.1 9 0 1) ∧ ((w.1 9 0 1) < 3000 ∧ ((-128 ≤ ((am_i2b (am_ushr x1 (am_w (8 * x2)))) : Int) ∧ ((am_i2b (am_ushr x1 (am_w (8 * x2)))) : Int) < 128) ∧ am_A (mh_G X) SC (d + 1) mX12_feeds Q 2 [(0, .inr (.inr (some (9, 0)))), (1, .inl x1), (2, .inl (am_w (x2 + (-1))))] [] ((am_up (am_up w.1 66 0 (w.1 9 0 1).toNat (am_i2b (am_ushr x1 (am_w (8 * x2))))) 9 0 1 (am_w ((w.1 9 0 1) + 1))), w.2) bc bs)))))) :
    am_A (mh_G X) SC (d + 1) mX12_feeds Q 2 [(0, .inr (.inr (some (9, 0)))), (1, .inl x1), (2, .inl x2)] [] w bc bs := by
  refine am_iload_n dX12_feeds_2 (List.Mem.tail _ (List.Mem.tail _ (List.Mem.head _))) ?_
  refine am_iflt (tgt := 38) dX12_feeds_3 (by decide) (fun c1 => ?_) (fun c1 => ?_)
  · replace h := h.1 c1
    exact am_ret (r := none) dX12_feeds_38 rfl rfl h
  · replace h := h.2 c1
    refine am_aload_n dX12_feeds_6 (List.Mem.head _) ?_
    refine am_getf (f := 0) (v := .inr (.inr (some (66, 0)))) dX12_feeds_7 hc_10 (by decide) wd_1549 (by decide) rfl rfl ?_
    refine am_aload_n dX12_feeds_10 (List.Mem.head _) ?_
    refine am_getf (f := 1) (v := .inl (w.1 9 0 1)) dX12_feeds_11 hc_10 (by decide) wd_1550 (by decide) rfl rfl ?_
    refine am_iload_n dX12_feeds_14 (List.Mem.tail _ (List.Mem.head _)) ?_
    refine am_bipush dX12_feeds_15 (by decide) (by unfold am_rg; omega) ?_
    refine am_iload_n dX12_feeds_17 (List.Mem.tail _ (List.Mem.tail _ (List.Mem.head _))) ?_
    refine am_imul dX12_feeds_18 ?_
    refine am_iushr dX12_feeds_19 ?_
    refine am_i2bR dX12_feeds_20 ?_
    have o2 := h.1
    replace h := h.2
    have o3 := h.1
    replace h := h.2
    have o4 := h.1
    replace h := h.2
    refine am_bastore o4 dX12_feeds_21 (Or.inl (by decide)) rfl o2 o3 ?_
    refine am_aload_n dX12_feeds_22 (List.Mem.head _) ?_
    refine am_dup dX12_feeds_23 rfl ?_
    refine am_getf (f := 1) (v := .inl (w.1 9 0 1)) dX12_feeds_24 hc_10 (by decide) wd_1550 (by decide) rfl rfl ?_
    refine am_iconst dX12_feeds_27 (by unfold am_rg; omega) ?_
    refine am_iadd dX12_feeds_28 ?_
    refine am_putf (f := 1) dX12_feeds_29 hc_10 (by decide) wd_1550 rfl (Or.inl rfl) (Or.inl (by decide)) rfl ?_
    refine am_iinc (ls' := [(2, .inl (am_w (x2 + (-1)))), (0, .inr (.inr (some (9, 0)))), (1, .inl x1)]) dX12_feeds_32 (List.Mem.tail _ (List.Mem.tail _ (List.Mem.head _))) (by decide) rfl ?_
    refine am_goto (tgt := 2) dX12_feeds_35 (by decide) ?_
    exact am_sub [1, 2, 0] rfl h
-- MourningHouseModel.feed(IIIII)I
theorem dX12_feed_0 : decode mX12_feed.2.1 0 = .ok (.aload_n 0, 1) := by decide +kernel
theorem dX12_feed_1 : decode mX12_feed.2.1 1 = .ok (.getfield 329, 3) := by decide +kernel
theorem dX12_feed_4 : decode mX12_feed.2.1 4 = .ok (.bipush 20, 2) := by decide +kernel
theorem dX12_feed_6 : decode mX12_feed.2.1 6 = .ok (.iadd, 1) := by decide +kernel
theorem dX12_feed_7 : decode mX12_feed.2.1 7 = .ok (.sipush 3000, 3) := by decide +kernel
theorem dX12_feed_10 : decode mX12_feed.2.1 10 = .ok (.if_icmp .le 5, 3) := by decide +kernel
theorem dX12_feed_13 : decode mX12_feed.2.1 13 = .ok (.iconst (-1), 1) := by decide +kernel
theorem dX12_feed_14 : decode mX12_feed.2.1 14 = .ok (.ireturn, 1) := by decide +kernel
theorem dX12_feed_15 : decode mX12_feed.2.1 15 = .ok (.aload_n 0, 1) := by decide +kernel
theorem dX12_feed_16 : decode mX12_feed.2.1 16 = .ok (.iload_n 1, 1) := by decide +kernel
theorem dX12_feed_17 : decode mX12_feed.2.1 17 = .ok (.invokevirtual 333, 3) := by decide +kernel
theorem dX12_feed_20 : decode mX12_feed.2.1 20 = .ok (.aload_n 0, 1) := by decide +kernel
theorem dX12_feed_21 : decode mX12_feed.2.1 21 = .ok (.iload_n 2, 1) := by decide +kernel
theorem dX12_feed_22 : decode mX12_feed.2.1 22 = .ok (.invokevirtual 333, 3) := by decide +kernel
theorem dX12_feed_25 : decode mX12_feed.2.1 25 = .ok (.aload_n 0, 1) := by decide +kernel
theorem dX12_feed_26 : decode mX12_feed.2.1 26 = .ok (.iload_n 3, 1) := by decide +kernel
theorem dX12_feed_27 : decode mX12_feed.2.1 27 = .ok (.invokevirtual 333, 3) := by decide +kernel
theorem dX12_feed_30 : decode mX12_feed.2.1 30 = .ok (.aload_n 0, 1) := by decide +kernel
theorem dX12_feed_31 : decode mX12_feed.2.1 31 = .ok (.iload 4, 2) := by decide +kernel
theorem dX12_feed_33 : decode mX12_feed.2.1 33 = .ok (.invokevirtual 333, 3) := by decide +kernel
theorem dX12_feed_36 : decode mX12_feed.2.1 36 = .ok (.aload_n 0, 1) := by decide +kernel
theorem dX12_feed_37 : decode mX12_feed.2.1 37 = .ok (.iload 5, 2) := by decide +kernel
theorem dX12_feed_39 : decode mX12_feed.2.1 39 = .ok (.invokevirtual 333, 3) := by decide +kernel
theorem dX12_feed_42 : decode mX12_feed.2.1 42 = .ok (.aload_n 0, 1) := by decide +kernel
theorem dX12_feed_43 : decode mX12_feed.2.1 43 = .ok (.getfield 329, 3) := by decide +kernel
theorem dX12_feed_46 : decode mX12_feed.2.1 46 = .ok (.ireturn, 1) := by decide +kernel
theorem bX12_feed_0 {SC : Nat → Nat} {X : mh_X} {d : Nat} {Q : Option am_V → am_W → Prop} {bc bs : Nat} {w : am_W} {x1 : Int} {x2 : Int} {x3 : Int} {x4 : Int} {x5 : Int}
    (h : (((am_w ((w.1 9 0 1) + 20)) ≤ 3000 → am_M (mh_G X) SC (d + 1) 0 0 mX12_feeds [.inr (.inr (some (9, 0))), .inl x1] w (fun r w1 => am_A (mh_G X) SC (d + 2) mX12_feed Q 20 [(0, .inr (.inr (some (9, 0)))), (1, .inl x1), (2, .inl x2), (3, .inl x3), (4, .inl x4), (5, .inl x5)] (r.toList ++ []) w1 bc bs)) ∧ (¬ (am_w ((w.1 9 0 1) + 20)) ≤ 3000 → Q (some (.inl (-1))) w))) :
    am_A (mh_G X) SC (d + 2) mX12_feed Q 0 [(0, .inr (.inr (some (9, 0)))), (1, .inl x1), (2, .inl x2), (3, .inl x3), (4, .inl x4), (5, .inl x5)] [] w bc bs := by
  refine am_aload_n dX12_feed_0 (List.Mem.head _) ?_
  refine am_getf (f := 1) (v := .inl (w.1 9 0 1)) dX12_feed_1 hc_10 (by decide) wd_1550 (by decide) rfl rfl ?_
  refine am_bipush dX12_feed_4 (by decide) (by unfold am_rg; omega) ?_
  refine am_iadd dX12_feed_6 ?_
  refine am_sipush dX12_feed_7 (by decide) (by unfold am_rg; omega) ?_
  refine am_icmple (tgt := 15) dX12_feed_10 (by decide) (fun c1 => ?_) (fun c1 => ?_)
  · replace h := h.1 c1
    refine am_aload_n dX12_feed_15 (List.Mem.head _) ?_
    refine am_iload_n dX12_feed_16 (List.Mem.tail _ (List.Mem.head _)) ?_
    exact am_callv (d' := d + 1) (kc := 0) (ks := 0) (as := [.inl x1]) dX12_feed_17 wc_X12_feeds wd_1899 wd_1901 wd_53 wd_122 ds_X12_feeds (by decide) (by omega) (Nat.le_of_ble_eq_true rfl) (Nat.zero_le _) (Nat.zero_le _) hc_10 (by decide) rfl rfl h
  · replace h := h.2 c1
    refine am_iconst dX12_feed_13 (by unfold am_rg; omega) ?_
    exact am_ret (r := some (.inl (-1))) dX12_feed_14 (Or.inl rfl) rfl h
theorem bX12_feed_20 {SC : Nat → Nat} {X : mh_X} {d : Nat} {Q : Option am_V → am_W → Prop} {bc bs : Nat} {w : am_W} {x1 : Int} {x2 : Int} {x3 : Int} {x4 : Int} {x5 : Int}
    (h : am_M (mh_G X) SC (d + 1) 0 0 mX12_feeds [.inr (.inr (some (9, 0))), .inl x2] w (fun r w1 => am_A (mh_G X) SC (d + 2) mX12_feed Q 25 [(0, .inr (.inr (some (9, 0)))), (1, .inl x1), (2, .inl x2), (3, .inl x3), (4, .inl x4), (5, .inl x5)] (r.toList ++ []) w1 bc bs)) :
    am_A (mh_G X) SC (d + 2) mX12_feed Q 20 [(0, .inr (.inr (some (9, 0)))), (1, .inl x1), (2, .inl x2), (3, .inl x3), (4, .inl x4), (5, .inl x5)] [] w bc bs := by
  refine am_aload_n dX12_feed_20 (List.Mem.head _) ?_
  refine am_iload_n dX12_feed_21 (List.Mem.tail _ (List.Mem.tail _ (List.Mem.head _))) ?_
  exact am_callv (d' := d + 1) (kc := 0) (ks := 0) (as := [.inl x2]) dX12_feed_22 wc_X12_feeds wd_1899 wd_1901 wd_53 wd_122 ds_X12_feeds (by decide) (by omega) (Nat.le_of_ble_eq_true rfl) (Nat.zero_le _) (Nat.zero_le _) hc_10 (by decide) rfl rfl h
theorem bX12_feed_25 {SC : Nat → Nat} {X : mh_X} {d : Nat} {Q : Option am_V → am_W → Prop} {bc bs : Nat} {w : am_W} {x1 : Int} {x2 : Int} {x3 : Int} {x4 : Int} {x5 : Int}
    (h : am_M (mh_G X) SC (d + 1) 0 0 mX12_feeds [.inr (.inr (some (9, 0))), .inl x3] w (fun r w1 => am_A (mh_G X) SC (d + 2) mX12_feed Q 30 [(0, .inr (.inr (some (9, 0)))), (1, .inl x1), (2, .inl x2), (3, .inl x3), (4, .inl x4), (5, .inl x5)] (r.toList ++ []) w1 bc bs)) :
    am_A (mh_G X) SC (d + 2) mX12_feed Q 25 [(0, .inr (.inr (some (9, 0)))), (1, .inl x1), (2, .inl x2), (3, .inl x3), (4, .inl x4), (5, .inl x5)] [] w bc bs := by
  refine am_aload_n dX12_feed_25 (List.Mem.head _) ?_
  refine am_iload_n dX12_feed_26 (List.Mem.tail _ (List.Mem.tail _ (List.Mem.tail _ (List.Mem.head _)))) ?_
  exact am_callv (d' := d + 1) (kc := 0) (ks := 0) (as := [.inl x3]) dX12_feed_27 wc_X12_feeds wd_1899 wd_1901 wd_53 wd_122 ds_X12_feeds (by decide) (by omega) (Nat.le_of_ble_eq_true rfl) (Nat.zero_le _) (Nat.zero_le _) hc_10 (by decide) rfl rfl h
theorem bX12_feed_30 {SC : Nat → Nat} {X : mh_X} {d : Nat} {Q : Option am_V → am_W → Prop} {bc bs : Nat} {w : am_W} {x1 : Int} {x2 : Int} {x3 : Int} {x4 : Int} {x5 : Int}
    (h : am_M (mh_G X) SC (d + 1) 0 0 mX12_feeds [.inr (.inr (some (9, 0))), .inl x4] w (fun r w1 => am_A (mh_G X) SC (d + 2) mX12_feed Q 36 [(0, .inr (.inr (some (9, 0)))), (1, .inl x1), (2, .inl x2), (3, .inl x3), (4, .inl x4), (5, .inl x5)] (r.toList ++ []) w1 bc bs)) :
    am_A (mh_G X) SC (d + 2) mX12_feed Q 30 [(0, .inr (.inr (some (9, 0)))), (1, .inl x1), (2, .inl x2), (3, .inl x3), (4, .inl x4), (5, .inl x5)] [] w bc bs := by
  refine am_aload_n dX12_feed_30 (List.Mem.head _) ?_
  refine am_iload dX12_feed_31 (List.Mem.tail _ (List.Mem.tail _ (List.Mem.tail _ (List.Mem.tail _ (List.Mem.head _))))) ?_
  exact am_callv (d' := d + 1) (kc := 0) (ks := 0) (as := [.inl x4]) dX12_feed_33 wc_X12_feeds wd_1899 wd_1901 wd_53 wd_122 ds_X12_feeds (by decide) (by omega) (Nat.le_of_ble_eq_true rfl) (Nat.zero_le _) (Nat.zero_le _) hc_10 (by decide) rfl rfl h
theorem bX12_feed_36 {SC : Nat → Nat} {X : mh_X} {d : Nat} {Q : Option am_V → am_W → Prop} {bc bs : Nat} {w : am_W} {x1 : Int} {x2 : Int} {x3 : Int} {x4 : Int} {x5 : Int}
    (h : am_M (mh_G X) SC (d + 1) 0 0 mX12_feeds [.inr (.inr (some (9, 0))), .inl x5] w (fun r w1 => am_A (mh_G X) SC (d + 2) mX12_feed Q 42 [(0, .inr (.inr (some (9, 0)))), (1, .inl x1), (2, .inl x2), (3, .inl x3), (4, .inl x4), (5, .inl x5)] (r.toList ++ []) w1 bc bs)) :
    am_A (mh_G X) SC (d + 2) mX12_feed Q 36 [(0, .inr (.inr (some (9, 0)))), (1, .inl x1), (2, .inl x2), (3, .inl x3), (4, .inl x4), (5, .inl x5)] [] w bc bs := by
  refine am_aload_n dX12_feed_36 (List.Mem.head _) ?_
  refine am_iload dX12_feed_37 (List.Mem.tail _ (List.Mem.tail _ (List.Mem.tail _ (List.Mem.tail _ (List.Mem.tail _ (List.Mem.head _)))))) ?_
  exact am_callv (d' := d + 1) (kc := 0) (ks := 0) (as := [.inl x5]) dX12_feed_39 wc_X12_feeds wd_1899 wd_1901 wd_53 wd_122 ds_X12_feeds (by decide) (by omega) (Nat.le_of_ble_eq_true rfl) (Nat.zero_le _) (Nat.zero_le _) hc_10 (by decide) rfl rfl h
theorem bX12_feed_42 {SC : Nat → Nat} {X : mh_X} {d : Nat} {Q : Option am_V → am_W → Prop} {bc bs : Nat} {w : am_W} {x1 : Int} {x2 : Int} {x3 : Int} {x4 : Int} {x5 : Int}
    (h : Q (some (.inl (w.1 9 0 1))) w) :
    am_A (mh_G X) SC (d + 2) mX12_feed Q 42 [(0, .inr (.inr (some (9, 0)))), (1, .inl x1), (2, .inl x2), (3, .inl x3), (4, .inl x4), (5, .inl x5)] [] w bc bs := by
  refine am_aload_n dX12_feed_42 (List.Mem.head _) ?_
  refine am_getf (f := 1) (v := .inl (w.1 9 0 1)) dX12_feed_43 hc_10 (by decide) wd_1550 (by decide) rfl rfl ?_
  exact am_ret (r := some (.inl (w.1 9 0 1))) dX12_feed_46 (Or.inl rfl) rfl h
-- MourningHouseModel.end(I)Z
theorem dX12_end_0 : decode mX12_end.2.1 0 = .ok (.iload_n 1, 1) := by decide +kernel
theorem dX12_end_1 : decode mX12_end.2.1 1 = .ok (.iconst 0, 1) := by decide +kernel
theorem dX12_end_2 : decode mX12_end.2.1 2 = .ok (.aload_n 0, 1) := by decide +kernel
theorem dX12_end_3 : decode mX12_end.2.1 3 = .ok (.getfield 329, 3) := by decide +kernel
theorem dX12_end_6 : decode mX12_end.2.1 6 = .ok (.invokestatic 318, 3) := by decide +kernel
theorem dX12_end_9 : decode mX12_end.2.1 9 = .ok (.ifCond .ne 5, 3) := by decide +kernel
theorem dX12_end_12 : decode mX12_end.2.1 12 = .ok (.iconst 0, 1) := by decide +kernel
theorem dX12_end_13 : decode mX12_end.2.1 13 = .ok (.ireturn, 1) := by decide +kernel
theorem dX12_end_14 : decode mX12_end.2.1 14 = .ok (.aload_n 0, 1) := by decide +kernel
theorem dX12_end_15 : decode mX12_end.2.1 15 = .ok (.iload_n 1, 1) := by decide +kernel
theorem dX12_end_16 : decode mX12_end.2.1 16 = .ok (.putfield 329, 3) := by decide +kernel
theorem dX12_end_19 : decode mX12_end.2.1 19 = .ok (.iconst 1, 1) := by decide +kernel
theorem dX12_end_20 : decode mX12_end.2.1 20 = .ok (.ireturn, 1) := by decide +kernel
theorem bX12_end_0 {SC : Nat → Nat} {X : mh_X} {d : Nat} {Q : Option am_V → am_W → Prop} {bc bs : Nat} {w : am_W} {x1 : Int}
    (h : (((¬ x1 < (0 : Int) ∧ (¬ (w.1 9 0 1) < x1)) → Q (some (.inl 1)) ((am_up w.1 9 0 1 x1), w.2)) ∧ (¬ (¬ x1 < (0 : Int) ∧ (¬ (w.1 9 0 1) < x1)) → Q (some (.inl 0)) w))) :
    am_A (mh_G X) SC (d + 2) mX12_end Q 0 [(0, .inr (.inr (some (9, 0)))), (1, .inl x1)] [] w bc bs := by
  refine am_iload_n dX12_end_0 (List.Mem.tail _ (List.Mem.head _)) ?_
  refine am_iconst dX12_end_1 (by unfold am_rg; omega) ?_
  refine am_aload_n dX12_end_2 (List.Mem.head _) ?_
  refine am_getf (f := 1) (v := .inl (w.1 9 0 1)) dX12_end_3 hc_10 (by decide) wd_1550 (by decide) rfl rfl ?_
  refine am_calls (d' := d + 1) (kc := 0) (ks := 0) (as := [.inl x1, .inl 0, .inl (w.1 9 0 1)]) dX12_end_6 wc_X12_in wd_1859 wd_1860 wd_122 ds_X12_in (by decide) (by omega) (Nat.le_of_ble_eq_true rfl) (Nat.zero_le _) (Nat.zero_le _) rfl (sX12_in (d := d + 0) (x0 := x1) (x1 := 0) (x2 := (w.1 9 0 1))  ?_)
  show am_A (mh_G X) SC (d + 2) mX12_end Q 9 [(0, .inr (.inr (some (9, 0)))), (1, .inl x1)] [.inl (if (¬ x1 < (0 : Int) ∧ (¬ (w.1 9 0 1) < x1)) then 1 else 0)] w bc bs
  refine am_ifne (tgt := 14) dX12_end_9 (by decide) (fun c1 => ?_) (fun c1 => ?_)
  · replace c1 := am_bne1 c1
    replace h := h.1 c1
    refine am_aload_n dX12_end_14 (List.Mem.head _) ?_
    refine am_iload_n dX12_end_15 (List.Mem.tail _ (List.Mem.head _)) ?_
    refine am_putf (f := 1) dX12_end_16 hc_10 (by decide) wd_1550 rfl (Or.inl rfl) (Or.inl (by decide)) rfl ?_
    refine am_iconst dX12_end_19 (by unfold am_rg; omega) ?_
    exact am_ret (r := some (.inl 1)) dX12_end_20 (Or.inr (Or.inl ⟨rfl, (Or.inr rfl)⟩)) rfl h
  · replace c1 := am_bne2 c1
    replace h := h.2 c1
    refine am_iconst dX12_end_12 (by unfold am_rg; omega) ?_
    exact am_ret (r := some (.inl 0)) dX12_end_13 (Or.inr (Or.inl ⟨rfl, (Or.inl rfl)⟩)) rfl h
-- MourningHouseModel.faults(II)V
theorem dX12_faults_0 : decode mX12_faults.2.1 0 = .ok (.aload_n 0, 1) := by decide +kernel
theorem dX12_faults_1 : decode mX12_faults.2.1 1 = .ok (.getfield 337, 3) := by decide +kernel
theorem dX12_faults_4 : decode mX12_faults.2.1 4 = .ok (.ifCond .eq 4, 3) := by decide +kernel
theorem dX12_faults_7 : decode mX12_faults.2.1 7 = .ok (.return_, 1) := by decide +kernel
theorem dX12_faults_8 : decode mX12_faults.2.1 8 = .ok (.aload_n 0, 1) := by decide +kernel
theorem dX12_faults_9 : decode mX12_faults.2.1 9 = .ok (.aload_n 0, 1) := by decide +kernel
theorem dX12_faults_10 : decode mX12_faults.2.1 10 = .ok (.getfield 340, 3) := by decide +kernel
theorem dX12_faults_13 : decode mX12_faults.2.1 13 = .ok (.putfield 343, 3) := by decide +kernel
theorem dX12_faults_16 : decode mX12_faults.2.1 16 = .ok (.aload_n 0, 1) := by decide +kernel
theorem dX12_faults_17 : decode mX12_faults.2.1 17 = .ok (.iload_n 1, 1) := by decide +kernel
theorem dX12_faults_18 : decode mX12_faults.2.1 18 = .ok (.iconst 1, 1) := by decide +kernel
theorem dX12_faults_19 : decode mX12_faults.2.1 19 = .ok (.iadd, 1) := by decide +kernel
theorem dX12_faults_20 : decode mX12_faults.2.1 20 = .ok (.putfield 346, 3) := by decide +kernel
theorem dX12_faults_23 : decode mX12_faults.2.1 23 = .ok (.aload_n 0, 1) := by decide +kernel
theorem dX12_faults_24 : decode mX12_faults.2.1 24 = .ok (.iload_n 2, 1) := by decide +kernel
theorem dX12_faults_25 : decode mX12_faults.2.1 25 = .ok (.putfield 337, 3) := by decide +kernel
theorem dX12_faults_28 : decode mX12_faults.2.1 28 = .ok (.return_, 1) := by decide +kernel
theorem bX12_faults_0 {SC : Nat → Nat} {X : mh_X} {d : Nat} {Q : Option am_V → am_W → Prop} {bc bs : Nat} {w : am_W} {x1 : Int} {x2 : Int}
    (h : (((w.1 9 0 4) = 0 → Q none ((am_up (am_up (am_up w.1 9 0 2 (w.1 9 0 31)) 9 0 3 (am_w (x1 + 1))) 9 0 4 x2), w.2)) ∧ (¬ (w.1 9 0 4) = 0 → Q none w))) :
    am_A (mh_G X) SC (d + 1) mX12_faults Q 0 [(0, .inr (.inr (some (9, 0)))), (1, .inl x1), (2, .inl x2)] [] w bc bs := by
  refine am_aload_n dX12_faults_0 (List.Mem.head _) ?_
  refine am_getf (f := 4) (v := .inl (w.1 9 0 4)) dX12_faults_1 hc_10 (by decide) wd_1553 (by decide) rfl rfl ?_
  refine am_ifeq (tgt := 8) dX12_faults_4 (by decide) (fun c1 => ?_) (fun c1 => ?_)
  · replace h := h.1 c1
    refine am_aload_n dX12_faults_8 (List.Mem.head _) ?_
    refine am_aload_n dX12_faults_9 (List.Mem.head _) ?_
    refine am_getf (f := 31) (v := .inl (w.1 9 0 31)) dX12_faults_10 hc_10 (by decide) wd_1580 (by decide) rfl rfl ?_
    refine am_putf (f := 2) dX12_faults_13 hc_10 (by decide) wd_1551 rfl (Or.inl rfl) (Or.inl (by decide)) rfl ?_
    refine am_aload_n dX12_faults_16 (List.Mem.head _) ?_
    refine am_iload_n dX12_faults_17 (List.Mem.tail _ (List.Mem.head _)) ?_
    refine am_iconst dX12_faults_18 (by unfold am_rg; omega) ?_
    refine am_iadd dX12_faults_19 ?_
    refine am_putf (f := 3) dX12_faults_20 hc_10 (by decide) wd_1552 rfl (Or.inl rfl) (Or.inl (by decide)) rfl ?_
    refine am_aload_n dX12_faults_23 (List.Mem.head _) ?_
    refine am_iload_n dX12_faults_24 (List.Mem.tail _ (List.Mem.tail _ (List.Mem.head _))) ?_
    refine am_putf (f := 4) dX12_faults_25 hc_10 (by decide) wd_1553 rfl (Or.inl rfl) (Or.inl (by decide)) rfl ?_
    exact am_ret (r := none) dX12_faults_28 rfl rfl h
  · replace h := h.2 c1
    exact am_ret (r := none) dX12_faults_7 rfl rfl h
-- MourningHouseModel.isLetter(I)Z
theorem dX12_isLetter_0 : decode mX12_isLetter.2.1 0 = .ok (.iload_n 0, 1) := by decide +kernel
theorem dX12_isLetter_1 : decode mX12_isLetter.2.1 1 = .ok (.bipush 97, 2) := by decide +kernel
theorem dX12_isLetter_3 : decode mX12_isLetter.2.1 3 = .ok (.if_icmp .lt 13, 3) := by decide +kernel
theorem dX12_isLetter_6 : decode mX12_isLetter.2.1 6 = .ok (.iload_n 0, 1) := by decide +kernel
theorem dX12_isLetter_7 : decode mX12_isLetter.2.1 7 = .ok (.bipush 122, 2) := by decide +kernel
theorem dX12_isLetter_9 : decode mX12_isLetter.2.1 9 = .ok (.if_icmp .gt 7, 3) := by decide +kernel
theorem dX12_isLetter_12 : decode mX12_isLetter.2.1 12 = .ok (.iconst 1, 1) := by decide +kernel
theorem dX12_isLetter_13 : decode mX12_isLetter.2.1 13 = .ok (.goto 4, 3) := by decide +kernel
theorem dX12_isLetter_16 : decode mX12_isLetter.2.1 16 = .ok (.iconst 0, 1) := by decide +kernel
theorem dX12_isLetter_17 : decode mX12_isLetter.2.1 17 = .ok (.ireturn, 1) := by decide +kernel
theorem sX12_isLetter {SC : Nat → Nat} {X : mh_X} {d kc ks : Nat} {Q : Option am_V → am_W → Prop} {w : am_W} {x0 : Int}
    (h : Q (some (.inl (if (¬ x0 < 97 ∧ (¬ 122 < x0)) then 1 else 0))) w) : am_M (mh_G X) SC (d + 1) kc ks mX12_isLetter [.inl x0] w Q := by
  refine am_M_of (by decide) (Nat.le_of_ble_eq_true rfl) ?_
  show am_A (mh_G X) SC (d + 1) mX12_isLetter Q 0 [(0, .inl x0)] [] w kc ks
  refine am_iload_n dX12_isLetter_0 (List.Mem.head _) ?_
  refine am_bipush dX12_isLetter_1 (by decide) (by unfold am_rg; omega) ?_
  refine am_icmplt (tgt := 16) dX12_isLetter_3 (by decide) (fun c1 => ?_) (fun c1 => ?_)
  · refine am_iconst dX12_isLetter_16 (by unfold am_rg; omega) ?_
    rw [if_neg (by omega)] at h
    exact am_ret (r := some (.inl 0)) dX12_isLetter_17 (Or.inr (Or.inl ⟨rfl, (Or.inl rfl)⟩)) rfl h
  · refine am_iload_n dX12_isLetter_6 (List.Mem.head _) ?_
    refine am_bipush dX12_isLetter_7 (by decide) (by unfold am_rg; omega) ?_
    refine am_icmpgt (tgt := 16) dX12_isLetter_9 (by decide) (fun c2 => ?_) (fun c2 => ?_)
    · refine am_iconst dX12_isLetter_16 (by unfold am_rg; omega) ?_
      rw [if_neg (by omega)] at h
      exact am_ret (r := some (.inl 0)) dX12_isLetter_17 (Or.inr (Or.inl ⟨rfl, (Or.inl rfl)⟩)) rfl h
    · refine am_iconst dX12_isLetter_12 (by unfold am_rg; omega) ?_
      refine am_goto (tgt := 17) dX12_isLetter_13 (by decide) ?_
      rw [if_pos (by omega)] at h
      exact am_ret (r := some (.inl 1)) dX12_isLetter_17 (Or.inr (Or.inl ⟨rfl, (Or.inr rfl)⟩)) rfl h
-- MourningHouseModel.isDigit(I)Z
theorem dX12_isDigit_0 : decode mX12_isDigit.2.1 0 = .ok (.iload_n 0, 1) := by decide +kernel
theorem dX12_isDigit_1 : decode mX12_isDigit.2.1 1 = .ok (.bipush 48, 2) := by decide +kernel
theorem dX12_isDigit_3 : decode mX12_isDigit.2.1 3 = .ok (.if_icmp .lt 13, 3) := by decide +kernel
theorem dX12_isDigit_6 : decode mX12_isDigit.2.1 6 = .ok (.iload_n 0, 1) := by decide +kernel
theorem dX12_isDigit_7 : decode mX12_isDigit.2.1 7 = .ok (.bipush 57, 2) := by decide +kernel
theorem dX12_isDigit_9 : decode mX12_isDigit.2.1 9 = .ok (.if_icmp .gt 7, 3) := by decide +kernel
theorem dX12_isDigit_12 : decode mX12_isDigit.2.1 12 = .ok (.iconst 1, 1) := by decide +kernel
theorem dX12_isDigit_13 : decode mX12_isDigit.2.1 13 = .ok (.goto 4, 3) := by decide +kernel
theorem dX12_isDigit_16 : decode mX12_isDigit.2.1 16 = .ok (.iconst 0, 1) := by decide +kernel
theorem dX12_isDigit_17 : decode mX12_isDigit.2.1 17 = .ok (.ireturn, 1) := by decide +kernel
theorem sX12_isDigit {SC : Nat → Nat} {X : mh_X} {d kc ks : Nat} {Q : Option am_V → am_W → Prop} {w : am_W} {x0 : Int}
    (h : Q (some (.inl (if (¬ x0 < 48 ∧ (¬ 57 < x0)) then 1 else 0))) w) : am_M (mh_G X) SC (d + 1) kc ks mX12_isDigit [.inl x0] w Q := by
  refine am_M_of (by decide) (Nat.le_of_ble_eq_true rfl) ?_
  show am_A (mh_G X) SC (d + 1) mX12_isDigit Q 0 [(0, .inl x0)] [] w kc ks
  refine am_iload_n dX12_isDigit_0 (List.Mem.head _) ?_
  refine am_bipush dX12_isDigit_1 (by decide) (by unfold am_rg; omega) ?_
  refine am_icmplt (tgt := 16) dX12_isDigit_3 (by decide) (fun c1 => ?_) (fun c1 => ?_)
  · refine am_iconst dX12_isDigit_16 (by unfold am_rg; omega) ?_
    rw [if_neg (by omega)] at h
    exact am_ret (r := some (.inl 0)) dX12_isDigit_17 (Or.inr (Or.inl ⟨rfl, (Or.inl rfl)⟩)) rfl h
  · refine am_iload_n dX12_isDigit_6 (List.Mem.head _) ?_
    refine am_bipush dX12_isDigit_7 (by decide) (by unfold am_rg; omega) ?_
    refine am_icmpgt (tgt := 16) dX12_isDigit_9 (by decide) (fun c2 => ?_) (fun c2 => ?_)
    · refine am_iconst dX12_isDigit_16 (by unfold am_rg; omega) ?_
      rw [if_neg (by omega)] at h
      exact am_ret (r := some (.inl 0)) dX12_isDigit_17 (Or.inr (Or.inl ⟨rfl, (Or.inl rfl)⟩)) rfl h
    · refine am_iconst dX12_isDigit_12 (by unfold am_rg; omega) ?_
      refine am_goto (tgt := 17) dX12_isDigit_13 (by decide) ?_
      rw [if_pos (by omega)] at h
      exact am_ret (r := some (.inl 1)) dX12_isDigit_17 (Or.inr (Or.inl ⟨rfl, (Or.inr rfl)⟩)) rfl h
-- MourningHouseModel.splits(II)V
theorem dX12_splits_0 : decode mX12_splits.2.1 0 = .ok (.aload_n 0, 1) := by decide +kernel
theorem dX12_splits_1 : decode mX12_splits.2.1 1 = .ok (.iconst 0, 1) := by decide +kernel
theorem dX12_splits_2 : decode mX12_splits.2.1 2 = .ok (.putfield 349, 3) := by decide +kernel
theorem dX12_splits_5 : decode mX12_splits.2.1 5 = .ok (.iload_n 1, 1) := by decide +kernel
theorem dX12_splits_6 : decode mX12_splits.2.1 6 = .ok (.istore_n 3, 1) := by decide +kernel
theorem dX12_splits_7 : decode mX12_splits.2.1 7 = .ok (.iload_n 3, 1) := by decide +kernel
theorem dX12_splits_8 : decode mX12_splits.2.1 8 = .ok (.iload_n 2, 1) := by decide +kernel
theorem dX12_splits_9 : decode mX12_splits.2.1 9 = .ok (.if_icmp .ge 215, 3) := by decide +kernel
theorem dX12_splits_12 : decode mX12_splits.2.1 12 = .ok (.aload_n 0, 1) := by decide +kernel
theorem dX12_splits_13 : decode mX12_splits.2.1 13 = .ok (.getfield 9, 3) := by decide +kernel
theorem dX12_splits_16 : decode mX12_splits.2.1 16 = .ok (.iload_n 3, 1) := by decide +kernel
theorem dX12_splits_17 : decode mX12_splits.2.1 17 = .ok (.baload, 1) := by decide +kernel
theorem dX12_splits_18 : decode mX12_splits.2.1 18 = .ok (.bipush 35, 2) := by decide +kernel
theorem dX12_splits_20 : decode mX12_splits.2.1 20 = .ok (.if_icmp .eq 204, 3) := by decide +kernel
theorem dX12_splits_23 : decode mX12_splits.2.1 23 = .ok (.aload_n 0, 1) := by decide +kernel
theorem dX12_splits_24 : decode mX12_splits.2.1 24 = .ok (.getfield 337, 3) := by decide +kernel
theorem dX12_splits_27 : decode mX12_splits.2.1 27 = .ok (.ifCond .ne 197, 3) := by decide +kernel
theorem dX12_splits_30 : decode mX12_splits.2.1 30 = .ok (.aload_n 0, 1) := by decide +kernel
theorem dX12_splits_31 : decode mX12_splits.2.1 31 = .ok (.getfield 9, 3) := by decide +kernel
theorem dX12_splits_34 : decode mX12_splits.2.1 34 = .ok (.iload_n 3, 1) := by decide +kernel
theorem dX12_splits_35 : decode mX12_splits.2.1 35 = .ok (.baload, 1) := by decide +kernel
theorem dX12_splits_36 : decode mX12_splits.2.1 36 = .ok (.istore 4, 2) := by decide +kernel
theorem dX12_splits_38 : decode mX12_splits.2.1 38 = .ok (.iload 4, 2) := by decide +kernel
theorem dX12_splits_40 : decode mX12_splits.2.1 40 = .ok (.bipush 32, 2) := by decide +kernel
theorem dX12_splits_42 : decode mX12_splits.2.1 42 = .ok (.if_icmp .ne 9, 3) := by decide +kernel
theorem dX12_splits_45 : decode mX12_splits.2.1 45 = .ok (.iinc 3 1, 3) := by decide +kernel
theorem dX12_splits_48 : decode mX12_splits.2.1 48 = .ok (.goto (-41), 3) := by decide +kernel
theorem dX12_splits_51 : decode mX12_splits.2.1 51 = .ok (.aload_n 0, 1) := by decide +kernel
theorem dX12_splits_52 : decode mX12_splits.2.1 52 = .ok (.getfield 142, 3) := by decide +kernel
theorem dX12_splits_55 : decode mX12_splits.2.1 55 = .ok (.aload_n 0, 1) := by decide +kernel
theorem dX12_splits_56 : decode mX12_splits.2.1 56 = .ok (.getfield 349, 3) := by decide +kernel
theorem dX12_splits_59 : decode mX12_splits.2.1 59 = .ok (.iload_n 3, 1) := by decide +kernel
theorem dX12_splits_60 : decode mX12_splits.2.1 60 = .ok (.iastore, 1) := by decide +kernel
theorem dX12_splits_61 : decode mX12_splits.2.1 61 = .ok (.aload_n 0, 1) := by decide +kernel
theorem dX12_splits_62 : decode mX12_splits.2.1 62 = .ok (.getfield 148, 3) := by decide +kernel
theorem dX12_splits_65 : decode mX12_splits.2.1 65 = .ok (.aload_n 0, 1) := by decide +kernel
theorem dX12_splits_66 : decode mX12_splits.2.1 66 = .ok (.getfield 349, 3) := by decide +kernel
theorem dX12_splits_69 : decode mX12_splits.2.1 69 = .ok (.iload 4, 2) := by decide +kernel
theorem dX12_splits_71 : decode mX12_splits.2.1 71 = .ok (.invokestatic 352, 3) := by decide +kernel
theorem dX12_splits_74 : decode mX12_splits.2.1 74 = .ok (.ifCond .eq 7, 3) := by decide +kernel
theorem dX12_splits_77 : decode mX12_splits.2.1 77 = .ok (.iconst 0, 1) := by decide +kernel
theorem dX12_splits_78 : decode mX12_splits.2.1 78 = .ok (.goto 17, 3) := by decide +kernel
theorem dX12_splits_81 : decode mX12_splits.2.1 81 = .ok (.iload 4, 2) := by decide +kernel
theorem dX12_splits_83 : decode mX12_splits.2.1 83 = .ok (.invokestatic 355, 3) := by decide +kernel
theorem dX12_splits_86 : decode mX12_splits.2.1 86 = .ok (.ifCond .eq 7, 3) := by decide +kernel
theorem dX12_splits_89 : decode mX12_splits.2.1 89 = .ok (.iconst 1, 1) := by decide +kernel
theorem dX12_splits_90 : decode mX12_splits.2.1 90 = .ok (.goto 5, 3) := by decide +kernel
theorem dX12_splits_93 : decode mX12_splits.2.1 93 = .ok (.iload 4, 2) := by decide +kernel
theorem dX12_splits_95 : decode mX12_splits.2.1 95 = .ok (.iastore, 1) := by decide +kernel
theorem dX12_splits_96 : decode mX12_splits.2.1 96 = .ok (.iload 4, 2) := by decide +kernel
theorem dX12_splits_98 : decode mX12_splits.2.1 98 = .ok (.invokestatic 352, 3) := by decide +kernel
theorem dX12_splits_101 : decode mX12_splits.2.1 101 = .ok (.ifCond .eq 26, 3) := by decide +kernel
theorem dX12_splits_104 : decode mX12_splits.2.1 104 = .ok (.iload_n 3, 1) := by decide +kernel
theorem dX12_splits_105 : decode mX12_splits.2.1 105 = .ok (.iload_n 2, 1) := by decide +kernel
theorem dX12_splits_106 : decode mX12_splits.2.1 106 = .ok (.if_icmp .ge 95, 3) := by decide +kernel
theorem dX12_splits_109 : decode mX12_splits.2.1 109 = .ok (.aload_n 0, 1) := by decide +kernel
theorem dX12_splits_110 : decode mX12_splits.2.1 110 = .ok (.getfield 9, 3) := by decide +kernel
theorem dX12_splits_113 : decode mX12_splits.2.1 113 = .ok (.iload_n 3, 1) := by decide +kernel
theorem dX12_splits_114 : decode mX12_splits.2.1 114 = .ok (.baload, 1) := by decide +kernel
theorem dX12_splits_115 : decode mX12_splits.2.1 115 = .ok (.invokestatic 352, 3) := by decide +kernel
theorem dX12_splits_118 : decode mX12_splits.2.1 118 = .ok (.ifCond .eq 83, 3) := by decide +kernel
theorem dX12_splits_121 : decode mX12_splits.2.1 121 = .ok (.iinc 3 1, 3) := by decide +kernel
theorem dX12_splits_124 : decode mX12_splits.2.1 124 = .ok (.goto (-20), 3) := by decide +kernel
theorem dX12_splits_127 : decode mX12_splits.2.1 127 = .ok (.iload 4, 2) := by decide +kernel
theorem dX12_splits_129 : decode mX12_splits.2.1 129 = .ok (.invokestatic 355, 3) := by decide +kernel
theorem dX12_splits_132 : decode mX12_splits.2.1 132 = .ok (.ifCond .eq 26, 3) := by decide +kernel
theorem dX12_splits_135 : decode mX12_splits.2.1 135 = .ok (.iload_n 3, 1) := by decide +kernel
theorem dX12_splits_136 : decode mX12_splits.2.1 136 = .ok (.iload_n 2, 1) := by decide +kernel
theorem dX12_splits_137 : decode mX12_splits.2.1 137 = .ok (.if_icmp .ge 64, 3) := by decide +kernel
theorem dX12_splits_140 : decode mX12_splits.2.1 140 = .ok (.aload_n 0, 1) := by decide +kernel
theorem dX12_splits_141 : decode mX12_splits.2.1 141 = .ok (.getfield 9, 3) := by decide +kernel
theorem dX12_splits_144 : decode mX12_splits.2.1 144 = .ok (.iload_n 3, 1) := by decide +kernel
theorem dX12_splits_145 : decode mX12_splits.2.1 145 = .ok (.baload, 1) := by decide +kernel
theorem dX12_splits_146 : decode mX12_splits.2.1 146 = .ok (.invokestatic 355, 3) := by decide +kernel
theorem dX12_splits_149 : decode mX12_splits.2.1 149 = .ok (.ifCond .eq 52, 3) := by decide +kernel
theorem dX12_splits_152 : decode mX12_splits.2.1 152 = .ok (.iinc 3 1, 3) := by decide +kernel
theorem dX12_splits_155 : decode mX12_splits.2.1 155 = .ok (.goto (-20), 3) := by decide +kernel
theorem dX12_splits_158 : decode mX12_splits.2.1 158 = .ok (.iload 4, 2) := by decide +kernel
theorem dX12_splits_160 : decode mX12_splits.2.1 160 = .ok (.bipush 58, 2) := by decide +kernel
theorem dX12_splits_162 : decode mX12_splits.2.1 162 = .ok (.if_icmp .eq 24, 3) := by decide +kernel
theorem dX12_splits_165 : decode mX12_splits.2.1 165 = .ok (.iload 4, 2) := by decide +kernel
theorem dX12_splits_167 : decode mX12_splits.2.1 167 = .ok (.bipush 44, 2) := by decide +kernel
theorem dX12_splits_169 : decode mX12_splits.2.1 169 = .ok (.if_icmp .eq 17, 3) := by decide +kernel
theorem dX12_splits_172 : decode mX12_splits.2.1 172 = .ok (.iload 4, 2) := by decide +kernel
theorem dX12_splits_174 : decode mX12_splits.2.1 174 = .ok (.bipush 59, 2) := by decide +kernel
theorem dX12_splits_176 : decode mX12_splits.2.1 176 = .ok (.if_icmp .eq 10, 3) := by decide +kernel
theorem dX12_splits_179 : decode mX12_splits.2.1 179 = .ok (.iload 4, 2) := by decide +kernel
theorem dX12_splits_181 : decode mX12_splits.2.1 181 = .ok (.bipush 46, 2) := by decide +kernel
theorem dX12_splits_183 : decode mX12_splits.2.1 183 = .ok (.if_icmp .ne 9, 3) := by decide +kernel
theorem dX12_splits_186 : decode mX12_splits.2.1 186 = .ok (.iinc 3 1, 3) := by decide +kernel
theorem dX12_splits_189 : decode mX12_splits.2.1 189 = .ok (.goto 12, 3) := by decide +kernel
theorem dX12_splits_192 : decode mX12_splits.2.1 192 = .ok (.aload_n 0, 1) := by decide +kernel
theorem dX12_splits_193 : decode mX12_splits.2.1 193 = .ok (.aload_n 0, 1) := by decide +kernel
theorem dX12_splits_194 : decode mX12_splits.2.1 194 = .ok (.getfield 349, 3) := by decide +kernel
theorem dX12_splits_197 : decode mX12_splits.2.1 197 = .ok (.iconst 1, 1) := by decide +kernel
theorem dX12_splits_198 : decode mX12_splits.2.1 198 = .ok (.invokevirtual 358, 3) := by decide +kernel
theorem dX12_splits_201 : decode mX12_splits.2.1 201 = .ok (.aload_n 0, 1) := by decide +kernel
theorem dX12_splits_202 : decode mX12_splits.2.1 202 = .ok (.getfield 145, 3) := by decide +kernel
theorem dX12_splits_205 : decode mX12_splits.2.1 205 = .ok (.aload_n 0, 1) := by decide +kernel
theorem dX12_splits_206 : decode mX12_splits.2.1 206 = .ok (.getfield 349, 3) := by decide +kernel
theorem dX12_splits_209 : decode mX12_splits.2.1 209 = .ok (.iload_n 3, 1) := by decide +kernel
theorem dX12_splits_210 : decode mX12_splits.2.1 210 = .ok (.iastore, 1) := by decide +kernel
theorem dX12_splits_211 : decode mX12_splits.2.1 211 = .ok (.aload_n 0, 1) := by decide +kernel
theorem dX12_splits_212 : decode mX12_splits.2.1 212 = .ok (.dup, 1) := by decide +kernel
theorem dX12_splits_213 : decode mX12_splits.2.1 213 = .ok (.getfield 349, 3) := by decide +kernel
theorem dX12_splits_216 : decode mX12_splits.2.1 216 = .ok (.iconst 1, 1) := by decide +kernel
theorem dX12_splits_217 : decode mX12_splits.2.1 217 = .ok (.iadd, 1) := by decide +kernel
theorem dX12_splits_218 : decode mX12_splits.2.1 218 = .ok (.putfield 349, 3) := by decide +kernel
theorem dX12_splits_221 : decode mX12_splits.2.1 221 = .ok (.goto (-214), 3) := by decide +kernel
theorem dX12_splits_224 : decode mX12_splits.2.1 224 = .ok (.return_, 1) := by decide +kernel
theorem bX12_splits_0 {SC : Nat → Nat} {X : mh_X} {d : Nat} {Q : Option am_V → am_W → Prop} {bc bs : Nat} {w : am_W} {x1 : Int} {x2 : Int}
    (h : am_A (mh_G X) SC (d + 2) mX12_splits Q 7 [(0, .inr (.inr (some (9, 0)))), (2, .inl x2), (3, .inl x1)] [] ((am_up w.1 9 0 30 0), w.2) bc bs) :
    am_A (mh_G X) SC (d + 2) mX12_splits Q 0 [(0, .inr (.inr (some (9, 0)))), (1, .inl x1), (2, .inl x2)] [] w bc bs := by
  refine am_aload_n dX12_splits_0 (List.Mem.head _) ?_
  refine am_iconst dX12_splits_1 (by unfold am_rg; omega) ?_
  refine am_putf (f := 30) dX12_splits_2 hc_10 (by decide) wd_1579 rfl (Or.inl rfl) (Or.inl (by decide)) rfl ?_
  refine am_iload_n dX12_splits_5 (List.Mem.tail _ (List.Mem.head _)) ?_
  refine am_istore_n (ls' := [(3, .inl x1), (0, .inr (.inr (some (9, 0)))), (1, .inl x1), (2, .inl x2)]) dX12_splits_6 (by decide) rfl ?_
  exact am_sub [1, 3, 0] rfl h
theorem bX12_splits_7 {SC : Nat → Nat} {X : mh_X} {d : Nat} {Q : Option am_V → am_W → Prop} {bc bs : Nat} {w : am_W} {x2 : Int} {x3 : Int}
    (h : ((x2 ≤ x3 → Q none w) ∧ (¬ x2 ≤ x3 → (0 ≤ x3 ∧ (x3 < 3000 ∧ (((w.1 66 0 x3.toNat) = 35 → Q none w) ∧ (¬ (w.1 66 0 x3.toNat) = 35 → ((¬ (w.1 9 0 4) = 0 → Q none w) ∧ ((w.1 9 0 4) = 0 → ((¬ (w.1 66 0 x3.toNat) = 32 → (0 ≤ (w.1 9 0 30) ∧ ((w.1 9 0 30) < 3000 ∧ ((¬ (¬ (w.1 66 0 x3.toNat) < 97 ∧ (¬ 122 < (w.1 66 0 x3.toNat))) → ((¬ (¬ (w.1 66 0 x3.toNat) < 48 ∧ (¬ 57 < (w.1 66 0 x3.toNat))) → am_A (mh_G X) SC (d + 2) mX12_splits Q 95 [(0, .inr (.inr (some (9, 0)))), (2, .inl x2), (3, .inl x3), (4, .inl (w.1 66 0 x3.toNat))] [.inl (w.1 66 0 x3.toNat), .inl (w.1 9 0 30), .inr (.inr (some (95, 0)))] ((am_up w.1 93 0 (w.1 9 0 30).toNat x3), w.2) bc bs) ∧ ((¬ (w.1 66 0 x3.toNat) < 48 ∧ (¬ 57 < (w.1 66 0 x3.toNat))) → am_A (mh_G X) SC (d + 2) mX12_splits Q 95 [(0, .inr (.inr (some (9, 0)))), (2, .inl x2), (3, .inl x3), (4, .inl (w.1 66 0 x3.toNat))] [.inl 1, .inl (w.1 9 0 30), .inr (.inr (some (95, 0)))] ((am_up w.1 93 0 (w.1 9 0 30).toNat x3), w.2) bc bs))) ∧ ((¬ (w.1 66 0 x3.toNat) < 97 ∧ (¬ 122 < (w.1 66 0 x3.toNat))) → am_A (mh_G X) SC (d + 2) mX12_splits Q 95 [(0, .inr (.inr (some (9, 0)))), (2, .inl x2), (3, .inl x3), (4, .inl (w.1 66 0 x3.toNat))] [.inl 0, .inl (w.1 9 0 30), .inr (.inr (some (95, 0)))] ((am_up w.1 93 0 (w.1 9 0 30).toNat x3), w.2) bc bs))))) ∧ ((w.1 66 0 x3.toNat) = 32 → am_A (mh_G X) SC (d + 2) mX12_splits Q 7 [(0, .inr (.inr (some (9, 0)))), (2, .inl x2), (3, .inl (am_w (x3 + 1)))] [] w bc bs))))))))))) :
    am_A (mh_G X) SC (d + 2) mX12_splits Q 7 [(0, .inr (.inr (some (9, 0)))), (2, .inl x2), (3, .inl x3)] [] w bc bs := by
  refine am_iload_n dX12_splits_7 (List.Mem.tail _ (List.Mem.tail _ (List.Mem.head _))) ?_
  refine am_iload_n dX12_splits_8 (List.Mem.tail _ (List.Mem.head _)) ?_
  refine am_icmpge (tgt := 224) dX12_splits_9 (by decide) (fun c1 => ?_) (fun c1 => ?_)
  · replace h := h.1 c1
    exact am_ret (r := none) dX12_splits_224 rfl rfl h
  · replace h := h.2 c1
    refine am_aload_n dX12_splits_12 (List.Mem.head _) ?_
    refine am_getf (f := 0) (v := .inr (.inr (some (66, 0)))) dX12_splits_13 hc_10 (by decide) wd_1549 (by decide) rfl rfl ?_
    refine am_iload_n dX12_splits_16 (List.Mem.tail _ (List.Mem.tail _ (List.Mem.head _))) ?_
    have o2 := h.1
    replace h := h.2
    have o3 := h.1
    replace h := h.2
    refine am_baload (v := (w.1 66 0 x3.toNat)) dX12_splits_17 (by decide) rfl o2 o3 rfl ?_
    refine am_bipush dX12_splits_18 (by decide) (by unfold am_rg; omega) ?_
    refine am_icmpeq (tgt := 224) dX12_splits_20 (by decide) (fun c4 => ?_) (fun c4 => ?_)
    · replace h := h.1 c4
      exact am_ret (r := none) dX12_splits_224 rfl rfl h
    · replace h := h.2 c4
      refine am_aload_n dX12_splits_23 (List.Mem.head _) ?_
      refine am_getf (f := 4) (v := .inl (w.1 9 0 4)) dX12_splits_24 hc_10 (by decide) wd_1553 (by decide) rfl rfl ?_
      refine am_ifne (tgt := 224) dX12_splits_27 (by decide) (fun c5 => ?_) (fun c5 => ?_)
      · replace h := h.1 c5
        exact am_ret (r := none) dX12_splits_224 rfl rfl h
      · replace h := h.2 c5
        refine am_aload_n dX12_splits_30 (List.Mem.head _) ?_
        refine am_getf (f := 0) (v := .inr (.inr (some (66, 0)))) dX12_splits_31 hc_10 (by decide) wd_1549 (by decide) rfl rfl ?_
        refine am_iload_n dX12_splits_34 (List.Mem.tail _ (List.Mem.tail _ (List.Mem.head _))) ?_
        refine am_baload (v := (w.1 66 0 x3.toNat)) dX12_splits_35 (by decide) rfl o2 o3 rfl ?_
        refine am_istore (ls' := [(4, .inl (w.1 66 0 x3.toNat)), (0, .inr (.inr (some (9, 0)))), (2, .inl x2), (3, .inl x3)]) dX12_splits_36 (by decide) rfl ?_
        refine am_iload dX12_splits_38 (List.Mem.head _) ?_
        refine am_bipush dX12_splits_40 (by decide) (by unfold am_rg; omega) ?_
        refine am_icmpne (tgt := 51) dX12_splits_42 (by decide) (fun c6 => ?_) (fun c6 => ?_)
        · replace h := h.1 c6
          refine am_aload_n dX12_splits_51 (List.Mem.tail _ (List.Mem.head _)) ?_
          refine am_getf (f := 27) (v := .inr (.inr (some (93, 0)))) dX12_splits_52 hc_10 (by decide) wd_1576 (by decide) rfl rfl ?_
          refine am_aload_n dX12_splits_55 (List.Mem.tail _ (List.Mem.head _)) ?_
          refine am_getf (f := 30) (v := .inl (w.1 9 0 30)) dX12_splits_56 hc_10 (by decide) wd_1579 (by decide) rfl rfl ?_
          refine am_iload_n dX12_splits_59 (List.Mem.tail _ (List.Mem.tail _ (List.Mem.tail _ (List.Mem.head _)))) ?_
          have o7 := h.1
          replace h := h.2
          have o8 := h.1
          replace h := h.2
          refine am_iastore dX12_splits_60 (Or.inl (by decide)) rfl o7 o8 ?_
          refine am_aload_n dX12_splits_61 (List.Mem.tail _ (List.Mem.head _)) ?_
          refine am_getf (f := 29) (v := .inr (.inr (some (95, 0)))) dX12_splits_62 hc_10 (by decide) wd_1578 (by decide) rfl rfl ?_
          refine am_aload_n dX12_splits_65 (List.Mem.tail _ (List.Mem.head _)) ?_
          refine am_getf (f := 30) (v := .inl (w.1 9 0 30)) dX12_splits_66 hc_10 (by decide) wd_1579 (by decide) rfl rfl ?_
          refine am_iload dX12_splits_69 (List.Mem.head _) ?_
          refine am_calls (d' := d + 1) (kc := 0) (ks := 0) (as := [.inl (w.1 66 0 x3.toNat)]) dX12_splits_71 wc_X12_isLetter wd_1919 wd_1920 wd_122 ds_X12_isLetter (by decide) (by omega) (Nat.le_of_ble_eq_true rfl) (Nat.zero_le _) (Nat.zero_le _) rfl (sX12_isLetter (d := d + 0) (x0 := (w.1 66 0 x3.toNat))  ?_)
          show am_A (mh_G X) SC (d + 2) mX12_splits Q 74 [(4, .inl (w.1 66 0 x3.toNat)), (0, .inr (.inr (some (9, 0)))), (2, .inl x2), (3, .inl x3)] [.inl (if (¬ (w.1 66 0 x3.toNat) < 97 ∧ (¬ 122 < (w.1 66 0 x3.toNat))) then 1 else 0), .inl (w.1 9 0 30), .inr (.inr (some (95, 0)))] ((am_up w.1 93 0 (w.1 9 0 30).toNat x3), w.2) bc bs
          refine am_ifeq (tgt := 81) dX12_splits_74 (by decide) (fun c9 => ?_) (fun c9 => ?_)
          · replace c9 := am_beq1 c9
            replace h := h.1 c9
            refine am_iload dX12_splits_81 (List.Mem.head _) ?_
            refine am_calls (d' := d + 1) (kc := 0) (ks := 0) (as := [.inl (w.1 66 0 x3.toNat)]) dX12_splits_83 wc_X12_isDigit wd_1922 wd_1923 wd_122 ds_X12_isDigit (by decide) (by omega) (Nat.le_of_ble_eq_true rfl) (Nat.zero_le _) (Nat.zero_le _) rfl (sX12_isDigit (d := d + 0) (x0 := (w.1 66 0 x3.toNat))  ?_)
            show am_A (mh_G X) SC (d + 2) mX12_splits Q 86 [(4, .inl (w.1 66 0 x3.toNat)), (0, .inr (.inr (some (9, 0)))), (2, .inl x2), (3, .inl x3)] [.inl (if (¬ (w.1 66 0 x3.toNat) < 48 ∧ (¬ 57 < (w.1 66 0 x3.toNat))) then 1 else 0), .inl (w.1 9 0 30), .inr (.inr (some (95, 0)))] ((am_up w.1 93 0 (w.1 9 0 30).toNat x3), w.2) bc bs
            refine am_ifeq (tgt := 93) dX12_splits_86 (by decide) (fun c10 => ?_) (fun c10 => ?_)
            · replace c10 := am_beq1 c10
              replace h := h.1 c10
              refine am_iload dX12_splits_93 (List.Mem.head _) ?_
              exact am_sub [1, 2, 3, 0] rfl h
            · replace c10 := am_beq2 c10
              replace h := h.2 c10
              refine am_iconst dX12_splits_89 (by unfold am_rg; omega) ?_
              refine am_goto (tgt := 95) dX12_splits_90 (by decide) ?_
              exact am_sub [1, 2, 3, 0] rfl h
          · replace c9 := am_beq2 c9
            replace h := h.2 c9
            refine am_iconst dX12_splits_77 (by unfold am_rg; omega) ?_
            refine am_goto (tgt := 95) dX12_splits_78 (by decide) ?_
            exact am_sub [1, 2, 3, 0] rfl h
        · replace h := h.2 c6
          refine am_iinc (ls' := [(3, .inl (am_w (x3 + 1))), (4, .inl (w.1 66 0 x3.toNat)), (0, .inr (.inr (some (9, 0)))), (2, .inl x2)]) dX12_splits_45 (List.Mem.tail _ (List.Mem.tail _ (List.Mem.tail _ (List.Mem.head _)))) (by decide) rfl ?_
          refine am_goto (tgt := 7) dX12_splits_48 (by decide) ?_
          exact am_sub [2, 3, 0] rfl h
theorem bX12_splits_95 {SC : Nat → Nat} {X : mh_X} {d : Nat} {Q : Option am_V → am_W → Prop} {bc bs : Nat} {w : am_W} {x2 : Int} {x3 : Int} {x4 : Int} {xs0 : Int} {xs1 : Int}
    (h : (0 ≤ xs1 ∧ (xs1 < 3000 ∧ ((¬ (¬ x4 < 97 ∧ (¬ 122 < x4)) → ((¬ (¬ x4 < 48 ∧ (¬ 57 < x4)) → ((x4 = 58 → am_A (mh_G X) SC (d + 2) mX12_splits Q 186 [(0, .inr (.inr (some (9, 0)))), (2, .inl x2), (3, .inl x3)] [] ((am_up w.1 95 0 xs1.toNat xs0), w.2) bc bs) ∧ (¬ x4 = 58 → ((x4 = 44 → am_A (mh_G X) SC (d + 2) mX12_splits Q 186 [(0, .inr (.inr (some (9, 0)))), (2, .inl x2), (3, .inl x3)] [] ((am_up w.1 95 0 xs1.toNat xs0), w.2) bc bs) ∧ (¬ x4 = 44 → ((x4 = 59 → am_A (mh_G X) SC (d + 2) mX12_splits Q 186 [(0, .inr (.inr (some (9, 0)))), (2, .inl x2), (3, .inl x3)] [] ((am_up w.1 95 0 xs1.toNat xs0), w.2) bc bs) ∧ (¬ x4 = 59 → ((¬ x4 = 46 → am_M (mh_G X) SC (d + 1) 0 0 mX12_faults [.inr (.inr (some (9, 0))), .inl (w.1 9 0 30), .inl 1] ((am_up w.1 95 0 xs1.toNat xs0), w.2) (fun r w1 => am_A (mh_G X) SC (d + 2) mX12_splits Q 201 [(0, .inr (.inr (some (9, 0)))), (2, .inl x2), (3, .inl x3), (4, .inl x4)] (r.toList ++ []) w1 bc bs)) ∧ (x4 = 46 → am_A (mh_G X) SC (d + 2) mX12_splits Q 186 [(0, .inr (.inr (some (9, 0)))), (2, .inl x2), (3, .inl x3)] [] ((am_up w.1 95 0 xs1.toNat xs0), w.2) bc bs))))))))) ∧ ((¬ x4 < 48 ∧ (¬ 57 < x4)) → am_A (mh_G X) SC (d + 2) mX12_splits Q 135 [(0, .inr (.inr (some (9, 0)))), (2, .inl x2), (3, .inl x3)] [] ((am_up w.1 95 0 xs1.toNat xs0), w.2) bc bs))) ∧ ((¬ x4 < 97 ∧ (¬ 122 < x4)) → am_A (mh_G X) SC (d + 2) mX12_splits Q 104 [(0, .inr (.inr (some (9, 0)))), (2, .inl x2), (3, .inl x3)] [] ((am_up w.1 95 0 xs1.toNat xs0), w.2) bc bs))))) :
    am_A (mh_G X) SC (d + 2) mX12_splits Q 95 [(0, .inr (.inr (some (9, 0)))), (2, .inl x2), (3, .inl x3), (4, .inl x4)] [.inl xs0, .inl xs1, .inr (.inr (some (95, 0)))] w bc bs := by
  have o1 := h.1
  replace h := h.2
  have o2 := h.1
  replace h := h.2
  refine am_iastore dX12_splits_95 (Or.inl (by decide)) rfl o1 o2 ?_
  refine am_iload dX12_splits_96 (List.Mem.tail _ (List.Mem.tail _ (List.Mem.tail _ (List.Mem.head _)))) ?_
  refine am_calls (d' := d + 1) (kc := 0) (ks := 0) (as := [.inl x4]) dX12_splits_98 wc_X12_isLetter wd_1919 wd_1920 wd_122 ds_X12_isLetter (by decide) (by omega) (Nat.le_of_ble_eq_true rfl) (Nat.zero_le _) (Nat.zero_le _) rfl (sX12_isLetter (d := d + 0) (x0 := x4)  ?_)
  show am_A (mh_G X) SC (d + 2) mX12_splits Q 101 [(0, .inr (.inr (some (9, 0)))), (2, .inl x2), (3, .inl x3), (4, .inl x4)] [.inl (if (¬ x4 < 97 ∧ (¬ 122 < x4)) then 1 else 0)] ((am_up w.1 95 0 xs1.toNat xs0), w.2) bc bs
  refine am_ifeq (tgt := 127) dX12_splits_101 (by decide) (fun c3 => ?_) (fun c3 => ?_)
  · replace c3 := am_beq1 c3
    replace h := h.1 c3
    refine am_iload dX12_splits_127 (List.Mem.tail _ (List.Mem.tail _ (List.Mem.tail _ (List.Mem.head _)))) ?_
    refine am_calls (d' := d + 1) (kc := 0) (ks := 0) (as := [.inl x4]) dX12_splits_129 wc_X12_isDigit wd_1922 wd_1923 wd_122 ds_X12_isDigit (by decide) (by omega) (Nat.le_of_ble_eq_true rfl) (Nat.zero_le _) (Nat.zero_le _) rfl (sX12_isDigit (d := d + 0) (x0 := x4)  ?_)
    show am_A (mh_G X) SC (d + 2) mX12_splits Q 132 [(0, .inr (.inr (some (9, 0)))), (2, .inl x2), (3, .inl x3), (4, .inl x4)] [.inl (if (¬ x4 < 48 ∧ (¬ 57 < x4)) then 1 else 0)] ((am_up w.1 95 0 xs1.toNat xs0), w.2) bc bs
    refine am_ifeq (tgt := 158) dX12_splits_132 (by decide) (fun c4 => ?_) (fun c4 => ?_)
    · replace c4 := am_beq1 c4
      replace h := h.1 c4
      refine am_iload dX12_splits_158 (List.Mem.tail _ (List.Mem.tail _ (List.Mem.tail _ (List.Mem.head _)))) ?_
      refine am_bipush dX12_splits_160 (by decide) (by unfold am_rg; omega) ?_
      refine am_icmpeq (tgt := 186) dX12_splits_162 (by decide) (fun c5 => ?_) (fun c5 => ?_)
      · replace h := h.1 c5
        exact am_sub [0, 1, 2] rfl h
      · replace h := h.2 c5
        refine am_iload dX12_splits_165 (List.Mem.tail _ (List.Mem.tail _ (List.Mem.tail _ (List.Mem.head _)))) ?_
        refine am_bipush dX12_splits_167 (by decide) (by unfold am_rg; omega) ?_
        refine am_icmpeq (tgt := 186) dX12_splits_169 (by decide) (fun c6 => ?_) (fun c6 => ?_)
        · replace h := h.1 c6
          exact am_sub [0, 1, 2] rfl h
        · replace h := h.2 c6
          refine am_iload dX12_splits_172 (List.Mem.tail _ (List.Mem.tail _ (List.Mem.tail _ (List.Mem.head _)))) ?_
          refine am_bipush dX12_splits_174 (by decide) (by unfold am_rg; omega) ?_
          refine am_icmpeq (tgt := 186) dX12_splits_176 (by decide) (fun c7 => ?_) (fun c7 => ?_)
          · replace h := h.1 c7
            exact am_sub [0, 1, 2] rfl h
          · replace h := h.2 c7
            refine am_iload dX12_splits_179 (List.Mem.tail _ (List.Mem.tail _ (List.Mem.tail _ (List.Mem.head _)))) ?_
            refine am_bipush dX12_splits_181 (by decide) (by unfold am_rg; omega) ?_
            refine am_icmpne (tgt := 192) dX12_splits_183 (by decide) (fun c8 => ?_) (fun c8 => ?_)
            · replace h := h.1 c8
              refine am_aload_n dX12_splits_192 (List.Mem.head _) ?_
              refine am_aload_n dX12_splits_193 (List.Mem.head _) ?_
              refine am_getf (f := 30) (v := .inl (w.1 9 0 30)) dX12_splits_194 hc_10 (by decide) wd_1579 (by decide) rfl rfl ?_
              refine am_iconst dX12_splits_197 (by unfold am_rg; omega) ?_
              exact am_callv (d' := d + 1) (kc := 0) (ks := 0) (as := [.inl (w.1 9 0 30), .inl 1]) dX12_splits_198 wc_X12_faults wd_1925 wd_1927 wd_56 wd_122 ds_X12_faults (by decide) (by omega) (Nat.le_of_ble_eq_true rfl) (Nat.zero_le _) (Nat.zero_le _) hc_10 (by decide) rfl rfl h
            · replace h := h.2 c8
              exact am_sub [0, 1, 2] rfl h
    · replace c4 := am_beq2 c4
      replace h := h.2 c4
      exact am_sub [0, 1, 2] rfl h
  · replace c3 := am_beq2 c3
    replace h := h.2 c3
    exact am_sub [0, 1, 2] rfl h
theorem bX12_splits_186 {SC : Nat → Nat} {X : mh_X} {d : Nat} {Q : Option am_V → am_W → Prop} {bc bs : Nat} {w : am_W} {x2 : Int} {x3 : Int}
    (h : am_A (mh_G X) SC (d + 2) mX12_splits Q 201 [(0, .inr (.inr (some (9, 0)))), (2, .inl x2), (3, .inl (am_w (x3 + 1)))] [] w bc bs) :
    am_A (mh_G X) SC (d + 2) mX12_splits Q 186 [(0, .inr (.inr (some (9, 0)))), (2, .inl x2), (3, .inl x3)] [] w bc bs := by
  refine am_iinc (ls' := [(3, .inl (am_w (x3 + 1))), (0, .inr (.inr (some (9, 0)))), (2, .inl x2)]) dX12_splits_186 (List.Mem.tail _ (List.Mem.tail _ (List.Mem.head _))) (by decide) rfl ?_
  refine am_goto (tgt := 201) dX12_splits_189 (by decide) ?_
  exact am_sub [1, 2, 0] rfl h
theorem bX12_splits_201 {SC : Nat → Nat} {X : mh_X} {d : Nat} {Q : Option am_V → am_W → Prop} {bc bs : Nat} {w : am_W} {x2 : Int} {x3 : Int} {x4 : Int}
    (h : (0 ≤ (w.1 9 0 30) ∧ ((w.1 9 0 30) < 3000 ∧ am_A (mh_G X) SC (d + 2) mX12_splits Q 7 [(0, .inr (.inr (some (9, 0)))), (2, .inl x2), (3, .inl x3)] [] ((am_up (am_up w.1 94 0 (w.1 9 0 30).toNat x3) 9 0 30 (am_w ((w.1 9 0 30) + 1))), w.2) bc bs))) :
    am_A (mh_G X) SC (d + 2) mX12_splits Q 201 [(0, .inr (.inr (some (9, 0)))), (2, .inl x2), (3, .inl x3), (4, .inl x4)] [] w bc bs := by
  refine am_aload_n dX12_splits_201 (List.Mem.head _) ?_
  refine am_getf (f := 28) (v := .inr (.inr (some (94, 0)))) dX12_splits_202 hc_10 (by decide) wd_1577 (by decide) rfl rfl ?_
  refine am_aload_n dX12_splits_205 (List.Mem.head _) ?_
  refine am_getf (f := 30) (v := .inl (w.1 9 0 30)) dX12_splits_206 hc_10 (by decide) wd_1579 (by decide) rfl rfl ?_
  refine am_iload_n dX12_splits_209 (List.Mem.tail _ (List.Mem.tail _ (List.Mem.head _))) ?_
  have o1 := h.1
  replace h := h.2
  have o2 := h.1
  replace h := h.2
  refine am_iastore dX12_splits_210 (Or.inl (by decide)) rfl o1 o2 ?_
  refine am_aload_n dX12_splits_211 (List.Mem.head _) ?_
  refine am_dup dX12_splits_212 rfl ?_
  refine am_getf (f := 30) (v := .inl (w.1 9 0 30)) dX12_splits_213 hc_10 (by decide) wd_1579 (by decide) rfl rfl ?_
  refine am_iconst dX12_splits_216 (by unfold am_rg; omega) ?_
  refine am_iadd dX12_splits_217 ?_
  refine am_putf (f := 30) dX12_splits_218 hc_10 (by decide) wd_1579 rfl (Or.inl rfl) (Or.inl (by decide)) rfl ?_
  refine am_goto (tgt := 7) dX12_splits_221 (by decide) ?_
  exact am_sub [0, 1, 2] rfl h
theorem bX12_splits_135 {SC : Nat → Nat} {X : mh_X} {d : Nat} {Q : Option am_V → am_W → Prop} {bc bs : Nat} {w : am_W} {x2 : Int} {x3 : Int}
    (h : ((x2 ≤ x3 → am_A (mh_G X) SC (d + 2) mX12_splits Q 201 [(0, .inr (.inr (some (9, 0)))), (2, .inl x2), (3, .inl x3)] [] w bc bs) ∧ (¬ x2 ≤ x3 → (0 ≤ x3 ∧ (x3 < 3000 ∧ ((¬ (¬ (w.1 66 0 x3.toNat) < 48 ∧ (¬ 57 < (w.1 66 0 x3.toNat))) → am_A (mh_G X) SC (d + 2) mX12_splits Q 201 [(0, .inr (.inr (some (9, 0)))), (2, .inl x2), (3, .inl x3)] [] w bc bs) ∧ ((¬ (w.1 66 0 x3.toNat) < 48 ∧ (¬ 57 < (w.1 66 0 x3.toNat))) → am_A (mh_G X) SC (d + 2) mX12_splits Q 135 [(0, .inr (.inr (some (9, 0)))), (2, .inl x2), (3, .inl (am_w (x3 + 1)))] [] w bc bs))))))) :
    am_A (mh_G X) SC (d + 2) mX12_splits Q 135 [(0, .inr (.inr (some (9, 0)))), (2, .inl x2), (3, .inl x3)] [] w bc bs := by
  refine am_iload_n dX12_splits_135 (List.Mem.tail _ (List.Mem.tail _ (List.Mem.head _))) ?_
  refine am_iload_n dX12_splits_136 (List.Mem.tail _ (List.Mem.head _)) ?_
  refine am_icmpge (tgt := 201) dX12_splits_137 (by decide) (fun c1 => ?_) (fun c1 => ?_)
  · replace h := h.1 c1
    exact h
  · replace h := h.2 c1
    refine am_aload_n dX12_splits_140 (List.Mem.head _) ?_
    refine am_getf (f := 0) (v := .inr (.inr (some (66, 0)))) dX12_splits_141 hc_10 (by decide) wd_1549 (by decide) rfl rfl ?_
    refine am_iload_n dX12_splits_144 (List.Mem.tail _ (List.Mem.tail _ (List.Mem.head _))) ?_
    have o2 := h.1
    replace h := h.2
    have o3 := h.1
    replace h := h.2
    refine am_baload (v := (w.1 66 0 x3.toNat)) dX12_splits_145 (by decide) rfl o2 o3 rfl ?_
    refine am_calls (d' := d + 1) (kc := 0) (ks := 0) (as := [.inl (w.1 66 0 x3.toNat)]) dX12_splits_146 wc_X12_isDigit wd_1922 wd_1923 wd_122 ds_X12_isDigit (by decide) (by omega) (Nat.le_of_ble_eq_true rfl) (Nat.zero_le _) (Nat.zero_le _) rfl (sX12_isDigit (d := d + 0) (x0 := (w.1 66 0 x3.toNat))  ?_)
    show am_A (mh_G X) SC (d + 2) mX12_splits Q 149 [(0, .inr (.inr (some (9, 0)))), (2, .inl x2), (3, .inl x3)] [.inl (if (¬ (w.1 66 0 x3.toNat) < 48 ∧ (¬ 57 < (w.1 66 0 x3.toNat))) then 1 else 0)] w bc bs
    refine am_ifeq (tgt := 201) dX12_splits_149 (by decide) (fun c4 => ?_) (fun c4 => ?_)
    · replace c4 := am_beq1 c4
      replace h := h.1 c4
      exact h
    · replace c4 := am_beq2 c4
      replace h := h.2 c4
      refine am_iinc (ls' := [(3, .inl (am_w (x3 + 1))), (0, .inr (.inr (some (9, 0)))), (2, .inl x2)]) dX12_splits_152 (List.Mem.tail _ (List.Mem.tail _ (List.Mem.head _))) (by decide) rfl ?_
      refine am_goto (tgt := 135) dX12_splits_155 (by decide) ?_
      exact am_sub [1, 2, 0] rfl h
theorem bX12_splits_104 {SC : Nat → Nat} {X : mh_X} {d : Nat} {Q : Option am_V → am_W → Prop} {bc bs : Nat} {w : am_W} {x2 : Int} {x3 : Int}
    (h : ((x2 ≤ x3 → am_A (mh_G X) SC (d + 2) mX12_splits Q 201 [(0, .inr (.inr (some (9, 0)))), (2, .inl x2), (3, .inl x3)] [] w bc bs) ∧ (¬ x2 ≤ x3 → (0 ≤ x3 ∧ (x3 < 3000 ∧ ((¬ (¬ (w.1 66 0 x3.toNat) < 97 ∧ (¬ 122 < (w.1 66 0 x3.toNat))) → am_A (mh_G X) SC (d + 2) mX12_splits Q 201 [(0, .inr (.inr (some (9, 0)))), (2, .inl x2), (3, .inl x3)] [] w bc bs) ∧ ((¬ (w.1 66 0 x3.toNat) < 97 ∧ (¬ 122 < (w.1 66 0 x3.toNat))) → am_A (mh_G X) SC (d + 2) mX12_splits Q 104 [(0, .inr (.inr (some (9, 0)))), (2, .inl x2), (3, .inl (am_w (x3 + 1)))] [] w bc bs))))))) :
    am_A (mh_G X) SC (d + 2) mX12_splits Q 104 [(0, .inr (.inr (some (9, 0)))), (2, .inl x2), (3, .inl x3)] [] w bc bs := by
  refine am_iload_n dX12_splits_104 (List.Mem.tail _ (List.Mem.tail _ (List.Mem.head _))) ?_
  refine am_iload_n dX12_splits_105 (List.Mem.tail _ (List.Mem.head _)) ?_
  refine am_icmpge (tgt := 201) dX12_splits_106 (by decide) (fun c1 => ?_) (fun c1 => ?_)
  · replace h := h.1 c1
    exact h
  · replace h := h.2 c1
    refine am_aload_n dX12_splits_109 (List.Mem.head _) ?_
    refine am_getf (f := 0) (v := .inr (.inr (some (66, 0)))) dX12_splits_110 hc_10 (by decide) wd_1549 (by decide) rfl rfl ?_
    refine am_iload_n dX12_splits_113 (List.Mem.tail _ (List.Mem.tail _ (List.Mem.head _))) ?_
    have o2 := h.1
    replace h := h.2
    have o3 := h.1
    replace h := h.2
    refine am_baload (v := (w.1 66 0 x3.toNat)) dX12_splits_114 (by decide) rfl o2 o3 rfl ?_
    refine am_calls (d' := d + 1) (kc := 0) (ks := 0) (as := [.inl (w.1 66 0 x3.toNat)]) dX12_splits_115 wc_X12_isLetter wd_1919 wd_1920 wd_122 ds_X12_isLetter (by decide) (by omega) (Nat.le_of_ble_eq_true rfl) (Nat.zero_le _) (Nat.zero_le _) rfl (sX12_isLetter (d := d + 0) (x0 := (w.1 66 0 x3.toNat))  ?_)
    show am_A (mh_G X) SC (d + 2) mX12_splits Q 118 [(0, .inr (.inr (some (9, 0)))), (2, .inl x2), (3, .inl x3)] [.inl (if (¬ (w.1 66 0 x3.toNat) < 97 ∧ (¬ 122 < (w.1 66 0 x3.toNat))) then 1 else 0)] w bc bs
    refine am_ifeq (tgt := 201) dX12_splits_118 (by decide) (fun c4 => ?_) (fun c4 => ?_)
    · replace c4 := am_beq1 c4
      replace h := h.1 c4
      exact h
    · replace c4 := am_beq2 c4
      replace h := h.2 c4
      refine am_iinc (ls' := [(3, .inl (am_w (x3 + 1))), (0, .inr (.inr (some (9, 0)))), (2, .inl x2)]) dX12_splits_121 (List.Mem.tail _ (List.Mem.tail _ (List.Mem.head _))) (by decide) rfl ?_
      refine am_goto (tgt := 104) dX12_splits_124 (by decide) ?_
      exact am_sub [1, 2, 0] rfl h
theorem bX12_splits_201a {SC : Nat → Nat} {X : mh_X} {d : Nat} {Q : Option am_V → am_W → Prop} {bc bs : Nat} {w : am_W} {x2 : Int} {x3 : Int}
    (h : (0 ≤ (w.1 9 0 30) ∧ ((w.1 9 0 30) < 3000 ∧ am_A (mh_G X) SC (d + 2) mX12_splits Q 7 [(0, .inr (.inr (some (9, 0)))), (2, .inl x2), (3, .inl x3)] [] ((am_up (am_up w.1 94 0 (w.1 9 0 30).toNat x3) 9 0 30 (am_w ((w.1 9 0 30) + 1))), w.2) bc bs))) :
    am_A (mh_G X) SC (d + 2) mX12_splits Q 201 [(0, .inr (.inr (some (9, 0)))), (2, .inl x2), (3, .inl x3)] [] w bc bs := by
  refine am_aload_n dX12_splits_201 (List.Mem.head _) ?_
  refine am_getf (f := 28) (v := .inr (.inr (some (94, 0)))) dX12_splits_202 hc_10 (by decide) wd_1577 (by decide) rfl rfl ?_
  refine am_aload_n dX12_splits_205 (List.Mem.head _) ?_
  refine am_getf (f := 30) (v := .inl (w.1 9 0 30)) dX12_splits_206 hc_10 (by decide) wd_1579 (by decide) rfl rfl ?_
  refine am_iload_n dX12_splits_209 (List.Mem.tail _ (List.Mem.tail _ (List.Mem.head _))) ?_
  have o1 := h.1
  replace h := h.2
  have o2 := h.1
  replace h := h.2
  refine am_iastore dX12_splits_210 (Or.inl (by decide)) rfl o1 o2 ?_
  refine am_aload_n dX12_splits_211 (List.Mem.head _) ?_
  refine am_dup dX12_splits_212 rfl ?_
  refine am_getf (f := 30) (v := .inl (w.1 9 0 30)) dX12_splits_213 hc_10 (by decide) wd_1579 (by decide) rfl rfl ?_
  refine am_iconst dX12_splits_216 (by unfold am_rg; omega) ?_
  refine am_iadd dX12_splits_217 ?_
  refine am_putf (f := 30) dX12_splits_218 hc_10 (by decide) wd_1579 rfl (Or.inl rfl) (Or.inl (by decide)) rfl ?_
  refine am_goto (tgt := 7) dX12_splits_221 (by decide) ?_
  exact h
-- MourningHouseModel.isWord(Ljava/lang/String;)Z
theorem dX12_isWord_0 : decode mX12_isWord.2.1 0 = .ok (.aload_n 0, 1) := by decide +kernel
theorem dX12_isWord_1 : decode mX12_isWord.2.1 1 = .ok (.getfield 362, 3) := by decide +kernel
theorem dX12_isWord_4 : decode mX12_isWord.2.1 4 = .ok (.aload_n 0, 1) := by decide +kernel
theorem dX12_isWord_5 : decode mX12_isWord.2.1 5 = .ok (.getfield 349, 3) := by decide +kernel
theorem dX12_isWord_8 : decode mX12_isWord.2.1 8 = .ok (.if_icmp .ge 41, 3) := by decide +kernel
theorem dX12_isWord_11 : decode mX12_isWord.2.1 11 = .ok (.aload_n 0, 1) := by decide +kernel
theorem dX12_isWord_12 : decode mX12_isWord.2.1 12 = .ok (.getfield 148, 3) := by decide +kernel
theorem dX12_isWord_15 : decode mX12_isWord.2.1 15 = .ok (.aload_n 0, 1) := by decide +kernel
theorem dX12_isWord_16 : decode mX12_isWord.2.1 16 = .ok (.getfield 362, 3) := by decide +kernel
theorem dX12_isWord_19 : decode mX12_isWord.2.1 19 = .ok (.iaload, 1) := by decide +kernel
theorem dX12_isWord_20 : decode mX12_isWord.2.1 20 = .ok (.ifCond .ne 29, 3) := by decide +kernel
theorem dX12_isWord_23 : decode mX12_isWord.2.1 23 = .ok (.aload_n 0, 1) := by decide +kernel
theorem dX12_isWord_24 : decode mX12_isWord.2.1 24 = .ok (.getfield 145, 3) := by decide +kernel
theorem dX12_isWord_27 : decode mX12_isWord.2.1 27 = .ok (.aload_n 0, 1) := by decide +kernel
theorem dX12_isWord_28 : decode mX12_isWord.2.1 28 = .ok (.getfield 362, 3) := by decide +kernel
theorem dX12_isWord_31 : decode mX12_isWord.2.1 31 = .ok (.iaload, 1) := by decide +kernel
theorem dX12_isWord_32 : decode mX12_isWord.2.1 32 = .ok (.aload_n 0, 1) := by decide +kernel
theorem dX12_isWord_33 : decode mX12_isWord.2.1 33 = .ok (.getfield 142, 3) := by decide +kernel
theorem dX12_isWord_36 : decode mX12_isWord.2.1 36 = .ok (.aload_n 0, 1) := by decide +kernel
theorem dX12_isWord_37 : decode mX12_isWord.2.1 37 = .ok (.getfield 362, 3) := by decide +kernel
theorem dX12_isWord_40 : decode mX12_isWord.2.1 40 = .ok (.iaload, 1) := by decide +kernel
theorem dX12_isWord_41 : decode mX12_isWord.2.1 41 = .ok (.isub, 1) := by decide +kernel
theorem dX12_isWord_42 : decode mX12_isWord.2.1 42 = .ok (.aload_n 1, 1) := by decide +kernel
theorem dX12_isWord_43 : decode mX12_isWord.2.1 43 = .ok (.invokevirtual 365, 3) := by decide +kernel
theorem dX12_isWord_46 : decode mX12_isWord.2.1 46 = .ok (.if_icmp .eq 5, 3) := by decide +kernel
theorem dX12_isWord_49 : decode mX12_isWord.2.1 49 = .ok (.iconst 0, 1) := by decide +kernel
theorem dX12_isWord_50 : decode mX12_isWord.2.1 50 = .ok (.ireturn, 1) := by decide +kernel
theorem dX12_isWord_51 : decode mX12_isWord.2.1 51 = .ok (.iconst 0, 1) := by decide +kernel
theorem dX12_isWord_52 : decode mX12_isWord.2.1 52 = .ok (.istore_n 2, 1) := by decide +kernel
theorem dX12_isWord_53 : decode mX12_isWord.2.1 53 = .ok (.iload_n 2, 1) := by decide +kernel
theorem dX12_isWord_54 : decode mX12_isWord.2.1 54 = .ok (.aload_n 1, 1) := by decide +kernel
theorem dX12_isWord_55 : decode mX12_isWord.2.1 55 = .ok (.invokevirtual 365, 3) := by decide +kernel
theorem dX12_isWord_58 : decode mX12_isWord.2.1 58 = .ok (.if_icmp .ge 35, 3) := by decide +kernel
theorem dX12_isWord_61 : decode mX12_isWord.2.1 61 = .ok (.aload_n 0, 1) := by decide +kernel
theorem dX12_isWord_62 : decode mX12_isWord.2.1 62 = .ok (.getfield 9, 3) := by decide +kernel
theorem dX12_isWord_65 : decode mX12_isWord.2.1 65 = .ok (.aload_n 0, 1) := by decide +kernel
theorem dX12_isWord_66 : decode mX12_isWord.2.1 66 = .ok (.getfield 142, 3) := by decide +kernel
theorem dX12_isWord_69 : decode mX12_isWord.2.1 69 = .ok (.aload_n 0, 1) := by decide +kernel
theorem dX12_isWord_70 : decode mX12_isWord.2.1 70 = .ok (.getfield 362, 3) := by decide +kernel
theorem dX12_isWord_73 : decode mX12_isWord.2.1 73 = .ok (.iaload, 1) := by decide +kernel
theorem dX12_isWord_74 : decode mX12_isWord.2.1 74 = .ok (.iload_n 2, 1) := by decide +kernel
theorem dX12_isWord_75 : decode mX12_isWord.2.1 75 = .ok (.iadd, 1) := by decide +kernel
theorem dX12_isWord_76 : decode mX12_isWord.2.1 76 = .ok (.baload, 1) := by decide +kernel
theorem dX12_isWord_77 : decode mX12_isWord.2.1 77 = .ok (.aload_n 1, 1) := by decide +kernel
theorem dX12_isWord_78 : decode mX12_isWord.2.1 78 = .ok (.iload_n 2, 1) := by decide +kernel
theorem dX12_isWord_79 : decode mX12_isWord.2.1 79 = .ok (.invokevirtual 369, 3) := by decide +kernel
theorem dX12_isWord_82 : decode mX12_isWord.2.1 82 = .ok (.if_icmp .eq 5, 3) := by decide +kernel
theorem dX12_isWord_85 : decode mX12_isWord.2.1 85 = .ok (.iconst 0, 1) := by decide +kernel
theorem dX12_isWord_86 : decode mX12_isWord.2.1 86 = .ok (.ireturn, 1) := by decide +kernel
theorem dX12_isWord_87 : decode mX12_isWord.2.1 87 = .ok (.iinc 2 1, 3) := by decide +kernel
theorem dX12_isWord_90 : decode mX12_isWord.2.1 90 = .ok (.goto (-37), 3) := by decide +kernel
theorem dX12_isWord_93 : decode mX12_isWord.2.1 93 = .ok (.iconst 1, 1) := by decide +kernel
theorem dX12_isWord_94 : decode mX12_isWord.2.1 94 = .ok (.ireturn, 1) := by decide +kernel
theorem bX12_isWord_0 {SC : Nat → Nat} {X : mh_X} {d : Nat} {Q : Option am_V → am_W → Prop} {bc bs : Nat} {w : am_W} {t1 : Nat} {j1 : Nat}
    (h : (((w.1 9 0 30) ≤ (w.1 9 0 32) → Q (some (.inl 0)) w) ∧ (¬ (w.1 9 0 30) ≤ (w.1 9 0 32) → (0 ≤ (w.1 9 0 32) ∧ ((w.1 9 0 32) < 3000 ∧ ((¬ (w.1 95 0 (w.1 9 0 32).toNat) = 0 → Q (some (.inl 0)) w) ∧ ((w.1 95 0 (w.1 9 0 32).toNat) = 0 → (t1 < 1100 ∧ (am_kd (mh_G X) w t1 j1 = 111 ∧ am_M (mh_G X) SC (d + 5) 0 0 mJ0_length_8abf5 [.inr (.inr (some (t1, j1)))] w (fun r w1 => am_A (mh_G X) SC (d + 6) mX12_isWord Q 46 [(0, .inr (.inr (some (9, 0)))), (1, .inr (.inr (some (t1, j1))))] (r.toList ++ [.inl (am_w ((w.1 94 0 (w.1 9 0 32).toNat) - (w.1 93 0 (w.1 9 0 32).toNat)))]) w1 bc bs)))))))))) :
    am_A (mh_G X) SC (d + 6) mX12_isWord Q 0 [(0, .inr (.inr (some (9, 0)))), (1, .inr (.inr (some (t1, j1))))] [] w bc bs := by
  refine am_aload_n dX12_isWord_0 (List.Mem.head _) ?_
  refine am_getf (f := 32) (v := .inl (w.1 9 0 32)) dX12_isWord_1 hc_10 (by decide) wd_1581 (by decide) rfl rfl ?_
  refine am_aload_n dX12_isWord_4 (List.Mem.head _) ?_
  refine am_getf (f := 30) (v := .inl (w.1 9 0 30)) dX12_isWord_5 hc_10 (by decide) wd_1579 (by decide) rfl rfl ?_
  refine am_icmpge (tgt := 49) dX12_isWord_8 (by decide) (fun c1 => ?_) (fun c1 => ?_)
  · replace h := h.1 c1
    refine am_iconst dX12_isWord_49 (by unfold am_rg; omega) ?_
    exact am_ret (r := some (.inl 0)) dX12_isWord_50 (Or.inr (Or.inl ⟨rfl, (Or.inl rfl)⟩)) rfl h
  · replace h := h.2 c1
    refine am_aload_n dX12_isWord_11 (List.Mem.head _) ?_
    refine am_getf (f := 29) (v := .inr (.inr (some (95, 0)))) dX12_isWord_12 hc_10 (by decide) wd_1578 (by decide) rfl rfl ?_
    refine am_aload_n dX12_isWord_15 (List.Mem.head _) ?_
    refine am_getf (f := 32) (v := .inl (w.1 9 0 32)) dX12_isWord_16 hc_10 (by decide) wd_1581 (by decide) rfl rfl ?_
    have o2 := h.1
    replace h := h.2
    have o3 := h.1
    replace h := h.2
    refine am_iaload (v := (w.1 95 0 (w.1 9 0 32).toNat)) dX12_isWord_19 (by decide) rfl o2 o3 rfl ?_
    refine am_ifne (tgt := 49) dX12_isWord_20 (by decide) (fun c4 => ?_) (fun c4 => ?_)
    · replace h := h.1 c4
      refine am_iconst dX12_isWord_49 (by unfold am_rg; omega) ?_
      exact am_ret (r := some (.inl 0)) dX12_isWord_50 (Or.inr (Or.inl ⟨rfl, (Or.inl rfl)⟩)) rfl h
    · replace h := h.2 c4
      refine am_aload_n dX12_isWord_23 (List.Mem.head _) ?_
      refine am_getf (f := 28) (v := .inr (.inr (some (94, 0)))) dX12_isWord_24 hc_10 (by decide) wd_1577 (by decide) rfl rfl ?_
      refine am_aload_n dX12_isWord_27 (List.Mem.head _) ?_
      refine am_getf (f := 32) (v := .inl (w.1 9 0 32)) dX12_isWord_28 hc_10 (by decide) wd_1581 (by decide) rfl rfl ?_
      refine am_iaload (v := (w.1 94 0 (w.1 9 0 32).toNat)) dX12_isWord_31 (by decide) rfl o2 o3 rfl ?_
      refine am_aload_n dX12_isWord_32 (List.Mem.head _) ?_
      refine am_getf (f := 27) (v := .inr (.inr (some (93, 0)))) dX12_isWord_33 hc_10 (by decide) wd_1576 (by decide) rfl rfl ?_
      refine am_aload_n dX12_isWord_36 (List.Mem.head _) ?_
      refine am_getf (f := 32) (v := .inl (w.1 9 0 32)) dX12_isWord_37 hc_10 (by decide) wd_1581 (by decide) rfl rfl ?_
      refine am_iaload (v := (w.1 93 0 (w.1 9 0 32).toNat)) dX12_isWord_40 (by decide) rfl o2 o3 rfl ?_
      refine am_isub dX12_isWord_41 ?_
      refine am_aload_n dX12_isWord_42 (List.Mem.tail _ (List.Mem.head _)) ?_
      have o5 := h.1
      replace h := h.2
      have o6 := h.1
      replace h := h.2
      exact am_callv (d' := d + 5) (kc := 0) (ks := 0) (as := []) dX12_isWord_43 wc_J0_length_8abf5 wd_1934 wd_722 wd_723 wd_124 ds_J0_length_8abf5 (by decide) (by omega) (Nat.le_of_ble_eq_true rfl) (Nat.zero_le _) (Nat.zero_le _) hc_11 o5 o6 rfl h
theorem bX12_isWord_46 {SC : Nat → Nat} {X : mh_X} {d : Nat} {Q : Option am_V → am_W → Prop} {bc bs : Nat} {w : am_W} {t1 : Nat} {j1 : Nat} {xs0 : Int} {xs1 : Int}
    (h : ((xs1 = xs0 → am_A (mh_G X) SC (d + 6) mX12_isWord Q 53 [(0, .inr (.inr (some (9, 0)))), (1, .inr (.inr (some (t1, j1)))), (2, .inl 0)] [] w bc bs) ∧ (¬ xs1 = xs0 → Q (some (.inl 0)) w))) :
    am_A (mh_G X) SC (d + 6) mX12_isWord Q 46 [(0, .inr (.inr (some (9, 0)))), (1, .inr (.inr (some (t1, j1))))] [.inl xs0, .inl xs1] w bc bs := by
  refine am_icmpeq (tgt := 51) dX12_isWord_46 (by decide) (fun c1 => ?_) (fun c1 => ?_)
  · replace h := h.1 c1
    refine am_iconst dX12_isWord_51 (by unfold am_rg; omega) ?_
    refine am_istore_n (ls' := [(2, .inl 0), (0, .inr (.inr (some (9, 0)))), (1, .inr (.inr (some (t1, j1))))]) dX12_isWord_52 (by decide) rfl ?_
    exact am_sub [1, 2, 0] rfl h
  · replace h := h.2 c1
    refine am_iconst dX12_isWord_49 (by unfold am_rg; omega) ?_
    exact am_ret (r := some (.inl 0)) dX12_isWord_50 (Or.inr (Or.inl ⟨rfl, (Or.inl rfl)⟩)) rfl h
theorem bX12_isWord_53 {SC : Nat → Nat} {X : mh_X} {d : Nat} {Q : Option am_V → am_W → Prop} {bc bs : Nat} {w : am_W} {t1 : Nat} {j1 : Nat} {x2 : Int}
    (h : (t1 < 1100 ∧ (am_kd (mh_G X) w t1 j1 = 111 ∧ am_M (mh_G X) SC (d + 5) 0 0 mJ0_length_8abf5 [.inr (.inr (some (t1, j1)))] w (fun r w1 => am_A (mh_G X) SC (d + 6) mX12_isWord Q 58 [(0, .inr (.inr (some (9, 0)))), (1, .inr (.inr (some (t1, j1)))), (2, .inl x2)] (r.toList ++ [.inl x2]) w1 bc bs)))) :
    am_A (mh_G X) SC (d + 6) mX12_isWord Q 53 [(0, .inr (.inr (some (9, 0)))), (1, .inr (.inr (some (t1, j1)))), (2, .inl x2)] [] w bc bs := by
  refine am_iload_n dX12_isWord_53 (List.Mem.tail _ (List.Mem.tail _ (List.Mem.head _))) ?_
  refine am_aload_n dX12_isWord_54 (List.Mem.tail _ (List.Mem.head _)) ?_
  have o1 := h.1
  replace h := h.2
  have o2 := h.1
  replace h := h.2
  exact am_callv (d' := d + 5) (kc := 0) (ks := 0) (as := []) dX12_isWord_55 wc_J0_length_8abf5 wd_1934 wd_722 wd_723 wd_124 ds_J0_length_8abf5 (by decide) (by omega) (Nat.le_of_ble_eq_true rfl) (Nat.zero_le _) (Nat.zero_le _) hc_11 o1 o2 rfl h
theorem bX12_isWord_58 {SC : Nat → Nat} {X : mh_X} {d : Nat} {Q : Option am_V → am_W → Prop} {bc bs : Nat} {w : am_W} {t1 : Nat} {j1 : Nat} {x2 : Int} {xs0 : Int} {xs1 : Int}
    (h : ((xs0 ≤ xs1 → Q (some (.inl 1)) w) ∧ (¬ xs0 ≤ xs1 → (0 ≤ (w.1 9 0 32) ∧ ((w.1 9 0 32) < 3000 ∧ (0 ≤ (am_w ((w.1 93 0 (w.1 9 0 32).toNat) + x2)) ∧ ((am_w ((w.1 93 0 (w.1 9 0 32).toNat) + x2)) < 3000 ∧ (t1 < 1100 ∧ (am_kd (mh_G X) w t1 j1 = 111 ∧ am_M (mh_G X) SC (d + 5) 0 0 mJ0_charAt_5068e [.inr (.inr (some (t1, j1))), .inl x2] w (fun r w1 => am_A (mh_G X) SC (d + 6) mX12_isWord Q 82 [(0, .inr (.inr (some (9, 0)))), (1, .inr (.inr (some (t1, j1)))), (2, .inl x2)] (r.toList ++ [.inl (w.1 66 0 (am_w ((w.1 93 0 (w.1 9 0 32).toNat) + x2)).toNat)]) w1 bc bs)))))))))) :
    am_A (mh_G X) SC (d + 6) mX12_isWord Q 58 [(0, .inr (.inr (some (9, 0)))), (1, .inr (.inr (some (t1, j1)))), (2, .inl x2)] [.inl xs0, .inl xs1] w bc bs := by
  refine am_icmpge (tgt := 93) dX12_isWord_58 (by decide) (fun c1 => ?_) (fun c1 => ?_)
  · replace h := h.1 c1
    refine am_iconst dX12_isWord_93 (by unfold am_rg; omega) ?_
    exact am_ret (r := some (.inl 1)) dX12_isWord_94 (Or.inr (Or.inl ⟨rfl, (Or.inr rfl)⟩)) rfl h
  · replace h := h.2 c1
    refine am_aload_n dX12_isWord_61 (List.Mem.head _) ?_
    refine am_getf (f := 0) (v := .inr (.inr (some (66, 0)))) dX12_isWord_62 hc_10 (by decide) wd_1549 (by decide) rfl rfl ?_
    refine am_aload_n dX12_isWord_65 (List.Mem.head _) ?_
    refine am_getf (f := 27) (v := .inr (.inr (some (93, 0)))) dX12_isWord_66 hc_10 (by decide) wd_1576 (by decide) rfl rfl ?_
    refine am_aload_n dX12_isWord_69 (List.Mem.head _) ?_
    refine am_getf (f := 32) (v := .inl (w.1 9 0 32)) dX12_isWord_70 hc_10 (by decide) wd_1581 (by decide) rfl rfl ?_
    have o2 := h.1
    replace h := h.2
    have o3 := h.1
    replace h := h.2
    refine am_iaload (v := (w.1 93 0 (w.1 9 0 32).toNat)) dX12_isWord_73 (by decide) rfl o2 o3 rfl ?_
    refine am_iload_n dX12_isWord_74 (List.Mem.tail _ (List.Mem.tail _ (List.Mem.head _))) ?_
    refine am_iadd dX12_isWord_75 ?_
    have o4 := h.1
    replace h := h.2
    have o5 := h.1
    replace h := h.2
    refine am_baload (v := (w.1 66 0 (am_w ((w.1 93 0 (w.1 9 0 32).toNat) + x2)).toNat)) dX12_isWord_76 (by decide) rfl o4 o5 rfl ?_
    refine am_aload_n dX12_isWord_77 (List.Mem.tail _ (List.Mem.head _)) ?_
    refine am_iload_n dX12_isWord_78 (List.Mem.tail _ (List.Mem.tail _ (List.Mem.head _))) ?_
    have o6 := h.1
    replace h := h.2
    have o7 := h.1
    replace h := h.2
    exact am_callv (d' := d + 5) (kc := 0) (ks := 0) (as := [.inl x2]) dX12_isWord_79 wc_J0_charAt_5068e wd_1935 wd_732 wd_733 wd_124 ds_J0_charAt_5068e (by decide) (by omega) (Nat.le_of_ble_eq_true rfl) (Nat.zero_le _) (Nat.zero_le _) hc_11 o6 o7 rfl h
theorem bX12_isWord_82 {SC : Nat → Nat} {X : mh_X} {d : Nat} {Q : Option am_V → am_W → Prop} {bc bs : Nat} {w : am_W} {t1 : Nat} {j1 : Nat} {x2 : Int} {xs0 : Int} {xs1 : Int}
    (h : ((xs1 = xs0 → am_A (mh_G X) SC (d + 6) mX12_isWord Q 53 [(0, .inr (.inr (some (9, 0)))), (1, .inr (.inr (some (t1, j1)))), (2, .inl (am_w (x2 + 1)))] [] w bc bs) ∧ (¬ xs1 = xs0 → Q (some (.inl 0)) w))) :
    am_A (mh_G X) SC (d + 6) mX12_isWord Q 82 [(0, .inr (.inr (some (9, 0)))), (1, .inr (.inr (some (t1, j1)))), (2, .inl x2)] [.inl xs0, .inl xs1] w bc bs := by
  refine am_icmpeq (tgt := 87) dX12_isWord_82 (by decide) (fun c1 => ?_) (fun c1 => ?_)
  · replace h := h.1 c1
    refine am_iinc (ls' := [(2, .inl (am_w (x2 + 1))), (0, .inr (.inr (some (9, 0)))), (1, .inr (.inr (some (t1, j1))))]) dX12_isWord_87 (List.Mem.tail _ (List.Mem.tail _ (List.Mem.head _))) (by decide) rfl ?_
    refine am_goto (tgt := 53) dX12_isWord_90 (by decide) ?_
    exact am_sub [1, 2, 0] rfl h
  · replace h := h.2 c1
    refine am_iconst dX12_isWord_85 (by unfold am_rg; omega) ?_
    exact am_ret (r := some (.inl 0)) dX12_isWord_86 (Or.inr (Or.inl ⟨rfl, (Or.inl rfl)⟩)) rfl h
-- MourningHouseModel.wordOf([Ljava/lang/String;)I
theorem dX12_wordOf_0 : decode mX12_wordOf.2.1 0 = .ok (.iconst 0, 1) := by decide +kernel
theorem dX12_wordOf_1 : decode mX12_wordOf.2.1 1 = .ok (.istore_n 2, 1) := by decide +kernel
theorem dX12_wordOf_2 : decode mX12_wordOf.2.1 2 = .ok (.iload_n 2, 1) := by decide +kernel
theorem dX12_wordOf_3 : decode mX12_wordOf.2.1 3 = .ok (.aload_n 1, 1) := by decide +kernel
theorem dX12_wordOf_4 : decode mX12_wordOf.2.1 4 = .ok (.arraylength, 1) := by decide +kernel
theorem dX12_wordOf_5 : decode mX12_wordOf.2.1 5 = .ok (.if_icmp .ge 21, 3) := by decide +kernel
theorem dX12_wordOf_8 : decode mX12_wordOf.2.1 8 = .ok (.aload_n 0, 1) := by decide +kernel
theorem dX12_wordOf_9 : decode mX12_wordOf.2.1 9 = .ok (.aload_n 1, 1) := by decide +kernel
theorem dX12_wordOf_10 : decode mX12_wordOf.2.1 10 = .ok (.iload_n 2, 1) := by decide +kernel
theorem dX12_wordOf_11 : decode mX12_wordOf.2.1 11 = .ok (.aaload, 1) := by decide +kernel
theorem dX12_wordOf_12 : decode mX12_wordOf.2.1 12 = .ok (.invokevirtual 373, 3) := by decide +kernel
theorem dX12_wordOf_15 : decode mX12_wordOf.2.1 15 = .ok (.ifCond .eq 5, 3) := by decide +kernel
theorem dX12_wordOf_18 : decode mX12_wordOf.2.1 18 = .ok (.iload_n 2, 1) := by decide +kernel
theorem dX12_wordOf_19 : decode mX12_wordOf.2.1 19 = .ok (.ireturn, 1) := by decide +kernel
theorem dX12_wordOf_20 : decode mX12_wordOf.2.1 20 = .ok (.iinc 2 1, 3) := by decide +kernel
theorem dX12_wordOf_23 : decode mX12_wordOf.2.1 23 = .ok (.goto (-21), 3) := by decide +kernel
theorem dX12_wordOf_26 : decode mX12_wordOf.2.1 26 = .ok (.iconst (-1), 1) := by decide +kernel
theorem dX12_wordOf_27 : decode mX12_wordOf.2.1 27 = .ok (.ireturn, 1) := by decide +kernel
theorem bX12_wordOf_0 {SC : Nat → Nat} {X : mh_X} {d : Nat} {Q : Option am_V → am_W → Prop} {bc bs : Nat} {w : am_W} {j1 : Nat}
    (h : am_A (mh_G X) SC (d + 7) mX12_wordOf Q 2 [(0, .inr (.inr (some (9, 0)))), (1, .inr (.inr (some (19, j1)))), (2, .inl 0)] [] w bc bs) :
    am_A (mh_G X) SC (d + 7) mX12_wordOf Q 0 [(0, .inr (.inr (some (9, 0)))), (1, .inr (.inr (some (19, j1))))] [] w bc bs := by
  refine am_iconst dX12_wordOf_0 (by unfold am_rg; omega) ?_
  refine am_istore_n (ls' := [(2, .inl 0), (0, .inr (.inr (some (9, 0)))), (1, .inr (.inr (some (19, j1))))]) dX12_wordOf_1 (by decide) rfl ?_
  exact am_sub [1, 2, 0] rfl h
theorem bX12_wordOf_2 {SC : Nat → Nat} {X : mh_X} {d : Nat} {Q : Option am_V → am_W → Prop} {bc bs : Nat} {w : am_W} {j1 : Nat} {x2 : Int}
    (h : (am_rg ((am_ln (mh_G X) w 19 j1 : Nat) : Int) ∧ ((((am_ln (mh_G X) w 19 j1 : Nat) : Int) ≤ x2 → Q (some (.inl (-1))) w) ∧ (¬ ((am_ln (mh_G X) w 19 j1 : Nat) : Int) ≤ x2 → (0 ≤ x2 ∧ (x2 < am_ln (mh_G X) w 19 j1 ∧ am_M (mh_G X) SC (d + 6) 0 0 mX12_isWord [.inr (.inr (some (9, 0))), .inr (.inr (some (1000, ((mh_sa.getD j1 []).getD x2.toNat 0))))] w (fun r w1 => am_A (mh_G X) SC (d + 7) mX12_wordOf Q 15 [(0, .inr (.inr (some (9, 0)))), (1, .inr (.inr (some (19, j1)))), (2, .inl x2)] (r.toList ++ []) w1 bc bs))))))) :
    am_A (mh_G X) SC (d + 7) mX12_wordOf Q 2 [(0, .inr (.inr (some (9, 0)))), (1, .inr (.inr (some (19, j1)))), (2, .inl x2)] [] w bc bs := by
  refine am_iload_n dX12_wordOf_2 (List.Mem.tail _ (List.Mem.tail _ (List.Mem.head _))) ?_
  refine am_aload_n dX12_wordOf_3 (List.Mem.tail _ (List.Mem.head _)) ?_
  have o1 := h.1
  replace h := h.2
  refine am_alen (kd := 9) (v := ((am_ln (mh_G X) w 19 j1 : Nat) : Int)) dX12_wordOf_4 (by decide) rfl (by decide) rfl o1 ?_
  refine am_icmpge (tgt := 26) dX12_wordOf_5 (by decide) (fun c2 => ?_) (fun c2 => ?_)
  · replace h := h.1 c2
    refine am_iconst dX12_wordOf_26 (by unfold am_rg; omega) ?_
    exact am_ret (r := some (.inl (-1))) dX12_wordOf_27 (Or.inl rfl) rfl h
  · replace h := h.2 c2
    refine am_aload_n dX12_wordOf_8 (List.Mem.head _) ?_
    refine am_aload_n dX12_wordOf_9 (List.Mem.tail _ (List.Mem.head _)) ?_
    refine am_iload_n dX12_wordOf_10 (List.Mem.tail _ (List.Mem.tail _ (List.Mem.head _))) ?_
    have o3 := h.1
    replace h := h.2
    have o4 := h.1
    replace h := h.2
    refine am_aaload (kd := 9) (r := some (1000, ((mh_sa.getD j1 []).getD x2.toNat 0))) dX12_wordOf_11 (by decide) rfl (by decide) (by decide) o3 o4 rfl ?_
    exact am_callv (d' := d + 6) (kc := 0) (ks := 0) (as := [.inr (.inr (some (1000, ((mh_sa.getD j1 []).getD x2.toNat 0))))]) dX12_wordOf_12 wc_X12_isWord wd_1930 wd_1932 wd_57 wd_122 ds_X12_isWord (by decide) (by omega) (Nat.le_of_ble_eq_true rfl) (Nat.zero_le _) (Nat.zero_le _) hc_10 (by decide) rfl rfl h
theorem bX12_wordOf_15 {SC : Nat → Nat} {X : mh_X} {d : Nat} {Q : Option am_V → am_W → Prop} {bc bs : Nat} {w : am_W} {j1 : Nat} {x2 : Int} {xs0 : Int}
    (h : ((xs0 = 0 → am_A (mh_G X) SC (d + 7) mX12_wordOf Q 2 [(0, .inr (.inr (some (9, 0)))), (1, .inr (.inr (some (19, j1)))), (2, .inl (am_w (x2 + 1)))] [] w bc bs) ∧ (¬ xs0 = 0 → Q (some (.inl x2)) w))) :
    am_A (mh_G X) SC (d + 7) mX12_wordOf Q 15 [(0, .inr (.inr (some (9, 0)))), (1, .inr (.inr (some (19, j1)))), (2, .inl x2)] [.inl xs0] w bc bs := by
  refine am_ifeq (tgt := 20) dX12_wordOf_15 (by decide) (fun c1 => ?_) (fun c1 => ?_)
  · replace h := h.1 c1
    refine am_iinc (ls' := [(2, .inl (am_w (x2 + 1))), (0, .inr (.inr (some (9, 0)))), (1, .inr (.inr (some (19, j1))))]) dX12_wordOf_20 (List.Mem.tail _ (List.Mem.tail _ (List.Mem.head _))) (by decide) rfl ?_
    refine am_goto (tgt := 2) dX12_wordOf_23 (by decide) ?_
    exact am_sub [1, 2, 0] rfl h
  · replace h := h.2 c1
    refine am_iload_n dX12_wordOf_18 (List.Mem.tail _ (List.Mem.tail _ (List.Mem.head _))) ?_
    exact am_ret (r := some (.inl x2)) dX12_wordOf_19 (Or.inl rfl) rfl h
-- MourningHouseModel.isSign(I)Z
theorem dX12_isSign_0 : decode mX12_isSign.2.1 0 = .ok (.aload_n 0, 1) := by decide +kernel
theorem dX12_isSign_1 : decode mX12_isSign.2.1 1 = .ok (.getfield 362, 3) := by decide +kernel
theorem dX12_isSign_4 : decode mX12_isSign.2.1 4 = .ok (.aload_n 0, 1) := by decide +kernel
theorem dX12_isSign_5 : decode mX12_isSign.2.1 5 = .ok (.getfield 349, 3) := by decide +kernel
theorem dX12_isSign_8 : decode mX12_isSign.2.1 8 = .ok (.if_icmp .ge 20, 3) := by decide +kernel
theorem dX12_isSign_11 : decode mX12_isSign.2.1 11 = .ok (.aload_n 0, 1) := by decide +kernel
theorem dX12_isSign_12 : decode mX12_isSign.2.1 12 = .ok (.getfield 148, 3) := by decide +kernel
theorem dX12_isSign_15 : decode mX12_isSign.2.1 15 = .ok (.aload_n 0, 1) := by decide +kernel
theorem dX12_isSign_16 : decode mX12_isSign.2.1 16 = .ok (.getfield 362, 3) := by decide +kernel
theorem dX12_isSign_19 : decode mX12_isSign.2.1 19 = .ok (.iaload, 1) := by decide +kernel
theorem dX12_isSign_20 : decode mX12_isSign.2.1 20 = .ok (.iload_n 1, 1) := by decide +kernel
theorem dX12_isSign_21 : decode mX12_isSign.2.1 21 = .ok (.if_icmp .ne 7, 3) := by decide +kernel
theorem dX12_isSign_24 : decode mX12_isSign.2.1 24 = .ok (.iconst 1, 1) := by decide +kernel
theorem dX12_isSign_25 : decode mX12_isSign.2.1 25 = .ok (.goto 4, 3) := by decide +kernel
theorem dX12_isSign_28 : decode mX12_isSign.2.1 28 = .ok (.iconst 0, 1) := by decide +kernel
theorem dX12_isSign_29 : decode mX12_isSign.2.1 29 = .ok (.ireturn, 1) := by decide +kernel
theorem sX12_isSign {SC : Nat → Nat} {X : mh_X} {d kc ks : Nat} {Q : Option am_V → am_W → Prop} {w : am_W} {x1 : Int} (Ho2 : ¬ (w.1 9 0 30) ≤ (w.1 9 0 32) → 0 ≤ (w.1 9 0 32)) (Ho3 : ¬ (w.1 9 0 30) ≤ (w.1 9 0 32) → (w.1 9 0 32) < 3000)
    (h : Q (some (.inl (if (¬ (w.1 9 0 30) ≤ (w.1 9 0 32) ∧ ((w.1 95 0 (w.1 9 0 32).toNat) = x1)) then 1 else 0))) w) : am_M (mh_G X) SC (d + 1) kc ks mX12_isSign [.inr (.inr (some (9, 0))), .inl x1] w Q := by
  refine am_M_of (by decide) (Nat.le_of_ble_eq_true rfl) ?_
  show am_A (mh_G X) SC (d + 1) mX12_isSign Q 0 [(0, .inr (.inr (some (9, 0)))), (1, .inl x1)] [] w kc ks
  refine am_aload_n dX12_isSign_0 (List.Mem.head _) ?_
  refine am_getf (f := 32) (v := .inl (w.1 9 0 32)) dX12_isSign_1 hc_10 (by decide) wd_1581 (by decide) rfl rfl ?_
  refine am_aload_n dX12_isSign_4 (List.Mem.head _) ?_
  refine am_getf (f := 30) (v := .inl (w.1 9 0 30)) dX12_isSign_5 hc_10 (by decide) wd_1579 (by decide) rfl rfl ?_
  refine am_icmpge (tgt := 28) dX12_isSign_8 (by decide) (fun c1 => ?_) (fun c1 => ?_)
  · refine am_iconst dX12_isSign_28 (by unfold am_rg; omega) ?_
    rw [if_neg (by omega)] at h
    exact am_ret (r := some (.inl 0)) dX12_isSign_29 (Or.inr (Or.inl ⟨rfl, (Or.inl rfl)⟩)) rfl h
  · refine am_aload_n dX12_isSign_11 (List.Mem.head _) ?_
    refine am_getf (f := 29) (v := .inr (.inr (some (95, 0)))) dX12_isSign_12 hc_10 (by decide) wd_1578 (by decide) rfl rfl ?_
    refine am_aload_n dX12_isSign_15 (List.Mem.head _) ?_
    refine am_getf (f := 32) (v := .inl (w.1 9 0 32)) dX12_isSign_16 hc_10 (by decide) wd_1581 (by decide) rfl rfl ?_
    have o2 := Ho2 c1
    have o3 := Ho3 c1
    refine am_iaload (v := (w.1 95 0 (w.1 9 0 32).toNat)) dX12_isSign_19 (by decide) rfl o2 o3 rfl ?_
    refine am_iload_n dX12_isSign_20 (List.Mem.tail _ (List.Mem.head _)) ?_
    refine am_icmpne (tgt := 28) dX12_isSign_21 (by decide) (fun c4 => ?_) (fun c4 => ?_)
    · refine am_iconst dX12_isSign_28 (by unfold am_rg; omega) ?_
      rw [if_neg (by omega)] at h
      exact am_ret (r := some (.inl 0)) dX12_isSign_29 (Or.inr (Or.inl ⟨rfl, (Or.inl rfl)⟩)) rfl h
    · refine am_iconst dX12_isSign_24 (by unfold am_rg; omega) ?_
      refine am_goto (tgt := 29) dX12_isSign_25 (by decide) ?_
      rw [if_pos (by omega)] at h
      exact am_ret (r := some (.inl 1)) dX12_isSign_29 (Or.inr (Or.inl ⟨rfl, (Or.inr rfl)⟩)) rfl h
-- MourningHouseModel.needs([Ljava/lang/String;)I
theorem dX12_needs_0 : decode mX12_needs.2.1 0 = .ok (.aload_n 0, 1) := by decide +kernel
theorem dX12_needs_1 : decode mX12_needs.2.1 1 = .ok (.aload_n 1, 1) := by decide +kernel
theorem dX12_needs_2 : decode mX12_needs.2.1 2 = .ok (.invokevirtual 377, 3) := by decide +kernel
theorem dX12_needs_5 : decode mX12_needs.2.1 5 = .ok (.istore_n 2, 1) := by decide +kernel
theorem dX12_needs_6 : decode mX12_needs.2.1 6 = .ok (.iload_n 2, 1) := by decide +kernel
theorem dX12_needs_7 : decode mX12_needs.2.1 7 = .ok (.iconst (-1), 1) := by decide +kernel
theorem dX12_needs_8 : decode mX12_needs.2.1 8 = .ok (.if_icmp .ne 12, 3) := by decide +kernel
theorem dX12_needs_11 : decode mX12_needs.2.1 11 = .ok (.aload_n 0, 1) := by decide +kernel
theorem dX12_needs_12 : decode mX12_needs.2.1 12 = .ok (.aload_n 0, 1) := by decide +kernel
theorem dX12_needs_13 : decode mX12_needs.2.1 13 = .ok (.getfield 362, 3) := by decide +kernel
theorem dX12_needs_16 : decode mX12_needs.2.1 16 = .ok (.iconst 2, 1) := by decide +kernel
theorem dX12_needs_17 : decode mX12_needs.2.1 17 = .ok (.invokevirtual 358, 3) := by decide +kernel
theorem dX12_needs_20 : decode mX12_needs.2.1 20 = .ok (.aload_n 0, 1) := by decide +kernel
theorem dX12_needs_21 : decode mX12_needs.2.1 21 = .ok (.dup, 1) := by decide +kernel
theorem dX12_needs_22 : decode mX12_needs.2.1 22 = .ok (.getfield 362, 3) := by decide +kernel
theorem dX12_needs_25 : decode mX12_needs.2.1 25 = .ok (.iconst 1, 1) := by decide +kernel
theorem dX12_needs_26 : decode mX12_needs.2.1 26 = .ok (.iadd, 1) := by decide +kernel
theorem dX12_needs_27 : decode mX12_needs.2.1 27 = .ok (.putfield 362, 3) := by decide +kernel
theorem dX12_needs_30 : decode mX12_needs.2.1 30 = .ok (.iload_n 2, 1) := by decide +kernel
theorem dX12_needs_31 : decode mX12_needs.2.1 31 = .ok (.ireturn, 1) := by decide +kernel
theorem bX12_needs_0 {SC : Nat → Nat} {X : mh_X} {d : Nat} {Q : Option am_V → am_W → Prop} {bc bs : Nat} {w : am_W} {j1 : Nat}
    (h : am_M (mh_G X) SC (d + 7) 0 0 mX12_wordOf [.inr (.inr (some (9, 0))), .inr (.inr (some (19, j1)))] w (fun r w1 => am_A (mh_G X) SC (d + 8) mX12_needs Q 5 [(0, .inr (.inr (some (9, 0)))), (1, .inr (.inr (some (19, j1))))] (r.toList ++ []) w1 bc bs)) :
    am_A (mh_G X) SC (d + 8) mX12_needs Q 0 [(0, .inr (.inr (some (9, 0)))), (1, .inr (.inr (some (19, j1))))] [] w bc bs := by
  refine am_aload_n dX12_needs_0 (List.Mem.head _) ?_
  refine am_aload_n dX12_needs_1 (List.Mem.tail _ (List.Mem.head _)) ?_
  exact am_callv (d' := d + 7) (kc := 0) (ks := 0) (as := [.inr (.inr (some (19, j1)))]) dX12_needs_2 wc_X12_wordOf wd_1944 wd_1946 wd_60 wd_122 ds_X12_wordOf (by decide) (by omega) (Nat.le_of_ble_eq_true rfl) (Nat.zero_le _) (Nat.zero_le _) hc_10 (by decide) rfl rfl h
theorem bX12_needs_5 {SC : Nat → Nat} {X : mh_X} {d : Nat} {Q : Option am_V → am_W → Prop} {bc bs : Nat} {w : am_W} {j1 : Nat} {xs0 : Int}
    (h : ((¬ xs0 = (-1) → am_A (mh_G X) SC (d + 8) mX12_needs Q 20 [(0, .inr (.inr (some (9, 0)))), (2, .inl xs0)] [] w bc bs) ∧ (xs0 = (-1) → am_M (mh_G X) SC (d + 7) 0 0 mX12_faults [.inr (.inr (some (9, 0))), .inl (w.1 9 0 32), .inl 2] w (fun r w1 => am_A (mh_G X) SC (d + 8) mX12_needs Q 20 [(2, .inl xs0), (0, .inr (.inr (some (9, 0)))), (1, .inr (.inr (some (19, j1))))] (r.toList ++ []) w1 bc bs)))) :
    am_A (mh_G X) SC (d + 8) mX12_needs Q 5 [(0, .inr (.inr (some (9, 0)))), (1, .inr (.inr (some (19, j1))))] [.inl xs0] w bc bs := by
  refine am_istore_n (ls' := [(2, .inl xs0), (0, .inr (.inr (some (9, 0)))), (1, .inr (.inr (some (19, j1))))]) dX12_needs_5 (by decide) rfl ?_
  refine am_iload_n dX12_needs_6 (List.Mem.head _) ?_
  refine am_iconst dX12_needs_7 (by unfold am_rg; omega) ?_
  refine am_icmpne (tgt := 20) dX12_needs_8 (by decide) (fun c1 => ?_) (fun c1 => ?_)
  · replace h := h.1 c1
    exact am_sub [1, 0] rfl h
  · replace h := h.2 c1
    refine am_aload_n dX12_needs_11 (List.Mem.tail _ (List.Mem.head _)) ?_
    refine am_aload_n dX12_needs_12 (List.Mem.tail _ (List.Mem.head _)) ?_
    refine am_getf (f := 32) (v := .inl (w.1 9 0 32)) dX12_needs_13 hc_10 (by decide) wd_1581 (by decide) rfl rfl ?_
    refine am_iconst dX12_needs_16 (by unfold am_rg; omega) ?_
    exact am_callv (d' := d + 7) (kc := 0) (ks := 0) (as := [.inl (w.1 9 0 32), .inl 2]) dX12_needs_17 wc_X12_faults wd_1925 wd_1927 wd_56 wd_122 ds_X12_faults (by decide) (by omega) (Nat.le_of_ble_eq_true rfl) (Nat.zero_le _) (Nat.zero_le _) hc_10 (by decide) rfl rfl h
theorem bX12_needs_20 {SC : Nat → Nat} {X : mh_X} {d : Nat} {Q : Option am_V → am_W → Prop} {bc bs : Nat} {w : am_W} {x2 : Int}
    (h : Q (some (.inl x2)) ((am_up w.1 9 0 32 (am_w ((w.1 9 0 32) + 1))), w.2)) :
    am_A (mh_G X) SC (d + 8) mX12_needs Q 20 [(0, .inr (.inr (some (9, 0)))), (2, .inl x2)] [] w bc bs := by
  refine am_aload_n dX12_needs_20 (List.Mem.head _) ?_
  refine am_dup dX12_needs_21 rfl ?_
  refine am_getf (f := 32) (v := .inl (w.1 9 0 32)) dX12_needs_22 hc_10 (by decide) wd_1581 (by decide) rfl rfl ?_
  refine am_iconst dX12_needs_25 (by unfold am_rg; omega) ?_
  refine am_iadd dX12_needs_26 ?_
  refine am_putf (f := 32) dX12_needs_27 hc_10 (by decide) wd_1581 rfl (Or.inl rfl) (Or.inl (by decide)) rfl ?_
  refine am_iload_n dX12_needs_30 (List.Mem.tail _ (List.Mem.head _)) ?_
  exact am_ret (r := some (.inl x2)) dX12_needs_31 (Or.inl rfl) rfl h
theorem bX12_needs_20a {SC : Nat → Nat} {X : mh_X} {d : Nat} {Q : Option am_V → am_W → Prop} {bc bs : Nat} {w : am_W} {x2 : Int} {j1 : Nat}
    (h : Q (some (.inl x2)) ((am_up w.1 9 0 32 (am_w ((w.1 9 0 32) + 1))), w.2)) :
    am_A (mh_G X) SC (d + 8) mX12_needs Q 20 [(2, .inl x2), (0, .inr (.inr (some (9, 0)))), (1, .inr (.inr (some (19, j1))))] [] w bc bs := by
  refine am_aload_n dX12_needs_20 (List.Mem.tail _ (List.Mem.head _)) ?_
  refine am_dup dX12_needs_21 rfl ?_
  refine am_getf (f := 32) (v := .inl (w.1 9 0 32)) dX12_needs_22 hc_10 (by decide) wd_1581 (by decide) rfl rfl ?_
  refine am_iconst dX12_needs_25 (by unfold am_rg; omega) ?_
  refine am_iadd dX12_needs_26 ?_
  refine am_putf (f := 32) dX12_needs_27 hc_10 (by decide) wd_1581 rfl (Or.inl rfl) (Or.inl (by decide)) rfl ?_
  refine am_iload_n dX12_needs_30 (List.Mem.head _) ?_
  exact am_ret (r := some (.inl x2)) dX12_needs_31 (Or.inl rfl) rfl h
-- MourningHouseModel.needs(Ljava/lang/String;)V
theorem dX12_needs__0 : decode mX12_needs_.2.1 0 = .ok (.aload_n 0, 1) := by decide +kernel
theorem dX12_needs__1 : decode mX12_needs_.2.1 1 = .ok (.aload_n 1, 1) := by decide +kernel
theorem dX12_needs__2 : decode mX12_needs_.2.1 2 = .ok (.invokevirtual 373, 3) := by decide +kernel
theorem dX12_needs__5 : decode mX12_needs_.2.1 5 = .ok (.ifCond .ne 12, 3) := by decide +kernel
theorem dX12_needs__8 : decode mX12_needs_.2.1 8 = .ok (.aload_n 0, 1) := by decide +kernel
theorem dX12_needs__9 : decode mX12_needs_.2.1 9 = .ok (.aload_n 0, 1) := by decide +kernel
theorem dX12_needs__10 : decode mX12_needs_.2.1 10 = .ok (.getfield 362, 3) := by decide +kernel
theorem dX12_needs__13 : decode mX12_needs_.2.1 13 = .ok (.iconst 2, 1) := by decide +kernel
theorem dX12_needs__14 : decode mX12_needs_.2.1 14 = .ok (.invokevirtual 358, 3) := by decide +kernel
theorem dX12_needs__17 : decode mX12_needs_.2.1 17 = .ok (.aload_n 0, 1) := by decide +kernel
theorem dX12_needs__18 : decode mX12_needs_.2.1 18 = .ok (.dup, 1) := by decide +kernel
theorem dX12_needs__19 : decode mX12_needs_.2.1 19 = .ok (.getfield 362, 3) := by decide +kernel
theorem dX12_needs__22 : decode mX12_needs_.2.1 22 = .ok (.iconst 1, 1) := by decide +kernel
theorem dX12_needs__23 : decode mX12_needs_.2.1 23 = .ok (.iadd, 1) := by decide +kernel
theorem dX12_needs__24 : decode mX12_needs_.2.1 24 = .ok (.putfield 362, 3) := by decide +kernel
theorem dX12_needs__27 : decode mX12_needs_.2.1 27 = .ok (.return_, 1) := by decide +kernel
theorem bX12_needs__0 {SC : Nat → Nat} {X : mh_X} {d : Nat} {Q : Option am_V → am_W → Prop} {bc bs : Nat} {w : am_W} {t1 : Nat} {j1 : Nat}
    (h : am_M (mh_G X) SC (d + 6) 0 0 mX12_isWord [.inr (.inr (some (9, 0))), .inr (.inr (some (t1, j1)))] w (fun r w1 => am_A (mh_G X) SC (d + 7) mX12_needs_ Q 5 [(0, .inr (.inr (some (9, 0)))), (1, .inr (.inr (some (t1, j1))))] (r.toList ++ []) w1 bc bs)) :
    am_A (mh_G X) SC (d + 7) mX12_needs_ Q 0 [(0, .inr (.inr (some (9, 0)))), (1, .inr (.inr (some (t1, j1))))] [] w bc bs := by
  refine am_aload_n dX12_needs__0 (List.Mem.head _) ?_
  refine am_aload_n dX12_needs__1 (List.Mem.tail _ (List.Mem.head _)) ?_
  exact am_callv (d' := d + 6) (kc := 0) (ks := 0) (as := [.inr (.inr (some (t1, j1)))]) dX12_needs__2 wc_X12_isWord wd_1930 wd_1932 wd_57 wd_122 ds_X12_isWord (by decide) (by omega) (Nat.le_of_ble_eq_true rfl) (Nat.zero_le _) (Nat.zero_le _) hc_10 (by decide) rfl rfl h
theorem bX12_needs__5 {SC : Nat → Nat} {X : mh_X} {d : Nat} {Q : Option am_V → am_W → Prop} {bc bs : Nat} {w : am_W} {t1 : Nat} {j1 : Nat} {xs0 : Int}
    (h : ((¬ xs0 = 0 → Q none ((am_up w.1 9 0 32 (am_w ((w.1 9 0 32) + 1))), w.2)) ∧ (xs0 = 0 → am_M (mh_G X) SC (d + 6) 0 0 mX12_faults [.inr (.inr (some (9, 0))), .inl (w.1 9 0 32), .inl 2] w (fun r w1 => am_A (mh_G X) SC (d + 7) mX12_needs_ Q 17 [(0, .inr (.inr (some (9, 0)))), (1, .inr (.inr (some (t1, j1))))] (r.toList ++ []) w1 bc bs)))) :
    am_A (mh_G X) SC (d + 7) mX12_needs_ Q 5 [(0, .inr (.inr (some (9, 0)))), (1, .inr (.inr (some (t1, j1))))] [.inl xs0] w bc bs := by
  refine am_ifne (tgt := 17) dX12_needs__5 (by decide) (fun c1 => ?_) (fun c1 => ?_)
  · replace h := h.1 c1
    refine am_aload_n dX12_needs__17 (List.Mem.head _) ?_
    refine am_dup dX12_needs__18 rfl ?_
    refine am_getf (f := 32) (v := .inl (w.1 9 0 32)) dX12_needs__19 hc_10 (by decide) wd_1581 (by decide) rfl rfl ?_
    refine am_iconst dX12_needs__22 (by unfold am_rg; omega) ?_
    refine am_iadd dX12_needs__23 ?_
    refine am_putf (f := 32) dX12_needs__24 hc_10 (by decide) wd_1581 rfl (Or.inl rfl) (Or.inl (by decide)) rfl ?_
    exact am_ret (r := none) dX12_needs__27 rfl rfl h
  · replace h := h.2 c1
    refine am_aload_n dX12_needs__8 (List.Mem.head _) ?_
    refine am_aload_n dX12_needs__9 (List.Mem.head _) ?_
    refine am_getf (f := 32) (v := .inl (w.1 9 0 32)) dX12_needs__10 hc_10 (by decide) wd_1581 (by decide) rfl rfl ?_
    refine am_iconst dX12_needs__13 (by unfold am_rg; omega) ?_
    exact am_callv (d' := d + 6) (kc := 0) (ks := 0) (as := [.inl (w.1 9 0 32), .inl 2]) dX12_needs__14 wc_X12_faults wd_1925 wd_1927 wd_56 wd_122 ds_X12_faults (by decide) (by omega) (Nat.le_of_ble_eq_true rfl) (Nat.zero_le _) (Nat.zero_le _) hc_10 (by decide) rfl rfl h
theorem bX12_needs__17 {SC : Nat → Nat} {X : mh_X} {d : Nat} {Q : Option am_V → am_W → Prop} {bc bs : Nat} {w : am_W} {t1 : Nat} {j1 : Nat}
    (h : Q none ((am_up w.1 9 0 32 (am_w ((w.1 9 0 32) + 1))), w.2)) :
    am_A (mh_G X) SC (d + 7) mX12_needs_ Q 17 [(0, .inr (.inr (some (9, 0)))), (1, .inr (.inr (some (t1, j1))))] [] w bc bs := by
  refine am_aload_n dX12_needs__17 (List.Mem.head _) ?_
  refine am_dup dX12_needs__18 rfl ?_
  refine am_getf (f := 32) (v := .inl (w.1 9 0 32)) dX12_needs__19 hc_10 (by decide) wd_1581 (by decide) rfl rfl ?_
  refine am_iconst dX12_needs__22 (by unfold am_rg; omega) ?_
  refine am_iadd dX12_needs__23 ?_
  refine am_putf (f := 32) dX12_needs__24 hc_10 (by decide) wd_1581 rfl (Or.inl rfl) (Or.inl (by decide)) rfl ?_
  exact am_ret (r := none) dX12_needs__27 rfl rfl h
-- MourningHouseModel.needs(I)V
theorem dX12_needs___0 : decode mX12_needs__.2.1 0 = .ok (.aload_n 0, 1) := by decide +kernel
theorem dX12_needs___1 : decode mX12_needs__.2.1 1 = .ok (.iload_n 1, 1) := by decide +kernel
theorem dX12_needs___2 : decode mX12_needs__.2.1 2 = .ok (.invokevirtual 381, 3) := by decide +kernel
theorem dX12_needs___5 : decode mX12_needs__.2.1 5 = .ok (.ifCond .ne 12, 3) := by decide +kernel
theorem dX12_needs___8 : decode mX12_needs__.2.1 8 = .ok (.aload_n 0, 1) := by decide +kernel
theorem dX12_needs___9 : decode mX12_needs__.2.1 9 = .ok (.aload_n 0, 1) := by decide +kernel
theorem dX12_needs___10 : decode mX12_needs__.2.1 10 = .ok (.getfield 362, 3) := by decide +kernel
theorem dX12_needs___13 : decode mX12_needs__.2.1 13 = .ok (.iconst 2, 1) := by decide +kernel
theorem dX12_needs___14 : decode mX12_needs__.2.1 14 = .ok (.invokevirtual 358, 3) := by decide +kernel
theorem dX12_needs___17 : decode mX12_needs__.2.1 17 = .ok (.aload_n 0, 1) := by decide +kernel
theorem dX12_needs___18 : decode mX12_needs__.2.1 18 = .ok (.dup, 1) := by decide +kernel
theorem dX12_needs___19 : decode mX12_needs__.2.1 19 = .ok (.getfield 362, 3) := by decide +kernel
theorem dX12_needs___22 : decode mX12_needs__.2.1 22 = .ok (.iconst 1, 1) := by decide +kernel
theorem dX12_needs___23 : decode mX12_needs__.2.1 23 = .ok (.iadd, 1) := by decide +kernel
theorem dX12_needs___24 : decode mX12_needs__.2.1 24 = .ok (.putfield 362, 3) := by decide +kernel
theorem dX12_needs___27 : decode mX12_needs__.2.1 27 = .ok (.return_, 1) := by decide +kernel
theorem bX12_needs___0 {SC : Nat → Nat} {X : mh_X} {d : Nat} {Q : Option am_V → am_W → Prop} {bc bs : Nat} {w : am_W} {x1 : Int}
    (h : ((¬ (w.1 9 0 30) ≤ (w.1 9 0 32) → 0 ≤ (w.1 9 0 32)) ∧ ((¬ (w.1 9 0 30) ≤ (w.1 9 0 32) → (w.1 9 0 32) < 3000) ∧ (((¬ (w.1 9 0 30) ≤ (w.1 9 0 32) ∧ ((w.1 95 0 (w.1 9 0 32).toNat) = x1)) → Q none ((am_up w.1 9 0 32 (am_w ((w.1 9 0 32) + 1))), w.2)) ∧ (¬ (¬ (w.1 9 0 30) ≤ (w.1 9 0 32) ∧ ((w.1 95 0 (w.1 9 0 32).toNat) = x1)) → am_M (mh_G X) SC (d + 1) 0 0 mX12_faults [.inr (.inr (some (9, 0))), .inl (w.1 9 0 32), .inl 2] w (fun r w1 => am_A (mh_G X) SC (d + 2) mX12_needs__ Q 17 [(0, .inr (.inr (some (9, 0)))), (1, .inl x1)] (r.toList ++ []) w1 bc bs)))))) :
    am_A (mh_G X) SC (d + 2) mX12_needs__ Q 0 [(0, .inr (.inr (some (9, 0)))), (1, .inl x1)] [] w bc bs := by
  refine am_aload_n dX12_needs___0 (List.Mem.head _) ?_
  refine am_iload_n dX12_needs___1 (List.Mem.tail _ (List.Mem.head _)) ?_
  have o1 := h.1
  replace h := h.2
  have o2 := h.1
  replace h := h.2
  refine am_callv (d' := d + 1) (kc := 0) (ks := 0) (as := [.inl x1]) dX12_needs___2 wc_X12_isSign wd_1953 wd_1955 wd_62 wd_122 ds_X12_isSign (by decide) (by omega) (Nat.le_of_ble_eq_true rfl) (Nat.zero_le _) (Nat.zero_le _) hc_10 (by decide) rfl rfl (sX12_isSign (d := d + 0) (x1 := x1) o1 o2 ?_)
  show am_A (mh_G X) SC (d + 2) mX12_needs__ Q 5 [(0, .inr (.inr (some (9, 0)))), (1, .inl x1)] [.inl (if (¬ (w.1 9 0 30) ≤ (w.1 9 0 32) ∧ ((w.1 95 0 (w.1 9 0 32).toNat) = x1)) then 1 else 0)] w bc bs
  refine am_ifne (tgt := 17) dX12_needs___5 (by decide) (fun c3 => ?_) (fun c3 => ?_)
  · replace c3 := am_bne1 c3
    replace h := h.1 c3
    refine am_aload_n dX12_needs___17 (List.Mem.head _) ?_
    refine am_dup dX12_needs___18 rfl ?_
    refine am_getf (f := 32) (v := .inl (w.1 9 0 32)) dX12_needs___19 hc_10 (by decide) wd_1581 (by decide) rfl rfl ?_
    refine am_iconst dX12_needs___22 (by unfold am_rg; omega) ?_
    refine am_iadd dX12_needs___23 ?_
    refine am_putf (f := 32) dX12_needs___24 hc_10 (by decide) wd_1581 rfl (Or.inl rfl) (Or.inl (by decide)) rfl ?_
    exact am_ret (r := none) dX12_needs___27 rfl rfl h
  · replace c3 := am_bne2 c3
    replace h := h.2 c3
    refine am_aload_n dX12_needs___8 (List.Mem.head _) ?_
    refine am_aload_n dX12_needs___9 (List.Mem.head _) ?_
    refine am_getf (f := 32) (v := .inl (w.1 9 0 32)) dX12_needs___10 hc_10 (by decide) wd_1581 (by decide) rfl rfl ?_
    refine am_iconst dX12_needs___13 (by unfold am_rg; omega) ?_
    exact am_callv (d' := d + 1) (kc := 0) (ks := 0) (as := [.inl (w.1 9 0 32), .inl 2]) dX12_needs___14 wc_X12_faults wd_1925 wd_1927 wd_56 wd_122 ds_X12_faults (by decide) (by omega) (Nat.le_of_ble_eq_true rfl) (Nat.zero_le _) (Nat.zero_le _) hc_10 (by decide) rfl rfl h
theorem bX12_needs___17 {SC : Nat → Nat} {X : mh_X} {d : Nat} {Q : Option am_V → am_W → Prop} {bc bs : Nat} {w : am_W} {x1 : Int}
    (h : Q none ((am_up w.1 9 0 32 (am_w ((w.1 9 0 32) + 1))), w.2)) :
    am_A (mh_G X) SC (d + 2) mX12_needs__ Q 17 [(0, .inr (.inr (some (9, 0)))), (1, .inl x1)] [] w bc bs := by
  refine am_aload_n dX12_needs___17 (List.Mem.head _) ?_
  refine am_dup dX12_needs___18 rfl ?_
  refine am_getf (f := 32) (v := .inl (w.1 9 0 32)) dX12_needs___19 hc_10 (by decide) wd_1581 (by decide) rfl rfl ?_
  refine am_iconst dX12_needs___22 (by unfold am_rg; omega) ?_
  refine am_iadd dX12_needs___23 ?_
  refine am_putf (f := 32) dX12_needs___24 hc_10 (by decide) wd_1581 rfl (Or.inl rfl) (Or.inl (by decide)) rfl ?_
  exact am_ret (r := none) dX12_needs___27 rfl rfl h
-- MourningHouseModel.number(II)I
theorem dX12_number_0 : decode mX12_number.2.1 0 = .ok (.aload_n 0, 1) := by decide +kernel
theorem dX12_number_1 : decode mX12_number.2.1 1 = .ok (.getfield 362, 3) := by decide +kernel
theorem dX12_number_4 : decode mX12_number.2.1 4 = .ok (.aload_n 0, 1) := by decide +kernel
theorem dX12_number_5 : decode mX12_number.2.1 5 = .ok (.getfield 349, 3) := by decide +kernel
theorem dX12_number_8 : decode mX12_number.2.1 8 = .ok (.if_icmp .ge 16, 3) := by decide +kernel
theorem dX12_number_11 : decode mX12_number.2.1 11 = .ok (.aload_n 0, 1) := by decide +kernel
theorem dX12_number_12 : decode mX12_number.2.1 12 = .ok (.getfield 148, 3) := by decide +kernel
theorem dX12_number_15 : decode mX12_number.2.1 15 = .ok (.aload_n 0, 1) := by decide +kernel
theorem dX12_number_16 : decode mX12_number.2.1 16 = .ok (.getfield 362, 3) := by decide +kernel
theorem dX12_number_19 : decode mX12_number.2.1 19 = .ok (.iaload, 1) := by decide +kernel
theorem dX12_number_20 : decode mX12_number.2.1 20 = .ok (.iconst 1, 1) := by decide +kernel
theorem dX12_number_21 : decode mX12_number.2.1 21 = .ok (.if_icmp .eq 24, 3) := by decide +kernel
theorem dX12_number_24 : decode mX12_number.2.1 24 = .ok (.aload_n 0, 1) := by decide +kernel
theorem dX12_number_25 : decode mX12_number.2.1 25 = .ok (.aload_n 0, 1) := by decide +kernel
theorem dX12_number_26 : decode mX12_number.2.1 26 = .ok (.getfield 362, 3) := by decide +kernel
theorem dX12_number_29 : decode mX12_number.2.1 29 = .ok (.iconst 2, 1) := by decide +kernel
theorem dX12_number_30 : decode mX12_number.2.1 30 = .ok (.invokevirtual 358, 3) := by decide +kernel
theorem dX12_number_33 : decode mX12_number.2.1 33 = .ok (.aload_n 0, 1) := by decide +kernel
theorem dX12_number_34 : decode mX12_number.2.1 34 = .ok (.dup, 1) := by decide +kernel
theorem dX12_number_35 : decode mX12_number.2.1 35 = .ok (.getfield 362, 3) := by decide +kernel
theorem dX12_number_38 : decode mX12_number.2.1 38 = .ok (.iconst 1, 1) := by decide +kernel
theorem dX12_number_39 : decode mX12_number.2.1 39 = .ok (.iadd, 1) := by decide +kernel
theorem dX12_number_40 : decode mX12_number.2.1 40 = .ok (.putfield 362, 3) := by decide +kernel
theorem dX12_number_43 : decode mX12_number.2.1 43 = .ok (.iload_n 1, 1) := by decide +kernel
theorem dX12_number_44 : decode mX12_number.2.1 44 = .ok (.ireturn, 1) := by decide +kernel
theorem dX12_number_45 : decode mX12_number.2.1 45 = .ok (.iconst 0, 1) := by decide +kernel
theorem dX12_number_46 : decode mX12_number.2.1 46 = .ok (.istore_n 3, 1) := by decide +kernel
theorem dX12_number_47 : decode mX12_number.2.1 47 = .ok (.aload_n 0, 1) := by decide +kernel
theorem dX12_number_48 : decode mX12_number.2.1 48 = .ok (.getfield 142, 3) := by decide +kernel
theorem dX12_number_51 : decode mX12_number.2.1 51 = .ok (.aload_n 0, 1) := by decide +kernel
theorem dX12_number_52 : decode mX12_number.2.1 52 = .ok (.getfield 362, 3) := by decide +kernel
theorem dX12_number_55 : decode mX12_number.2.1 55 = .ok (.iaload, 1) := by decide +kernel
theorem dX12_number_56 : decode mX12_number.2.1 56 = .ok (.istore 4, 2) := by decide +kernel
theorem dX12_number_58 : decode mX12_number.2.1 58 = .ok (.iload 4, 2) := by decide +kernel
theorem dX12_number_60 : decode mX12_number.2.1 60 = .ok (.aload_n 0, 1) := by decide +kernel
theorem dX12_number_61 : decode mX12_number.2.1 61 = .ok (.getfield 145, 3) := by decide +kernel
theorem dX12_number_64 : decode mX12_number.2.1 64 = .ok (.aload_n 0, 1) := by decide +kernel
theorem dX12_number_65 : decode mX12_number.2.1 65 = .ok (.getfield 362, 3) := by decide +kernel
theorem dX12_number_68 : decode mX12_number.2.1 68 = .ok (.iaload, 1) := by decide +kernel
theorem dX12_number_69 : decode mX12_number.2.1 69 = .ok (.if_icmp .ge 30, 3) := by decide +kernel
theorem dX12_number_72 : decode mX12_number.2.1 72 = .ok (.iload_n 3, 1) := by decide +kernel
theorem dX12_number_73 : decode mX12_number.2.1 73 = .ok (.iload_n 2, 1) := by decide +kernel
theorem dX12_number_74 : decode mX12_number.2.1 74 = .ok (.if_icmp .gt 25, 3) := by decide +kernel
theorem dX12_number_77 : decode mX12_number.2.1 77 = .ok (.bipush 10, 2) := by decide +kernel
theorem dX12_number_79 : decode mX12_number.2.1 79 = .ok (.iload_n 3, 1) := by decide +kernel
theorem dX12_number_80 : decode mX12_number.2.1 80 = .ok (.imul, 1) := by decide +kernel
theorem dX12_number_81 : decode mX12_number.2.1 81 = .ok (.aload_n 0, 1) := by decide +kernel
theorem dX12_number_82 : decode mX12_number.2.1 82 = .ok (.getfield 9, 3) := by decide +kernel
theorem dX12_number_85 : decode mX12_number.2.1 85 = .ok (.iload 4, 2) := by decide +kernel
theorem dX12_number_87 : decode mX12_number.2.1 87 = .ok (.baload, 1) := by decide +kernel
theorem dX12_number_88 : decode mX12_number.2.1 88 = .ok (.iadd, 1) := by decide +kernel
theorem dX12_number_89 : decode mX12_number.2.1 89 = .ok (.bipush 48, 2) := by decide +kernel
theorem dX12_number_91 : decode mX12_number.2.1 91 = .ok (.isub, 1) := by decide +kernel
theorem dX12_number_92 : decode mX12_number.2.1 92 = .ok (.istore_n 3, 1) := by decide +kernel
theorem dX12_number_93 : decode mX12_number.2.1 93 = .ok (.iinc 4 1, 3) := by decide +kernel
theorem dX12_number_96 : decode mX12_number.2.1 96 = .ok (.goto (-38), 3) := by decide +kernel
theorem dX12_number_99 : decode mX12_number.2.1 99 = .ok (.iload_n 3, 1) := by decide +kernel
theorem dX12_number_100 : decode mX12_number.2.1 100 = .ok (.iload_n 1, 1) := by decide +kernel
theorem dX12_number_101 : decode mX12_number.2.1 101 = .ok (.iload_n 2, 1) := by decide +kernel
theorem dX12_number_102 : decode mX12_number.2.1 102 = .ok (.invokestatic 318, 3) := by decide +kernel
theorem dX12_number_105 : decode mX12_number.2.1 105 = .ok (.ifCond .ne 12, 3) := by decide +kernel
theorem dX12_number_108 : decode mX12_number.2.1 108 = .ok (.aload_n 0, 1) := by decide +kernel
theorem dX12_number_109 : decode mX12_number.2.1 109 = .ok (.aload_n 0, 1) := by decide +kernel
theorem dX12_number_110 : decode mX12_number.2.1 110 = .ok (.getfield 362, 3) := by decide +kernel
theorem dX12_number_113 : decode mX12_number.2.1 113 = .ok (.iconst 3, 1) := by decide +kernel
theorem dX12_number_114 : decode mX12_number.2.1 114 = .ok (.invokevirtual 358, 3) := by decide +kernel
theorem dX12_number_117 : decode mX12_number.2.1 117 = .ok (.aload_n 0, 1) := by decide +kernel
theorem dX12_number_118 : decode mX12_number.2.1 118 = .ok (.dup, 1) := by decide +kernel
theorem dX12_number_119 : decode mX12_number.2.1 119 = .ok (.getfield 362, 3) := by decide +kernel
theorem dX12_number_122 : decode mX12_number.2.1 122 = .ok (.iconst 1, 1) := by decide +kernel
theorem dX12_number_123 : decode mX12_number.2.1 123 = .ok (.iadd, 1) := by decide +kernel
theorem dX12_number_124 : decode mX12_number.2.1 124 = .ok (.putfield 362, 3) := by decide +kernel
theorem dX12_number_127 : decode mX12_number.2.1 127 = .ok (.iload_n 3, 1) := by decide +kernel
theorem dX12_number_128 : decode mX12_number.2.1 128 = .ok (.ireturn, 1) := by decide +kernel
theorem bX12_number_0 {SC : Nat → Nat} {X : mh_X} {d : Nat} {Q : Option am_V → am_W → Prop} {bc bs : Nat} {w : am_W} {x1 : Int} {x2 : Int}
    (h : (((w.1 9 0 30) ≤ (w.1 9 0 32) → am_A (mh_G X) SC (d + 2) mX12_number Q 24 [(0, .inr (.inr (some (9, 0)))), (1, .inl x1)] [] w bc bs) ∧ (¬ (w.1 9 0 30) ≤ (w.1 9 0 32) → (0 ≤ (w.1 9 0 32) ∧ ((w.1 9 0 32) < 3000 ∧ (((w.1 95 0 (w.1 9 0 32).toNat) = 1 → am_A (mh_G X) SC (d + 2) mX12_number Q 58 [(0, .inr (.inr (some (9, 0)))), (1, .inl x1), (2, .inl x2), (3, .inl 0), (4, .inl (w.1 93 0 (w.1 9 0 32).toNat))] [] w bc bs) ∧ (¬ (w.1 95 0 (w.1 9 0 32).toNat) = 1 → am_A (mh_G X) SC (d + 2) mX12_number Q 24 [(0, .inr (.inr (some (9, 0)))), (1, .inl x1)] [] w bc bs))))))) :
    am_A (mh_G X) SC (d + 2) mX12_number Q 0 [(0, .inr (.inr (some (9, 0)))), (1, .inl x1), (2, .inl x2)] [] w bc bs := by
  refine am_aload_n dX12_number_0 (List.Mem.head _) ?_
  refine am_getf (f := 32) (v := .inl (w.1 9 0 32)) dX12_number_1 hc_10 (by decide) wd_1581 (by decide) rfl rfl ?_
  refine am_aload_n dX12_number_4 (List.Mem.head _) ?_
  refine am_getf (f := 30) (v := .inl (w.1 9 0 30)) dX12_number_5 hc_10 (by decide) wd_1579 (by decide) rfl rfl ?_
  refine am_icmpge (tgt := 24) dX12_number_8 (by decide) (fun c1 => ?_) (fun c1 => ?_)
  · replace h := h.1 c1
    exact am_sub [0, 1] rfl h
  · replace h := h.2 c1
    refine am_aload_n dX12_number_11 (List.Mem.head _) ?_
    refine am_getf (f := 29) (v := .inr (.inr (some (95, 0)))) dX12_number_12 hc_10 (by decide) wd_1578 (by decide) rfl rfl ?_
    refine am_aload_n dX12_number_15 (List.Mem.head _) ?_
    refine am_getf (f := 32) (v := .inl (w.1 9 0 32)) dX12_number_16 hc_10 (by decide) wd_1581 (by decide) rfl rfl ?_
    have o2 := h.1
    replace h := h.2
    have o3 := h.1
    replace h := h.2
    refine am_iaload (v := (w.1 95 0 (w.1 9 0 32).toNat)) dX12_number_19 (by decide) rfl o2 o3 rfl ?_
    refine am_iconst dX12_number_20 (by unfold am_rg; omega) ?_
    refine am_icmpeq (tgt := 45) dX12_number_21 (by decide) (fun c4 => ?_) (fun c4 => ?_)
    · replace h := h.1 c4
      refine am_iconst dX12_number_45 (by unfold am_rg; omega) ?_
      refine am_istore_n (ls' := [(3, .inl 0), (0, .inr (.inr (some (9, 0)))), (1, .inl x1), (2, .inl x2)]) dX12_number_46 (by decide) rfl ?_
      refine am_aload_n dX12_number_47 (List.Mem.tail _ (List.Mem.head _)) ?_
      refine am_getf (f := 27) (v := .inr (.inr (some (93, 0)))) dX12_number_48 hc_10 (by decide) wd_1576 (by decide) rfl rfl ?_
      refine am_aload_n dX12_number_51 (List.Mem.tail _ (List.Mem.head _)) ?_
      refine am_getf (f := 32) (v := .inl (w.1 9 0 32)) dX12_number_52 hc_10 (by decide) wd_1581 (by decide) rfl rfl ?_
      refine am_iaload (v := (w.1 93 0 (w.1 9 0 32).toNat)) dX12_number_55 (by decide) rfl o2 o3 rfl ?_
      refine am_istore (ls' := [(4, .inl (w.1 93 0 (w.1 9 0 32).toNat)), (3, .inl 0), (0, .inr (.inr (some (9, 0)))), (1, .inl x1), (2, .inl x2)]) dX12_number_56 (by decide) rfl ?_
      exact am_sub [2, 3, 4, 1, 0] rfl h
    · replace h := h.2 c4
      exact am_sub [0, 1] rfl h
theorem bX12_number_24 {SC : Nat → Nat} {X : mh_X} {d : Nat} {Q : Option am_V → am_W → Prop} {bc bs : Nat} {w : am_W} {x1 : Int}
    (h : am_M (mh_G X) SC (d + 1) 0 0 mX12_faults [.inr (.inr (some (9, 0))), .inl (w.1 9 0 32), .inl 2] w (fun r w1 => am_A (mh_G X) SC (d + 2) mX12_number Q 33 [(0, .inr (.inr (some (9, 0)))), (1, .inl x1)] (r.toList ++ []) w1 bc bs)) :
    am_A (mh_G X) SC (d + 2) mX12_number Q 24 [(0, .inr (.inr (some (9, 0)))), (1, .inl x1)] [] w bc bs := by
  refine am_aload_n dX12_number_24 (List.Mem.head _) ?_
  refine am_aload_n dX12_number_25 (List.Mem.head _) ?_
  refine am_getf (f := 32) (v := .inl (w.1 9 0 32)) dX12_number_26 hc_10 (by decide) wd_1581 (by decide) rfl rfl ?_
  refine am_iconst dX12_number_29 (by unfold am_rg; omega) ?_
  exact am_callv (d' := d + 1) (kc := 0) (ks := 0) (as := [.inl (w.1 9 0 32), .inl 2]) dX12_number_30 wc_X12_faults wd_1925 wd_1927 wd_56 wd_122 ds_X12_faults (by decide) (by omega) (Nat.le_of_ble_eq_true rfl) (Nat.zero_le _) (Nat.zero_le _) hc_10 (by decide) rfl rfl h
theorem bX12_number_58 {SC : Nat → Nat} {X : mh_X} {d : Nat} {Q : Option am_V → am_W → Prop} {bc bs : Nat} {w : am_W} {x1 : Int} {x2 : Int} {x3 : Int} {x4 : Int}
    (h : (0 ≤ (w.1 9 0 32) ∧ ((w.1 9 0 32) < 3000 ∧ (((w.1 94 0 (w.1 9 0 32).toNat) ≤ x4 → am_A (mh_G X) SC (d + 2) mX12_number Q 99 [(0, .inr (.inr (some (9, 0)))), (1, .inl x1), (2, .inl x2), (3, .inl x3)] [] w bc bs) ∧ (¬ (w.1 94 0 (w.1 9 0 32).toNat) ≤ x4 → ((x2 < x3 → am_A (mh_G X) SC (d + 2) mX12_number Q 99 [(0, .inr (.inr (some (9, 0)))), (1, .inl x1), (2, .inl x2), (3, .inl x3)] [] w bc bs) ∧ (¬ x2 < x3 → (0 ≤ x4 ∧ (x4 < 3000 ∧ (∀ n7 : Int, n7 = (am_w ((am_w ((am_w (10 * x3)) + (w.1 66 0 x4.toNat))) - 48)) → am_A (mh_G X) SC (d + 2) mX12_number Q 58 [(0, .inr (.inr (some (9, 0)))), (1, .inl x1), (2, .inl x2), (3, .inl n7), (4, .inl (am_w (x4 + 1)))] [] w bc bs)))))))))) :
    am_A (mh_G X) SC (d + 2) mX12_number Q 58 [(0, .inr (.inr (some (9, 0)))), (1, .inl x1), (2, .inl x2), (3, .inl x3), (4, .inl x4)] [] w bc bs := by
  refine am_iload dX12_number_58 (List.Mem.tail _ (List.Mem.tail _ (List.Mem.tail _ (List.Mem.tail _ (List.Mem.head _))))) ?_
  refine am_aload_n dX12_number_60 (List.Mem.head _) ?_
  refine am_getf (f := 28) (v := .inr (.inr (some (94, 0)))) dX12_number_61 hc_10 (by decide) wd_1577 (by decide) rfl rfl ?_
  refine am_aload_n dX12_number_64 (List.Mem.head _) ?_
  refine am_getf (f := 32) (v := .inl (w.1 9 0 32)) dX12_number_65 hc_10 (by decide) wd_1581 (by decide) rfl rfl ?_
  have o1 := h.1
  replace h := h.2
  have o2 := h.1
  replace h := h.2
  refine am_iaload (v := (w.1 94 0 (w.1 9 0 32).toNat)) dX12_number_68 (by decide) rfl o1 o2 rfl ?_
  refine am_icmpge (tgt := 99) dX12_number_69 (by decide) (fun c3 => ?_) (fun c3 => ?_)
  · replace h := h.1 c3
    exact am_sub [0, 1, 2, 3] rfl h
  · replace h := h.2 c3
    refine am_iload_n dX12_number_72 (List.Mem.tail _ (List.Mem.tail _ (List.Mem.tail _ (List.Mem.head _)))) ?_
    refine am_iload_n dX12_number_73 (List.Mem.tail _ (List.Mem.tail _ (List.Mem.head _))) ?_
    refine am_icmpgt (tgt := 99) dX12_number_74 (by decide) (fun c4 => ?_) (fun c4 => ?_)
    · replace h := h.1 c4
      exact am_sub [0, 1, 2, 3] rfl h
    · replace h := h.2 c4
      refine am_bipush dX12_number_77 (by decide) (by unfold am_rg; omega) ?_
      refine am_iload_n dX12_number_79 (List.Mem.tail _ (List.Mem.tail _ (List.Mem.tail _ (List.Mem.head _)))) ?_
      refine am_imul dX12_number_80 ?_
      refine am_aload_n dX12_number_81 (List.Mem.head _) ?_
      refine am_getf (f := 0) (v := .inr (.inr (some (66, 0)))) dX12_number_82 hc_10 (by decide) wd_1549 (by decide) rfl rfl ?_
      refine am_iload dX12_number_85 (List.Mem.tail _ (List.Mem.tail _ (List.Mem.tail _ (List.Mem.tail _ (List.Mem.head _))))) ?_
      have o5 := h.1
      replace h := h.2
      have o6 := h.1
      replace h := h.2
      refine am_baload (v := (w.1 66 0 x4.toNat)) dX12_number_87 (by decide) rfl o5 o6 rfl ?_
      refine am_iadd dX12_number_88 ?_
      refine am_bipush dX12_number_89 (by decide) (by unfold am_rg; omega) ?_
      refine am_isub dX12_number_91 ?_
      refine am_named (fun n7 en7 => ?_)
      replace h := h n7 en7
      refine am_istore_n (ls' := [(3, .inl n7), (0, .inr (.inr (some (9, 0)))), (1, .inl x1), (2, .inl x2), (4, .inl x4)]) dX12_number_92 (by decide) rfl ?_
      refine am_iinc (ls' := [(4, .inl (am_w (x4 + 1))), (3, .inl n7), (0, .inr (.inr (some (9, 0)))), (1, .inl x1), (2, .inl x2)]) dX12_number_93 (List.Mem.tail _ (List.Mem.tail _ (List.Mem.tail _ (List.Mem.tail _ (List.Mem.head _))))) (by decide) rfl ?_
      refine am_goto (tgt := 58) dX12_number_96 (by decide) ?_
      exact am_sub [2, 3, 4, 1, 0] rfl h
theorem bX12_number_33 {SC : Nat → Nat} {X : mh_X} {d : Nat} {Q : Option am_V → am_W → Prop} {bc bs : Nat} {w : am_W} {x1 : Int}
    (h : Q (some (.inl x1)) ((am_up w.1 9 0 32 (am_w ((w.1 9 0 32) + 1))), w.2)) :
    am_A (mh_G X) SC (d + 2) mX12_number Q 33 [(0, .inr (.inr (some (9, 0)))), (1, .inl x1)] [] w bc bs := by
  refine am_aload_n dX12_number_33 (List.Mem.head _) ?_
  refine am_dup dX12_number_34 rfl ?_
  refine am_getf (f := 32) (v := .inl (w.1 9 0 32)) dX12_number_35 hc_10 (by decide) wd_1581 (by decide) rfl rfl ?_
  refine am_iconst dX12_number_38 (by unfold am_rg; omega) ?_
  refine am_iadd dX12_number_39 ?_
  refine am_putf (f := 32) dX12_number_40 hc_10 (by decide) wd_1581 rfl (Or.inl rfl) (Or.inl (by decide)) rfl ?_
  refine am_iload_n dX12_number_43 (List.Mem.tail _ (List.Mem.head _)) ?_
  exact am_ret (r := some (.inl x1)) dX12_number_44 (Or.inl rfl) rfl h
theorem bX12_number_99 {SC : Nat → Nat} {X : mh_X} {d : Nat} {Q : Option am_V → am_W → Prop} {bc bs : Nat} {w : am_W} {x1 : Int} {x2 : Int} {x3 : Int}
    (h : (((¬ x3 < x1 ∧ (¬ x2 < x3)) → am_A (mh_G X) SC (d + 2) mX12_number Q 117 [(0, .inr (.inr (some (9, 0)))), (3, .inl x3)] [] w bc bs) ∧ (¬ (¬ x3 < x1 ∧ (¬ x2 < x3)) → am_M (mh_G X) SC (d + 1) 0 0 mX12_faults [.inr (.inr (some (9, 0))), .inl (w.1 9 0 32), .inl 3] w (fun r w1 => am_A (mh_G X) SC (d + 2) mX12_number Q 117 [(0, .inr (.inr (some (9, 0)))), (1, .inl x1), (2, .inl x2), (3, .inl x3)] (r.toList ++ []) w1 bc bs)))) :
    am_A (mh_G X) SC (d + 2) mX12_number Q 99 [(0, .inr (.inr (some (9, 0)))), (1, .inl x1), (2, .inl x2), (3, .inl x3)] [] w bc bs := by
  refine am_iload_n dX12_number_99 (List.Mem.tail _ (List.Mem.tail _ (List.Mem.tail _ (List.Mem.head _)))) ?_
  refine am_iload_n dX12_number_100 (List.Mem.tail _ (List.Mem.head _)) ?_
  refine am_iload_n dX12_number_101 (List.Mem.tail _ (List.Mem.tail _ (List.Mem.head _))) ?_
  refine am_calls (d' := d + 1) (kc := 0) (ks := 0) (as := [.inl x3, .inl x1, .inl x2]) dX12_number_102 wc_X12_in wd_1859 wd_1860 wd_122 ds_X12_in (by decide) (by omega) (Nat.le_of_ble_eq_true rfl) (Nat.zero_le _) (Nat.zero_le _) rfl (sX12_in (d := d + 0) (x0 := x3) (x1 := x1) (x2 := x2)  ?_)
  show am_A (mh_G X) SC (d + 2) mX12_number Q 105 [(0, .inr (.inr (some (9, 0)))), (1, .inl x1), (2, .inl x2), (3, .inl x3)] [.inl (if (¬ x3 < x1 ∧ (¬ x2 < x3)) then 1 else 0)] w bc bs
  refine am_ifne (tgt := 117) dX12_number_105 (by decide) (fun c1 => ?_) (fun c1 => ?_)
  · replace c1 := am_bne1 c1
    replace h := h.1 c1
    exact am_sub [0, 3] rfl h
  · replace c1 := am_bne2 c1
    replace h := h.2 c1
    refine am_aload_n dX12_number_108 (List.Mem.head _) ?_
    refine am_aload_n dX12_number_109 (List.Mem.head _) ?_
    refine am_getf (f := 32) (v := .inl (w.1 9 0 32)) dX12_number_110 hc_10 (by decide) wd_1581 (by decide) rfl rfl ?_
    refine am_iconst dX12_number_113 (by unfold am_rg; omega) ?_
    exact am_callv (d' := d + 1) (kc := 0) (ks := 0) (as := [.inl (w.1 9 0 32), .inl 3]) dX12_number_114 wc_X12_faults wd_1925 wd_1927 wd_56 wd_122 ds_X12_faults (by decide) (by omega) (Nat.le_of_ble_eq_true rfl) (Nat.zero_le _) (Nat.zero_le _) hc_10 (by decide) rfl rfl h
theorem bX12_number_117 {SC : Nat → Nat} {X : mh_X} {d : Nat} {Q : Option am_V → am_W → Prop} {bc bs : Nat} {w : am_W} {x3 : Int}
    (h : Q (some (.inl x3)) ((am_up w.1 9 0 32 (am_w ((w.1 9 0 32) + 1))), w.2)) :
    am_A (mh_G X) SC (d + 2) mX12_number Q 117 [(0, .inr (.inr (some (9, 0)))), (3, .inl x3)] [] w bc bs := by
  refine am_aload_n dX12_number_117 (List.Mem.head _) ?_
  refine am_dup dX12_number_118 rfl ?_
  refine am_getf (f := 32) (v := .inl (w.1 9 0 32)) dX12_number_119 hc_10 (by decide) wd_1581 (by decide) rfl rfl ?_
  refine am_iconst dX12_number_122 (by unfold am_rg; omega) ?_
  refine am_iadd dX12_number_123 ?_
  refine am_putf (f := 32) dX12_number_124 hc_10 (by decide) wd_1581 rfl (Or.inl rfl) (Or.inl (by decide)) rfl ?_
  refine am_iload_n dX12_number_127 (List.Mem.tail _ (List.Mem.head _)) ?_
  exact am_ret (r := some (.inl x3)) dX12_number_128 (Or.inl rfl) rfl h
theorem bX12_number_117a {SC : Nat → Nat} {X : mh_X} {d : Nat} {Q : Option am_V → am_W → Prop} {bc bs : Nat} {w : am_W} {x1 : Int} {x2 : Int} {x3 : Int}
    (h : Q (some (.inl x3)) ((am_up w.1 9 0 32 (am_w ((w.1 9 0 32) + 1))), w.2)) :
    am_A (mh_G X) SC (d + 2) mX12_number Q 117 [(0, .inr (.inr (some (9, 0)))), (1, .inl x1), (2, .inl x2), (3, .inl x3)] [] w bc bs := by
  refine am_aload_n dX12_number_117 (List.Mem.head _) ?_
  refine am_dup dX12_number_118 rfl ?_
  refine am_getf (f := 32) (v := .inl (w.1 9 0 32)) dX12_number_119 hc_10 (by decide) wd_1581 (by decide) rfl rfl ?_
  refine am_iconst dX12_number_122 (by unfold am_rg; omega) ?_
  refine am_iadd dX12_number_123 ?_
  refine am_putf (f := 32) dX12_number_124 hc_10 (by decide) wd_1581 rfl (Or.inl rfl) (Or.inl (by decide)) rfl ?_
  refine am_iload_n dX12_number_127 (List.Mem.tail _ (List.Mem.tail _ (List.Mem.tail _ (List.Mem.head _)))) ?_
  exact am_ret (r := some (.inl x3)) dX12_number_128 (Or.inl rfl) rfl h
-- MourningHouseModel.stage(I)V
theorem dX12_stage_0 : decode mX12_stage.2.1 0 = .ok (.aload_n 0, 1) := by decide +kernel
theorem dX12_stage_1 : decode mX12_stage.2.1 1 = .ok (.getfield 28, 3) := by decide +kernel
theorem dX12_stage_4 : decode mX12_stage.2.1 4 = .ok (.bipush 6, 2) := by decide +kernel
theorem dX12_stage_6 : decode mX12_stage.2.1 6 = .ok (.aaload, 1) := by decide +kernel
theorem dX12_stage_7 : decode mX12_stage.2.1 7 = .ok (.iload_n 1, 1) := by decide +kernel
theorem dX12_stage_8 : decode mX12_stage.2.1 8 = .ok (.iaload, 1) := by decide +kernel
theorem dX12_stage_9 : decode mX12_stage.2.1 9 = .ok (.istore_n 2, 1) := by decide +kernel
theorem dX12_stage_10 : decode mX12_stage.2.1 10 = .ok (.aload_n 0, 1) := by decide +kernel
theorem dX12_stage_11 : decode mX12_stage.2.1 11 = .ok (.aload_n 0, 1) := by decide +kernel
theorem dX12_stage_12 : decode mX12_stage.2.1 12 = .ok (.getfield 106, 3) := by decide +kernel
theorem dX12_stage_15 : decode mX12_stage.2.1 15 = .ok (.invokevirtual 377, 3) := by decide +kernel
theorem dX12_stage_18 : decode mX12_stage.2.1 18 = .ok (.istore_n 3, 1) := by decide +kernel
theorem dX12_stage_19 : decode mX12_stage.2.1 19 = .ok (.iload_n 3, 1) := by decide +kernel
theorem dX12_stage_20 : decode mX12_stage.2.1 20 = .ok (.iconst 1, 1) := by decide +kernel
theorem dX12_stage_21 : decode mX12_stage.2.1 21 = .ok (.if_icmp .ge 15, 3) := by decide +kernel
theorem dX12_stage_24 : decode mX12_stage.2.1 24 = .ok (.aload_n 0, 1) := by decide +kernel
theorem dX12_stage_25 : decode mX12_stage.2.1 25 = .ok (.aload_n 0, 1) := by decide +kernel
theorem dX12_stage_26 : decode mX12_stage.2.1 26 = .ok (.getfield 362, 3) := by decide +kernel
theorem dX12_stage_29 : decode mX12_stage.2.1 29 = .ok (.iconst 2, 1) := by decide +kernel
theorem dX12_stage_30 : decode mX12_stage.2.1 30 = .ok (.invokevirtual 358, 3) := by decide +kernel
theorem dX12_stage_33 : decode mX12_stage.2.1 33 = .ok (.goto 53, 3) := by decide +kernel
theorem dX12_stage_36 : decode mX12_stage.2.1 36 = .ok (.iload_n 2, 1) := by decide +kernel
theorem dX12_stage_37 : decode mX12_stage.2.1 37 = .ok (.iconst 4, 1) := by decide +kernel
theorem dX12_stage_38 : decode mX12_stage.2.1 38 = .ok (.if_icmp .ne 16, 3) := by decide +kernel
theorem dX12_stage_41 : decode mX12_stage.2.1 41 = .ok (.aload_n 0, 1) := by decide +kernel
theorem dX12_stage_42 : decode mX12_stage.2.1 42 = .ok (.aload_n 0, 1) := by decide +kernel
theorem dX12_stage_43 : decode mX12_stage.2.1 43 = .ok (.getfield 362, 3) := by decide +kernel
theorem dX12_stage_46 : decode mX12_stage.2.1 46 = .ok (.bipush 6, 2) := by decide +kernel
theorem dX12_stage_48 : decode mX12_stage.2.1 48 = .ok (.invokevirtual 358, 3) := by decide +kernel
theorem dX12_stage_51 : decode mX12_stage.2.1 51 = .ok (.goto 35, 3) := by decide +kernel
theorem dX12_stage_54 : decode mX12_stage.2.1 54 = .ok (.iload_n 2, 1) := by decide +kernel
theorem dX12_stage_55 : decode mX12_stage.2.1 55 = .ok (.ifCond .le 31, 3) := by decide +kernel
theorem dX12_stage_58 : decode mX12_stage.2.1 58 = .ok (.iload_n 3, 1) := by decide +kernel
theorem dX12_stage_59 : decode mX12_stage.2.1 59 = .ok (.aload_n 0, 1) := by decide +kernel
theorem dX12_stage_60 : decode mX12_stage.2.1 60 = .ok (.getfield 39, 3) := by decide +kernel
theorem dX12_stage_63 : decode mX12_stage.2.1 63 = .ok (.bipush 6, 2) := by decide +kernel
theorem dX12_stage_65 : decode mX12_stage.2.1 65 = .ok (.aaload, 1) := by decide +kernel
theorem dX12_stage_66 : decode mX12_stage.2.1 66 = .ok (.iload_n 1, 1) := by decide +kernel
theorem dX12_stage_67 : decode mX12_stage.2.1 67 = .ok (.aaload, 1) := by decide +kernel
theorem dX12_stage_68 : decode mX12_stage.2.1 68 = .ok (.iconst 3, 1) := by decide +kernel
theorem dX12_stage_69 : decode mX12_stage.2.1 69 = .ok (.iload_n 2, 1) := by decide +kernel
theorem dX12_stage_70 : decode mX12_stage.2.1 70 = .ok (.imul, 1) := by decide +kernel
theorem dX12_stage_71 : decode mX12_stage.2.1 71 = .ok (.iconst 3, 1) := by decide +kernel
theorem dX12_stage_72 : decode mX12_stage.2.1 72 = .ok (.isub, 1) := by decide +kernel
theorem dX12_stage_73 : decode mX12_stage.2.1 73 = .ok (.iaload, 1) := by decide +kernel
theorem dX12_stage_74 : decode mX12_stage.2.1 74 = .ok (.if_icmp .lt 12, 3) := by decide +kernel
theorem dX12_stage_77 : decode mX12_stage.2.1 77 = .ok (.aload_n 0, 1) := by decide +kernel
theorem dX12_stage_78 : decode mX12_stage.2.1 78 = .ok (.aload_n 0, 1) := by decide +kernel
theorem dX12_stage_79 : decode mX12_stage.2.1 79 = .ok (.getfield 362, 3) := by decide +kernel
theorem dX12_stage_82 : decode mX12_stage.2.1 82 = .ok (.iconst 4, 1) := by decide +kernel
theorem dX12_stage_83 : decode mX12_stage.2.1 83 = .ok (.invokevirtual 358, 3) := by decide +kernel
theorem dX12_stage_86 : decode mX12_stage.2.1 86 = .ok (.aload_n 0, 1) := by decide +kernel
theorem dX12_stage_87 : decode mX12_stage.2.1 87 = .ok (.dup, 1) := by decide +kernel
theorem dX12_stage_88 : decode mX12_stage.2.1 88 = .ok (.getfield 362, 3) := by decide +kernel
theorem dX12_stage_91 : decode mX12_stage.2.1 91 = .ok (.iconst 1, 1) := by decide +kernel
theorem dX12_stage_92 : decode mX12_stage.2.1 92 = .ok (.iadd, 1) := by decide +kernel
theorem dX12_stage_93 : decode mX12_stage.2.1 93 = .ok (.putfield 362, 3) := by decide +kernel
theorem dX12_stage_96 : decode mX12_stage.2.1 96 = .ok (.aload_n 0, 1) := by decide +kernel
theorem dX12_stage_97 : decode mX12_stage.2.1 97 = .ok (.getfield 337, 3) := by decide +kernel
theorem dX12_stage_100 : decode mX12_stage.2.1 100 = .ok (.ifCond .eq 4, 3) := by decide +kernel
theorem dX12_stage_103 : decode mX12_stage.2.1 103 = .ok (.return_, 1) := by decide +kernel
theorem dX12_stage_104 : decode mX12_stage.2.1 104 = .ok (.aload_n 0, 1) := by decide +kernel
theorem dX12_stage_105 : decode mX12_stage.2.1 105 = .ok (.iconst 1, 1) := by decide +kernel
theorem dX12_stage_106 : decode mX12_stage.2.1 106 = .ok (.sipush 999, 3) := by decide +kernel
theorem dX12_stage_109 : decode mX12_stage.2.1 109 = .ok (.invokevirtual 384, 3) := by decide +kernel
theorem dX12_stage_112 : decode mX12_stage.2.1 112 = .ok (.istore 4, 2) := by decide +kernel
theorem dX12_stage_114 : decode mX12_stage.2.1 114 = .ok (.aload_n 0, 1) := by decide +kernel
theorem dX12_stage_115 : decode mX12_stage.2.1 115 = .ok (.aload_n 0, 1) := by decide +kernel
theorem dX12_stage_116 : decode mX12_stage.2.1 116 = .ok (.getfield 117, 3) := by decide +kernel
theorem dX12_stage_119 : decode mX12_stage.2.1 119 = .ok (.invokevirtual 387, 3) := by decide +kernel
theorem dX12_stage_122 : decode mX12_stage.2.1 122 = .ok (.istore 5, 2) := by decide +kernel
theorem dX12_stage_124 : decode mX12_stage.2.1 124 = .ok (.aload_n 0, 1) := by decide +kernel
theorem dX12_stage_125 : decode mX12_stage.2.1 125 = .ok (.getfield 337, 3) := by decide +kernel
theorem dX12_stage_128 : decode mX12_stage.2.1 128 = .ok (.ifCond .eq 4, 3) := by decide +kernel
theorem dX12_stage_131 : decode mX12_stage.2.1 131 = .ok (.return_, 1) := by decide +kernel
theorem dX12_stage_132 : decode mX12_stage.2.1 132 = .ok (.aload_n 0, 1) := by decide +kernel
theorem dX12_stage_133 : decode mX12_stage.2.1 133 = .ok (.getfield 39, 3) := by decide +kernel
theorem dX12_stage_136 : decode mX12_stage.2.1 136 = .ok (.bipush 6, 2) := by decide +kernel
theorem dX12_stage_138 : decode mX12_stage.2.1 138 = .ok (.aaload, 1) := by decide +kernel
theorem dX12_stage_139 : decode mX12_stage.2.1 139 = .ok (.iload_n 1, 1) := by decide +kernel
theorem dX12_stage_140 : decode mX12_stage.2.1 140 = .ok (.aaload, 1) := by decide +kernel
theorem dX12_stage_141 : decode mX12_stage.2.1 141 = .ok (.iconst 3, 1) := by decide +kernel
theorem dX12_stage_142 : decode mX12_stage.2.1 142 = .ok (.iload_n 2, 1) := by decide +kernel
theorem dX12_stage_143 : decode mX12_stage.2.1 143 = .ok (.imul, 1) := by decide +kernel
theorem dX12_stage_144 : decode mX12_stage.2.1 144 = .ok (.iload_n 3, 1) := by decide +kernel
theorem dX12_stage_145 : decode mX12_stage.2.1 145 = .ok (.iastore, 1) := by decide +kernel
theorem dX12_stage_146 : decode mX12_stage.2.1 146 = .ok (.aload_n 0, 1) := by decide +kernel
theorem dX12_stage_147 : decode mX12_stage.2.1 147 = .ok (.getfield 39, 3) := by decide +kernel
theorem dX12_stage_150 : decode mX12_stage.2.1 150 = .ok (.bipush 6, 2) := by decide +kernel
theorem dX12_stage_152 : decode mX12_stage.2.1 152 = .ok (.aaload, 1) := by decide +kernel
theorem dX12_stage_153 : decode mX12_stage.2.1 153 = .ok (.iload_n 1, 1) := by decide +kernel
theorem dX12_stage_154 : decode mX12_stage.2.1 154 = .ok (.aaload, 1) := by decide +kernel
theorem dX12_stage_155 : decode mX12_stage.2.1 155 = .ok (.iconst 3, 1) := by decide +kernel
theorem dX12_stage_156 : decode mX12_stage.2.1 156 = .ok (.iload_n 2, 1) := by decide +kernel
theorem dX12_stage_157 : decode mX12_stage.2.1 157 = .ok (.imul, 1) := by decide +kernel
theorem dX12_stage_158 : decode mX12_stage.2.1 158 = .ok (.iconst 1, 1) := by decide +kernel
theorem dX12_stage_159 : decode mX12_stage.2.1 159 = .ok (.iadd, 1) := by decide +kernel
theorem dX12_stage_160 : decode mX12_stage.2.1 160 = .ok (.iload 4, 2) := by decide +kernel
theorem dX12_stage_162 : decode mX12_stage.2.1 162 = .ok (.iastore, 1) := by decide +kernel
theorem dX12_stage_163 : decode mX12_stage.2.1 163 = .ok (.aload_n 0, 1) := by decide +kernel
theorem dX12_stage_164 : decode mX12_stage.2.1 164 = .ok (.getfield 39, 3) := by decide +kernel
theorem dX12_stage_167 : decode mX12_stage.2.1 167 = .ok (.bipush 6, 2) := by decide +kernel
theorem dX12_stage_169 : decode mX12_stage.2.1 169 = .ok (.aaload, 1) := by decide +kernel
theorem dX12_stage_170 : decode mX12_stage.2.1 170 = .ok (.iload_n 1, 1) := by decide +kernel
theorem dX12_stage_171 : decode mX12_stage.2.1 171 = .ok (.aaload, 1) := by decide +kernel
theorem dX12_stage_172 : decode mX12_stage.2.1 172 = .ok (.iconst 3, 1) := by decide +kernel
theorem dX12_stage_173 : decode mX12_stage.2.1 173 = .ok (.iload_n 2, 1) := by decide +kernel
theorem dX12_stage_174 : decode mX12_stage.2.1 174 = .ok (.imul, 1) := by decide +kernel
theorem dX12_stage_175 : decode mX12_stage.2.1 175 = .ok (.iconst 2, 1) := by decide +kernel
theorem dX12_stage_176 : decode mX12_stage.2.1 176 = .ok (.iadd, 1) := by decide +kernel
theorem dX12_stage_177 : decode mX12_stage.2.1 177 = .ok (.iload 5, 2) := by decide +kernel
theorem dX12_stage_179 : decode mX12_stage.2.1 179 = .ok (.iastore, 1) := by decide +kernel
theorem dX12_stage_180 : decode mX12_stage.2.1 180 = .ok (.aload_n 0, 1) := by decide +kernel
theorem dX12_stage_181 : decode mX12_stage.2.1 181 = .ok (.getfield 28, 3) := by decide +kernel
theorem dX12_stage_184 : decode mX12_stage.2.1 184 = .ok (.bipush 6, 2) := by decide +kernel
theorem dX12_stage_186 : decode mX12_stage.2.1 186 = .ok (.aaload, 1) := by decide +kernel
theorem dX12_stage_187 : decode mX12_stage.2.1 187 = .ok (.iload_n 1, 1) := by decide +kernel
theorem dX12_stage_188 : decode mX12_stage.2.1 188 = .ok (.dup2, 1) := by decide +kernel
theorem dX12_stage_189 : decode mX12_stage.2.1 189 = .ok (.iaload, 1) := by decide +kernel
theorem dX12_stage_190 : decode mX12_stage.2.1 190 = .ok (.iconst 1, 1) := by decide +kernel
theorem dX12_stage_191 : decode mX12_stage.2.1 191 = .ok (.iadd, 1) := by decide +kernel
theorem dX12_stage_192 : decode mX12_stage.2.1 192 = .ok (.iastore, 1) := by decide +kernel
theorem dX12_stage_193 : decode mX12_stage.2.1 193 = .ok (.return_, 1) := by decide +kernel
theorem bX12_stage_0 {SC : Nat → Nat} {X : mh_X} {d : Nat} {Q : Option am_V → am_W → Prop} {bc bs : Nat} {w : am_W} {x1 : Int}
    (h : (0 ≤ x1 ∧ (x1 < 30 ∧ am_M (mh_G X) SC (d + 8) 0 0 mX12_wordOf [.inr (.inr (some (9, 0))), .inr (.inr (some (19, 1)))] w (fun r w1 => am_A (mh_G X) SC (d + 9) mX12_stage Q 18 [(2, .inl (w.1 73 6 x1.toNat)), (0, .inr (.inr (some (9, 0)))), (1, .inl x1)] (r.toList ++ []) w1 bc bs)))) :
    am_A (mh_G X) SC (d + 9) mX12_stage Q 0 [(0, .inr (.inr (some (9, 0)))), (1, .inl x1)] [] w bc bs := by
  refine am_aload_n dX12_stage_0 (List.Mem.head _) ?_
  refine am_getf (f := 9) (v := .inr (.inr (some (72, 0)))) dX12_stage_1 hc_10 (by decide) wd_1558 (by decide) rfl rfl ?_
  refine am_bipush dX12_stage_4 (by decide) (by unfold am_rg; omega) ?_
  refine am_aaload (kd := 5) (r := some (73, 6)) dX12_stage_6 (by decide) rfl (by decide) (by decide) (by decide) (show (6 : Int) < (7 : Nat) by decide) rfl ?_
  refine am_iload_n dX12_stage_7 (List.Mem.tail _ (List.Mem.head _)) ?_
  have o1 := h.1
  replace h := h.2
  have o2 := h.1
  replace h := h.2
  refine am_iaload (v := (w.1 73 6 x1.toNat)) dX12_stage_8 (by decide) rfl o1 o2 rfl ?_
  refine am_istore_n (ls' := [(2, .inl (w.1 73 6 x1.toNat)), (0, .inr (.inr (some (9, 0)))), (1, .inl x1)]) dX12_stage_9 (by decide) rfl ?_
  refine am_aload_n dX12_stage_10 (List.Mem.tail _ (List.Mem.head _)) ?_
  refine am_aload_n dX12_stage_11 (List.Mem.tail _ (List.Mem.head _)) ?_
  refine am_getf (f := 23) (v := .inr (.inr (some (19, 1)))) dX12_stage_12 hc_10 (by decide) wd_1572 (by decide) rfl rfl ?_
  exact am_callv (d' := d + 8) (kc := 0) (ks := 0) (as := [.inr (.inr (some (19, 1)))]) dX12_stage_15 wc_X12_wordOf wd_1944 wd_1946 wd_60 wd_122 ds_X12_wordOf (by decide) (by omega) (Nat.le_of_ble_eq_true rfl) (Nat.zero_le _) (Nat.zero_le _) hc_10 (by decide) rfl rfl h
theorem bX12_stage_18 {SC : Nat → Nat} {X : mh_X} {d : Nat} {Q : Option am_V → am_W → Prop} {bc bs : Nat} {w : am_W} {x2 : Int} {x1 : Int} {xs0 : Int}
    (h : ((1 ≤ xs0 → ((¬ x2 = 4 → ((x2 ≤ 0 → am_A (mh_G X) SC (d + 9) mX12_stage Q 86 [(0, .inr (.inr (some (9, 0)))), (1, .inl x1), (2, .inl x2), (3, .inl xs0)] [] w bc bs) ∧ (¬ x2 ≤ 0 → (0 ≤ x1 ∧ (x1 < 30 ∧ (0 ≤ (am_w ((am_w (3 * x2)) - 3)) ∧ ((am_w ((am_w (3 * x2)) - 3)) < 12 ∧ ((xs0 < (w.1 81 (30 * 6 + x1.toNat) (am_w ((am_w (3 * x2)) - 3)).toNat) → am_A (mh_G X) SC (d + 9) mX12_stage Q 86 [(0, .inr (.inr (some (9, 0)))), (1, .inl x1), (2, .inl x2), (3, .inl xs0)] [] w bc bs) ∧ (¬ xs0 < (w.1 81 (30 * 6 + x1.toNat) (am_w ((am_w (3 * x2)) - 3)).toNat) → am_M (mh_G X) SC (d + 8) 0 0 mX12_faults [.inr (.inr (some (9, 0))), .inl (w.1 9 0 32), .inl 4] w (fun r w1 => am_A (mh_G X) SC (d + 9) mX12_stage Q 86 [(3, .inl xs0), (2, .inl x2), (0, .inr (.inr (some (9, 0)))), (1, .inl x1)] (r.toList ++ []) w1 bc bs)))))))))) ∧ (x2 = 4 → am_M (mh_G X) SC (d + 8) 0 0 mX12_faults [.inr (.inr (some (9, 0))), .inl (w.1 9 0 32), .inl 6] w (fun r w1 => am_A (mh_G X) SC (d + 9) mX12_stage Q 51 [(3, .inl xs0), (2, .inl x2), (0, .inr (.inr (some (9, 0)))), (1, .inl x1)] (r.toList ++ []) w1 bc bs)))) ∧ (¬ 1 ≤ xs0 → am_M (mh_G X) SC (d + 8) 0 0 mX12_faults [.inr (.inr (some (9, 0))), .inl (w.1 9 0 32), .inl 2] w (fun r w1 => am_A (mh_G X) SC (d + 9) mX12_stage Q 33 [(3, .inl xs0), (2, .inl x2), (0, .inr (.inr (some (9, 0)))), (1, .inl x1)] (r.toList ++ []) w1 bc bs)))) :
    am_A (mh_G X) SC (d + 9) mX12_stage Q 18 [(2, .inl x2), (0, .inr (.inr (some (9, 0)))), (1, .inl x1)] [.inl xs0] w bc bs := by
  refine am_istore_n (ls' := [(3, .inl xs0), (2, .inl x2), (0, .inr (.inr (some (9, 0)))), (1, .inl x1)]) dX12_stage_18 (by decide) rfl ?_
  refine am_iload_n dX12_stage_19 (List.Mem.head _) ?_
  refine am_iconst dX12_stage_20 (by unfold am_rg; omega) ?_
  refine am_icmpge (tgt := 36) dX12_stage_21 (by decide) (fun c1 => ?_) (fun c1 => ?_)
  · replace h := h.1 c1
    refine am_iload_n dX12_stage_36 (List.Mem.tail _ (List.Mem.head _)) ?_
    refine am_iconst dX12_stage_37 (by unfold am_rg; omega) ?_
    refine am_icmpne (tgt := 54) dX12_stage_38 (by decide) (fun c2 => ?_) (fun c2 => ?_)
    · replace h := h.1 c2
      refine am_iload_n dX12_stage_54 (List.Mem.tail _ (List.Mem.head _)) ?_
      refine am_ifle (tgt := 86) dX12_stage_55 (by decide) (fun c3 => ?_) (fun c3 => ?_)
      · replace h := h.1 c3
        exact am_sub [2, 3, 1, 0] rfl h
      · replace h := h.2 c3
        refine am_iload_n dX12_stage_58 (List.Mem.head _) ?_
        refine am_aload_n dX12_stage_59 (List.Mem.tail _ (List.Mem.tail _ (List.Mem.head _))) ?_
        refine am_getf (f := 12) (v := .inr (.inr (some (79, 0)))) dX12_stage_60 hc_10 (by decide) wd_1561 (by decide) rfl rfl ?_
        refine am_bipush dX12_stage_63 (by decide) (by unfold am_rg; omega) ?_
        refine am_aaload (kd := 6) (r := some (80, 6)) dX12_stage_65 (by decide) rfl (by decide) (by decide) (by decide) (show (6 : Int) < (7 : Nat) by decide) rfl ?_
        refine am_iload_n dX12_stage_66 (List.Mem.tail _ (List.Mem.tail _ (List.Mem.tail _ (List.Mem.head _)))) ?_
        have o4 := h.1
        replace h := h.2
        have o5 := h.1
        replace h := h.2
        refine am_aaload (kd := 5) (r := some (81, (30 * 6 + x1.toNat))) dX12_stage_67 (by decide) rfl (by decide) (by decide) o4 o5 rfl ?_
        refine am_iconst dX12_stage_68 (by unfold am_rg; omega) ?_
        refine am_iload_n dX12_stage_69 (List.Mem.tail _ (List.Mem.head _)) ?_
        refine am_imul dX12_stage_70 ?_
        refine am_iconst dX12_stage_71 (by unfold am_rg; omega) ?_
        refine am_isub dX12_stage_72 ?_
        have o6 := h.1
        replace h := h.2
        have o7 := h.1
        replace h := h.2
        refine am_iaload (v := (w.1 81 (30 * 6 + x1.toNat) (am_w ((am_w (3 * x2)) - 3)).toNat)) dX12_stage_73 (by decide) rfl o6 o7 rfl ?_
        refine am_icmplt (tgt := 86) dX12_stage_74 (by decide) (fun c8 => ?_) (fun c8 => ?_)
        · replace h := h.1 c8
          exact am_sub [2, 3, 1, 0] rfl h
        · replace h := h.2 c8
          refine am_aload_n dX12_stage_77 (List.Mem.tail _ (List.Mem.tail _ (List.Mem.head _))) ?_
          refine am_aload_n dX12_stage_78 (List.Mem.tail _ (List.Mem.tail _ (List.Mem.head _))) ?_
          refine am_getf (f := 32) (v := .inl (w.1 9 0 32)) dX12_stage_79 hc_10 (by decide) wd_1581 (by decide) rfl rfl ?_
          refine am_iconst dX12_stage_82 (by unfold am_rg; omega) ?_
          exact am_callv (d' := d + 8) (kc := 0) (ks := 0) (as := [.inl (w.1 9 0 32), .inl 4]) dX12_stage_83 wc_X12_faults wd_1925 wd_1927 wd_56 wd_122 ds_X12_faults (by decide) (by omega) (Nat.le_of_ble_eq_true rfl) (Nat.zero_le _) (Nat.zero_le _) hc_10 (by decide) rfl rfl h
    · replace h := h.2 c2
      refine am_aload_n dX12_stage_41 (List.Mem.tail _ (List.Mem.tail _ (List.Mem.head _))) ?_
      refine am_aload_n dX12_stage_42 (List.Mem.tail _ (List.Mem.tail _ (List.Mem.head _))) ?_
      refine am_getf (f := 32) (v := .inl (w.1 9 0 32)) dX12_stage_43 hc_10 (by decide) wd_1581 (by decide) rfl rfl ?_
      refine am_bipush dX12_stage_46 (by decide) (by unfold am_rg; omega) ?_
      exact am_callv (d' := d + 8) (kc := 0) (ks := 0) (as := [.inl (w.1 9 0 32), .inl 6]) dX12_stage_48 wc_X12_faults wd_1925 wd_1927 wd_56 wd_122 ds_X12_faults (by decide) (by omega) (Nat.le_of_ble_eq_true rfl) (Nat.zero_le _) (Nat.zero_le _) hc_10 (by decide) rfl rfl h
  · replace h := h.2 c1
    refine am_aload_n dX12_stage_24 (List.Mem.tail _ (List.Mem.tail _ (List.Mem.head _))) ?_
    refine am_aload_n dX12_stage_25 (List.Mem.tail _ (List.Mem.tail _ (List.Mem.head _))) ?_
    refine am_getf (f := 32) (v := .inl (w.1 9 0 32)) dX12_stage_26 hc_10 (by decide) wd_1581 (by decide) rfl rfl ?_
    refine am_iconst dX12_stage_29 (by unfold am_rg; omega) ?_
    exact am_callv (d' := d + 8) (kc := 0) (ks := 0) (as := [.inl (w.1 9 0 32), .inl 2]) dX12_stage_30 wc_X12_faults wd_1925 wd_1927 wd_56 wd_122 ds_X12_faults (by decide) (by omega) (Nat.le_of_ble_eq_true rfl) (Nat.zero_le _) (Nat.zero_le _) hc_10 (by decide) rfl rfl h
theorem bX12_stage_86 {SC : Nat → Nat} {X : mh_X} {d : Nat} {Q : Option am_V → am_W → Prop} {bc bs : Nat} {w : am_W} {x1 : Int} {x2 : Int} {x3 : Int}
    (h : ((((am_up w.1 9 0 32 (am_w ((w.1 9 0 32) + 1))) 9 0 4) = 0 → am_M (mh_G X) SC (d + 8) 0 0 mX12_number [.inr (.inr (some (9, 0))), .inl 1, .inl 999] ((am_up w.1 9 0 32 (am_w ((w.1 9 0 32) + 1))), w.2) (fun r w1 => am_A (mh_G X) SC (d + 9) mX12_stage Q 112 [(0, .inr (.inr (some (9, 0)))), (1, .inl x1), (2, .inl x2), (3, .inl x3)] (r.toList ++ []) w1 bc bs)) ∧ (¬ ((am_up w.1 9 0 32 (am_w ((w.1 9 0 32) + 1))) 9 0 4) = 0 → Q none ((am_up w.1 9 0 32 (am_w ((w.1 9 0 32) + 1))), w.2)))) :
    am_A (mh_G X) SC (d + 9) mX12_stage Q 86 [(0, .inr (.inr (some (9, 0)))), (1, .inl x1), (2, .inl x2), (3, .inl x3)] [] w bc bs := by
  refine am_aload_n dX12_stage_86 (List.Mem.head _) ?_
  refine am_dup dX12_stage_87 rfl ?_
  refine am_getf (f := 32) (v := .inl (w.1 9 0 32)) dX12_stage_88 hc_10 (by decide) wd_1581 (by decide) rfl rfl ?_
  refine am_iconst dX12_stage_91 (by unfold am_rg; omega) ?_
  refine am_iadd dX12_stage_92 ?_
  refine am_putf (f := 32) dX12_stage_93 hc_10 (by decide) wd_1581 rfl (Or.inl rfl) (Or.inl (by decide)) rfl ?_
  refine am_aload_n dX12_stage_96 (List.Mem.head _) ?_
  refine am_getf (f := 4) (v := .inl ((am_up w.1 9 0 32 (am_w ((w.1 9 0 32) + 1))) 9 0 4)) dX12_stage_97 hc_10 (by decide) wd_1553 (by decide) rfl rfl ?_
  refine am_ifeq (tgt := 104) dX12_stage_100 (by decide) (fun c1 => ?_) (fun c1 => ?_)
  · replace h := h.1 c1
    refine am_aload_n dX12_stage_104 (List.Mem.head _) ?_
    refine am_iconst dX12_stage_105 (by unfold am_rg; omega) ?_
    refine am_sipush dX12_stage_106 (by decide) (by unfold am_rg; omega) ?_
    exact am_callv (d' := d + 8) (kc := 0) (ks := 0) (as := [.inl 1, .inl 999]) dX12_stage_109 wc_X12_number wd_1961 wd_1963 wd_64 wd_122 ds_X12_number (by decide) (by omega) (Nat.le_of_ble_eq_true rfl) (Nat.zero_le _) (Nat.zero_le _) hc_10 (by decide) rfl rfl h
  · replace h := h.2 c1
    exact am_ret (r := none) dX12_stage_103 rfl rfl h
theorem bX12_stage_86a {SC : Nat → Nat} {X : mh_X} {d : Nat} {Q : Option am_V → am_W → Prop} {bc bs : Nat} {w : am_W} {x3 : Int} {x2 : Int} {x1 : Int}
    (h : ((((am_up w.1 9 0 32 (am_w ((w.1 9 0 32) + 1))) 9 0 4) = 0 → am_M (mh_G X) SC (d + 8) 0 0 mX12_number [.inr (.inr (some (9, 0))), .inl 1, .inl 999] ((am_up w.1 9 0 32 (am_w ((w.1 9 0 32) + 1))), w.2) (fun r w1 => am_A (mh_G X) SC (d + 9) mX12_stage Q 112 [(3, .inl x3), (2, .inl x2), (0, .inr (.inr (some (9, 0)))), (1, .inl x1)] (r.toList ++ []) w1 bc bs)) ∧ (¬ ((am_up w.1 9 0 32 (am_w ((w.1 9 0 32) + 1))) 9 0 4) = 0 → Q none ((am_up w.1 9 0 32 (am_w ((w.1 9 0 32) + 1))), w.2)))) :
    am_A (mh_G X) SC (d + 9) mX12_stage Q 86 [(3, .inl x3), (2, .inl x2), (0, .inr (.inr (some (9, 0)))), (1, .inl x1)] [] w bc bs := by
  refine am_aload_n dX12_stage_86 (List.Mem.tail _ (List.Mem.tail _ (List.Mem.head _))) ?_
  refine am_dup dX12_stage_87 rfl ?_
  refine am_getf (f := 32) (v := .inl (w.1 9 0 32)) dX12_stage_88 hc_10 (by decide) wd_1581 (by decide) rfl rfl ?_
  refine am_iconst dX12_stage_91 (by unfold am_rg; omega) ?_
  refine am_iadd dX12_stage_92 ?_
  refine am_putf (f := 32) dX12_stage_93 hc_10 (by decide) wd_1581 rfl (Or.inl rfl) (Or.inl (by decide)) rfl ?_
  refine am_aload_n dX12_stage_96 (List.Mem.tail _ (List.Mem.tail _ (List.Mem.head _))) ?_
  refine am_getf (f := 4) (v := .inl ((am_up w.1 9 0 32 (am_w ((w.1 9 0 32) + 1))) 9 0 4)) dX12_stage_97 hc_10 (by decide) wd_1553 (by decide) rfl rfl ?_
  refine am_ifeq (tgt := 104) dX12_stage_100 (by decide) (fun c1 => ?_) (fun c1 => ?_)
  · replace h := h.1 c1
    refine am_aload_n dX12_stage_104 (List.Mem.tail _ (List.Mem.tail _ (List.Mem.head _))) ?_
    refine am_iconst dX12_stage_105 (by unfold am_rg; omega) ?_
    refine am_sipush dX12_stage_106 (by decide) (by unfold am_rg; omega) ?_
    exact am_callv (d' := d + 8) (kc := 0) (ks := 0) (as := [.inl 1, .inl 999]) dX12_stage_109 wc_X12_number wd_1961 wd_1963 wd_64 wd_122 ds_X12_number (by decide) (by omega) (Nat.le_of_ble_eq_true rfl) (Nat.zero_le _) (Nat.zero_le _) hc_10 (by decide) rfl rfl h
  · replace h := h.2 c1
    exact am_ret (r := none) dX12_stage_103 rfl rfl h
theorem bX12_stage_51 {SC : Nat → Nat} {X : mh_X} {d : Nat} {Q : Option am_V → am_W → Prop} {bc bs : Nat} {w : am_W} {x3 : Int} {x2 : Int} {x1 : Int}
    (h : am_A (mh_G X) SC (d + 9) mX12_stage Q 86 [(0, .inr (.inr (some (9, 0)))), (1, .inl x1), (2, .inl x2), (3, .inl x3)] [] w bc bs) :
    am_A (mh_G X) SC (d + 9) mX12_stage Q 51 [(3, .inl x3), (2, .inl x2), (0, .inr (.inr (some (9, 0)))), (1, .inl x1)] [] w bc bs := by
  refine am_goto (tgt := 86) dX12_stage_51 (by decide) ?_
  exact am_sub [2, 3, 1, 0] rfl h
theorem bX12_stage_33 {SC : Nat → Nat} {X : mh_X} {d : Nat} {Q : Option am_V → am_W → Prop} {bc bs : Nat} {w : am_W} {x3 : Int} {x2 : Int} {x1 : Int}
    (h : am_A (mh_G X) SC (d + 9) mX12_stage Q 86 [(0, .inr (.inr (some (9, 0)))), (1, .inl x1), (2, .inl x2), (3, .inl x3)] [] w bc bs) :
    am_A (mh_G X) SC (d + 9) mX12_stage Q 33 [(3, .inl x3), (2, .inl x2), (0, .inr (.inr (some (9, 0)))), (1, .inl x1)] [] w bc bs := by
  refine am_goto (tgt := 86) dX12_stage_33 (by decide) ?_
  exact am_sub [2, 3, 1, 0] rfl h
theorem bX12_stage_112 {SC : Nat → Nat} {X : mh_X} {d : Nat} {Q : Option am_V → am_W → Prop} {bc bs : Nat} {w : am_W} {x1 : Int} {x2 : Int} {x3 : Int} {xs0 : Int}
    (h : am_M (mh_G X) SC (d + 8) 0 0 mX12_needs [.inr (.inr (some (9, 0))), .inr (.inr (some (19, 2)))] w (fun r w1 => am_A (mh_G X) SC (d + 9) mX12_stage Q 122 [(4, .inl xs0), (0, .inr (.inr (some (9, 0)))), (1, .inl x1), (2, .inl x2), (3, .inl x3)] (r.toList ++ []) w1 bc bs)) :
    am_A (mh_G X) SC (d + 9) mX12_stage Q 112 [(0, .inr (.inr (some (9, 0)))), (1, .inl x1), (2, .inl x2), (3, .inl x3)] [.inl xs0] w bc bs := by
  refine am_istore (ls' := [(4, .inl xs0), (0, .inr (.inr (some (9, 0)))), (1, .inl x1), (2, .inl x2), (3, .inl x3)]) dX12_stage_112 (by decide) rfl ?_
  refine am_aload_n dX12_stage_114 (List.Mem.tail _ (List.Mem.head _)) ?_
  refine am_aload_n dX12_stage_115 (List.Mem.tail _ (List.Mem.head _)) ?_
  refine am_getf (f := 24) (v := .inr (.inr (some (19, 2)))) dX12_stage_116 hc_10 (by decide) wd_1573 (by decide) rfl rfl ?_
  exact am_callv (d' := d + 8) (kc := 0) (ks := 0) (as := [.inr (.inr (some (19, 2)))]) dX12_stage_119 wc_X12_needs wd_1965 wd_1967 wd_65 wd_122 ds_X12_needs (by decide) (by omega) (Nat.le_of_ble_eq_true rfl) (Nat.zero_le _) (Nat.zero_le _) hc_10 (by decide) rfl rfl h
theorem bX12_stage_112a {SC : Nat → Nat} {X : mh_X} {d : Nat} {Q : Option am_V → am_W → Prop} {bc bs : Nat} {w : am_W} {x3 : Int} {x2 : Int} {x1 : Int} {xs0 : Int}
    (h : am_M (mh_G X) SC (d + 8) 0 0 mX12_needs [.inr (.inr (some (9, 0))), .inr (.inr (some (19, 2)))] w (fun r w1 => am_A (mh_G X) SC (d + 9) mX12_stage Q 122 [(4, .inl xs0), (3, .inl x3), (2, .inl x2), (0, .inr (.inr (some (9, 0)))), (1, .inl x1)] (r.toList ++ []) w1 bc bs)) :
    am_A (mh_G X) SC (d + 9) mX12_stage Q 112 [(3, .inl x3), (2, .inl x2), (0, .inr (.inr (some (9, 0)))), (1, .inl x1)] [.inl xs0] w bc bs := by
  refine am_istore (ls' := [(4, .inl xs0), (3, .inl x3), (2, .inl x2), (0, .inr (.inr (some (9, 0)))), (1, .inl x1)]) dX12_stage_112 (by decide) rfl ?_
  refine am_aload_n dX12_stage_114 (List.Mem.tail _ (List.Mem.tail _ (List.Mem.tail _ (List.Mem.head _)))) ?_
  refine am_aload_n dX12_stage_115 (List.Mem.tail _ (List.Mem.tail _ (List.Mem.tail _ (List.Mem.head _)))) ?_
  refine am_getf (f := 24) (v := .inr (.inr (some (19, 2)))) dX12_stage_116 hc_10 (by decide) wd_1573 (by decide) rfl rfl ?_
  exact am_callv (d' := d + 8) (kc := 0) (ks := 0) (as := [.inr (.inr (some (19, 2)))]) dX12_stage_119 wc_X12_needs wd_1965 wd_1967 wd_65 wd_122 ds_X12_needs (by decide) (by omega) (Nat.le_of_ble_eq_true rfl) (Nat.zero_le _) (Nat.zero_le _) hc_10 (by decide) rfl rfl h
theorem bX12_stage_122 {SC : Nat → Nat} {X : mh_X} {d : Nat} {Q : Option am_V → am_W → Prop} {bc bs : Nat} {w : am_W} {x4 : Int} {x1 : Int} {x2 : Int} {x3 : Int} {xs0 : Int}
    (h : (((w.1 9 0 4) = 0 → (0 ≤ x1 ∧ (x1 < 30 ∧ (0 ≤ (am_w (3 * x2)) ∧ ((am_w (3 * x2)) < 12 ∧ (0 ≤ (am_w ((am_w (3 * x2)) + 1)) ∧ ((am_w ((am_w (3 * x2)) + 1)) < 12 ∧ (0 ≤ (am_w ((am_w (3 * x2)) + 2)) ∧ ((am_w ((am_w (3 * x2)) + 2)) < 12 ∧ Q none ((am_up (am_up (am_up (am_up w.1 81 (30 * 6 + x1.toNat) (am_w (3 * x2)).toNat x3) 81 (30 * 6 + x1.toNat) (am_w ((am_w (3 * x2)) + 1)).toNat x4) 81 (30 * 6 + x1.toNat) (am_w ((am_w (3 * x2)) + 2)).toNat xs0) 73 6 x1.toNat (am_w ((w.1 73 6 x1.toNat) + 1))), w.2)))))))))) ∧ (¬ (w.1 9 0 4) = 0 → Q none w))) :
    am_A (mh_G X) SC (d + 9) mX12_stage Q 122 [(4, .inl x4), (0, .inr (.inr (some (9, 0)))), (1, .inl x1), (2, .inl x2), (3, .inl x3)] [.inl xs0] w bc bs := by
  refine am_istore (ls' := [(5, .inl xs0), (4, .inl x4), (0, .inr (.inr (some (9, 0)))), (1, .inl x1), (2, .inl x2), (3, .inl x3)]) dX12_stage_122 (by decide) rfl ?_
  refine am_aload_n dX12_stage_124 (List.Mem.tail _ (List.Mem.tail _ (List.Mem.head _))) ?_
  refine am_getf (f := 4) (v := .inl (w.1 9 0 4)) dX12_stage_125 hc_10 (by decide) wd_1553 (by decide) rfl rfl ?_
  refine am_ifeq (tgt := 132) dX12_stage_128 (by decide) (fun c1 => ?_) (fun c1 => ?_)
  · replace h := h.1 c1
    refine am_aload_n dX12_stage_132 (List.Mem.tail _ (List.Mem.tail _ (List.Mem.head _))) ?_
    refine am_getf (f := 12) (v := .inr (.inr (some (79, 0)))) dX12_stage_133 hc_10 (by decide) wd_1561 (by decide) rfl rfl ?_
    refine am_bipush dX12_stage_136 (by decide) (by unfold am_rg; omega) ?_
    refine am_aaload (kd := 6) (r := some (80, 6)) dX12_stage_138 (by decide) rfl (by decide) (by decide) (by decide) (show (6 : Int) < (7 : Nat) by decide) rfl ?_
    refine am_iload_n dX12_stage_139 (List.Mem.tail _ (List.Mem.tail _ (List.Mem.tail _ (List.Mem.head _)))) ?_
    have o2 := h.1
    replace h := h.2
    have o3 := h.1
    replace h := h.2
    refine am_aaload (kd := 5) (r := some (81, (30 * 6 + x1.toNat))) dX12_stage_140 (by decide) rfl (by decide) (by decide) o2 o3 rfl ?_
    refine am_iconst dX12_stage_141 (by unfold am_rg; omega) ?_
    refine am_iload_n dX12_stage_142 (List.Mem.tail _ (List.Mem.tail _ (List.Mem.tail _ (List.Mem.tail _ (List.Mem.head _))))) ?_
    refine am_imul dX12_stage_143 ?_
    refine am_iload_n dX12_stage_144 (List.Mem.tail _ (List.Mem.tail _ (List.Mem.tail _ (List.Mem.tail _ (List.Mem.tail _ (List.Mem.head _)))))) ?_
    have o4 := h.1
    replace h := h.2
    have o5 := h.1
    replace h := h.2
    refine am_iastore dX12_stage_145 (Or.inl (by decide)) rfl o4 o5 ?_
    refine am_aload_n dX12_stage_146 (List.Mem.tail _ (List.Mem.tail _ (List.Mem.head _))) ?_
    refine am_getf (f := 12) (v := .inr (.inr (some (79, 0)))) dX12_stage_147 hc_10 (by decide) wd_1561 (by decide) rfl rfl ?_
    refine am_bipush dX12_stage_150 (by decide) (by unfold am_rg; omega) ?_
    refine am_aaload (kd := 6) (r := some (80, 6)) dX12_stage_152 (by decide) rfl (by decide) (by decide) (by decide) (show (6 : Int) < (7 : Nat) by decide) rfl ?_
    refine am_iload_n dX12_stage_153 (List.Mem.tail _ (List.Mem.tail _ (List.Mem.tail _ (List.Mem.head _)))) ?_
    refine am_aaload (kd := 5) (r := some (81, (30 * 6 + x1.toNat))) dX12_stage_154 (by decide) rfl (by decide) (by decide) o2 o3 rfl ?_
    refine am_iconst dX12_stage_155 (by unfold am_rg; omega) ?_
    refine am_iload_n dX12_stage_156 (List.Mem.tail _ (List.Mem.tail _ (List.Mem.tail _ (List.Mem.tail _ (List.Mem.head _))))) ?_
    refine am_imul dX12_stage_157 ?_
    refine am_iconst dX12_stage_158 (by unfold am_rg; omega) ?_
    refine am_iadd dX12_stage_159 ?_
    refine am_iload dX12_stage_160 (List.Mem.tail _ (List.Mem.head _)) ?_
    have o6 := h.1
    replace h := h.2
    have o7 := h.1
    replace h := h.2
    refine am_iastore dX12_stage_162 (Or.inl (by decide)) rfl o6 o7 ?_
    refine am_aload_n dX12_stage_163 (List.Mem.tail _ (List.Mem.tail _ (List.Mem.head _))) ?_
    refine am_getf (f := 12) (v := .inr (.inr (some (79, 0)))) dX12_stage_164 hc_10 (by decide) wd_1561 (by decide) rfl rfl ?_
    refine am_bipush dX12_stage_167 (by decide) (by unfold am_rg; omega) ?_
    refine am_aaload (kd := 6) (r := some (80, 6)) dX12_stage_169 (by decide) rfl (by decide) (by decide) (by decide) (show (6 : Int) < (7 : Nat) by decide) rfl ?_
    refine am_iload_n dX12_stage_170 (List.Mem.tail _ (List.Mem.tail _ (List.Mem.tail _ (List.Mem.head _)))) ?_
    refine am_aaload (kd := 5) (r := some (81, (30 * 6 + x1.toNat))) dX12_stage_171 (by decide) rfl (by decide) (by decide) o2 o3 rfl ?_
    refine am_iconst dX12_stage_172 (by unfold am_rg; omega) ?_
    refine am_iload_n dX12_stage_173 (List.Mem.tail _ (List.Mem.tail _ (List.Mem.tail _ (List.Mem.tail _ (List.Mem.head _))))) ?_
    refine am_imul dX12_stage_174 ?_
    refine am_iconst dX12_stage_175 (by unfold am_rg; omega) ?_
    refine am_iadd dX12_stage_176 ?_
    refine am_iload dX12_stage_177 (List.Mem.head _) ?_
    have o8 := h.1
    replace h := h.2
    have o9 := h.1
    replace h := h.2
    refine am_iastore dX12_stage_179 (Or.inl (by decide)) rfl o8 o9 ?_
    refine am_aload_n dX12_stage_180 (List.Mem.tail _ (List.Mem.tail _ (List.Mem.head _))) ?_
    refine am_getf (f := 9) (v := .inr (.inr (some (72, 0)))) dX12_stage_181 hc_10 (by decide) wd_1558 (by decide) rfl rfl ?_
    refine am_bipush dX12_stage_184 (by decide) (by unfold am_rg; omega) ?_
    refine am_aaload (kd := 5) (r := some (73, 6)) dX12_stage_186 (by decide) rfl (by decide) (by decide) (by decide) (show (6 : Int) < (7 : Nat) by decide) rfl ?_
    refine am_iload_n dX12_stage_187 (List.Mem.tail _ (List.Mem.tail _ (List.Mem.tail _ (List.Mem.head _)))) ?_
    refine am_dup2 dX12_stage_188 rfl rfl ?_
    refine am_iaload (v := (w.1 73 6 x1.toNat)) dX12_stage_189 (by decide) rfl o2 o3 rfl ?_
    refine am_iconst dX12_stage_190 (by unfold am_rg; omega) ?_
    refine am_iadd dX12_stage_191 ?_
    refine am_iastore dX12_stage_192 (Or.inl (by decide)) rfl o2 o3 ?_
    exact am_ret (r := none) dX12_stage_193 rfl rfl h
  · replace h := h.2 c1
    exact am_ret (r := none) dX12_stage_131 rfl rfl h
theorem bX12_stage_122a {SC : Nat → Nat} {X : mh_X} {d : Nat} {Q : Option am_V → am_W → Prop} {bc bs : Nat} {w : am_W} {x4 : Int} {x3 : Int} {x2 : Int} {x1 : Int} {xs0 : Int}
    (h : (((w.1 9 0 4) = 0 → (0 ≤ x1 ∧ (x1 < 30 ∧ (0 ≤ (am_w (3 * x2)) ∧ ((am_w (3 * x2)) < 12 ∧ (0 ≤ (am_w ((am_w (3 * x2)) + 1)) ∧ ((am_w ((am_w (3 * x2)) + 1)) < 12 ∧ (0 ≤ (am_w ((am_w (3 * x2)) + 2)) ∧ ((am_w ((am_w (3 * x2)) + 2)) < 12 ∧ Q none ((am_up (am_up (am_up (am_up w.1 81 (30 * 6 + x1.toNat) (am_w (3 * x2)).toNat x3) 81 (30 * 6 + x1.toNat) (am_w ((am_w (3 * x2)) + 1)).toNat x4) 81 (30 * 6 + x1.toNat) (am_w ((am_w (3 * x2)) + 2)).toNat xs0) 73 6 x1.toNat (am_w ((w.1 73 6 x1.toNat) + 1))), w.2)))))))))) ∧ (¬ (w.1 9 0 4) = 0 → Q none w))) :
    am_A (mh_G X) SC (d + 9) mX12_stage Q 122 [(4, .inl x4), (3, .inl x3), (2, .inl x2), (0, .inr (.inr (some (9, 0)))), (1, .inl x1)] [.inl xs0] w bc bs := by
  refine am_istore (ls' := [(5, .inl xs0), (4, .inl x4), (3, .inl x3), (2, .inl x2), (0, .inr (.inr (some (9, 0)))), (1, .inl x1)]) dX12_stage_122 (by decide) rfl ?_
  refine am_aload_n dX12_stage_124 (List.Mem.tail _ (List.Mem.tail _ (List.Mem.tail _ (List.Mem.tail _ (List.Mem.head _))))) ?_
  refine am_getf (f := 4) (v := .inl (w.1 9 0 4)) dX12_stage_125 hc_10 (by decide) wd_1553 (by decide) rfl rfl ?_
  refine am_ifeq (tgt := 132) dX12_stage_128 (by decide) (fun c1 => ?_) (fun c1 => ?_)
  · replace h := h.1 c1
    refine am_aload_n dX12_stage_132 (List.Mem.tail _ (List.Mem.tail _ (List.Mem.tail _ (List.Mem.tail _ (List.Mem.head _))))) ?_
    refine am_getf (f := 12) (v := .inr (.inr (some (79, 0)))) dX12_stage_133 hc_10 (by decide) wd_1561 (by decide) rfl rfl ?_
    refine am_bipush dX12_stage_136 (by decide) (by unfold am_rg; omega) ?_
    refine am_aaload (kd := 6) (r := some (80, 6)) dX12_stage_138 (by decide) rfl (by decide) (by decide) (by decide) (show (6 : Int) < (7 : Nat) by decide) rfl ?_
    refine am_iload_n dX12_stage_139 (List.Mem.tail _ (List.Mem.tail _ (List.Mem.tail _ (List.Mem.tail _ (List.Mem.tail _ (List.Mem.head _)))))) ?_
    have o2 := h.1
    replace h := h.2
    have o3 := h.1
    replace h := h.2
    refine am_aaload (kd := 5) (r := some (81, (30 * 6 + x1.toNat))) dX12_stage_140 (by decide) rfl (by decide) (by decide) o2 o3 rfl ?_
    refine am_iconst dX12_stage_141 (by unfold am_rg; omega) ?_
    refine am_iload_n dX12_stage_142 (List.Mem.tail _ (List.Mem.tail _ (List.Mem.tail _ (List.Mem.head _)))) ?_
    refine am_imul dX12_stage_143 ?_
    refine am_iload_n dX12_stage_144 (List.Mem.tail _ (List.Mem.tail _ (List.Mem.head _))) ?_
    have o4 := h.1
    replace h := h.2
    have o5 := h.1
    replace h := h.2
    refine am_iastore dX12_stage_145 (Or.inl (by decide)) rfl o4 o5 ?_
    refine am_aload_n dX12_stage_146 (List.Mem.tail _ (List.Mem.tail _ (List.Mem.tail _ (List.Mem.tail _ (List.Mem.head _))))) ?_
    refine am_getf (f := 12) (v := .inr (.inr (some (79, 0)))) dX12_stage_147 hc_10 (by decide) wd_1561 (by decide) rfl rfl ?_
    refine am_bipush dX12_stage_150 (by decide) (by unfold am_rg; omega) ?_
    refine am_aaload (kd := 6) (r := some (80, 6)) dX12_stage_152 (by decide) rfl (by decide) (by decide) (by decide) (show (6 : Int) < (7 : Nat) by decide) rfl ?_
    refine am_iload_n dX12_stage_153 (List.Mem.tail _ (List.Mem.tail _ (List.Mem.tail _ (List.Mem.tail _ (List.Mem.tail _ (List.Mem.head _)))))) ?_
    refine am_aaload (kd := 5) (r := some (81, (30 * 6 + x1.toNat))) dX12_stage_154 (by decide) rfl (by decide) (by decide) o2 o3 rfl ?_
    refine am_iconst dX12_stage_155 (by unfold am_rg; omega) ?_
    refine am_iload_n dX12_stage_156 (List.Mem.tail _ (List.Mem.tail _ (List.Mem.tail _ (List.Mem.head _)))) ?_
    refine am_imul dX12_stage_157 ?_
    refine am_iconst dX12_stage_158 (by unfold am_rg; omega) ?_
    refine am_iadd dX12_stage_159 ?_
    refine am_iload dX12_stage_160 (List.Mem.tail _ (List.Mem.head _)) ?_
    have o6 := h.1
    replace h := h.2
    have o7 := h.1
    replace h := h.2
    refine am_iastore dX12_stage_162 (Or.inl (by decide)) rfl o6 o7 ?_
    refine am_aload_n dX12_stage_163 (List.Mem.tail _ (List.Mem.tail _ (List.Mem.tail _ (List.Mem.tail _ (List.Mem.head _))))) ?_
    refine am_getf (f := 12) (v := .inr (.inr (some (79, 0)))) dX12_stage_164 hc_10 (by decide) wd_1561 (by decide) rfl rfl ?_
    refine am_bipush dX12_stage_167 (by decide) (by unfold am_rg; omega) ?_
    refine am_aaload (kd := 6) (r := some (80, 6)) dX12_stage_169 (by decide) rfl (by decide) (by decide) (by decide) (show (6 : Int) < (7 : Nat) by decide) rfl ?_
    refine am_iload_n dX12_stage_170 (List.Mem.tail _ (List.Mem.tail _ (List.Mem.tail _ (List.Mem.tail _ (List.Mem.tail _ (List.Mem.head _)))))) ?_
    refine am_aaload (kd := 5) (r := some (81, (30 * 6 + x1.toNat))) dX12_stage_171 (by decide) rfl (by decide) (by decide) o2 o3 rfl ?_
    refine am_iconst dX12_stage_172 (by unfold am_rg; omega) ?_
    refine am_iload_n dX12_stage_173 (List.Mem.tail _ (List.Mem.tail _ (List.Mem.tail _ (List.Mem.head _)))) ?_
    refine am_imul dX12_stage_174 ?_
    refine am_iconst dX12_stage_175 (by unfold am_rg; omega) ?_
    refine am_iadd dX12_stage_176 ?_
    refine am_iload dX12_stage_177 (List.Mem.head _) ?_
    have o8 := h.1
    replace h := h.2
    have o9 := h.1
    replace h := h.2
    refine am_iastore dX12_stage_179 (Or.inl (by decide)) rfl o8 o9 ?_
    refine am_aload_n dX12_stage_180 (List.Mem.tail _ (List.Mem.tail _ (List.Mem.tail _ (List.Mem.tail _ (List.Mem.head _))))) ?_
    refine am_getf (f := 9) (v := .inr (.inr (some (72, 0)))) dX12_stage_181 hc_10 (by decide) wd_1558 (by decide) rfl rfl ?_
    refine am_bipush dX12_stage_184 (by decide) (by unfold am_rg; omega) ?_
    refine am_aaload (kd := 5) (r := some (73, 6)) dX12_stage_186 (by decide) rfl (by decide) (by decide) (by decide) (show (6 : Int) < (7 : Nat) by decide) rfl ?_
    refine am_iload_n dX12_stage_187 (List.Mem.tail _ (List.Mem.tail _ (List.Mem.tail _ (List.Mem.tail _ (List.Mem.tail _ (List.Mem.head _)))))) ?_
    refine am_dup2 dX12_stage_188 rfl rfl ?_
    refine am_iaload (v := (w.1 73 6 x1.toNat)) dX12_stage_189 (by decide) rfl o2 o3 rfl ?_
    refine am_iconst dX12_stage_190 (by unfold am_rg; omega) ?_
    refine am_iadd dX12_stage_191 ?_
    refine am_iastore dX12_stage_192 (Or.inl (by decide)) rfl o2 o3 ?_
    exact am_ret (r := none) dX12_stage_193 rfl rfl h
  · replace h := h.2 c1
    exact am_ret (r := none) dX12_stage_131 rfl rfl h
-- MourningHouseModel.word(I)V
theorem dX12_word_0 : decode mX12_word.2.1 0 = .ok (.aload_n 0, 1) := by decide +kernel
theorem dX12_word_1 : decode mX12_word.2.1 1 = .ok (.getfield 25, 3) := by decide +kernel
theorem dX12_word_4 : decode mX12_word.2.1 4 = .ok (.bipush 6, 2) := by decide +kernel
theorem dX12_word_6 : decode mX12_word.2.1 6 = .ok (.aaload, 1) := by decide +kernel
theorem dX12_word_7 : decode mX12_word.2.1 7 = .ok (.iload_n 1, 1) := by decide +kernel
theorem dX12_word_8 : decode mX12_word.2.1 8 = .ok (.iaload, 1) := by decide +kernel
theorem dX12_word_9 : decode mX12_word.2.1 9 = .ok (.istore_n 2, 1) := by decide +kernel
theorem dX12_word_10 : decode mX12_word.2.1 10 = .ok (.aload_n 0, 1) := by decide +kernel
theorem dX12_word_11 : decode mX12_word.2.1 11 = .ok (.aload_n 0, 1) := by decide +kernel
theorem dX12_word_12 : decode mX12_word.2.1 12 = .ok (.getfield 92, 3) := by decide +kernel
theorem dX12_word_15 : decode mX12_word.2.1 15 = .ok (.invokevirtual 377, 3) := by decide +kernel
theorem dX12_word_18 : decode mX12_word.2.1 18 = .ok (.istore_n 3, 1) := by decide +kernel
theorem dX12_word_19 : decode mX12_word.2.1 19 = .ok (.iload_n 3, 1) := by decide +kernel
theorem dX12_word_20 : decode mX12_word.2.1 20 = .ok (.iconst (-1), 1) := by decide +kernel
theorem dX12_word_21 : decode mX12_word.2.1 21 = .ok (.if_icmp .ne 15, 3) := by decide +kernel
theorem dX12_word_24 : decode mX12_word.2.1 24 = .ok (.aload_n 0, 1) := by decide +kernel
theorem dX12_word_25 : decode mX12_word.2.1 25 = .ok (.aload_n 0, 1) := by decide +kernel
theorem dX12_word_26 : decode mX12_word.2.1 26 = .ok (.getfield 362, 3) := by decide +kernel
theorem dX12_word_29 : decode mX12_word.2.1 29 = .ok (.iconst 2, 1) := by decide +kernel
theorem dX12_word_30 : decode mX12_word.2.1 30 = .ok (.invokevirtual 358, 3) := by decide +kernel
theorem dX12_word_33 : decode mX12_word.2.1 33 = .ok (.goto 18, 3) := by decide +kernel
theorem dX12_word_36 : decode mX12_word.2.1 36 = .ok (.iload_n 2, 1) := by decide +kernel
theorem dX12_word_37 : decode mX12_word.2.1 37 = .ok (.iconst 4, 1) := by decide +kernel
theorem dX12_word_38 : decode mX12_word.2.1 38 = .ok (.if_icmp .ne 13, 3) := by decide +kernel
theorem dX12_word_41 : decode mX12_word.2.1 41 = .ok (.aload_n 0, 1) := by decide +kernel
theorem dX12_word_42 : decode mX12_word.2.1 42 = .ok (.aload_n 0, 1) := by decide +kernel
theorem dX12_word_43 : decode mX12_word.2.1 43 = .ok (.getfield 362, 3) := by decide +kernel
theorem dX12_word_46 : decode mX12_word.2.1 46 = .ok (.bipush 6, 2) := by decide +kernel
theorem dX12_word_48 : decode mX12_word.2.1 48 = .ok (.invokevirtual 358, 3) := by decide +kernel
theorem dX12_word_51 : decode mX12_word.2.1 51 = .ok (.aload_n 0, 1) := by decide +kernel
theorem dX12_word_52 : decode mX12_word.2.1 52 = .ok (.dup, 1) := by decide +kernel
theorem dX12_word_53 : decode mX12_word.2.1 53 = .ok (.getfield 362, 3) := by decide +kernel
theorem dX12_word_56 : decode mX12_word.2.1 56 = .ok (.iconst 1, 1) := by decide +kernel
theorem dX12_word_57 : decode mX12_word.2.1 57 = .ok (.iadd, 1) := by decide +kernel
theorem dX12_word_58 : decode mX12_word.2.1 58 = .ok (.putfield 362, 3) := by decide +kernel
theorem dX12_word_61 : decode mX12_word.2.1 61 = .ok (.aload_n 0, 1) := by decide +kernel
theorem dX12_word_62 : decode mX12_word.2.1 62 = .ok (.getfield 337, 3) := by decide +kernel
theorem dX12_word_65 : decode mX12_word.2.1 65 = .ok (.ifCond .eq 4, 3) := by decide +kernel
theorem dX12_word_68 : decode mX12_word.2.1 68 = .ok (.return_, 1) := by decide +kernel
theorem dX12_word_69 : decode mX12_word.2.1 69 = .ok (.aload_n 0, 1) := by decide +kernel
theorem dX12_word_70 : decode mX12_word.2.1 70 = .ok (.getfield 36, 3) := by decide +kernel
theorem dX12_word_73 : decode mX12_word.2.1 73 = .ok (.bipush 6, 2) := by decide +kernel
theorem dX12_word_75 : decode mX12_word.2.1 75 = .ok (.aaload, 1) := by decide +kernel
theorem dX12_word_76 : decode mX12_word.2.1 76 = .ok (.iload_n 1, 1) := by decide +kernel
theorem dX12_word_77 : decode mX12_word.2.1 77 = .ok (.aaload, 1) := by decide +kernel
theorem dX12_word_78 : decode mX12_word.2.1 78 = .ok (.iload_n 2, 1) := by decide +kernel
theorem dX12_word_79 : decode mX12_word.2.1 79 = .ok (.iload_n 3, 1) := by decide +kernel
theorem dX12_word_80 : decode mX12_word.2.1 80 = .ok (.iastore, 1) := by decide +kernel
theorem dX12_word_81 : decode mX12_word.2.1 81 = .ok (.aload_n 0, 1) := by decide +kernel
theorem dX12_word_82 : decode mX12_word.2.1 82 = .ok (.getfield 25, 3) := by decide +kernel
theorem dX12_word_85 : decode mX12_word.2.1 85 = .ok (.bipush 6, 2) := by decide +kernel
theorem dX12_word_87 : decode mX12_word.2.1 87 = .ok (.aaload, 1) := by decide +kernel
theorem dX12_word_88 : decode mX12_word.2.1 88 = .ok (.iload_n 1, 1) := by decide +kernel
theorem dX12_word_89 : decode mX12_word.2.1 89 = .ok (.dup2, 1) := by decide +kernel
theorem dX12_word_90 : decode mX12_word.2.1 90 = .ok (.iaload, 1) := by decide +kernel
theorem dX12_word_91 : decode mX12_word.2.1 91 = .ok (.iconst 1, 1) := by decide +kernel
theorem dX12_word_92 : decode mX12_word.2.1 92 = .ok (.iadd, 1) := by decide +kernel
theorem dX12_word_93 : decode mX12_word.2.1 93 = .ok (.iastore, 1) := by decide +kernel
theorem dX12_word_94 : decode mX12_word.2.1 94 = .ok (.return_, 1) := by decide +kernel
theorem bX12_word_0 {SC : Nat → Nat} {X : mh_X} {d : Nat} {Q : Option am_V → am_W → Prop} {bc bs : Nat} {w : am_W} {x1 : Int}
    (h : (0 ≤ x1 ∧ (x1 < 30 ∧ am_M (mh_G X) SC (d + 7) 0 0 mX12_wordOf [.inr (.inr (some (9, 0))), .inr (.inr (some (19, 0)))] w (fun r w1 => am_A (mh_G X) SC (d + 8) mX12_word Q 18 [(2, .inl (w.1 71 6 x1.toNat)), (0, .inr (.inr (some (9, 0)))), (1, .inl x1)] (r.toList ++ []) w1 bc bs)))) :
    am_A (mh_G X) SC (d + 8) mX12_word Q 0 [(0, .inr (.inr (some (9, 0)))), (1, .inl x1)] [] w bc bs := by
  refine am_aload_n dX12_word_0 (List.Mem.head _) ?_
  refine am_getf (f := 8) (v := .inr (.inr (some (70, 0)))) dX12_word_1 hc_10 (by decide) wd_1557 (by decide) rfl rfl ?_
  refine am_bipush dX12_word_4 (by decide) (by unfold am_rg; omega) ?_
  refine am_aaload (kd := 5) (r := some (71, 6)) dX12_word_6 (by decide) rfl (by decide) (by decide) (by decide) (show (6 : Int) < (7 : Nat) by decide) rfl ?_
  refine am_iload_n dX12_word_7 (List.Mem.tail _ (List.Mem.head _)) ?_
  have o1 := h.1
  replace h := h.2
  have o2 := h.1
  replace h := h.2
  refine am_iaload (v := (w.1 71 6 x1.toNat)) dX12_word_8 (by decide) rfl o1 o2 rfl ?_
  refine am_istore_n (ls' := [(2, .inl (w.1 71 6 x1.toNat)), (0, .inr (.inr (some (9, 0)))), (1, .inl x1)]) dX12_word_9 (by decide) rfl ?_
  refine am_aload_n dX12_word_10 (List.Mem.tail _ (List.Mem.head _)) ?_
  refine am_aload_n dX12_word_11 (List.Mem.tail _ (List.Mem.head _)) ?_
  refine am_getf (f := 22) (v := .inr (.inr (some (19, 0)))) dX12_word_12 hc_10 (by decide) wd_1571 (by decide) rfl rfl ?_
  exact am_callv (d' := d + 7) (kc := 0) (ks := 0) (as := [.inr (.inr (some (19, 0)))]) dX12_word_15 wc_X12_wordOf wd_1944 wd_1946 wd_60 wd_122 ds_X12_wordOf (by decide) (by omega) (Nat.le_of_ble_eq_true rfl) (Nat.zero_le _) (Nat.zero_le _) hc_10 (by decide) rfl rfl h
theorem bX12_word_18 {SC : Nat → Nat} {X : mh_X} {d : Nat} {Q : Option am_V → am_W → Prop} {bc bs : Nat} {w : am_W} {x2 : Int} {x1 : Int} {xs0 : Int}
    (h : ((¬ xs0 = (-1) → ((¬ x2 = 4 → am_A (mh_G X) SC (d + 8) mX12_word Q 51 [(0, .inr (.inr (some (9, 0)))), (1, .inl x1), (2, .inl x2), (3, .inl xs0)] [] w bc bs) ∧ (x2 = 4 → am_M (mh_G X) SC (d + 7) 0 0 mX12_faults [.inr (.inr (some (9, 0))), .inl (w.1 9 0 32), .inl 6] w (fun r w1 => am_A (mh_G X) SC (d + 8) mX12_word Q 51 [(3, .inl xs0), (2, .inl x2), (0, .inr (.inr (some (9, 0)))), (1, .inl x1)] (r.toList ++ []) w1 bc bs)))) ∧ (xs0 = (-1) → am_M (mh_G X) SC (d + 7) 0 0 mX12_faults [.inr (.inr (some (9, 0))), .inl (w.1 9 0 32), .inl 2] w (fun r w1 => am_A (mh_G X) SC (d + 8) mX12_word Q 33 [(3, .inl xs0), (2, .inl x2), (0, .inr (.inr (some (9, 0)))), (1, .inl x1)] (r.toList ++ []) w1 bc bs)))) :
    am_A (mh_G X) SC (d + 8) mX12_word Q 18 [(2, .inl x2), (0, .inr (.inr (some (9, 0)))), (1, .inl x1)] [.inl xs0] w bc bs := by
  refine am_istore_n (ls' := [(3, .inl xs0), (2, .inl x2), (0, .inr (.inr (some (9, 0)))), (1, .inl x1)]) dX12_word_18 (by decide) rfl ?_
  refine am_iload_n dX12_word_19 (List.Mem.head _) ?_
  refine am_iconst dX12_word_20 (by unfold am_rg; omega) ?_
  refine am_icmpne (tgt := 36) dX12_word_21 (by decide) (fun c1 => ?_) (fun c1 => ?_)
  · replace h := h.1 c1
    refine am_iload_n dX12_word_36 (List.Mem.tail _ (List.Mem.head _)) ?_
    refine am_iconst dX12_word_37 (by unfold am_rg; omega) ?_
    refine am_icmpne (tgt := 51) dX12_word_38 (by decide) (fun c2 => ?_) (fun c2 => ?_)
    · replace h := h.1 c2
      exact am_sub [2, 3, 1, 0] rfl h
    · replace h := h.2 c2
      refine am_aload_n dX12_word_41 (List.Mem.tail _ (List.Mem.tail _ (List.Mem.head _))) ?_
      refine am_aload_n dX12_word_42 (List.Mem.tail _ (List.Mem.tail _ (List.Mem.head _))) ?_
      refine am_getf (f := 32) (v := .inl (w.1 9 0 32)) dX12_word_43 hc_10 (by decide) wd_1581 (by decide) rfl rfl ?_
      refine am_bipush dX12_word_46 (by decide) (by unfold am_rg; omega) ?_
      exact am_callv (d' := d + 7) (kc := 0) (ks := 0) (as := [.inl (w.1 9 0 32), .inl 6]) dX12_word_48 wc_X12_faults wd_1925 wd_1927 wd_56 wd_122 ds_X12_faults (by decide) (by omega) (Nat.le_of_ble_eq_true rfl) (Nat.zero_le _) (Nat.zero_le _) hc_10 (by decide) rfl rfl h
  · replace h := h.2 c1
    refine am_aload_n dX12_word_24 (List.Mem.tail _ (List.Mem.tail _ (List.Mem.head _))) ?_
    refine am_aload_n dX12_word_25 (List.Mem.tail _ (List.Mem.tail _ (List.Mem.head _))) ?_
    refine am_getf (f := 32) (v := .inl (w.1 9 0 32)) dX12_word_26 hc_10 (by decide) wd_1581 (by decide) rfl rfl ?_
    refine am_iconst dX12_word_29 (by unfold am_rg; omega) ?_
    exact am_callv (d' := d + 7) (kc := 0) (ks := 0) (as := [.inl (w.1 9 0 32), .inl 2]) dX12_word_30 wc_X12_faults wd_1925 wd_1927 wd_56 wd_122 ds_X12_faults (by decide) (by omega) (Nat.le_of_ble_eq_true rfl) (Nat.zero_le _) (Nat.zero_le _) hc_10 (by decide) rfl rfl h
theorem bX12_word_51 {SC : Nat → Nat} {X : mh_X} {d : Nat} {Q : Option am_V → am_W → Prop} {bc bs : Nat} {w : am_W} {x1 : Int} {x2 : Int} {x3 : Int}
    (h : ((((am_up w.1 9 0 32 (am_w ((w.1 9 0 32) + 1))) 9 0 4) = 0 → (0 ≤ x1 ∧ (x1 < 30 ∧ (0 ≤ x2 ∧ (x2 < 4 ∧ Q none ((am_up (am_up (am_up w.1 9 0 32 (am_w ((w.1 9 0 32) + 1))) 78 (30 * 6 + x1.toNat) x2.toNat x3) 71 6 x1.toNat (am_w ((w.1 71 6 x1.toNat) + 1))), w.2)))))) ∧ (¬ ((am_up w.1 9 0 32 (am_w ((w.1 9 0 32) + 1))) 9 0 4) = 0 → Q none ((am_up w.1 9 0 32 (am_w ((w.1 9 0 32) + 1))), w.2)))) :
    am_A (mh_G X) SC (d + 8) mX12_word Q 51 [(0, .inr (.inr (some (9, 0)))), (1, .inl x1), (2, .inl x2), (3, .inl x3)] [] w bc bs := by
  refine am_aload_n dX12_word_51 (List.Mem.head _) ?_
  refine am_dup dX12_word_52 rfl ?_
  refine am_getf (f := 32) (v := .inl (w.1 9 0 32)) dX12_word_53 hc_10 (by decide) wd_1581 (by decide) rfl rfl ?_
  refine am_iconst dX12_word_56 (by unfold am_rg; omega) ?_
  refine am_iadd dX12_word_57 ?_
  refine am_putf (f := 32) dX12_word_58 hc_10 (by decide) wd_1581 rfl (Or.inl rfl) (Or.inl (by decide)) rfl ?_
  refine am_aload_n dX12_word_61 (List.Mem.head _) ?_
  refine am_getf (f := 4) (v := .inl ((am_up w.1 9 0 32 (am_w ((w.1 9 0 32) + 1))) 9 0 4)) dX12_word_62 hc_10 (by decide) wd_1553 (by decide) rfl rfl ?_
  refine am_ifeq (tgt := 69) dX12_word_65 (by decide) (fun c1 => ?_) (fun c1 => ?_)
  · replace h := h.1 c1
    refine am_aload_n dX12_word_69 (List.Mem.head _) ?_
    refine am_getf (f := 11) (v := .inr (.inr (some (76, 0)))) dX12_word_70 hc_10 (by decide) wd_1560 (by decide) rfl rfl ?_
    refine am_bipush dX12_word_73 (by decide) (by unfold am_rg; omega) ?_
    refine am_aaload (kd := 6) (r := some (77, 6)) dX12_word_75 (by decide) rfl (by decide) (by decide) (by decide) (show (6 : Int) < (7 : Nat) by decide) rfl ?_
    refine am_iload_n dX12_word_76 (List.Mem.tail _ (List.Mem.head _)) ?_
    have o2 := h.1
    replace h := h.2
    have o3 := h.1
    replace h := h.2
    refine am_aaload (kd := 5) (r := some (78, (30 * 6 + x1.toNat))) dX12_word_77 (by decide) rfl (by decide) (by decide) o2 o3 rfl ?_
    refine am_iload_n dX12_word_78 (List.Mem.tail _ (List.Mem.tail _ (List.Mem.head _))) ?_
    refine am_iload_n dX12_word_79 (List.Mem.tail _ (List.Mem.tail _ (List.Mem.tail _ (List.Mem.head _)))) ?_
    have o4 := h.1
    replace h := h.2
    have o5 := h.1
    replace h := h.2
    refine am_iastore dX12_word_80 (Or.inl (by decide)) rfl o4 o5 ?_
    refine am_aload_n dX12_word_81 (List.Mem.head _) ?_
    refine am_getf (f := 8) (v := .inr (.inr (some (70, 0)))) dX12_word_82 hc_10 (by decide) wd_1557 (by decide) rfl rfl ?_
    refine am_bipush dX12_word_85 (by decide) (by unfold am_rg; omega) ?_
    refine am_aaload (kd := 5) (r := some (71, 6)) dX12_word_87 (by decide) rfl (by decide) (by decide) (by decide) (show (6 : Int) < (7 : Nat) by decide) rfl ?_
    refine am_iload_n dX12_word_88 (List.Mem.tail _ (List.Mem.head _)) ?_
    refine am_dup2 dX12_word_89 rfl rfl ?_
    refine am_iaload (v := (w.1 71 6 x1.toNat)) dX12_word_90 (by decide) rfl o2 o3 rfl ?_
    refine am_iconst dX12_word_91 (by unfold am_rg; omega) ?_
    refine am_iadd dX12_word_92 ?_
    refine am_iastore dX12_word_93 (Or.inl (by decide)) rfl o2 o3 ?_
    exact am_ret (r := none) dX12_word_94 rfl rfl h
  · replace h := h.2 c1
    exact am_ret (r := none) dX12_word_68 rfl rfl h
theorem bX12_word_51a {SC : Nat → Nat} {X : mh_X} {d : Nat} {Q : Option am_V → am_W → Prop} {bc bs : Nat} {w : am_W} {x3 : Int} {x2 : Int} {x1 : Int}
    (h : ((((am_up w.1 9 0 32 (am_w ((w.1 9 0 32) + 1))) 9 0 4) = 0 → (0 ≤ x1 ∧ (x1 < 30 ∧ (0 ≤ x2 ∧ (x2 < 4 ∧ Q none ((am_up (am_up (am_up w.1 9 0 32 (am_w ((w.1 9 0 32) + 1))) 78 (30 * 6 + x1.toNat) x2.toNat x3) 71 6 x1.toNat (am_w ((w.1 71 6 x1.toNat) + 1))), w.2)))))) ∧ (¬ ((am_up w.1 9 0 32 (am_w ((w.1 9 0 32) + 1))) 9 0 4) = 0 → Q none ((am_up w.1 9 0 32 (am_w ((w.1 9 0 32) + 1))), w.2)))) :
    am_A (mh_G X) SC (d + 8) mX12_word Q 51 [(3, .inl x3), (2, .inl x2), (0, .inr (.inr (some (9, 0)))), (1, .inl x1)] [] w bc bs := by
  refine am_aload_n dX12_word_51 (List.Mem.tail _ (List.Mem.tail _ (List.Mem.head _))) ?_
  refine am_dup dX12_word_52 rfl ?_
  refine am_getf (f := 32) (v := .inl (w.1 9 0 32)) dX12_word_53 hc_10 (by decide) wd_1581 (by decide) rfl rfl ?_
  refine am_iconst dX12_word_56 (by unfold am_rg; omega) ?_
  refine am_iadd dX12_word_57 ?_
  refine am_putf (f := 32) dX12_word_58 hc_10 (by decide) wd_1581 rfl (Or.inl rfl) (Or.inl (by decide)) rfl ?_
  refine am_aload_n dX12_word_61 (List.Mem.tail _ (List.Mem.tail _ (List.Mem.head _))) ?_
  refine am_getf (f := 4) (v := .inl ((am_up w.1 9 0 32 (am_w ((w.1 9 0 32) + 1))) 9 0 4)) dX12_word_62 hc_10 (by decide) wd_1553 (by decide) rfl rfl ?_
  refine am_ifeq (tgt := 69) dX12_word_65 (by decide) (fun c1 => ?_) (fun c1 => ?_)
  · replace h := h.1 c1
    refine am_aload_n dX12_word_69 (List.Mem.tail _ (List.Mem.tail _ (List.Mem.head _))) ?_
    refine am_getf (f := 11) (v := .inr (.inr (some (76, 0)))) dX12_word_70 hc_10 (by decide) wd_1560 (by decide) rfl rfl ?_
    refine am_bipush dX12_word_73 (by decide) (by unfold am_rg; omega) ?_
    refine am_aaload (kd := 6) (r := some (77, 6)) dX12_word_75 (by decide) rfl (by decide) (by decide) (by decide) (show (6 : Int) < (7 : Nat) by decide) rfl ?_
    refine am_iload_n dX12_word_76 (List.Mem.tail _ (List.Mem.tail _ (List.Mem.tail _ (List.Mem.head _)))) ?_
    have o2 := h.1
    replace h := h.2
    have o3 := h.1
    replace h := h.2
    refine am_aaload (kd := 5) (r := some (78, (30 * 6 + x1.toNat))) dX12_word_77 (by decide) rfl (by decide) (by decide) o2 o3 rfl ?_
    refine am_iload_n dX12_word_78 (List.Mem.tail _ (List.Mem.head _)) ?_
    refine am_iload_n dX12_word_79 (List.Mem.head _) ?_
    have o4 := h.1
    replace h := h.2
    have o5 := h.1
    replace h := h.2
    refine am_iastore dX12_word_80 (Or.inl (by decide)) rfl o4 o5 ?_
    refine am_aload_n dX12_word_81 (List.Mem.tail _ (List.Mem.tail _ (List.Mem.head _))) ?_
    refine am_getf (f := 8) (v := .inr (.inr (some (70, 0)))) dX12_word_82 hc_10 (by decide) wd_1557 (by decide) rfl rfl ?_
    refine am_bipush dX12_word_85 (by decide) (by unfold am_rg; omega) ?_
    refine am_aaload (kd := 5) (r := some (71, 6)) dX12_word_87 (by decide) rfl (by decide) (by decide) (by decide) (show (6 : Int) < (7 : Nat) by decide) rfl ?_
    refine am_iload_n dX12_word_88 (List.Mem.tail _ (List.Mem.tail _ (List.Mem.tail _ (List.Mem.head _)))) ?_
    refine am_dup2 dX12_word_89 rfl rfl ?_
    refine am_iaload (v := (w.1 71 6 x1.toNat)) dX12_word_90 (by decide) rfl o2 o3 rfl ?_
    refine am_iconst dX12_word_91 (by unfold am_rg; omega) ?_
    refine am_iadd dX12_word_92 ?_
    refine am_iastore dX12_word_93 (Or.inl (by decide)) rfl o2 o3 ?_
    exact am_ret (r := none) dX12_word_94 rfl rfl h
  · replace h := h.2 c1
    exact am_ret (r := none) dX12_word_68 rfl rfl h
theorem bX12_word_33 {SC : Nat → Nat} {X : mh_X} {d : Nat} {Q : Option am_V → am_W → Prop} {bc bs : Nat} {w : am_W} {x3 : Int} {x2 : Int} {x1 : Int}
    (h : am_A (mh_G X) SC (d + 8) mX12_word Q 51 [(0, .inr (.inr (some (9, 0)))), (1, .inl x1), (2, .inl x2), (3, .inl x3)] [] w bc bs) :
    am_A (mh_G X) SC (d + 8) mX12_word Q 33 [(3, .inl x3), (2, .inl x2), (0, .inr (.inr (some (9, 0)))), (1, .inl x1)] [] w bc bs := by
  refine am_goto (tgt := 51) dX12_word_33 (by decide) ?_
  exact am_sub [2, 3, 1, 0] rfl h
-- MourningHouseModel.option(I)V
theorem dX12_option_0 : decode mX12_option.2.1 0 = .ok (.aload_n 0, 1) := by decide +kernel
theorem dX12_option_1 : decode mX12_option.2.1 1 = .ok (.getfield 362, 3) := by decide +kernel
theorem dX12_option_4 : decode mX12_option.2.1 4 = .ok (.istore_n 2, 1) := by decide +kernel
theorem dX12_option_5 : decode mX12_option.2.1 5 = .ok (.aload_n 0, 1) := by decide +kernel
theorem dX12_option_6 : decode mX12_option.2.1 6 = .ok (.aload_n 0, 1) := by decide +kernel
theorem dX12_option_7 : decode mX12_option.2.1 7 = .ok (.getfield 139, 3) := by decide +kernel
theorem dX12_option_10 : decode mX12_option.2.1 10 = .ok (.invokevirtual 387, 3) := by decide +kernel
theorem dX12_option_13 : decode mX12_option.2.1 13 = .ok (.istore_n 3, 1) := by decide +kernel
theorem dX12_option_14 : decode mX12_option.2.1 14 = .ok (.aload_n 0, 1) := by decide +kernel
theorem dX12_option_15 : decode mX12_option.2.1 15 = .ok (.getfield 337, 3) := by decide +kernel
theorem dX12_option_18 : decode mX12_option.2.1 18 = .ok (.ifCond .eq 4, 3) := by decide +kernel
theorem dX12_option_21 : decode mX12_option.2.1 21 = .ok (.return_, 1) := by decide +kernel
theorem dX12_option_22 : decode mX12_option.2.1 22 = .ok (.aload_n 0, 1) := by decide +kernel
theorem dX12_option_23 : decode mX12_option.2.1 23 = .ok (.getfield 31, 3) := by decide +kernel
theorem dX12_option_26 : decode mX12_option.2.1 26 = .ok (.bipush 6, 2) := by decide +kernel
theorem dX12_option_28 : decode mX12_option.2.1 28 = .ok (.aaload, 1) := by decide +kernel
theorem dX12_option_29 : decode mX12_option.2.1 29 = .ok (.iload_n 1, 1) := by decide +kernel
theorem dX12_option_30 : decode mX12_option.2.1 30 = .ok (.iaload, 1) := by decide +kernel
theorem dX12_option_31 : decode mX12_option.2.1 31 = .ok (.iload_n 3, 1) := by decide +kernel
theorem dX12_option_32 : decode mX12_option.2.1 32 = .ok (.ishr, 1) := by decide +kernel
theorem dX12_option_33 : decode mX12_option.2.1 33 = .ok (.iconst 1, 1) := by decide +kernel
theorem dX12_option_34 : decode mX12_option.2.1 34 = .ok (.iand, 1) := by decide +kernel
theorem dX12_option_35 : decode mX12_option.2.1 35 = .ok (.iconst 1, 1) := by decide +kernel
theorem dX12_option_36 : decode mX12_option.2.1 36 = .ok (.if_icmp .ne 9, 3) := by decide +kernel
theorem dX12_option_39 : decode mX12_option.2.1 39 = .ok (.aload_n 0, 1) := by decide +kernel
theorem dX12_option_40 : decode mX12_option.2.1 40 = .ok (.iload_n 2, 1) := by decide +kernel
theorem dX12_option_41 : decode mX12_option.2.1 41 = .ok (.iconst 5, 1) := by decide +kernel
theorem dX12_option_42 : decode mX12_option.2.1 42 = .ok (.invokevirtual 358, 3) := by decide +kernel
theorem dX12_option_45 : decode mX12_option.2.1 45 = .ok (.aload_n 0, 1) := by decide +kernel
theorem dX12_option_46 : decode mX12_option.2.1 46 = .ok (.getfield 31, 3) := by decide +kernel
theorem dX12_option_49 : decode mX12_option.2.1 49 = .ok (.bipush 6, 2) := by decide +kernel
theorem dX12_option_51 : decode mX12_option.2.1 51 = .ok (.aaload, 1) := by decide +kernel
theorem dX12_option_52 : decode mX12_option.2.1 52 = .ok (.iload_n 1, 1) := by decide +kernel
theorem dX12_option_53 : decode mX12_option.2.1 53 = .ok (.dup2, 1) := by decide +kernel
theorem dX12_option_54 : decode mX12_option.2.1 54 = .ok (.iaload, 1) := by decide +kernel
theorem dX12_option_55 : decode mX12_option.2.1 55 = .ok (.iconst 1, 1) := by decide +kernel
theorem dX12_option_56 : decode mX12_option.2.1 56 = .ok (.iload_n 3, 1) := by decide +kernel
theorem dX12_option_57 : decode mX12_option.2.1 57 = .ok (.ishl, 1) := by decide +kernel
theorem dX12_option_58 : decode mX12_option.2.1 58 = .ok (.ior, 1) := by decide +kernel
theorem dX12_option_59 : decode mX12_option.2.1 59 = .ok (.iastore, 1) := by decide +kernel
theorem dX12_option_60 : decode mX12_option.2.1 60 = .ok (.iload_n 3, 1) := by decide +kernel
theorem dX12_option_61 : decode mX12_option.2.1 61 = .ok (.ifCond .ne 10, 3) := by decide +kernel
theorem dX12_option_64 : decode mX12_option.2.1 64 = .ok (.aload_n 0, 1) := by decide +kernel
theorem dX12_option_65 : decode mX12_option.2.1 65 = .ok (.ldc_w 390, 3) := by decide +kernel
theorem dX12_option_68 : decode mX12_option.2.1 68 = .ok (.invokevirtual 392, 3) := by decide +kernel
theorem dX12_option_71 : decode mX12_option.2.1 71 = .ok (.return_, 1) := by decide +kernel
theorem bX12_option_0 {SC : Nat → Nat} {X : mh_X} {d : Nat} {Q : Option am_V → am_W → Prop} {bc bs : Nat} {w : am_W} {x1 : Int}
    (h : am_M (mh_G X) SC (d + 8) 0 0 mX12_needs [.inr (.inr (some (9, 0))), .inr (.inr (some (19, 4)))] w (fun r w1 => am_A (mh_G X) SC (d + 9) mX12_option Q 13 [(2, .inl (w.1 9 0 32)), (0, .inr (.inr (some (9, 0)))), (1, .inl x1)] (r.toList ++ []) w1 bc bs)) :
    am_A (mh_G X) SC (d + 9) mX12_option Q 0 [(0, .inr (.inr (some (9, 0)))), (1, .inl x1)] [] w bc bs := by
  refine am_aload_n dX12_option_0 (List.Mem.head _) ?_
  refine am_getf (f := 32) (v := .inl (w.1 9 0 32)) dX12_option_1 hc_10 (by decide) wd_1581 (by decide) rfl rfl ?_
  refine am_istore_n (ls' := [(2, .inl (w.1 9 0 32)), (0, .inr (.inr (some (9, 0)))), (1, .inl x1)]) dX12_option_4 (by decide) rfl ?_
  refine am_aload_n dX12_option_5 (List.Mem.tail _ (List.Mem.head _)) ?_
  refine am_aload_n dX12_option_6 (List.Mem.tail _ (List.Mem.head _)) ?_
  refine am_getf (f := 26) (v := .inr (.inr (some (19, 4)))) dX12_option_7 hc_10 (by decide) wd_1575 (by decide) rfl rfl ?_
  exact am_callv (d' := d + 8) (kc := 0) (ks := 0) (as := [.inr (.inr (some (19, 4)))]) dX12_option_10 wc_X12_needs wd_1965 wd_1967 wd_65 wd_122 ds_X12_needs (by decide) (by omega) (Nat.le_of_ble_eq_true rfl) (Nat.zero_le _) (Nat.zero_le _) hc_10 (by decide) rfl rfl h
theorem bX12_option_13 {SC : Nat → Nat} {X : mh_X} {d : Nat} {Q : Option am_V → am_W → Prop} {bc bs : Nat} {w : am_W} {x2 : Int} {x1 : Int} {xs0 : Int}
    (h : (((w.1 9 0 4) = 0 → (0 ≤ x1 ∧ (x1 < 30 ∧ ((¬ (am_and (am_shr (w.1 75 6 x1.toNat) xs0) 1) = 1 → am_A (mh_G X) SC (d + 9) mX12_option Q 45 [(0, .inr (.inr (some (9, 0)))), (1, .inl x1), (3, .inl xs0)] [] w bc bs) ∧ ((am_and (am_shr (w.1 75 6 x1.toNat) xs0) 1) = 1 → am_M (mh_G X) SC (d + 8) 0 0 mX12_faults [.inr (.inr (some (9, 0))), .inl x2, .inl 5] w (fun r w1 => am_A (mh_G X) SC (d + 9) mX12_option Q 45 [(3, .inl xs0), (2, .inl x2), (0, .inr (.inr (some (9, 0)))), (1, .inl x1)] (r.toList ++ []) w1 bc bs)))))) ∧ (¬ (w.1 9 0 4) = 0 → Q none w))) :
    am_A (mh_G X) SC (d + 9) mX12_option Q 13 [(2, .inl x2), (0, .inr (.inr (some (9, 0)))), (1, .inl x1)] [.inl xs0] w bc bs := by
  refine am_istore_n (ls' := [(3, .inl xs0), (2, .inl x2), (0, .inr (.inr (some (9, 0)))), (1, .inl x1)]) dX12_option_13 (by decide) rfl ?_
  refine am_aload_n dX12_option_14 (List.Mem.tail _ (List.Mem.tail _ (List.Mem.head _))) ?_
  refine am_getf (f := 4) (v := .inl (w.1 9 0 4)) dX12_option_15 hc_10 (by decide) wd_1553 (by decide) rfl rfl ?_
  refine am_ifeq (tgt := 22) dX12_option_18 (by decide) (fun c1 => ?_) (fun c1 => ?_)
  · replace h := h.1 c1
    refine am_aload_n dX12_option_22 (List.Mem.tail _ (List.Mem.tail _ (List.Mem.head _))) ?_
    refine am_getf (f := 10) (v := .inr (.inr (some (74, 0)))) dX12_option_23 hc_10 (by decide) wd_1559 (by decide) rfl rfl ?_
    refine am_bipush dX12_option_26 (by decide) (by unfold am_rg; omega) ?_
    refine am_aaload (kd := 5) (r := some (75, 6)) dX12_option_28 (by decide) rfl (by decide) (by decide) (by decide) (show (6 : Int) < (7 : Nat) by decide) rfl ?_
    refine am_iload_n dX12_option_29 (List.Mem.tail _ (List.Mem.tail _ (List.Mem.tail _ (List.Mem.head _)))) ?_
    have o2 := h.1
    replace h := h.2
    have o3 := h.1
    replace h := h.2
    refine am_iaload (v := (w.1 75 6 x1.toNat)) dX12_option_30 (by decide) rfl o2 o3 rfl ?_
    refine am_iload_n dX12_option_31 (List.Mem.head _) ?_
    refine am_ishr dX12_option_32 ?_
    refine am_iconst dX12_option_33 (by unfold am_rg; omega) ?_
    refine am_iand dX12_option_34 ?_
    refine am_iconst dX12_option_35 (by unfold am_rg; omega) ?_
    refine am_icmpne (tgt := 45) dX12_option_36 (by decide) (fun c4 => ?_) (fun c4 => ?_)
    · replace h := h.1 c4
      exact am_sub [2, 3, 0] rfl h
    · replace h := h.2 c4
      refine am_aload_n dX12_option_39 (List.Mem.tail _ (List.Mem.tail _ (List.Mem.head _))) ?_
      refine am_iload_n dX12_option_40 (List.Mem.tail _ (List.Mem.head _)) ?_
      refine am_iconst dX12_option_41 (by unfold am_rg; omega) ?_
      exact am_callv (d' := d + 8) (kc := 0) (ks := 0) (as := [.inl x2, .inl 5]) dX12_option_42 wc_X12_faults wd_1925 wd_1927 wd_56 wd_122 ds_X12_faults (by decide) (by omega) (Nat.le_of_ble_eq_true rfl) (Nat.zero_le _) (Nat.zero_le _) hc_10 (by decide) rfl rfl h
  · replace h := h.2 c1
    exact am_ret (r := none) dX12_option_21 rfl rfl h
theorem bX12_option_45 {SC : Nat → Nat} {X : mh_X} {d : Nat} {Q : Option am_V → am_W → Prop} {bc bs : Nat} {w : am_W} {x1 : Int} {x3 : Int}
    (h : (0 ≤ x1 ∧ (x1 < 30 ∧ ((¬ x3 = 0 → Q none ((am_up w.1 75 6 x1.toNat (am_or (w.1 75 6 x1.toNat) (am_shl 1 x3))), w.2)) ∧ (x3 = 0 → am_M (mh_G X) SC (d + 8) 0 0 mX12_needs_ [.inr (.inr (some (9, 0))), .inr (.inr (some (1000, 78)))] ((am_up w.1 75 6 x1.toNat (am_or (w.1 75 6 x1.toNat) (am_shl 1 x3))), w.2) (fun r w1 => am_A (mh_G X) SC (d + 9) mX12_option Q 71 [(0, .inr (.inr (some (9, 0)))), (1, .inl x1), (3, .inl x3)] (r.toList ++ []) w1 bc bs)))))) :
    am_A (mh_G X) SC (d + 9) mX12_option Q 45 [(0, .inr (.inr (some (9, 0)))), (1, .inl x1), (3, .inl x3)] [] w bc bs := by
  refine am_aload_n dX12_option_45 (List.Mem.head _) ?_
  refine am_getf (f := 10) (v := .inr (.inr (some (74, 0)))) dX12_option_46 hc_10 (by decide) wd_1559 (by decide) rfl rfl ?_
  refine am_bipush dX12_option_49 (by decide) (by unfold am_rg; omega) ?_
  refine am_aaload (kd := 5) (r := some (75, 6)) dX12_option_51 (by decide) rfl (by decide) (by decide) (by decide) (show (6 : Int) < (7 : Nat) by decide) rfl ?_
  refine am_iload_n dX12_option_52 (List.Mem.tail _ (List.Mem.head _)) ?_
  refine am_dup2 dX12_option_53 rfl rfl ?_
  have o1 := h.1
  replace h := h.2
  have o2 := h.1
  replace h := h.2
  refine am_iaload (v := (w.1 75 6 x1.toNat)) dX12_option_54 (by decide) rfl o1 o2 rfl ?_
  refine am_iconst dX12_option_55 (by unfold am_rg; omega) ?_
  refine am_iload_n dX12_option_56 (List.Mem.tail _ (List.Mem.tail _ (List.Mem.head _))) ?_
  refine am_ishl dX12_option_57 ?_
  refine am_ior dX12_option_58 ?_
  refine am_iastore dX12_option_59 (Or.inl (by decide)) rfl o1 o2 ?_
  refine am_iload_n dX12_option_60 (List.Mem.tail _ (List.Mem.tail _ (List.Mem.head _))) ?_
  refine am_ifne (tgt := 71) dX12_option_61 (by decide) (fun c3 => ?_) (fun c3 => ?_)
  · replace h := h.1 c3
    exact am_ret (r := none) dX12_option_71 rfl rfl h
  · replace h := h.2 c3
    refine am_aload_n dX12_option_64 (List.Mem.head _) ?_
    refine am_ldcwS (sid := 78) dX12_option_65 rfl ?_
    exact am_callv (d' := d + 8) (kc := 0) (ks := 0) (as := [.inr (.inr (some (1000, 78)))]) dX12_option_68 wc_X12_needs_ wd_1974 wd_1976 wd_67 wd_122 ds_X12_needs_ (by decide) (by omega) (Nat.le_of_ble_eq_true rfl) (Nat.zero_le _) (Nat.zero_le _) hc_10 (by decide) rfl rfl h
theorem bX12_option_45a {SC : Nat → Nat} {X : mh_X} {d : Nat} {Q : Option am_V → am_W → Prop} {bc bs : Nat} {w : am_W} {x3 : Int} {x2 : Int} {x1 : Int}
    (h : (0 ≤ x1 ∧ (x1 < 30 ∧ ((¬ x3 = 0 → Q none ((am_up w.1 75 6 x1.toNat (am_or (w.1 75 6 x1.toNat) (am_shl 1 x3))), w.2)) ∧ (x3 = 0 → am_M (mh_G X) SC (d + 8) 0 0 mX12_needs_ [.inr (.inr (some (9, 0))), .inr (.inr (some (1000, 78)))] ((am_up w.1 75 6 x1.toNat (am_or (w.1 75 6 x1.toNat) (am_shl 1 x3))), w.2) (fun r w1 => am_A (mh_G X) SC (d + 9) mX12_option Q 71 [(3, .inl x3), (2, .inl x2), (0, .inr (.inr (some (9, 0)))), (1, .inl x1)] (r.toList ++ []) w1 bc bs)))))) :
    am_A (mh_G X) SC (d + 9) mX12_option Q 45 [(3, .inl x3), (2, .inl x2), (0, .inr (.inr (some (9, 0)))), (1, .inl x1)] [] w bc bs := by
  refine am_aload_n dX12_option_45 (List.Mem.tail _ (List.Mem.tail _ (List.Mem.head _))) ?_
  refine am_getf (f := 10) (v := .inr (.inr (some (74, 0)))) dX12_option_46 hc_10 (by decide) wd_1559 (by decide) rfl rfl ?_
  refine am_bipush dX12_option_49 (by decide) (by unfold am_rg; omega) ?_
  refine am_aaload (kd := 5) (r := some (75, 6)) dX12_option_51 (by decide) rfl (by decide) (by decide) (by decide) (show (6 : Int) < (7 : Nat) by decide) rfl ?_
  refine am_iload_n dX12_option_52 (List.Mem.tail _ (List.Mem.tail _ (List.Mem.tail _ (List.Mem.head _)))) ?_
  refine am_dup2 dX12_option_53 rfl rfl ?_
  have o1 := h.1
  replace h := h.2
  have o2 := h.1
  replace h := h.2
  refine am_iaload (v := (w.1 75 6 x1.toNat)) dX12_option_54 (by decide) rfl o1 o2 rfl ?_
  refine am_iconst dX12_option_55 (by unfold am_rg; omega) ?_
  refine am_iload_n dX12_option_56 (List.Mem.head _) ?_
  refine am_ishl dX12_option_57 ?_
  refine am_ior dX12_option_58 ?_
  refine am_iastore dX12_option_59 (Or.inl (by decide)) rfl o1 o2 ?_
  refine am_iload_n dX12_option_60 (List.Mem.head _) ?_
  refine am_ifne (tgt := 71) dX12_option_61 (by decide) (fun c3 => ?_) (fun c3 => ?_)
  · replace h := h.1 c3
    exact am_ret (r := none) dX12_option_71 rfl rfl h
  · replace h := h.2 c3
    refine am_aload_n dX12_option_64 (List.Mem.tail _ (List.Mem.tail _ (List.Mem.head _))) ?_
    refine am_ldcwS (sid := 78) dX12_option_65 rfl ?_
    exact am_callv (d' := d + 8) (kc := 0) (ks := 0) (as := [.inr (.inr (some (1000, 78)))]) dX12_option_68 wc_X12_needs_ wd_1974 wd_1976 wd_67 wd_122 ds_X12_needs_ (by decide) (by omega) (Nat.le_of_ble_eq_true rfl) (Nat.zero_le _) (Nat.zero_le _) hc_10 (by decide) rfl rfl h
theorem bX12_option_71 {SC : Nat → Nat} {X : mh_X} {d : Nat} {Q : Option am_V → am_W → Prop} {bc bs : Nat} {w : am_W} {x1 : Int} {x3 : Int}
    (h : Q none w) :
    am_A (mh_G X) SC (d + 9) mX12_option Q 71 [(0, .inr (.inr (some (9, 0)))), (1, .inl x1), (3, .inl x3)] [] w bc bs := by
  exact am_ret (r := none) dX12_option_71 rfl rfl h
theorem bX12_option_71a {SC : Nat → Nat} {X : mh_X} {d : Nat} {Q : Option am_V → am_W → Prop} {bc bs : Nat} {w : am_W} {x3 : Int} {x2 : Int} {x1 : Int}
    (h : Q none w) :
    am_A (mh_G X) SC (d + 9) mX12_option Q 71 [(3, .inl x3), (2, .inl x2), (0, .inr (.inr (some (9, 0)))), (1, .inl x1)] [] w bc bs := by
  exact am_ret (r := none) dX12_option_71 rfl rfl h
-- MourningHouseModel.rule()V
theorem dX12_rule_0 : decode mX12_rule.2.1 0 = .ok (.aload_n 0, 1) := by decide +kernel
theorem dX12_rule_1 : decode mX12_rule.2.1 1 = .ok (.getfield 17, 3) := by decide +kernel
theorem dX12_rule_4 : decode mX12_rule.2.1 4 = .ok (.bipush 6, 2) := by decide +kernel
theorem dX12_rule_6 : decode mX12_rule.2.1 6 = .ok (.iaload, 1) := by decide +kernel
theorem dX12_rule_7 : decode mX12_rule.2.1 7 = .ok (.istore_n 1, 1) := by decide +kernel
theorem dX12_rule_8 : decode mX12_rule.2.1 8 = .ok (.iload_n 1, 1) := by decide +kernel
theorem dX12_rule_9 : decode mX12_rule.2.1 9 = .ok (.bipush 30, 2) := by decide +kernel
theorem dX12_rule_11 : decode mX12_rule.2.1 11 = .ok (.if_icmp .ne 11, 3) := by decide +kernel
theorem dX12_rule_14 : decode mX12_rule.2.1 14 = .ok (.aload_n 0, 1) := by decide +kernel
theorem dX12_rule_15 : decode mX12_rule.2.1 15 = .ok (.iconst 0, 1) := by decide +kernel
theorem dX12_rule_16 : decode mX12_rule.2.1 16 = .ok (.bipush 6, 2) := by decide +kernel
theorem dX12_rule_18 : decode mX12_rule.2.1 18 = .ok (.invokevirtual 358, 3) := by decide +kernel
theorem dX12_rule_21 : decode mX12_rule.2.1 21 = .ok (.return_, 1) := by decide +kernel
theorem dX12_rule_22 : decode mX12_rule.2.1 22 = .ok (.aload_n 0, 1) := by decide +kernel
theorem dX12_rule_23 : decode mX12_rule.2.1 23 = .ok (.getfield 25, 3) := by decide +kernel
theorem dX12_rule_26 : decode mX12_rule.2.1 26 = .ok (.bipush 6, 2) := by decide +kernel
theorem dX12_rule_28 : decode mX12_rule.2.1 28 = .ok (.aaload, 1) := by decide +kernel
theorem dX12_rule_29 : decode mX12_rule.2.1 29 = .ok (.iload_n 1, 1) := by decide +kernel
theorem dX12_rule_30 : decode mX12_rule.2.1 30 = .ok (.iconst 0, 1) := by decide +kernel
theorem dX12_rule_31 : decode mX12_rule.2.1 31 = .ok (.iastore, 1) := by decide +kernel
theorem dX12_rule_32 : decode mX12_rule.2.1 32 = .ok (.aload_n 0, 1) := by decide +kernel
theorem dX12_rule_33 : decode mX12_rule.2.1 33 = .ok (.getfield 28, 3) := by decide +kernel
theorem dX12_rule_36 : decode mX12_rule.2.1 36 = .ok (.bipush 6, 2) := by decide +kernel
theorem dX12_rule_38 : decode mX12_rule.2.1 38 = .ok (.aaload, 1) := by decide +kernel
theorem dX12_rule_39 : decode mX12_rule.2.1 39 = .ok (.iload_n 1, 1) := by decide +kernel
theorem dX12_rule_40 : decode mX12_rule.2.1 40 = .ok (.iconst 0, 1) := by decide +kernel
theorem dX12_rule_41 : decode mX12_rule.2.1 41 = .ok (.iastore, 1) := by decide +kernel
theorem dX12_rule_42 : decode mX12_rule.2.1 42 = .ok (.aload_n 0, 1) := by decide +kernel
theorem dX12_rule_43 : decode mX12_rule.2.1 43 = .ok (.getfield 31, 3) := by decide +kernel
theorem dX12_rule_46 : decode mX12_rule.2.1 46 = .ok (.bipush 6, 2) := by decide +kernel
theorem dX12_rule_48 : decode mX12_rule.2.1 48 = .ok (.aaload, 1) := by decide +kernel
theorem dX12_rule_49 : decode mX12_rule.2.1 49 = .ok (.iload_n 1, 1) := by decide +kernel
theorem dX12_rule_50 : decode mX12_rule.2.1 50 = .ok (.iconst 0, 1) := by decide +kernel
theorem dX12_rule_51 : decode mX12_rule.2.1 51 = .ok (.iastore, 1) := by decide +kernel
theorem dX12_rule_52 : decode mX12_rule.2.1 52 = .ok (.aload_n 0, 1) := by decide +kernel
theorem dX12_rule_53 : decode mX12_rule.2.1 53 = .ok (.iload_n 1, 1) := by decide +kernel
theorem dX12_rule_54 : decode mX12_rule.2.1 54 = .ok (.invokevirtual 395, 3) := by decide +kernel
theorem dX12_rule_57 : decode mX12_rule.2.1 57 = .ok (.aload_n 0, 1) := by decide +kernel
theorem dX12_rule_58 : decode mX12_rule.2.1 58 = .ok (.getfield 337, 3) := by decide +kernel
theorem dX12_rule_61 : decode mX12_rule.2.1 61 = .ok (.ifCond .ne 31, 3) := by decide +kernel
theorem dX12_rule_64 : decode mX12_rule.2.1 64 = .ok (.aload_n 0, 1) := by decide +kernel
theorem dX12_rule_65 : decode mX12_rule.2.1 65 = .ok (.ldc_w 398, 3) := by decide +kernel
theorem dX12_rule_68 : decode mX12_rule.2.1 68 = .ok (.invokevirtual 373, 3) := by decide +kernel
theorem dX12_rule_71 : decode mX12_rule.2.1 71 = .ok (.ifCond .eq 21, 3) := by decide +kernel
theorem dX12_rule_74 : decode mX12_rule.2.1 74 = .ok (.aload_n 0, 1) := by decide +kernel
theorem dX12_rule_75 : decode mX12_rule.2.1 75 = .ok (.dup, 1) := by decide +kernel
theorem dX12_rule_76 : decode mX12_rule.2.1 76 = .ok (.getfield 362, 3) := by decide +kernel
theorem dX12_rule_79 : decode mX12_rule.2.1 79 = .ok (.iconst 1, 1) := by decide +kernel
theorem dX12_rule_80 : decode mX12_rule.2.1 80 = .ok (.iadd, 1) := by decide +kernel
theorem dX12_rule_81 : decode mX12_rule.2.1 81 = .ok (.putfield 362, 3) := by decide +kernel
theorem dX12_rule_84 : decode mX12_rule.2.1 84 = .ok (.aload_n 0, 1) := by decide +kernel
theorem dX12_rule_85 : decode mX12_rule.2.1 85 = .ok (.iload_n 1, 1) := by decide +kernel
theorem dX12_rule_86 : decode mX12_rule.2.1 86 = .ok (.invokevirtual 395, 3) := by decide +kernel
theorem dX12_rule_89 : decode mX12_rule.2.1 89 = .ok (.goto (-32), 3) := by decide +kernel
theorem dX12_rule_92 : decode mX12_rule.2.1 92 = .ok (.aload_n 0, 1) := by decide +kernel
theorem dX12_rule_93 : decode mX12_rule.2.1 93 = .ok (.bipush 58, 2) := by decide +kernel
theorem dX12_rule_95 : decode mX12_rule.2.1 95 = .ok (.invokevirtual 400, 3) := by decide +kernel
theorem dX12_rule_98 : decode mX12_rule.2.1 98 = .ok (.aload_n 0, 1) := by decide +kernel
theorem dX12_rule_99 : decode mX12_rule.2.1 99 = .ok (.getfield 337, 3) := by decide +kernel
theorem dX12_rule_102 : decode mX12_rule.2.1 102 = .ok (.ifCond .eq 4, 3) := by decide +kernel
theorem dX12_rule_105 : decode mX12_rule.2.1 105 = .ok (.return_, 1) := by decide +kernel
theorem dX12_rule_106 : decode mX12_rule.2.1 106 = .ok (.aload_n 0, 1) := by decide +kernel
theorem dX12_rule_107 : decode mX12_rule.2.1 107 = .ok (.iload_n 1, 1) := by decide +kernel
theorem dX12_rule_108 : decode mX12_rule.2.1 108 = .ok (.invokevirtual 402, 3) := by decide +kernel
theorem dX12_rule_111 : decode mX12_rule.2.1 111 = .ok (.aload_n 0, 1) := by decide +kernel
theorem dX12_rule_112 : decode mX12_rule.2.1 112 = .ok (.getfield 337, 3) := by decide +kernel
theorem dX12_rule_115 : decode mX12_rule.2.1 115 = .ok (.ifCond .ne 30, 3) := by decide +kernel
theorem dX12_rule_118 : decode mX12_rule.2.1 118 = .ok (.aload_n 0, 1) := by decide +kernel
theorem dX12_rule_119 : decode mX12_rule.2.1 119 = .ok (.bipush 44, 2) := by decide +kernel
theorem dX12_rule_121 : decode mX12_rule.2.1 121 = .ok (.invokevirtual 381, 3) := by decide +kernel
theorem dX12_rule_124 : decode mX12_rule.2.1 124 = .ok (.ifCond .eq 21, 3) := by decide +kernel
theorem dX12_rule_127 : decode mX12_rule.2.1 127 = .ok (.aload_n 0, 1) := by decide +kernel
theorem dX12_rule_128 : decode mX12_rule.2.1 128 = .ok (.dup, 1) := by decide +kernel
theorem dX12_rule_129 : decode mX12_rule.2.1 129 = .ok (.getfield 362, 3) := by decide +kernel
theorem dX12_rule_132 : decode mX12_rule.2.1 132 = .ok (.iconst 1, 1) := by decide +kernel
theorem dX12_rule_133 : decode mX12_rule.2.1 133 = .ok (.iadd, 1) := by decide +kernel
theorem dX12_rule_134 : decode mX12_rule.2.1 134 = .ok (.putfield 362, 3) := by decide +kernel
theorem dX12_rule_137 : decode mX12_rule.2.1 137 = .ok (.aload_n 0, 1) := by decide +kernel
theorem dX12_rule_138 : decode mX12_rule.2.1 138 = .ok (.iload_n 1, 1) := by decide +kernel
theorem dX12_rule_139 : decode mX12_rule.2.1 139 = .ok (.invokevirtual 402, 3) := by decide +kernel
theorem dX12_rule_142 : decode mX12_rule.2.1 142 = .ok (.goto (-31), 3) := by decide +kernel
theorem dX12_rule_145 : decode mX12_rule.2.1 145 = .ok (.aload_n 0, 1) := by decide +kernel
theorem dX12_rule_146 : decode mX12_rule.2.1 146 = .ok (.getfield 337, 3) := by decide +kernel
theorem dX12_rule_149 : decode mX12_rule.2.1 149 = .ok (.ifCond .ne 30, 3) := by decide +kernel
theorem dX12_rule_152 : decode mX12_rule.2.1 152 = .ok (.aload_n 0, 1) := by decide +kernel
theorem dX12_rule_153 : decode mX12_rule.2.1 153 = .ok (.bipush 59, 2) := by decide +kernel
theorem dX12_rule_155 : decode mX12_rule.2.1 155 = .ok (.invokevirtual 381, 3) := by decide +kernel
theorem dX12_rule_158 : decode mX12_rule.2.1 158 = .ok (.ifCond .eq 21, 3) := by decide +kernel
theorem dX12_rule_161 : decode mX12_rule.2.1 161 = .ok (.aload_n 0, 1) := by decide +kernel
theorem dX12_rule_162 : decode mX12_rule.2.1 162 = .ok (.dup, 1) := by decide +kernel
theorem dX12_rule_163 : decode mX12_rule.2.1 163 = .ok (.getfield 362, 3) := by decide +kernel
theorem dX12_rule_166 : decode mX12_rule.2.1 166 = .ok (.iconst 1, 1) := by decide +kernel
theorem dX12_rule_167 : decode mX12_rule.2.1 167 = .ok (.iadd, 1) := by decide +kernel
theorem dX12_rule_168 : decode mX12_rule.2.1 168 = .ok (.putfield 362, 3) := by decide +kernel
theorem dX12_rule_171 : decode mX12_rule.2.1 171 = .ok (.aload_n 0, 1) := by decide +kernel
theorem dX12_rule_172 : decode mX12_rule.2.1 172 = .ok (.iload_n 1, 1) := by decide +kernel
theorem dX12_rule_173 : decode mX12_rule.2.1 173 = .ok (.invokevirtual 405, 3) := by decide +kernel
theorem dX12_rule_176 : decode mX12_rule.2.1 176 = .ok (.goto (-31), 3) := by decide +kernel
theorem dX12_rule_179 : decode mX12_rule.2.1 179 = .ok (.aload_n 0, 1) := by decide +kernel
theorem dX12_rule_180 : decode mX12_rule.2.1 180 = .ok (.getfield 17, 3) := by decide +kernel
theorem dX12_rule_183 : decode mX12_rule.2.1 183 = .ok (.bipush 6, 2) := by decide +kernel
theorem dX12_rule_185 : decode mX12_rule.2.1 185 = .ok (.dup2, 1) := by decide +kernel
theorem dX12_rule_186 : decode mX12_rule.2.1 186 = .ok (.iaload, 1) := by decide +kernel
theorem dX12_rule_187 : decode mX12_rule.2.1 187 = .ok (.iconst 1, 1) := by decide +kernel
theorem dX12_rule_188 : decode mX12_rule.2.1 188 = .ok (.iadd, 1) := by decide +kernel
theorem dX12_rule_189 : decode mX12_rule.2.1 189 = .ok (.iastore, 1) := by decide +kernel
theorem dX12_rule_190 : decode mX12_rule.2.1 190 = .ok (.return_, 1) := by decide +kernel
theorem bX12_rule_0 {SC : Nat → Nat} {X : mh_X} {d : Nat} {Q : Option am_V → am_W → Prop} {bc bs : Nat} {w : am_W} 
    (h : ((¬ (w.1 68 0 6) = 30 → (0 ≤ (w.1 68 0 6) ∧ ((w.1 68 0 6) < 30 ∧ am_M (mh_G X) SC (d + 9) 0 0 mX12_word [.inr (.inr (some (9, 0))), .inl (w.1 68 0 6)] ((am_up (am_up (am_up w.1 71 6 (w.1 68 0 6).toNat 0) 73 6 (w.1 68 0 6).toNat 0) 75 6 (w.1 68 0 6).toNat 0), w.2) (fun r w1 => am_A (mh_G X) SC (d + 10) mX12_rule Q 57 [(1, .inl (w.1 68 0 6)), (0, .inr (.inr (some (9, 0))))] (r.toList ++ []) w1 bc bs)))) ∧ ((w.1 68 0 6) = 30 → am_M (mh_G X) SC (d + 9) 0 0 mX12_faults [.inr (.inr (some (9, 0))), .inl 0, .inl 6] w (fun r w1 => am_A (mh_G X) SC (d + 10) mX12_rule Q 21 [(1, .inl (w.1 68 0 6)), (0, .inr (.inr (some (9, 0))))] (r.toList ++ []) w1 bc bs)))) :
    am_A (mh_G X) SC (d + 10) mX12_rule Q 0 [(0, .inr (.inr (some (9, 0))))] [] w bc bs := by
  refine am_aload_n dX12_rule_0 (List.Mem.head _) ?_
  refine am_getf (f := 6) (v := .inr (.inr (some (68, 0)))) dX12_rule_1 hc_10 (by decide) wd_1555 (by decide) rfl rfl ?_
  refine am_bipush dX12_rule_4 (by decide) (by unfold am_rg; omega) ?_
  refine am_iaload (v := (w.1 68 0 6)) dX12_rule_6 (by decide) rfl (by decide) (show (6 : Int) < (7 : Nat) by decide) rfl ?_
  refine am_istore_n (ls' := [(1, .inl (w.1 68 0 6)), (0, .inr (.inr (some (9, 0))))]) dX12_rule_7 (by decide) rfl ?_
  refine am_iload_n dX12_rule_8 (List.Mem.head _) ?_
  refine am_bipush dX12_rule_9 (by decide) (by unfold am_rg; omega) ?_
  refine am_icmpne (tgt := 22) dX12_rule_11 (by decide) (fun c1 => ?_) (fun c1 => ?_)
  · replace h := h.1 c1
    refine am_aload_n dX12_rule_22 (List.Mem.tail _ (List.Mem.head _)) ?_
    refine am_getf (f := 8) (v := .inr (.inr (some (70, 0)))) dX12_rule_23 hc_10 (by decide) wd_1557 (by decide) rfl rfl ?_
    refine am_bipush dX12_rule_26 (by decide) (by unfold am_rg; omega) ?_
    refine am_aaload (kd := 5) (r := some (71, 6)) dX12_rule_28 (by decide) rfl (by decide) (by decide) (by decide) (show (6 : Int) < (7 : Nat) by decide) rfl ?_
    refine am_iload_n dX12_rule_29 (List.Mem.head _) ?_
    refine am_iconst dX12_rule_30 (by unfold am_rg; omega) ?_
    have o2 := h.1
    replace h := h.2
    have o3 := h.1
    replace h := h.2
    refine am_iastore dX12_rule_31 (Or.inl (by decide)) rfl o2 o3 ?_
    refine am_aload_n dX12_rule_32 (List.Mem.tail _ (List.Mem.head _)) ?_
    refine am_getf (f := 9) (v := .inr (.inr (some (72, 0)))) dX12_rule_33 hc_10 (by decide) wd_1558 (by decide) rfl rfl ?_
    refine am_bipush dX12_rule_36 (by decide) (by unfold am_rg; omega) ?_
    refine am_aaload (kd := 5) (r := some (73, 6)) dX12_rule_38 (by decide) rfl (by decide) (by decide) (by decide) (show (6 : Int) < (7 : Nat) by decide) rfl ?_
    refine am_iload_n dX12_rule_39 (List.Mem.head _) ?_
    refine am_iconst dX12_rule_40 (by unfold am_rg; omega) ?_
    refine am_iastore dX12_rule_41 (Or.inl (by decide)) rfl o2 o3 ?_
    refine am_aload_n dX12_rule_42 (List.Mem.tail _ (List.Mem.head _)) ?_
    refine am_getf (f := 10) (v := .inr (.inr (some (74, 0)))) dX12_rule_43 hc_10 (by decide) wd_1559 (by decide) rfl rfl ?_
    refine am_bipush dX12_rule_46 (by decide) (by unfold am_rg; omega) ?_
    refine am_aaload (kd := 5) (r := some (75, 6)) dX12_rule_48 (by decide) rfl (by decide) (by decide) (by decide) (show (6 : Int) < (7 : Nat) by decide) rfl ?_
    refine am_iload_n dX12_rule_49 (List.Mem.head _) ?_
    refine am_iconst dX12_rule_50 (by unfold am_rg; omega) ?_
    refine am_iastore dX12_rule_51 (Or.inl (by decide)) rfl o2 o3 ?_
    refine am_aload_n dX12_rule_52 (List.Mem.tail _ (List.Mem.head _)) ?_
    refine am_iload_n dX12_rule_53 (List.Mem.head _) ?_
    exact am_callv (d' := d + 9) (kc := 0) (ks := 0) (as := [.inl (w.1 68 0 6)]) dX12_rule_54 wc_X12_word wd_1940 wd_1942 wd_59 wd_122 ds_X12_word (by decide) (by omega) (Nat.le_of_ble_eq_true rfl) (Nat.zero_le _) (Nat.zero_le _) hc_10 (by decide) rfl rfl h
  · replace h := h.2 c1
    refine am_aload_n dX12_rule_14 (List.Mem.tail _ (List.Mem.head _)) ?_
    refine am_iconst dX12_rule_15 (by unfold am_rg; omega) ?_
    refine am_bipush dX12_rule_16 (by decide) (by unfold am_rg; omega) ?_
    exact am_callv (d' := d + 9) (kc := 0) (ks := 0) (as := [.inl 0, .inl 6]) dX12_rule_18 wc_X12_faults wd_1925 wd_1927 wd_56 wd_122 ds_X12_faults (by decide) (by omega) (Nat.le_of_ble_eq_true rfl) (Nat.zero_le _) (Nat.zero_le _) hc_10 (by decide) rfl rfl h
theorem bX12_rule_57 {SC : Nat → Nat} {X : mh_X} {d : Nat} {Q : Option am_V → am_W → Prop} {bc bs : Nat} {w : am_W} {x1 : Int}
    (h : ((¬ (w.1 9 0 4) = 0 → am_A (mh_G X) SC (d + 10) mX12_rule Q 92 [(0, .inr (.inr (some (9, 0)))), (1, .inl x1)] [] w bc bs) ∧ ((w.1 9 0 4) = 0 → am_M (mh_G X) SC (d + 9) 0 0 mX12_isWord [.inr (.inr (some (9, 0))), .inr (.inr (some (1000, 77)))] w (fun r w1 => am_A (mh_G X) SC (d + 10) mX12_rule Q 71 [(1, .inl x1), (0, .inr (.inr (some (9, 0))))] (r.toList ++ []) w1 bc bs)))) :
    am_A (mh_G X) SC (d + 10) mX12_rule Q 57 [(1, .inl x1), (0, .inr (.inr (some (9, 0))))] [] w bc bs := by
  refine am_aload_n dX12_rule_57 (List.Mem.tail _ (List.Mem.head _)) ?_
  refine am_getf (f := 4) (v := .inl (w.1 9 0 4)) dX12_rule_58 hc_10 (by decide) wd_1553 (by decide) rfl rfl ?_
  refine am_ifne (tgt := 92) dX12_rule_61 (by decide) (fun c1 => ?_) (fun c1 => ?_)
  · replace h := h.1 c1
    exact am_sub [1, 0] rfl h
  · replace h := h.2 c1
    refine am_aload_n dX12_rule_64 (List.Mem.tail _ (List.Mem.head _)) ?_
    refine am_ldcwS (sid := 77) dX12_rule_65 rfl ?_
    exact am_callv (d' := d + 9) (kc := 0) (ks := 0) (as := [.inr (.inr (some (1000, 77)))]) dX12_rule_68 wc_X12_isWord wd_1930 wd_1932 wd_57 wd_122 ds_X12_isWord (by decide) (by omega) (Nat.le_of_ble_eq_true rfl) (Nat.zero_le _) (Nat.zero_le _) hc_10 (by decide) rfl rfl h
theorem bX12_rule_21 {SC : Nat → Nat} {X : mh_X} {d : Nat} {Q : Option am_V → am_W → Prop} {bc bs : Nat} {w : am_W} {x1 : Int}
    (h : Q none w) :
    am_A (mh_G X) SC (d + 10) mX12_rule Q 21 [(1, .inl x1), (0, .inr (.inr (some (9, 0))))] [] w bc bs := by
  exact am_ret (r := none) dX12_rule_21 rfl rfl h
theorem bX12_rule_92 {SC : Nat → Nat} {X : mh_X} {d : Nat} {Q : Option am_V → am_W → Prop} {bc bs : Nat} {w : am_W} {x1 : Int}
    (h : am_M (mh_G X) SC (d + 9) 0 0 mX12_needs__ [.inr (.inr (some (9, 0))), .inl 58] w (fun r w1 => am_A (mh_G X) SC (d + 10) mX12_rule Q 98 [(0, .inr (.inr (some (9, 0)))), (1, .inl x1)] (r.toList ++ []) w1 bc bs)) :
    am_A (mh_G X) SC (d + 10) mX12_rule Q 92 [(0, .inr (.inr (some (9, 0)))), (1, .inl x1)] [] w bc bs := by
  refine am_aload_n dX12_rule_92 (List.Mem.head _) ?_
  refine am_bipush dX12_rule_93 (by decide) (by unfold am_rg; omega) ?_
  exact am_callv (d' := d + 9) (kc := 0) (ks := 0) (as := [.inl 58]) dX12_rule_95 wc_X12_needs__ wd_1949 wd_1951 wd_61 wd_122 ds_X12_needs__ (by decide) (by omega) (Nat.le_of_ble_eq_true rfl) (Nat.zero_le _) (Nat.zero_le _) hc_10 (by decide) rfl rfl h
theorem bX12_rule_71 {SC : Nat → Nat} {X : mh_X} {d : Nat} {Q : Option am_V → am_W → Prop} {bc bs : Nat} {w : am_W} {x1 : Int} {xs0 : Int}
    (h : ((xs0 = 0 → am_A (mh_G X) SC (d + 10) mX12_rule Q 92 [(0, .inr (.inr (some (9, 0)))), (1, .inl x1)] [] w bc bs) ∧ (¬ xs0 = 0 → am_M (mh_G X) SC (d + 9) 0 0 mX12_word [.inr (.inr (some (9, 0))), .inl x1] ((am_up w.1 9 0 32 (am_w ((w.1 9 0 32) + 1))), w.2) (fun r w1 => am_A (mh_G X) SC (d + 10) mX12_rule Q 89 [(1, .inl x1), (0, .inr (.inr (some (9, 0))))] (r.toList ++ []) w1 bc bs)))) :
    am_A (mh_G X) SC (d + 10) mX12_rule Q 71 [(1, .inl x1), (0, .inr (.inr (some (9, 0))))] [.inl xs0] w bc bs := by
  refine am_ifeq (tgt := 92) dX12_rule_71 (by decide) (fun c1 => ?_) (fun c1 => ?_)
  · replace h := h.1 c1
    exact am_sub [1, 0] rfl h
  · replace h := h.2 c1
    refine am_aload_n dX12_rule_74 (List.Mem.tail _ (List.Mem.head _)) ?_
    refine am_dup dX12_rule_75 rfl ?_
    refine am_getf (f := 32) (v := .inl (w.1 9 0 32)) dX12_rule_76 hc_10 (by decide) wd_1581 (by decide) rfl rfl ?_
    refine am_iconst dX12_rule_79 (by unfold am_rg; omega) ?_
    refine am_iadd dX12_rule_80 ?_
    refine am_putf (f := 32) dX12_rule_81 hc_10 (by decide) wd_1581 rfl (Or.inl rfl) (Or.inl (by decide)) rfl ?_
    refine am_aload_n dX12_rule_84 (List.Mem.tail _ (List.Mem.head _)) ?_
    refine am_iload_n dX12_rule_85 (List.Mem.head _) ?_
    exact am_callv (d' := d + 9) (kc := 0) (ks := 0) (as := [.inl x1]) dX12_rule_86 wc_X12_word wd_1940 wd_1942 wd_59 wd_122 ds_X12_word (by decide) (by omega) (Nat.le_of_ble_eq_true rfl) (Nat.zero_le _) (Nat.zero_le _) hc_10 (by decide) rfl rfl h
theorem bX12_rule_98 {SC : Nat → Nat} {X : mh_X} {d : Nat} {Q : Option am_V → am_W → Prop} {bc bs : Nat} {w : am_W} {x1 : Int}
    (h : (((w.1 9 0 4) = 0 → am_M (mh_G X) SC (d + 9) 0 0 mX12_stage [.inr (.inr (some (9, 0))), .inl x1] w (fun r w1 => am_A (mh_G X) SC (d + 10) mX12_rule Q 111 [(0, .inr (.inr (some (9, 0)))), (1, .inl x1)] (r.toList ++ []) w1 bc bs)) ∧ (¬ (w.1 9 0 4) = 0 → Q none w))) :
    am_A (mh_G X) SC (d + 10) mX12_rule Q 98 [(0, .inr (.inr (some (9, 0)))), (1, .inl x1)] [] w bc bs := by
  refine am_aload_n dX12_rule_98 (List.Mem.head _) ?_
  refine am_getf (f := 4) (v := .inl (w.1 9 0 4)) dX12_rule_99 hc_10 (by decide) wd_1553 (by decide) rfl rfl ?_
  refine am_ifeq (tgt := 106) dX12_rule_102 (by decide) (fun c1 => ?_) (fun c1 => ?_)
  · replace h := h.1 c1
    refine am_aload_n dX12_rule_106 (List.Mem.head _) ?_
    refine am_iload_n dX12_rule_107 (List.Mem.tail _ (List.Mem.head _)) ?_
    exact am_callv (d' := d + 9) (kc := 0) (ks := 0) (as := [.inl x1]) dX12_rule_108 wc_X12_stage wd_1957 wd_1959 wd_63 wd_122 ds_X12_stage (by decide) (by omega) (Nat.le_of_ble_eq_true rfl) (Nat.zero_le _) (Nat.zero_le _) hc_10 (by decide) rfl rfl h
  · replace h := h.2 c1
    exact am_ret (r := none) dX12_rule_105 rfl rfl h
theorem bX12_rule_89 {SC : Nat → Nat} {X : mh_X} {d : Nat} {Q : Option am_V → am_W → Prop} {bc bs : Nat} {w : am_W} {x1 : Int}
    (h : am_A (mh_G X) SC (d + 10) mX12_rule Q 57 [(0, .inr (.inr (some (9, 0)))), (1, .inl x1)] [] w bc bs) :
    am_A (mh_G X) SC (d + 10) mX12_rule Q 89 [(1, .inl x1), (0, .inr (.inr (some (9, 0))))] [] w bc bs := by
  refine am_goto (tgt := 57) dX12_rule_89 (by decide) ?_
  exact am_sub [1, 0] rfl h
theorem bX12_rule_111 {SC : Nat → Nat} {X : mh_X} {d : Nat} {Q : Option am_V → am_W → Prop} {bc bs : Nat} {w : am_W} {x1 : Int}
    (h : ((¬ (w.1 9 0 4) = 0 → am_A (mh_G X) SC (d + 10) mX12_rule Q 145 [(0, .inr (.inr (some (9, 0)))), (1, .inl x1)] [] w bc bs) ∧ ((w.1 9 0 4) = 0 → ((¬ (w.1 9 0 30) ≤ (w.1 9 0 32) → 0 ≤ (w.1 9 0 32)) ∧ ((¬ (w.1 9 0 30) ≤ (w.1 9 0 32) → (w.1 9 0 32) < 3000) ∧ ((¬ (¬ (w.1 9 0 30) ≤ (w.1 9 0 32) ∧ ((w.1 95 0 (w.1 9 0 32).toNat) = (44 : Int))) → am_A (mh_G X) SC (d + 10) mX12_rule Q 145 [(0, .inr (.inr (some (9, 0)))), (1, .inl x1)] [] w bc bs) ∧ ((¬ (w.1 9 0 30) ≤ (w.1 9 0 32) ∧ ((w.1 95 0 (w.1 9 0 32).toNat) = (44 : Int))) → am_M (mh_G X) SC (d + 9) 0 0 mX12_stage [.inr (.inr (some (9, 0))), .inl x1] ((am_up w.1 9 0 32 (am_w ((w.1 9 0 32) + 1))), w.2) (fun r w1 => am_A (mh_G X) SC (d + 10) mX12_rule Q 142 [(0, .inr (.inr (some (9, 0)))), (1, .inl x1)] (r.toList ++ []) w1 bc bs)))))))) :
    am_A (mh_G X) SC (d + 10) mX12_rule Q 111 [(0, .inr (.inr (some (9, 0)))), (1, .inl x1)] [] w bc bs := by
  refine am_aload_n dX12_rule_111 (List.Mem.head _) ?_
  refine am_getf (f := 4) (v := .inl (w.1 9 0 4)) dX12_rule_112 hc_10 (by decide) wd_1553 (by decide) rfl rfl ?_
  refine am_ifne (tgt := 145) dX12_rule_115 (by decide) (fun c1 => ?_) (fun c1 => ?_)
  · replace h := h.1 c1
    exact h
  · replace h := h.2 c1
    refine am_aload_n dX12_rule_118 (List.Mem.head _) ?_
    refine am_bipush dX12_rule_119 (by decide) (by unfold am_rg; omega) ?_
    have o2 := h.1
    replace h := h.2
    have o3 := h.1
    replace h := h.2
    refine am_callv (d' := d + 9) (kc := 0) (ks := 0) (as := [.inl 44]) dX12_rule_121 wc_X12_isSign wd_1953 wd_1955 wd_62 wd_122 ds_X12_isSign (by decide) (by omega) (Nat.le_of_ble_eq_true rfl) (Nat.zero_le _) (Nat.zero_le _) hc_10 (by decide) rfl rfl (sX12_isSign (d := d + 8) (x1 := 44) o2 o3 ?_)
    show am_A (mh_G X) SC (d + 10) mX12_rule Q 124 [(0, .inr (.inr (some (9, 0)))), (1, .inl x1)] [.inl (if (¬ (w.1 9 0 30) ≤ (w.1 9 0 32) ∧ ((w.1 95 0 (w.1 9 0 32).toNat) = (44 : Int))) then 1 else 0)] w bc bs
    refine am_ifeq (tgt := 145) dX12_rule_124 (by decide) (fun c4 => ?_) (fun c4 => ?_)
    · replace c4 := am_beq1 c4
      replace h := h.1 c4
      exact h
    · replace c4 := am_beq2 c4
      replace h := h.2 c4
      refine am_aload_n dX12_rule_127 (List.Mem.head _) ?_
      refine am_dup dX12_rule_128 rfl ?_
      refine am_getf (f := 32) (v := .inl (w.1 9 0 32)) dX12_rule_129 hc_10 (by decide) wd_1581 (by decide) rfl rfl ?_
      refine am_iconst dX12_rule_132 (by unfold am_rg; omega) ?_
      refine am_iadd dX12_rule_133 ?_
      refine am_putf (f := 32) dX12_rule_134 hc_10 (by decide) wd_1581 rfl (Or.inl rfl) (Or.inl (by decide)) rfl ?_
      refine am_aload_n dX12_rule_137 (List.Mem.head _) ?_
      refine am_iload_n dX12_rule_138 (List.Mem.tail _ (List.Mem.head _)) ?_
      exact am_callv (d' := d + 9) (kc := 0) (ks := 0) (as := [.inl x1]) dX12_rule_139 wc_X12_stage wd_1957 wd_1959 wd_63 wd_122 ds_X12_stage (by decide) (by omega) (Nat.le_of_ble_eq_true rfl) (Nat.zero_le _) (Nat.zero_le _) hc_10 (by decide) rfl rfl h
theorem bX12_rule_57a {SC : Nat → Nat} {X : mh_X} {d : Nat} {Q : Option am_V → am_W → Prop} {bc bs : Nat} {w : am_W} {x1 : Int}
    (h : ((¬ (w.1 9 0 4) = 0 → am_A (mh_G X) SC (d + 10) mX12_rule Q 92 [(0, .inr (.inr (some (9, 0)))), (1, .inl x1)] [] w bc bs) ∧ ((w.1 9 0 4) = 0 → am_M (mh_G X) SC (d + 9) 0 0 mX12_isWord [.inr (.inr (some (9, 0))), .inr (.inr (some (1000, 77)))] w (fun r w1 => am_A (mh_G X) SC (d + 10) mX12_rule Q 71 [(0, .inr (.inr (some (9, 0)))), (1, .inl x1)] (r.toList ++ []) w1 bc bs)))) :
    am_A (mh_G X) SC (d + 10) mX12_rule Q 57 [(0, .inr (.inr (some (9, 0)))), (1, .inl x1)] [] w bc bs := by
  refine am_aload_n dX12_rule_57 (List.Mem.head _) ?_
  refine am_getf (f := 4) (v := .inl (w.1 9 0 4)) dX12_rule_58 hc_10 (by decide) wd_1553 (by decide) rfl rfl ?_
  refine am_ifne (tgt := 92) dX12_rule_61 (by decide) (fun c1 => ?_) (fun c1 => ?_)
  · replace h := h.1 c1
    exact h
  · replace h := h.2 c1
    refine am_aload_n dX12_rule_64 (List.Mem.head _) ?_
    refine am_ldcwS (sid := 77) dX12_rule_65 rfl ?_
    exact am_callv (d' := d + 9) (kc := 0) (ks := 0) (as := [.inr (.inr (some (1000, 77)))]) dX12_rule_68 wc_X12_isWord wd_1930 wd_1932 wd_57 wd_122 ds_X12_isWord (by decide) (by omega) (Nat.le_of_ble_eq_true rfl) (Nat.zero_le _) (Nat.zero_le _) hc_10 (by decide) rfl rfl h
theorem bX12_rule_145 {SC : Nat → Nat} {X : mh_X} {d : Nat} {Q : Option am_V → am_W → Prop} {bc bs : Nat} {w : am_W} {x1 : Int}
    (h : ((¬ (w.1 9 0 4) = 0 → am_A (mh_G X) SC (d + 10) mX12_rule Q 179 [(0, .inr (.inr (some (9, 0))))] [] w bc bs) ∧ ((w.1 9 0 4) = 0 → ((¬ (w.1 9 0 30) ≤ (w.1 9 0 32) → 0 ≤ (w.1 9 0 32)) ∧ ((¬ (w.1 9 0 30) ≤ (w.1 9 0 32) → (w.1 9 0 32) < 3000) ∧ ((¬ (¬ (w.1 9 0 30) ≤ (w.1 9 0 32) ∧ ((w.1 95 0 (w.1 9 0 32).toNat) = (59 : Int))) → am_A (mh_G X) SC (d + 10) mX12_rule Q 179 [(0, .inr (.inr (some (9, 0))))] [] w bc bs) ∧ ((¬ (w.1 9 0 30) ≤ (w.1 9 0 32) ∧ ((w.1 95 0 (w.1 9 0 32).toNat) = (59 : Int))) → am_M (mh_G X) SC (d + 9) 0 0 mX12_option [.inr (.inr (some (9, 0))), .inl x1] ((am_up w.1 9 0 32 (am_w ((w.1 9 0 32) + 1))), w.2) (fun r w1 => am_A (mh_G X) SC (d + 10) mX12_rule Q 176 [(0, .inr (.inr (some (9, 0)))), (1, .inl x1)] (r.toList ++ []) w1 bc bs)))))))) :
    am_A (mh_G X) SC (d + 10) mX12_rule Q 145 [(0, .inr (.inr (some (9, 0)))), (1, .inl x1)] [] w bc bs := by
  refine am_aload_n dX12_rule_145 (List.Mem.head _) ?_
  refine am_getf (f := 4) (v := .inl (w.1 9 0 4)) dX12_rule_146 hc_10 (by decide) wd_1553 (by decide) rfl rfl ?_
  refine am_ifne (tgt := 179) dX12_rule_149 (by decide) (fun c1 => ?_) (fun c1 => ?_)
  · replace h := h.1 c1
    exact am_sub [0] rfl h
  · replace h := h.2 c1
    refine am_aload_n dX12_rule_152 (List.Mem.head _) ?_
    refine am_bipush dX12_rule_153 (by decide) (by unfold am_rg; omega) ?_
    have o2 := h.1
    replace h := h.2
    have o3 := h.1
    replace h := h.2
    refine am_callv (d' := d + 9) (kc := 0) (ks := 0) (as := [.inl 59]) dX12_rule_155 wc_X12_isSign wd_1953 wd_1955 wd_62 wd_122 ds_X12_isSign (by decide) (by omega) (Nat.le_of_ble_eq_true rfl) (Nat.zero_le _) (Nat.zero_le _) hc_10 (by decide) rfl rfl (sX12_isSign (d := d + 8) (x1 := 59) o2 o3 ?_)
    show am_A (mh_G X) SC (d + 10) mX12_rule Q 158 [(0, .inr (.inr (some (9, 0)))), (1, .inl x1)] [.inl (if (¬ (w.1 9 0 30) ≤ (w.1 9 0 32) ∧ ((w.1 95 0 (w.1 9 0 32).toNat) = (59 : Int))) then 1 else 0)] w bc bs
    refine am_ifeq (tgt := 179) dX12_rule_158 (by decide) (fun c4 => ?_) (fun c4 => ?_)
    · replace c4 := am_beq1 c4
      replace h := h.1 c4
      exact am_sub [0] rfl h
    · replace c4 := am_beq2 c4
      replace h := h.2 c4
      refine am_aload_n dX12_rule_161 (List.Mem.head _) ?_
      refine am_dup dX12_rule_162 rfl ?_
      refine am_getf (f := 32) (v := .inl (w.1 9 0 32)) dX12_rule_163 hc_10 (by decide) wd_1581 (by decide) rfl rfl ?_
      refine am_iconst dX12_rule_166 (by unfold am_rg; omega) ?_
      refine am_iadd dX12_rule_167 ?_
      refine am_putf (f := 32) dX12_rule_168 hc_10 (by decide) wd_1581 rfl (Or.inl rfl) (Or.inl (by decide)) rfl ?_
      refine am_aload_n dX12_rule_171 (List.Mem.head _) ?_
      refine am_iload_n dX12_rule_172 (List.Mem.tail _ (List.Mem.head _)) ?_
      exact am_callv (d' := d + 9) (kc := 0) (ks := 0) (as := [.inl x1]) dX12_rule_173 wc_X12_option wd_1969 wd_1971 wd_66 wd_122 ds_X12_option (by decide) (by omega) (Nat.le_of_ble_eq_true rfl) (Nat.zero_le _) (Nat.zero_le _) hc_10 (by decide) rfl rfl h
theorem bX12_rule_142 {SC : Nat → Nat} {X : mh_X} {d : Nat} {Q : Option am_V → am_W → Prop} {bc bs : Nat} {w : am_W} {x1 : Int}
    (h : am_A (mh_G X) SC (d + 10) mX12_rule Q 111 [(0, .inr (.inr (some (9, 0)))), (1, .inl x1)] [] w bc bs) :
    am_A (mh_G X) SC (d + 10) mX12_rule Q 142 [(0, .inr (.inr (some (9, 0)))), (1, .inl x1)] [] w bc bs := by
  refine am_goto (tgt := 111) dX12_rule_142 (by decide) ?_
  exact h
theorem bX12_rule_71a {SC : Nat → Nat} {X : mh_X} {d : Nat} {Q : Option am_V → am_W → Prop} {bc bs : Nat} {w : am_W} {x1 : Int} {xs0 : Int}
    (h : ((xs0 = 0 → am_A (mh_G X) SC (d + 10) mX12_rule Q 92 [(0, .inr (.inr (some (9, 0)))), (1, .inl x1)] [] w bc bs) ∧ (¬ xs0 = 0 → am_M (mh_G X) SC (d + 9) 0 0 mX12_word [.inr (.inr (some (9, 0))), .inl x1] ((am_up w.1 9 0 32 (am_w ((w.1 9 0 32) + 1))), w.2) (fun r w1 => am_A (mh_G X) SC (d + 10) mX12_rule Q 89 [(0, .inr (.inr (some (9, 0)))), (1, .inl x1)] (r.toList ++ []) w1 bc bs)))) :
    am_A (mh_G X) SC (d + 10) mX12_rule Q 71 [(0, .inr (.inr (some (9, 0)))), (1, .inl x1)] [.inl xs0] w bc bs := by
  refine am_ifeq (tgt := 92) dX12_rule_71 (by decide) (fun c1 => ?_) (fun c1 => ?_)
  · replace h := h.1 c1
    exact h
  · replace h := h.2 c1
    refine am_aload_n dX12_rule_74 (List.Mem.head _) ?_
    refine am_dup dX12_rule_75 rfl ?_
    refine am_getf (f := 32) (v := .inl (w.1 9 0 32)) dX12_rule_76 hc_10 (by decide) wd_1581 (by decide) rfl rfl ?_
    refine am_iconst dX12_rule_79 (by unfold am_rg; omega) ?_
    refine am_iadd dX12_rule_80 ?_
    refine am_putf (f := 32) dX12_rule_81 hc_10 (by decide) wd_1581 rfl (Or.inl rfl) (Or.inl (by decide)) rfl ?_
    refine am_aload_n dX12_rule_84 (List.Mem.head _) ?_
    refine am_iload_n dX12_rule_85 (List.Mem.tail _ (List.Mem.head _)) ?_
    exact am_callv (d' := d + 9) (kc := 0) (ks := 0) (as := [.inl x1]) dX12_rule_86 wc_X12_word wd_1940 wd_1942 wd_59 wd_122 ds_X12_word (by decide) (by omega) (Nat.le_of_ble_eq_true rfl) (Nat.zero_le _) (Nat.zero_le _) hc_10 (by decide) rfl rfl h
theorem bX12_rule_179 {SC : Nat → Nat} {X : mh_X} {d : Nat} {Q : Option am_V → am_W → Prop} {bc bs : Nat} {w : am_W} 
    (h : Q none ((am_up w.1 68 0 6 (am_w ((w.1 68 0 6) + 1))), w.2)) :
    am_A (mh_G X) SC (d + 10) mX12_rule Q 179 [(0, .inr (.inr (some (9, 0))))] [] w bc bs := by
  refine am_aload_n dX12_rule_179 (List.Mem.head _) ?_
  refine am_getf (f := 6) (v := .inr (.inr (some (68, 0)))) dX12_rule_180 hc_10 (by decide) wd_1555 (by decide) rfl rfl ?_
  refine am_bipush dX12_rule_183 (by decide) (by unfold am_rg; omega) ?_
  refine am_dup2 dX12_rule_185 rfl rfl ?_
  refine am_iaload (v := (w.1 68 0 6)) dX12_rule_186 (by decide) rfl (by decide) (show (6 : Int) < (7 : Nat) by decide) rfl ?_
  refine am_iconst dX12_rule_187 (by unfold am_rg; omega) ?_
  refine am_iadd dX12_rule_188 ?_
  refine am_iastore dX12_rule_189 (Or.inl (by decide)) rfl (by decide) (show (6 : Int) < (7 : Nat) by decide) ?_
  exact am_ret (r := none) dX12_rule_190 rfl rfl h
theorem bX12_rule_176 {SC : Nat → Nat} {X : mh_X} {d : Nat} {Q : Option am_V → am_W → Prop} {bc bs : Nat} {w : am_W} {x1 : Int}
    (h : am_A (mh_G X) SC (d + 10) mX12_rule Q 145 [(0, .inr (.inr (some (9, 0)))), (1, .inl x1)] [] w bc bs) :
    am_A (mh_G X) SC (d + 10) mX12_rule Q 176 [(0, .inr (.inr (some (9, 0)))), (1, .inl x1)] [] w bc bs := by
  refine am_goto (tgt := 145) dX12_rule_176 (by decide) ?_
  exact h
theorem bX12_rule_89a {SC : Nat → Nat} {X : mh_X} {d : Nat} {Q : Option am_V → am_W → Prop} {bc bs : Nat} {w : am_W} {x1 : Int}
    (h : am_A (mh_G X) SC (d + 10) mX12_rule Q 57 [(0, .inr (.inr (some (9, 0)))), (1, .inl x1)] [] w bc bs) :
    am_A (mh_G X) SC (d + 10) mX12_rule Q 89 [(0, .inr (.inr (some (9, 0)))), (1, .inl x1)] [] w bc bs := by
  refine am_goto (tgt := 57) dX12_rule_89 (by decide) ?_
  exact h
-- MourningHouseModel.feast()V
theorem dX12_feast_0 : decode mX12_feast.2.1 0 = .ok (.aload_n 0, 1) := by decide +kernel
theorem dX12_feast_1 : decode mX12_feast.2.1 1 = .ok (.getfield 20, 3) := by decide +kernel
theorem dX12_feast_4 : decode mX12_feast.2.1 4 = .ok (.bipush 6, 2) := by decide +kernel
theorem dX12_feast_6 : decode mX12_feast.2.1 6 = .ok (.iaload, 1) := by decide +kernel
theorem dX12_feast_7 : decode mX12_feast.2.1 7 = .ok (.istore_n 1, 1) := by decide +kernel
theorem dX12_feast_8 : decode mX12_feast.2.1 8 = .ok (.iload_n 1, 1) := by decide +kernel
theorem dX12_feast_9 : decode mX12_feast.2.1 9 = .ok (.bipush 8, 2) := by decide +kernel
theorem dX12_feast_11 : decode mX12_feast.2.1 11 = .ok (.if_icmp .ne 11, 3) := by decide +kernel
theorem dX12_feast_14 : decode mX12_feast.2.1 14 = .ok (.aload_n 0, 1) := by decide +kernel
theorem dX12_feast_15 : decode mX12_feast.2.1 15 = .ok (.iconst 0, 1) := by decide +kernel
theorem dX12_feast_16 : decode mX12_feast.2.1 16 = .ok (.bipush 6, 2) := by decide +kernel
theorem dX12_feast_18 : decode mX12_feast.2.1 18 = .ok (.invokevirtual 358, 3) := by decide +kernel
theorem dX12_feast_21 : decode mX12_feast.2.1 21 = .ok (.return_, 1) := by decide +kernel
theorem dX12_feast_22 : decode mX12_feast.2.1 22 = .ok (.aload_n 0, 1) := by decide +kernel
theorem dX12_feast_23 : decode mX12_feast.2.1 23 = .ok (.iconst 1, 1) := by decide +kernel
theorem dX12_feast_24 : decode mX12_feast.2.1 24 = .ok (.bipush 12, 2) := by decide +kernel
theorem dX12_feast_26 : decode mX12_feast.2.1 26 = .ok (.invokevirtual 384, 3) := by decide +kernel
theorem dX12_feast_29 : decode mX12_feast.2.1 29 = .ok (.istore_n 2, 1) := by decide +kernel
theorem dX12_feast_30 : decode mX12_feast.2.1 30 = .ok (.aload_n 0, 1) := by decide +kernel
theorem dX12_feast_31 : decode mX12_feast.2.1 31 = .ok (.bipush 46, 2) := by decide +kernel
theorem dX12_feast_33 : decode mX12_feast.2.1 33 = .ok (.invokevirtual 400, 3) := by decide +kernel
theorem dX12_feast_36 : decode mX12_feast.2.1 36 = .ok (.aload_n 0, 1) := by decide +kernel
theorem dX12_feast_37 : decode mX12_feast.2.1 37 = .ok (.getfield 337, 3) := by decide +kernel
theorem dX12_feast_40 : decode mX12_feast.2.1 40 = .ok (.ifCond .eq 4, 3) := by decide +kernel
theorem dX12_feast_43 : decode mX12_feast.2.1 43 = .ok (.return_, 1) := by decide +kernel
theorem dX12_feast_44 : decode mX12_feast.2.1 44 = .ok (.aload_n 0, 1) := by decide +kernel
theorem dX12_feast_45 : decode mX12_feast.2.1 45 = .ok (.iconst 1, 1) := by decide +kernel
theorem dX12_feast_46 : decode mX12_feast.2.1 46 = .ok (.iload_n 2, 1) := by decide +kernel
theorem dX12_feast_47 : decode mX12_feast.2.1 47 = .ok (.iconst 2, 1) := by decide +kernel
theorem dX12_feast_48 : decode mX12_feast.2.1 48 = .ok (.if_icmp .ne 8, 3) := by decide +kernel
theorem dX12_feast_51 : decode mX12_feast.2.1 51 = .ok (.bipush 29, 2) := by decide +kernel
theorem dX12_feast_53 : decode mX12_feast.2.1 53 = .ok (.goto 10, 3) := by decide +kernel
theorem dX12_feast_56 : decode mX12_feast.2.1 56 = .ok (.sipush 1801, 3) := by decide +kernel
theorem dX12_feast_59 : decode mX12_feast.2.1 59 = .ok (.iload_n 2, 1) := by decide +kernel
theorem dX12_feast_60 : decode mX12_feast.2.1 60 = .ok (.invokestatic 299, 3) := by decide +kernel
theorem dX12_feast_63 : decode mX12_feast.2.1 63 = .ok (.invokevirtual 384, 3) := by decide +kernel
theorem dX12_feast_66 : decode mX12_feast.2.1 66 = .ok (.istore_n 3, 1) := by decide +kernel
theorem dX12_feast_67 : decode mX12_feast.2.1 67 = .ok (.aload_n 0, 1) := by decide +kernel
theorem dX12_feast_68 : decode mX12_feast.2.1 68 = .ok (.ldc_w 408, 3) := by decide +kernel
theorem dX12_feast_71 : decode mX12_feast.2.1 71 = .ok (.invokevirtual 392, 3) := by decide +kernel
theorem dX12_feast_74 : decode mX12_feast.2.1 74 = .ok (.aload_n 0, 1) := by decide +kernel
theorem dX12_feast_75 : decode mX12_feast.2.1 75 = .ok (.aload_n 0, 1) := by decide +kernel
theorem dX12_feast_76 : decode mX12_feast.2.1 76 = .ok (.getfield 106, 3) := by decide +kernel
theorem dX12_feast_79 : decode mX12_feast.2.1 79 = .ok (.invokevirtual 387, 3) := by decide +kernel
theorem dX12_feast_82 : decode mX12_feast.2.1 82 = .ok (.istore 4, 2) := by decide +kernel
theorem dX12_feast_84 : decode mX12_feast.2.1 84 = .ok (.aload_n 0, 1) := by decide +kernel
theorem dX12_feast_85 : decode mX12_feast.2.1 85 = .ok (.getfield 337, 3) := by decide +kernel
theorem dX12_feast_88 : decode mX12_feast.2.1 88 = .ok (.ifCond .eq 4, 3) := by decide +kernel
theorem dX12_feast_91 : decode mX12_feast.2.1 91 = .ok (.return_, 1) := by decide +kernel
theorem dX12_feast_92 : decode mX12_feast.2.1 92 = .ok (.aload_n 0, 1) := by decide +kernel
theorem dX12_feast_93 : decode mX12_feast.2.1 93 = .ok (.getfield 45, 3) := by decide +kernel
theorem dX12_feast_96 : decode mX12_feast.2.1 96 = .ok (.bipush 6, 2) := by decide +kernel
theorem dX12_feast_98 : decode mX12_feast.2.1 98 = .ok (.aaload, 1) := by decide +kernel
theorem dX12_feast_99 : decode mX12_feast.2.1 99 = .ok (.iload_n 1, 1) := by decide +kernel
theorem dX12_feast_100 : decode mX12_feast.2.1 100 = .ok (.bipush 100, 2) := by decide +kernel
theorem dX12_feast_102 : decode mX12_feast.2.1 102 = .ok (.iload_n 2, 1) := by decide +kernel
theorem dX12_feast_103 : decode mX12_feast.2.1 103 = .ok (.imul, 1) := by decide +kernel
theorem dX12_feast_104 : decode mX12_feast.2.1 104 = .ok (.iload_n 3, 1) := by decide +kernel
theorem dX12_feast_105 : decode mX12_feast.2.1 105 = .ok (.iadd, 1) := by decide +kernel
theorem dX12_feast_106 : decode mX12_feast.2.1 106 = .ok (.iastore, 1) := by decide +kernel
theorem dX12_feast_107 : decode mX12_feast.2.1 107 = .ok (.aload_n 0, 1) := by decide +kernel
theorem dX12_feast_108 : decode mX12_feast.2.1 108 = .ok (.getfield 48, 3) := by decide +kernel
theorem dX12_feast_111 : decode mX12_feast.2.1 111 = .ok (.bipush 6, 2) := by decide +kernel
theorem dX12_feast_113 : decode mX12_feast.2.1 113 = .ok (.aaload, 1) := by decide +kernel
theorem dX12_feast_114 : decode mX12_feast.2.1 114 = .ok (.iload_n 1, 1) := by decide +kernel
theorem dX12_feast_115 : decode mX12_feast.2.1 115 = .ok (.iload 4, 2) := by decide +kernel
theorem dX12_feast_117 : decode mX12_feast.2.1 117 = .ok (.iastore, 1) := by decide +kernel
theorem dX12_feast_118 : decode mX12_feast.2.1 118 = .ok (.aload_n 0, 1) := by decide +kernel
theorem dX12_feast_119 : decode mX12_feast.2.1 119 = .ok (.getfield 20, 3) := by decide +kernel
theorem dX12_feast_122 : decode mX12_feast.2.1 122 = .ok (.bipush 6, 2) := by decide +kernel
theorem dX12_feast_124 : decode mX12_feast.2.1 124 = .ok (.dup2, 1) := by decide +kernel
theorem dX12_feast_125 : decode mX12_feast.2.1 125 = .ok (.iaload, 1) := by decide +kernel
theorem dX12_feast_126 : decode mX12_feast.2.1 126 = .ok (.iconst 1, 1) := by decide +kernel
theorem dX12_feast_127 : decode mX12_feast.2.1 127 = .ok (.iadd, 1) := by decide +kernel
theorem dX12_feast_128 : decode mX12_feast.2.1 128 = .ok (.iastore, 1) := by decide +kernel
theorem dX12_feast_129 : decode mX12_feast.2.1 129 = .ok (.return_, 1) := by decide +kernel
theorem bX12_feast_0 {SC : Nat → Nat} {X : mh_X} {d : Nat} {Q : Option am_V → am_W → Prop} {bc bs : Nat} {w : am_W} 
    (h : ((¬ (w.1 69 0 6) = 8 → am_M (mh_G X) SC (d + 8) 0 0 mX12_number [.inr (.inr (some (9, 0))), .inl 1, .inl 12] w (fun r w1 => am_A (mh_G X) SC (d + 9) mX12_feast Q 29 [(1, .inl (w.1 69 0 6)), (0, .inr (.inr (some (9, 0))))] (r.toList ++ []) w1 bc bs)) ∧ ((w.1 69 0 6) = 8 → am_M (mh_G X) SC (d + 8) 0 0 mX12_faults [.inr (.inr (some (9, 0))), .inl 0, .inl 6] w (fun r w1 => am_A (mh_G X) SC (d + 9) mX12_feast Q 21 [(1, .inl (w.1 69 0 6)), (0, .inr (.inr (some (9, 0))))] (r.toList ++ []) w1 bc bs)))) :
    am_A (mh_G X) SC (d + 9) mX12_feast Q 0 [(0, .inr (.inr (some (9, 0))))] [] w bc bs := by
  refine am_aload_n dX12_feast_0 (List.Mem.head _) ?_
  refine am_getf (f := 7) (v := .inr (.inr (some (69, 0)))) dX12_feast_1 hc_10 (by decide) wd_1556 (by decide) rfl rfl ?_
  refine am_bipush dX12_feast_4 (by decide) (by unfold am_rg; omega) ?_
  refine am_iaload (v := (w.1 69 0 6)) dX12_feast_6 (by decide) rfl (by decide) (show (6 : Int) < (7 : Nat) by decide) rfl ?_
  refine am_istore_n (ls' := [(1, .inl (w.1 69 0 6)), (0, .inr (.inr (some (9, 0))))]) dX12_feast_7 (by decide) rfl ?_
  refine am_iload_n dX12_feast_8 (List.Mem.head _) ?_
  refine am_bipush dX12_feast_9 (by decide) (by unfold am_rg; omega) ?_
  refine am_icmpne (tgt := 22) dX12_feast_11 (by decide) (fun c1 => ?_) (fun c1 => ?_)
  · replace h := h.1 c1
    refine am_aload_n dX12_feast_22 (List.Mem.tail _ (List.Mem.head _)) ?_
    refine am_iconst dX12_feast_23 (by unfold am_rg; omega) ?_
    refine am_bipush dX12_feast_24 (by decide) (by unfold am_rg; omega) ?_
    exact am_callv (d' := d + 8) (kc := 0) (ks := 0) (as := [.inl 1, .inl 12]) dX12_feast_26 wc_X12_number wd_1961 wd_1963 wd_64 wd_122 ds_X12_number (by decide) (by omega) (Nat.le_of_ble_eq_true rfl) (Nat.zero_le _) (Nat.zero_le _) hc_10 (by decide) rfl rfl h
  · replace h := h.2 c1
    refine am_aload_n dX12_feast_14 (List.Mem.tail _ (List.Mem.head _)) ?_
    refine am_iconst dX12_feast_15 (by unfold am_rg; omega) ?_
    refine am_bipush dX12_feast_16 (by decide) (by unfold am_rg; omega) ?_
    exact am_callv (d' := d + 8) (kc := 0) (ks := 0) (as := [.inl 0, .inl 6]) dX12_feast_18 wc_X12_faults wd_1925 wd_1927 wd_56 wd_122 ds_X12_faults (by decide) (by omega) (Nat.le_of_ble_eq_true rfl) (Nat.zero_le _) (Nat.zero_le _) hc_10 (by decide) rfl rfl h
theorem bX12_feast_29 {SC : Nat → Nat} {X : mh_X} {d : Nat} {Q : Option am_V → am_W → Prop} {bc bs : Nat} {w : am_W} {x1 : Int} {xs0 : Int}
    (h : am_M (mh_G X) SC (d + 8) 0 0 mX12_needs__ [.inr (.inr (some (9, 0))), .inl 46] w (fun r w1 => am_A (mh_G X) SC (d + 9) mX12_feast Q 36 [(2, .inl xs0), (1, .inl x1), (0, .inr (.inr (some (9, 0))))] (r.toList ++ []) w1 bc bs)) :
    am_A (mh_G X) SC (d + 9) mX12_feast Q 29 [(1, .inl x1), (0, .inr (.inr (some (9, 0))))] [.inl xs0] w bc bs := by
  refine am_istore_n (ls' := [(2, .inl xs0), (1, .inl x1), (0, .inr (.inr (some (9, 0))))]) dX12_feast_29 (by decide) rfl ?_
  refine am_aload_n dX12_feast_30 (List.Mem.tail _ (List.Mem.tail _ (List.Mem.head _))) ?_
  refine am_bipush dX12_feast_31 (by decide) (by unfold am_rg; omega) ?_
  exact am_callv (d' := d + 8) (kc := 0) (ks := 0) (as := [.inl 46]) dX12_feast_33 wc_X12_needs__ wd_1949 wd_1951 wd_61 wd_122 ds_X12_needs__ (by decide) (by omega) (Nat.le_of_ble_eq_true rfl) (Nat.zero_le _) (Nat.zero_le _) hc_10 (by decide) rfl rfl h
theorem bX12_feast_21 {SC : Nat → Nat} {X : mh_X} {d : Nat} {Q : Option am_V → am_W → Prop} {bc bs : Nat} {w : am_W} {x1 : Int}
    (h : Q none w) :
    am_A (mh_G X) SC (d + 9) mX12_feast Q 21 [(1, .inl x1), (0, .inr (.inr (some (9, 0))))] [] w bc bs := by
  exact am_ret (r := none) dX12_feast_21 rfl rfl h
theorem bX12_feast_36 {SC : Nat → Nat} {X : mh_X} {d : Nat} {Q : Option am_V → am_W → Prop} {bc bs : Nat} {w : am_W} {x2 : Int} {x1 : Int}
    (h : (((w.1 9 0 4) = 0 → ((¬ x2 = 2 → am_M (mh_G X) SC (d + 8) 0 0 mX12_lengthOf [.inl 1801, .inl x2] w (fun r w1 => am_A (mh_G X) SC (d + 9) mX12_feast Q 63 [(2, .inl x2), (1, .inl x1), (0, .inr (.inr (some (9, 0))))] (r.toList ++ [.inl 1, .inr (.inr (some (9, 0)))]) w1 bc bs)) ∧ (x2 = 2 → am_A (mh_G X) SC (d + 9) mX12_feast Q 63 [(0, .inr (.inr (some (9, 0)))), (1, .inl x1), (2, .inl x2)] [.inl 29, .inl 1, .inr (.inr (some (9, 0)))] w bc bs))) ∧ (¬ (w.1 9 0 4) = 0 → Q none w))) :
    am_A (mh_G X) SC (d + 9) mX12_feast Q 36 [(2, .inl x2), (1, .inl x1), (0, .inr (.inr (some (9, 0))))] [] w bc bs := by
  refine am_aload_n dX12_feast_36 (List.Mem.tail _ (List.Mem.tail _ (List.Mem.head _))) ?_
  refine am_getf (f := 4) (v := .inl (w.1 9 0 4)) dX12_feast_37 hc_10 (by decide) wd_1553 (by decide) rfl rfl ?_
  refine am_ifeq (tgt := 44) dX12_feast_40 (by decide) (fun c1 => ?_) (fun c1 => ?_)
  · replace h := h.1 c1
    refine am_aload_n dX12_feast_44 (List.Mem.tail _ (List.Mem.tail _ (List.Mem.head _))) ?_
    refine am_iconst dX12_feast_45 (by unfold am_rg; omega) ?_
    refine am_iload_n dX12_feast_46 (List.Mem.head _) ?_
    refine am_iconst dX12_feast_47 (by unfold am_rg; omega) ?_
    refine am_icmpne (tgt := 56) dX12_feast_48 (by decide) (fun c2 => ?_) (fun c2 => ?_)
    · replace h := h.1 c2
      refine am_sipush dX12_feast_56 (by decide) (by unfold am_rg; omega) ?_
      refine am_iload_n dX12_feast_59 (List.Mem.head _) ?_
      exact am_calls (d' := d + 8) (kc := 0) (ks := 0) (as := [.inl 1801, .inl x2]) dX12_feast_60 wc_X12_lengthOf wd_1874 wd_1875 wd_122 ds_X12_lengthOf (by decide) (by omega) (Nat.le_of_ble_eq_true rfl) (Nat.zero_le _) (Nat.zero_le _) rfl h
    · replace h := h.2 c2
      refine am_bipush dX12_feast_51 (by decide) (by unfold am_rg; omega) ?_
      refine am_goto (tgt := 63) dX12_feast_53 (by decide) ?_
      exact am_sub [2, 1, 0] rfl h
  · replace h := h.2 c1
    exact am_ret (r := none) dX12_feast_43 rfl rfl h
theorem bX12_feast_63 {SC : Nat → Nat} {X : mh_X} {d : Nat} {Q : Option am_V → am_W → Prop} {bc bs : Nat} {w : am_W} {x2 : Int} {x1 : Int} {xs0 : Int} {xs1 : Int}
    (h : am_M (mh_G X) SC (d + 8) 0 0 mX12_number [.inr (.inr (some (9, 0))), .inl xs1, .inl xs0] w (fun r w1 => am_A (mh_G X) SC (d + 9) mX12_feast Q 66 [(2, .inl x2), (1, .inl x1), (0, .inr (.inr (some (9, 0))))] (r.toList ++ []) w1 bc bs)) :
    am_A (mh_G X) SC (d + 9) mX12_feast Q 63 [(2, .inl x2), (1, .inl x1), (0, .inr (.inr (some (9, 0))))] [.inl xs0, .inl xs1, .inr (.inr (some (9, 0)))] w bc bs := by
  exact am_callv (d' := d + 8) (kc := 0) (ks := 0) (as := [.inl xs1, .inl xs0]) dX12_feast_63 wc_X12_number wd_1961 wd_1963 wd_64 wd_122 ds_X12_number (by decide) (by omega) (Nat.le_of_ble_eq_true rfl) (Nat.zero_le _) (Nat.zero_le _) hc_10 (by decide) rfl rfl h
theorem bX12_feast_63a {SC : Nat → Nat} {X : mh_X} {d : Nat} {Q : Option am_V → am_W → Prop} {bc bs : Nat} {w : am_W} {x1 : Int} {x2 : Int} {xs0 : Int} {xs1 : Int}
    (h : am_M (mh_G X) SC (d + 8) 0 0 mX12_number [.inr (.inr (some (9, 0))), .inl xs1, .inl xs0] w (fun r w1 => am_A (mh_G X) SC (d + 9) mX12_feast Q 66 [(0, .inr (.inr (some (9, 0)))), (1, .inl x1), (2, .inl x2)] (r.toList ++ []) w1 bc bs)) :
    am_A (mh_G X) SC (d + 9) mX12_feast Q 63 [(0, .inr (.inr (some (9, 0)))), (1, .inl x1), (2, .inl x2)] [.inl xs0, .inl xs1, .inr (.inr (some (9, 0)))] w bc bs := by
  exact am_callv (d' := d + 8) (kc := 0) (ks := 0) (as := [.inl xs1, .inl xs0]) dX12_feast_63 wc_X12_number wd_1961 wd_1963 wd_64 wd_122 ds_X12_number (by decide) (by omega) (Nat.le_of_ble_eq_true rfl) (Nat.zero_le _) (Nat.zero_le _) hc_10 (by decide) rfl rfl h
theorem bX12_feast_66 {SC : Nat → Nat} {X : mh_X} {d : Nat} {Q : Option am_V → am_W → Prop} {bc bs : Nat} {w : am_W} {x2 : Int} {x1 : Int} {xs0 : Int}
    (h : am_M (mh_G X) SC (d + 8) 0 0 mX12_needs_ [.inr (.inr (some (9, 0))), .inr (.inr (some (1000, 80)))] w (fun r w1 => am_A (mh_G X) SC (d + 9) mX12_feast Q 74 [(3, .inl xs0), (2, .inl x2), (1, .inl x1), (0, .inr (.inr (some (9, 0))))] (r.toList ++ []) w1 bc bs)) :
    am_A (mh_G X) SC (d + 9) mX12_feast Q 66 [(2, .inl x2), (1, .inl x1), (0, .inr (.inr (some (9, 0))))] [.inl xs0] w bc bs := by
  refine am_istore_n (ls' := [(3, .inl xs0), (2, .inl x2), (1, .inl x1), (0, .inr (.inr (some (9, 0))))]) dX12_feast_66 (by decide) rfl ?_
  refine am_aload_n dX12_feast_67 (List.Mem.tail _ (List.Mem.tail _ (List.Mem.tail _ (List.Mem.head _)))) ?_
  refine am_ldcwS (sid := 80) dX12_feast_68 rfl ?_
  exact am_callv (d' := d + 8) (kc := 0) (ks := 0) (as := [.inr (.inr (some (1000, 80)))]) dX12_feast_71 wc_X12_needs_ wd_1974 wd_1976 wd_67 wd_122 ds_X12_needs_ (by decide) (by omega) (Nat.le_of_ble_eq_true rfl) (Nat.zero_le _) (Nat.zero_le _) hc_10 (by decide) rfl rfl h
theorem bX12_feast_66a {SC : Nat → Nat} {X : mh_X} {d : Nat} {Q : Option am_V → am_W → Prop} {bc bs : Nat} {w : am_W} {x1 : Int} {x2 : Int} {xs0 : Int}
    (h : am_M (mh_G X) SC (d + 8) 0 0 mX12_needs_ [.inr (.inr (some (9, 0))), .inr (.inr (some (1000, 80)))] w (fun r w1 => am_A (mh_G X) SC (d + 9) mX12_feast Q 74 [(3, .inl xs0), (0, .inr (.inr (some (9, 0)))), (1, .inl x1), (2, .inl x2)] (r.toList ++ []) w1 bc bs)) :
    am_A (mh_G X) SC (d + 9) mX12_feast Q 66 [(0, .inr (.inr (some (9, 0)))), (1, .inl x1), (2, .inl x2)] [.inl xs0] w bc bs := by
  refine am_istore_n (ls' := [(3, .inl xs0), (0, .inr (.inr (some (9, 0)))), (1, .inl x1), (2, .inl x2)]) dX12_feast_66 (by decide) rfl ?_
  refine am_aload_n dX12_feast_67 (List.Mem.tail _ (List.Mem.head _)) ?_
  refine am_ldcwS (sid := 80) dX12_feast_68 rfl ?_
  exact am_callv (d' := d + 8) (kc := 0) (ks := 0) (as := [.inr (.inr (some (1000, 80)))]) dX12_feast_71 wc_X12_needs_ wd_1974 wd_1976 wd_67 wd_122 ds_X12_needs_ (by decide) (by omega) (Nat.le_of_ble_eq_true rfl) (Nat.zero_le _) (Nat.zero_le _) hc_10 (by decide) rfl rfl h
theorem bX12_feast_74 {SC : Nat → Nat} {X : mh_X} {d : Nat} {Q : Option am_V → am_W → Prop} {bc bs : Nat} {w : am_W} {x3 : Int} {x2 : Int} {x1 : Int}
    (h : am_M (mh_G X) SC (d + 8) 0 0 mX12_needs [.inr (.inr (some (9, 0))), .inr (.inr (some (19, 1)))] w (fun r w1 => am_A (mh_G X) SC (d + 9) mX12_feast Q 82 [(3, .inl x3), (2, .inl x2), (1, .inl x1), (0, .inr (.inr (some (9, 0))))] (r.toList ++ []) w1 bc bs)) :
    am_A (mh_G X) SC (d + 9) mX12_feast Q 74 [(3, .inl x3), (2, .inl x2), (1, .inl x1), (0, .inr (.inr (some (9, 0))))] [] w bc bs := by
  refine am_aload_n dX12_feast_74 (List.Mem.tail _ (List.Mem.tail _ (List.Mem.tail _ (List.Mem.head _)))) ?_
  refine am_aload_n dX12_feast_75 (List.Mem.tail _ (List.Mem.tail _ (List.Mem.tail _ (List.Mem.head _)))) ?_
  refine am_getf (f := 23) (v := .inr (.inr (some (19, 1)))) dX12_feast_76 hc_10 (by decide) wd_1572 (by decide) rfl rfl ?_
  exact am_callv (d' := d + 8) (kc := 0) (ks := 0) (as := [.inr (.inr (some (19, 1)))]) dX12_feast_79 wc_X12_needs wd_1965 wd_1967 wd_65 wd_122 ds_X12_needs (by decide) (by omega) (Nat.le_of_ble_eq_true rfl) (Nat.zero_le _) (Nat.zero_le _) hc_10 (by decide) rfl rfl h
theorem bX12_feast_74a {SC : Nat → Nat} {X : mh_X} {d : Nat} {Q : Option am_V → am_W → Prop} {bc bs : Nat} {w : am_W} {x3 : Int} {x1 : Int} {x2 : Int}
    (h : am_M (mh_G X) SC (d + 8) 0 0 mX12_needs [.inr (.inr (some (9, 0))), .inr (.inr (some (19, 1)))] w (fun r w1 => am_A (mh_G X) SC (d + 9) mX12_feast Q 82 [(3, .inl x3), (0, .inr (.inr (some (9, 0)))), (1, .inl x1), (2, .inl x2)] (r.toList ++ []) w1 bc bs)) :
    am_A (mh_G X) SC (d + 9) mX12_feast Q 74 [(3, .inl x3), (0, .inr (.inr (some (9, 0)))), (1, .inl x1), (2, .inl x2)] [] w bc bs := by
  refine am_aload_n dX12_feast_74 (List.Mem.tail _ (List.Mem.head _)) ?_
  refine am_aload_n dX12_feast_75 (List.Mem.tail _ (List.Mem.head _)) ?_
  refine am_getf (f := 23) (v := .inr (.inr (some (19, 1)))) dX12_feast_76 hc_10 (by decide) wd_1572 (by decide) rfl rfl ?_
  exact am_callv (d' := d + 8) (kc := 0) (ks := 0) (as := [.inr (.inr (some (19, 1)))]) dX12_feast_79 wc_X12_needs wd_1965 wd_1967 wd_65 wd_122 ds_X12_needs (by decide) (by omega) (Nat.le_of_ble_eq_true rfl) (Nat.zero_le _) (Nat.zero_le _) hc_10 (by decide) rfl rfl h
theorem bX12_feast_82 {SC : Nat → Nat} {X : mh_X} {d : Nat} {Q : Option am_V → am_W → Prop} {bc bs : Nat} {w : am_W} {x3 : Int} {x2 : Int} {x1 : Int} {xs0 : Int}
    (h : (((w.1 9 0 4) = 0 → (0 ≤ x1 ∧ (x1 < 8 ∧ Q none ((am_up (am_up (am_up w.1 85 6 x1.toNat (am_w ((am_w (100 * x2)) + x3))) 87 6 x1.toNat xs0) 69 0 6 (am_w ((w.1 69 0 6) + 1))), w.2)))) ∧ (¬ (w.1 9 0 4) = 0 → Q none w))) :
    am_A (mh_G X) SC (d + 9) mX12_feast Q 82 [(3, .inl x3), (2, .inl x2), (1, .inl x1), (0, .inr (.inr (some (9, 0))))] [.inl xs0] w bc bs := by
  refine am_istore (ls' := [(4, .inl xs0), (3, .inl x3), (2, .inl x2), (1, .inl x1), (0, .inr (.inr (some (9, 0))))]) dX12_feast_82 (by decide) rfl ?_
  refine am_aload_n dX12_feast_84 (List.Mem.tail _ (List.Mem.tail _ (List.Mem.tail _ (List.Mem.tail _ (List.Mem.head _))))) ?_
  refine am_getf (f := 4) (v := .inl (w.1 9 0 4)) dX12_feast_85 hc_10 (by decide) wd_1553 (by decide) rfl rfl ?_
  refine am_ifeq (tgt := 92) dX12_feast_88 (by decide) (fun c1 => ?_) (fun c1 => ?_)
  · replace h := h.1 c1
    refine am_aload_n dX12_feast_92 (List.Mem.tail _ (List.Mem.tail _ (List.Mem.tail _ (List.Mem.tail _ (List.Mem.head _))))) ?_
    refine am_getf (f := 14) (v := .inr (.inr (some (84, 0)))) dX12_feast_93 hc_10 (by decide) wd_1563 (by decide) rfl rfl ?_
    refine am_bipush dX12_feast_96 (by decide) (by unfold am_rg; omega) ?_
    refine am_aaload (kd := 5) (r := some (85, 6)) dX12_feast_98 (by decide) rfl (by decide) (by decide) (by decide) (show (6 : Int) < (7 : Nat) by decide) rfl ?_
    refine am_iload_n dX12_feast_99 (List.Mem.tail _ (List.Mem.tail _ (List.Mem.tail _ (List.Mem.head _)))) ?_
    refine am_bipush dX12_feast_100 (by decide) (by unfold am_rg; omega) ?_
    refine am_iload_n dX12_feast_102 (List.Mem.tail _ (List.Mem.tail _ (List.Mem.head _))) ?_
    refine am_imul dX12_feast_103 ?_
    refine am_iload_n dX12_feast_104 (List.Mem.tail _ (List.Mem.head _)) ?_
    refine am_iadd dX12_feast_105 ?_
    have o2 := h.1
    replace h := h.2
    have o3 := h.1
    replace h := h.2
    refine am_iastore dX12_feast_106 (Or.inl (by decide)) rfl o2 o3 ?_
    refine am_aload_n dX12_feast_107 (List.Mem.tail _ (List.Mem.tail _ (List.Mem.tail _ (List.Mem.tail _ (List.Mem.head _))))) ?_
    refine am_getf (f := 15) (v := .inr (.inr (some (86, 0)))) dX12_feast_108 hc_10 (by decide) wd_1564 (by decide) rfl rfl ?_
    refine am_bipush dX12_feast_111 (by decide) (by unfold am_rg; omega) ?_
    refine am_aaload (kd := 5) (r := some (87, 6)) dX12_feast_113 (by decide) rfl (by decide) (by decide) (by decide) (show (6 : Int) < (7 : Nat) by decide) rfl ?_
    refine am_iload_n dX12_feast_114 (List.Mem.tail _ (List.Mem.tail _ (List.Mem.tail _ (List.Mem.head _)))) ?_
    refine am_iload dX12_feast_115 (List.Mem.head _) ?_
    refine am_iastore dX12_feast_117 (Or.inl (by decide)) rfl o2 o3 ?_
    refine am_aload_n dX12_feast_118 (List.Mem.tail _ (List.Mem.tail _ (List.Mem.tail _ (List.Mem.tail _ (List.Mem.head _))))) ?_
    refine am_getf (f := 7) (v := .inr (.inr (some (69, 0)))) dX12_feast_119 hc_10 (by decide) wd_1556 (by decide) rfl rfl ?_
    refine am_bipush dX12_feast_122 (by decide) (by unfold am_rg; omega) ?_
    refine am_dup2 dX12_feast_124 rfl rfl ?_
    refine am_iaload (v := (w.1 69 0 6)) dX12_feast_125 (by decide) rfl (by decide) (show (6 : Int) < (7 : Nat) by decide) rfl ?_
    refine am_iconst dX12_feast_126 (by unfold am_rg; omega) ?_
    refine am_iadd dX12_feast_127 ?_
    refine am_iastore dX12_feast_128 (Or.inl (by decide)) rfl (by decide) (show (6 : Int) < (7 : Nat) by decide) ?_
    exact am_ret (r := none) dX12_feast_129 rfl rfl h
  · replace h := h.2 c1
    exact am_ret (r := none) dX12_feast_91 rfl rfl h
theorem bX12_feast_82a {SC : Nat → Nat} {X : mh_X} {d : Nat} {Q : Option am_V → am_W → Prop} {bc bs : Nat} {w : am_W} {x3 : Int} {x1 : Int} {x2 : Int} {xs0 : Int}
    (h : (((w.1 9 0 4) = 0 → (0 ≤ x1 ∧ (x1 < 8 ∧ Q none ((am_up (am_up (am_up w.1 85 6 x1.toNat (am_w ((am_w (100 * x2)) + x3))) 87 6 x1.toNat xs0) 69 0 6 (am_w ((w.1 69 0 6) + 1))), w.2)))) ∧ (¬ (w.1 9 0 4) = 0 → Q none w))) :
    am_A (mh_G X) SC (d + 9) mX12_feast Q 82 [(3, .inl x3), (0, .inr (.inr (some (9, 0)))), (1, .inl x1), (2, .inl x2)] [.inl xs0] w bc bs := by
  refine am_istore (ls' := [(4, .inl xs0), (3, .inl x3), (0, .inr (.inr (some (9, 0)))), (1, .inl x1), (2, .inl x2)]) dX12_feast_82 (by decide) rfl ?_
  refine am_aload_n dX12_feast_84 (List.Mem.tail _ (List.Mem.tail _ (List.Mem.head _))) ?_
  refine am_getf (f := 4) (v := .inl (w.1 9 0 4)) dX12_feast_85 hc_10 (by decide) wd_1553 (by decide) rfl rfl ?_
  refine am_ifeq (tgt := 92) dX12_feast_88 (by decide) (fun c1 => ?_) (fun c1 => ?_)
  · replace h := h.1 c1
    refine am_aload_n dX12_feast_92 (List.Mem.tail _ (List.Mem.tail _ (List.Mem.head _))) ?_
    refine am_getf (f := 14) (v := .inr (.inr (some (84, 0)))) dX12_feast_93 hc_10 (by decide) wd_1563 (by decide) rfl rfl ?_
    refine am_bipush dX12_feast_96 (by decide) (by unfold am_rg; omega) ?_
    refine am_aaload (kd := 5) (r := some (85, 6)) dX12_feast_98 (by decide) rfl (by decide) (by decide) (by decide) (show (6 : Int) < (7 : Nat) by decide) rfl ?_
    refine am_iload_n dX12_feast_99 (List.Mem.tail _ (List.Mem.tail _ (List.Mem.tail _ (List.Mem.head _)))) ?_
    refine am_bipush dX12_feast_100 (by decide) (by unfold am_rg; omega) ?_
    refine am_iload_n dX12_feast_102 (List.Mem.tail _ (List.Mem.tail _ (List.Mem.tail _ (List.Mem.tail _ (List.Mem.head _))))) ?_
    refine am_imul dX12_feast_103 ?_
    refine am_iload_n dX12_feast_104 (List.Mem.tail _ (List.Mem.head _)) ?_
    refine am_iadd dX12_feast_105 ?_
    have o2 := h.1
    replace h := h.2
    have o3 := h.1
    replace h := h.2
    refine am_iastore dX12_feast_106 (Or.inl (by decide)) rfl o2 o3 ?_
    refine am_aload_n dX12_feast_107 (List.Mem.tail _ (List.Mem.tail _ (List.Mem.head _))) ?_
    refine am_getf (f := 15) (v := .inr (.inr (some (86, 0)))) dX12_feast_108 hc_10 (by decide) wd_1564 (by decide) rfl rfl ?_
    refine am_bipush dX12_feast_111 (by decide) (by unfold am_rg; omega) ?_
    refine am_aaload (kd := 5) (r := some (87, 6)) dX12_feast_113 (by decide) rfl (by decide) (by decide) (by decide) (show (6 : Int) < (7 : Nat) by decide) rfl ?_
    refine am_iload_n dX12_feast_114 (List.Mem.tail _ (List.Mem.tail _ (List.Mem.tail _ (List.Mem.head _)))) ?_
    refine am_iload dX12_feast_115 (List.Mem.head _) ?_
    refine am_iastore dX12_feast_117 (Or.inl (by decide)) rfl o2 o3 ?_
    refine am_aload_n dX12_feast_118 (List.Mem.tail _ (List.Mem.tail _ (List.Mem.head _))) ?_
    refine am_getf (f := 7) (v := .inr (.inr (some (69, 0)))) dX12_feast_119 hc_10 (by decide) wd_1556 (by decide) rfl rfl ?_
    refine am_bipush dX12_feast_122 (by decide) (by unfold am_rg; omega) ?_
    refine am_dup2 dX12_feast_124 rfl rfl ?_
    refine am_iaload (v := (w.1 69 0 6)) dX12_feast_125 (by decide) rfl (by decide) (show (6 : Int) < (7 : Nat) by decide) rfl ?_
    refine am_iconst dX12_feast_126 (by unfold am_rg; omega) ?_
    refine am_iadd dX12_feast_127 ?_
    refine am_iastore dX12_feast_128 (Or.inl (by decide)) rfl (by decide) (show (6 : Int) < (7 : Nat) by decide) ?_
    exact am_ret (r := none) dX12_feast_129 rfl rfl h
  · replace h := h.2 c1
    exact am_ret (r := none) dX12_feast_91 rfl rfl h
-- MourningHouseModel.others()V
theorem dX12_others_0 : decode mX12_others.2.1 0 = .ok (.aload_n 0, 1) := by decide +kernel
theorem dX12_others_1 : decode mX12_others.2.1 1 = .ok (.ldc_w 410, 3) := by decide +kernel
theorem dX12_others_4 : decode mX12_others.2.1 4 = .ok (.invokevirtual 373, 3) := by decide +kernel
theorem dX12_others_7 : decode mX12_others.2.1 7 = .ok (.ifCond .eq 58, 3) := by decide +kernel
theorem dX12_others_10 : decode mX12_others.2.1 10 = .ok (.aload_n 0, 1) := by decide +kernel
theorem dX12_others_11 : decode mX12_others.2.1 11 = .ok (.dup, 1) := by decide +kernel
theorem dX12_others_12 : decode mX12_others.2.1 12 = .ok (.getfield 362, 3) := by decide +kernel
theorem dX12_others_15 : decode mX12_others.2.1 15 = .ok (.iconst 1, 1) := by decide +kernel
theorem dX12_others_16 : decode mX12_others.2.1 16 = .ok (.iadd, 1) := by decide +kernel
theorem dX12_others_17 : decode mX12_others.2.1 17 = .ok (.putfield 362, 3) := by decide +kernel
theorem dX12_others_20 : decode mX12_others.2.1 20 = .ok (.aload_n 0, 1) := by decide +kernel
theorem dX12_others_21 : decode mX12_others.2.1 21 = .ok (.aload_n 0, 1) := by decide +kernel
theorem dX12_others_22 : decode mX12_others.2.1 22 = .ok (.getfield 128, 3) := by decide +kernel
theorem dX12_others_25 : decode mX12_others.2.1 25 = .ok (.invokevirtual 387, 3) := by decide +kernel
theorem dX12_others_28 : decode mX12_others.2.1 28 = .ok (.istore_n 1, 1) := by decide +kernel
theorem dX12_others_29 : decode mX12_others.2.1 29 = .ok (.aload_n 0, 1) := by decide +kernel
theorem dX12_others_30 : decode mX12_others.2.1 30 = .ok (.ldc_w 411, 3) := by decide +kernel
theorem dX12_others_33 : decode mX12_others.2.1 33 = .ok (.invokevirtual 392, 3) := by decide +kernel
theorem dX12_others_36 : decode mX12_others.2.1 36 = .ok (.aload_n 0, 1) := by decide +kernel
theorem dX12_others_37 : decode mX12_others.2.1 37 = .ok (.aload_n 0, 1) := by decide +kernel
theorem dX12_others_38 : decode mX12_others.2.1 38 = .ok (.getfield 106, 3) := by decide +kernel
theorem dX12_others_41 : decode mX12_others.2.1 41 = .ok (.invokevirtual 387, 3) := by decide +kernel
theorem dX12_others_44 : decode mX12_others.2.1 44 = .ok (.istore_n 2, 1) := by decide +kernel
theorem dX12_others_45 : decode mX12_others.2.1 45 = .ok (.aload_n 0, 1) := by decide +kernel
theorem dX12_others_46 : decode mX12_others.2.1 46 = .ok (.getfield 337, 3) := by decide +kernel
theorem dX12_others_49 : decode mX12_others.2.1 49 = .ok (.ifCond .ne 13, 3) := by decide +kernel
theorem dX12_others_52 : decode mX12_others.2.1 52 = .ok (.aload_n 0, 1) := by decide +kernel
theorem dX12_others_53 : decode mX12_others.2.1 53 = .ok (.getfield 42, 3) := by decide +kernel
theorem dX12_others_56 : decode mX12_others.2.1 56 = .ok (.bipush 6, 2) := by decide +kernel
theorem dX12_others_58 : decode mX12_others.2.1 58 = .ok (.aaload, 1) := by decide +kernel
theorem dX12_others_59 : decode mX12_others.2.1 59 = .ok (.iload_n 1, 1) := by decide +kernel
theorem dX12_others_60 : decode mX12_others.2.1 60 = .ok (.iload_n 2, 1) := by decide +kernel
theorem dX12_others_61 : decode mX12_others.2.1 61 = .ok (.iastore, 1) := by decide +kernel
theorem dX12_others_62 : decode mX12_others.2.1 62 = .ok (.goto 165, 3) := by decide +kernel
theorem dX12_others_65 : decode mX12_others.2.1 65 = .ok (.aload_n 0, 1) := by decide +kernel
theorem dX12_others_66 : decode mX12_others.2.1 66 = .ok (.ldc_w 413, 3) := by decide +kernel
theorem dX12_others_69 : decode mX12_others.2.1 69 = .ok (.invokevirtual 373, 3) := by decide +kernel
theorem dX12_others_72 : decode mX12_others.2.1 72 = .ok (.ifCond .eq 63, 3) := by decide +kernel
theorem dX12_others_75 : decode mX12_others.2.1 75 = .ok (.aload_n 0, 1) := by decide +kernel
theorem dX12_others_76 : decode mX12_others.2.1 76 = .ok (.dup, 1) := by decide +kernel
theorem dX12_others_77 : decode mX12_others.2.1 77 = .ok (.getfield 362, 3) := by decide +kernel
theorem dX12_others_80 : decode mX12_others.2.1 80 = .ok (.iconst 1, 1) := by decide +kernel
theorem dX12_others_81 : decode mX12_others.2.1 81 = .ok (.iadd, 1) := by decide +kernel
theorem dX12_others_82 : decode mX12_others.2.1 82 = .ok (.putfield 362, 3) := by decide +kernel
theorem dX12_others_85 : decode mX12_others.2.1 85 = .ok (.aload_n 0, 1) := by decide +kernel
theorem dX12_others_86 : decode mX12_others.2.1 86 = .ok (.iconst 1, 1) := by decide +kernel
theorem dX12_others_87 : decode mX12_others.2.1 87 = .ok (.sipush 400, 3) := by decide +kernel
theorem dX12_others_90 : decode mX12_others.2.1 90 = .ok (.invokevirtual 384, 3) := by decide +kernel
theorem dX12_others_93 : decode mX12_others.2.1 93 = .ok (.istore_n 1, 1) := by decide +kernel
theorem dX12_others_94 : decode mX12_others.2.1 94 = .ok (.aload_n 0, 1) := by decide +kernel
theorem dX12_others_95 : decode mX12_others.2.1 95 = .ok (.ldc 109, 2) := by decide +kernel
theorem dX12_others_97 : decode mX12_others.2.1 97 = .ok (.invokevirtual 392, 3) := by decide +kernel
theorem dX12_others_100 : decode mX12_others.2.1 100 = .ok (.aload_n 0, 1) := by decide +kernel
theorem dX12_others_101 : decode mX12_others.2.1 101 = .ok (.ldc_w 408, 3) := by decide +kernel
theorem dX12_others_104 : decode mX12_others.2.1 104 = .ok (.invokevirtual 392, 3) := by decide +kernel
theorem dX12_others_107 : decode mX12_others.2.1 107 = .ok (.aload_n 0, 1) := by decide +kernel
theorem dX12_others_108 : decode mX12_others.2.1 108 = .ok (.aload_n 0, 1) := by decide +kernel
theorem dX12_others_109 : decode mX12_others.2.1 109 = .ok (.getfield 106, 3) := by decide +kernel
theorem dX12_others_112 : decode mX12_others.2.1 112 = .ok (.invokevirtual 387, 3) := by decide +kernel
theorem dX12_others_115 : decode mX12_others.2.1 115 = .ok (.istore_n 2, 1) := by decide +kernel
theorem dX12_others_116 : decode mX12_others.2.1 116 = .ok (.aload_n 0, 1) := by decide +kernel
theorem dX12_others_117 : decode mX12_others.2.1 117 = .ok (.getfield 51, 3) := by decide +kernel
theorem dX12_others_120 : decode mX12_others.2.1 120 = .ok (.bipush 6, 2) := by decide +kernel
theorem dX12_others_122 : decode mX12_others.2.1 122 = .ok (.iload_n 1, 1) := by decide +kernel
theorem dX12_others_123 : decode mX12_others.2.1 123 = .ok (.iastore, 1) := by decide +kernel
theorem dX12_others_124 : decode mX12_others.2.1 124 = .ok (.aload_n 0, 1) := by decide +kernel
theorem dX12_others_125 : decode mX12_others.2.1 125 = .ok (.getfield 54, 3) := by decide +kernel
theorem dX12_others_128 : decode mX12_others.2.1 128 = .ok (.bipush 6, 2) := by decide +kernel
theorem dX12_others_130 : decode mX12_others.2.1 130 = .ok (.iload_n 2, 1) := by decide +kernel
theorem dX12_others_131 : decode mX12_others.2.1 131 = .ok (.iastore, 1) := by decide +kernel
theorem dX12_others_132 : decode mX12_others.2.1 132 = .ok (.goto 95, 3) := by decide +kernel
theorem dX12_others_135 : decode mX12_others.2.1 135 = .ok (.aload_n 0, 1) := by decide +kernel
theorem dX12_others_136 : decode mX12_others.2.1 136 = .ok (.ldc_w 415, 3) := by decide +kernel
theorem dX12_others_139 : decode mX12_others.2.1 139 = .ok (.invokevirtual 373, 3) := by decide +kernel
theorem dX12_others_142 : decode mX12_others.2.1 142 = .ok (.ifCond .eq 56, 3) := by decide +kernel
theorem dX12_others_145 : decode mX12_others.2.1 145 = .ok (.aload_n 0, 1) := by decide +kernel
theorem dX12_others_146 : decode mX12_others.2.1 146 = .ok (.dup, 1) := by decide +kernel
theorem dX12_others_147 : decode mX12_others.2.1 147 = .ok (.getfield 362, 3) := by decide +kernel
theorem dX12_others_150 : decode mX12_others.2.1 150 = .ok (.iconst 1, 1) := by decide +kernel
theorem dX12_others_151 : decode mX12_others.2.1 151 = .ok (.iadd, 1) := by decide +kernel
theorem dX12_others_152 : decode mX12_others.2.1 152 = .ok (.putfield 362, 3) := by decide +kernel
theorem dX12_others_155 : decode mX12_others.2.1 155 = .ok (.aload_n 0, 1) := by decide +kernel
theorem dX12_others_156 : decode mX12_others.2.1 156 = .ok (.iconst 1, 1) := by decide +kernel
theorem dX12_others_157 : decode mX12_others.2.1 157 = .ok (.bipush 30, 2) := by decide +kernel
theorem dX12_others_159 : decode mX12_others.2.1 159 = .ok (.invokevirtual 384, 3) := by decide +kernel
theorem dX12_others_162 : decode mX12_others.2.1 162 = .ok (.istore_n 1, 1) := by decide +kernel
theorem dX12_others_163 : decode mX12_others.2.1 163 = .ok (.aload_n 0, 1) := by decide +kernel
theorem dX12_others_164 : decode mX12_others.2.1 164 = .ok (.ldc_w 408, 3) := by decide +kernel
theorem dX12_others_167 : decode mX12_others.2.1 167 = .ok (.invokevirtual 392, 3) := by decide +kernel
theorem dX12_others_170 : decode mX12_others.2.1 170 = .ok (.aload_n 0, 1) := by decide +kernel
theorem dX12_others_171 : decode mX12_others.2.1 171 = .ok (.aload_n 0, 1) := by decide +kernel
theorem dX12_others_172 : decode mX12_others.2.1 172 = .ok (.getfield 106, 3) := by decide +kernel
theorem dX12_others_175 : decode mX12_others.2.1 175 = .ok (.invokevirtual 387, 3) := by decide +kernel
theorem dX12_others_178 : decode mX12_others.2.1 178 = .ok (.istore_n 2, 1) := by decide +kernel
theorem dX12_others_179 : decode mX12_others.2.1 179 = .ok (.aload_n 0, 1) := by decide +kernel
theorem dX12_others_180 : decode mX12_others.2.1 180 = .ok (.getfield 57, 3) := by decide +kernel
theorem dX12_others_183 : decode mX12_others.2.1 183 = .ok (.bipush 6, 2) := by decide +kernel
theorem dX12_others_185 : decode mX12_others.2.1 185 = .ok (.iload_n 1, 1) := by decide +kernel
theorem dX12_others_186 : decode mX12_others.2.1 186 = .ok (.iastore, 1) := by decide +kernel
theorem dX12_others_187 : decode mX12_others.2.1 187 = .ok (.aload_n 0, 1) := by decide +kernel
theorem dX12_others_188 : decode mX12_others.2.1 188 = .ok (.getfield 60, 3) := by decide +kernel
theorem dX12_others_191 : decode mX12_others.2.1 191 = .ok (.bipush 6, 2) := by decide +kernel
theorem dX12_others_193 : decode mX12_others.2.1 193 = .ok (.iload_n 2, 1) := by decide +kernel
theorem dX12_others_194 : decode mX12_others.2.1 194 = .ok (.iastore, 1) := by decide +kernel
theorem dX12_others_195 : decode mX12_others.2.1 195 = .ok (.goto 32, 3) := by decide +kernel
theorem dX12_others_198 : decode mX12_others.2.1 198 = .ok (.aload_n 0, 1) := by decide +kernel
theorem dX12_others_199 : decode mX12_others.2.1 199 = .ok (.ldc_w 417, 3) := by decide +kernel
theorem dX12_others_202 : decode mX12_others.2.1 202 = .ok (.invokevirtual 392, 3) := by decide +kernel
theorem dX12_others_205 : decode mX12_others.2.1 205 = .ok (.aload_n 0, 1) := by decide +kernel
theorem dX12_others_206 : decode mX12_others.2.1 206 = .ok (.ldc_w 419, 3) := by decide +kernel
theorem dX12_others_209 : decode mX12_others.2.1 209 = .ok (.invokevirtual 392, 3) := by decide +kernel
theorem dX12_others_212 : decode mX12_others.2.1 212 = .ok (.aload_n 0, 1) := by decide +kernel
theorem dX12_others_213 : decode mX12_others.2.1 213 = .ok (.getfield 63, 3) := by decide +kernel
theorem dX12_others_216 : decode mX12_others.2.1 216 = .ok (.bipush 6, 2) := by decide +kernel
theorem dX12_others_218 : decode mX12_others.2.1 218 = .ok (.aload_n 0, 1) := by decide +kernel
theorem dX12_others_219 : decode mX12_others.2.1 219 = .ok (.aload_n 0, 1) := by decide +kernel
theorem dX12_others_220 : decode mX12_others.2.1 220 = .ok (.getfield 106, 3) := by decide +kernel
theorem dX12_others_223 : decode mX12_others.2.1 223 = .ok (.invokevirtual 387, 3) := by decide +kernel
theorem dX12_others_226 : decode mX12_others.2.1 226 = .ok (.iastore, 1) := by decide +kernel
theorem dX12_others_227 : decode mX12_others.2.1 227 = .ok (.return_, 1) := by decide +kernel
theorem bX12_others_0 {SC : Nat → Nat} {X : mh_X} {d : Nat} {Q : Option am_V → am_W → Prop} {bc bs : Nat} {w : am_W} 
    (h : am_M (mh_G X) SC (d + 8) 0 0 mX12_isWord [.inr (.inr (some (9, 0))), .inr (.inr (some (1000, 81)))] w (fun r w1 => am_A (mh_G X) SC (d + 9) mX12_others Q 7 [(0, .inr (.inr (some (9, 0))))] (r.toList ++ []) w1 bc bs)) :
    am_A (mh_G X) SC (d + 9) mX12_others Q 0 [(0, .inr (.inr (some (9, 0))))] [] w bc bs := by
  refine am_aload_n dX12_others_0 (List.Mem.head _) ?_
  refine am_ldcwS (sid := 81) dX12_others_1 rfl ?_
  exact am_callv (d' := d + 8) (kc := 0) (ks := 0) (as := [.inr (.inr (some (1000, 81)))]) dX12_others_4 wc_X12_isWord wd_1930 wd_1932 wd_57 wd_122 ds_X12_isWord (by decide) (by omega) (Nat.le_of_ble_eq_true rfl) (Nat.zero_le _) (Nat.zero_le _) hc_10 (by decide) rfl rfl h
theorem bX12_others_7 {SC : Nat → Nat} {X : mh_X} {d : Nat} {Q : Option am_V → am_W → Prop} {bc bs : Nat} {w : am_W} {xs0 : Int}
    (h : ((xs0 = 0 → am_M (mh_G X) SC (d + 8) 0 0 mX12_isWord [.inr (.inr (some (9, 0))), .inr (.inr (some (1000, 83)))] w (fun r w1 => am_A (mh_G X) SC (d + 9) mX12_others Q 72 [(0, .inr (.inr (some (9, 0))))] (r.toList ++ []) w1 bc bs)) ∧ (¬ xs0 = 0 → am_M (mh_G X) SC (d + 8) 0 0 mX12_needs [.inr (.inr (some (9, 0))), .inr (.inr (some (19, 3)))] ((am_up w.1 9 0 32 (am_w ((w.1 9 0 32) + 1))), w.2) (fun r w1 => am_A (mh_G X) SC (d + 9) mX12_others Q 28 [(0, .inr (.inr (some (9, 0))))] (r.toList ++ []) w1 bc bs)))) :
    am_A (mh_G X) SC (d + 9) mX12_others Q 7 [(0, .inr (.inr (some (9, 0))))] [.inl xs0] w bc bs := by
  refine am_ifeq (tgt := 65) dX12_others_7 (by decide) (fun c1 => ?_) (fun c1 => ?_)
  · replace h := h.1 c1
    refine am_aload_n dX12_others_65 (List.Mem.head _) ?_
    refine am_ldcwS (sid := 83) dX12_others_66 rfl ?_
    exact am_callv (d' := d + 8) (kc := 0) (ks := 0) (as := [.inr (.inr (some (1000, 83)))]) dX12_others_69 wc_X12_isWord wd_1930 wd_1932 wd_57 wd_122 ds_X12_isWord (by decide) (by omega) (Nat.le_of_ble_eq_true rfl) (Nat.zero_le _) (Nat.zero_le _) hc_10 (by decide) rfl rfl h
  · replace h := h.2 c1
    refine am_aload_n dX12_others_10 (List.Mem.head _) ?_
    refine am_dup dX12_others_11 rfl ?_
    refine am_getf (f := 32) (v := .inl (w.1 9 0 32)) dX12_others_12 hc_10 (by decide) wd_1581 (by decide) rfl rfl ?_
    refine am_iconst dX12_others_15 (by unfold am_rg; omega) ?_
    refine am_iadd dX12_others_16 ?_
    refine am_putf (f := 32) dX12_others_17 hc_10 (by decide) wd_1581 rfl (Or.inl rfl) (Or.inl (by decide)) rfl ?_
    refine am_aload_n dX12_others_20 (List.Mem.head _) ?_
    refine am_aload_n dX12_others_21 (List.Mem.head _) ?_
    refine am_getf (f := 25) (v := .inr (.inr (some (19, 3)))) dX12_others_22 hc_10 (by decide) wd_1574 (by decide) rfl rfl ?_
    exact am_callv (d' := d + 8) (kc := 0) (ks := 0) (as := [.inr (.inr (some (19, 3)))]) dX12_others_25 wc_X12_needs wd_1965 wd_1967 wd_65 wd_122 ds_X12_needs (by decide) (by omega) (Nat.le_of_ble_eq_true rfl) (Nat.zero_le _) (Nat.zero_le _) hc_10 (by decide) rfl rfl h
theorem bX12_others_72 {SC : Nat → Nat} {X : mh_X} {d : Nat} {Q : Option am_V → am_W → Prop} {bc bs : Nat} {w : am_W} {xs0 : Int}
    (h : ((xs0 = 0 → am_M (mh_G X) SC (d + 8) 0 0 mX12_isWord [.inr (.inr (some (9, 0))), .inr (.inr (some (1000, 84)))] w (fun r w1 => am_A (mh_G X) SC (d + 9) mX12_others Q 142 [(0, .inr (.inr (some (9, 0))))] (r.toList ++ []) w1 bc bs)) ∧ (¬ xs0 = 0 → am_M (mh_G X) SC (d + 8) 0 0 mX12_number [.inr (.inr (some (9, 0))), .inl 1, .inl 400] ((am_up w.1 9 0 32 (am_w ((w.1 9 0 32) + 1))), w.2) (fun r w1 => am_A (mh_G X) SC (d + 9) mX12_others Q 93 [(0, .inr (.inr (some (9, 0))))] (r.toList ++ []) w1 bc bs)))) :
    am_A (mh_G X) SC (d + 9) mX12_others Q 72 [(0, .inr (.inr (some (9, 0))))] [.inl xs0] w bc bs := by
  refine am_ifeq (tgt := 135) dX12_others_72 (by decide) (fun c1 => ?_) (fun c1 => ?_)
  · replace h := h.1 c1
    refine am_aload_n dX12_others_135 (List.Mem.head _) ?_
    refine am_ldcwS (sid := 84) dX12_others_136 rfl ?_
    exact am_callv (d' := d + 8) (kc := 0) (ks := 0) (as := [.inr (.inr (some (1000, 84)))]) dX12_others_139 wc_X12_isWord wd_1930 wd_1932 wd_57 wd_122 ds_X12_isWord (by decide) (by omega) (Nat.le_of_ble_eq_true rfl) (Nat.zero_le _) (Nat.zero_le _) hc_10 (by decide) rfl rfl h
  · replace h := h.2 c1
    refine am_aload_n dX12_others_75 (List.Mem.head _) ?_
    refine am_dup dX12_others_76 rfl ?_
    refine am_getf (f := 32) (v := .inl (w.1 9 0 32)) dX12_others_77 hc_10 (by decide) wd_1581 (by decide) rfl rfl ?_
    refine am_iconst dX12_others_80 (by unfold am_rg; omega) ?_
    refine am_iadd dX12_others_81 ?_
    refine am_putf (f := 32) dX12_others_82 hc_10 (by decide) wd_1581 rfl (Or.inl rfl) (Or.inl (by decide)) rfl ?_
    refine am_aload_n dX12_others_85 (List.Mem.head _) ?_
    refine am_iconst dX12_others_86 (by unfold am_rg; omega) ?_
    refine am_sipush dX12_others_87 (by decide) (by unfold am_rg; omega) ?_
    exact am_callv (d' := d + 8) (kc := 0) (ks := 0) (as := [.inl 1, .inl 400]) dX12_others_90 wc_X12_number wd_1961 wd_1963 wd_64 wd_122 ds_X12_number (by decide) (by omega) (Nat.le_of_ble_eq_true rfl) (Nat.zero_le _) (Nat.zero_le _) hc_10 (by decide) rfl rfl h
theorem bX12_others_28 {SC : Nat → Nat} {X : mh_X} {d : Nat} {Q : Option am_V → am_W → Prop} {bc bs : Nat} {w : am_W} {xs0 : Int}
    (h : am_M (mh_G X) SC (d + 8) 0 0 mX12_needs_ [.inr (.inr (some (9, 0))), .inr (.inr (some (1000, 82)))] w (fun r w1 => am_A (mh_G X) SC (d + 9) mX12_others Q 36 [(1, .inl xs0), (0, .inr (.inr (some (9, 0))))] (r.toList ++ []) w1 bc bs)) :
    am_A (mh_G X) SC (d + 9) mX12_others Q 28 [(0, .inr (.inr (some (9, 0))))] [.inl xs0] w bc bs := by
  refine am_istore_n (ls' := [(1, .inl xs0), (0, .inr (.inr (some (9, 0))))]) dX12_others_28 (by decide) rfl ?_
  refine am_aload_n dX12_others_29 (List.Mem.tail _ (List.Mem.head _)) ?_
  refine am_ldcwS (sid := 82) dX12_others_30 rfl ?_
  exact am_callv (d' := d + 8) (kc := 0) (ks := 0) (as := [.inr (.inr (some (1000, 82)))]) dX12_others_33 wc_X12_needs_ wd_1974 wd_1976 wd_67 wd_122 ds_X12_needs_ (by decide) (by omega) (Nat.le_of_ble_eq_true rfl) (Nat.zero_le _) (Nat.zero_le _) hc_10 (by decide) rfl rfl h
theorem bX12_others_142 {SC : Nat → Nat} {X : mh_X} {d : Nat} {Q : Option am_V → am_W → Prop} {bc bs : Nat} {w : am_W} {xs0 : Int}
    (h : ((xs0 = 0 → am_M (mh_G X) SC (d + 8) 0 0 mX12_needs_ [.inr (.inr (some (9, 0))), .inr (.inr (some (1000, 85)))] w (fun r w1 => am_A (mh_G X) SC (d + 9) mX12_others Q 205 [(0, .inr (.inr (some (9, 0))))] (r.toList ++ []) w1 bc bs)) ∧ (¬ xs0 = 0 → am_M (mh_G X) SC (d + 8) 0 0 mX12_number [.inr (.inr (some (9, 0))), .inl 1, .inl 30] ((am_up w.1 9 0 32 (am_w ((w.1 9 0 32) + 1))), w.2) (fun r w1 => am_A (mh_G X) SC (d + 9) mX12_others Q 162 [(0, .inr (.inr (some (9, 0))))] (r.toList ++ []) w1 bc bs)))) :
    am_A (mh_G X) SC (d + 9) mX12_others Q 142 [(0, .inr (.inr (some (9, 0))))] [.inl xs0] w bc bs := by
  refine am_ifeq (tgt := 198) dX12_others_142 (by decide) (fun c1 => ?_) (fun c1 => ?_)
  · replace h := h.1 c1
    refine am_aload_n dX12_others_198 (List.Mem.head _) ?_
    refine am_ldcwS (sid := 85) dX12_others_199 rfl ?_
    exact am_callv (d' := d + 8) (kc := 0) (ks := 0) (as := [.inr (.inr (some (1000, 85)))]) dX12_others_202 wc_X12_needs_ wd_1974 wd_1976 wd_67 wd_122 ds_X12_needs_ (by decide) (by omega) (Nat.le_of_ble_eq_true rfl) (Nat.zero_le _) (Nat.zero_le _) hc_10 (by decide) rfl rfl h
  · replace h := h.2 c1
    refine am_aload_n dX12_others_145 (List.Mem.head _) ?_
    refine am_dup dX12_others_146 rfl ?_
    refine am_getf (f := 32) (v := .inl (w.1 9 0 32)) dX12_others_147 hc_10 (by decide) wd_1581 (by decide) rfl rfl ?_
    refine am_iconst dX12_others_150 (by unfold am_rg; omega) ?_
    refine am_iadd dX12_others_151 ?_
    refine am_putf (f := 32) dX12_others_152 hc_10 (by decide) wd_1581 rfl (Or.inl rfl) (Or.inl (by decide)) rfl ?_
    refine am_aload_n dX12_others_155 (List.Mem.head _) ?_
    refine am_iconst dX12_others_156 (by unfold am_rg; omega) ?_
    refine am_bipush dX12_others_157 (by decide) (by unfold am_rg; omega) ?_
    exact am_callv (d' := d + 8) (kc := 0) (ks := 0) (as := [.inl 1, .inl 30]) dX12_others_159 wc_X12_number wd_1961 wd_1963 wd_64 wd_122 ds_X12_number (by decide) (by omega) (Nat.le_of_ble_eq_true rfl) (Nat.zero_le _) (Nat.zero_le _) hc_10 (by decide) rfl rfl h
theorem bX12_others_93 {SC : Nat → Nat} {X : mh_X} {d : Nat} {Q : Option am_V → am_W → Prop} {bc bs : Nat} {w : am_W} {xs0 : Int}
    (h : am_M (mh_G X) SC (d + 8) 0 0 mX12_needs_ [.inr (.inr (some (9, 0))), .inr (.inr (some (1000, 64)))] w (fun r w1 => am_A (mh_G X) SC (d + 9) mX12_others Q 100 [(1, .inl xs0), (0, .inr (.inr (some (9, 0))))] (r.toList ++ []) w1 bc bs)) :
    am_A (mh_G X) SC (d + 9) mX12_others Q 93 [(0, .inr (.inr (some (9, 0))))] [.inl xs0] w bc bs := by
  refine am_istore_n (ls' := [(1, .inl xs0), (0, .inr (.inr (some (9, 0))))]) dX12_others_93 (by decide) rfl ?_
  refine am_aload_n dX12_others_94 (List.Mem.tail _ (List.Mem.head _)) ?_
  refine am_ldcS (sid := 64) dX12_others_95 rfl ?_
  exact am_callv (d' := d + 8) (kc := 0) (ks := 0) (as := [.inr (.inr (some (1000, 64)))]) dX12_others_97 wc_X12_needs_ wd_1974 wd_1976 wd_67 wd_122 ds_X12_needs_ (by decide) (by omega) (Nat.le_of_ble_eq_true rfl) (Nat.zero_le _) (Nat.zero_le _) hc_10 (by decide) rfl rfl h
theorem bX12_others_36 {SC : Nat → Nat} {X : mh_X} {d : Nat} {Q : Option am_V → am_W → Prop} {bc bs : Nat} {w : am_W} {x1 : Int}
    (h : am_M (mh_G X) SC (d + 8) 0 0 mX12_needs [.inr (.inr (some (9, 0))), .inr (.inr (some (19, 1)))] w (fun r w1 => am_A (mh_G X) SC (d + 9) mX12_others Q 44 [(1, .inl x1), (0, .inr (.inr (some (9, 0))))] (r.toList ++ []) w1 bc bs)) :
    am_A (mh_G X) SC (d + 9) mX12_others Q 36 [(1, .inl x1), (0, .inr (.inr (some (9, 0))))] [] w bc bs := by
  refine am_aload_n dX12_others_36 (List.Mem.tail _ (List.Mem.head _)) ?_
  refine am_aload_n dX12_others_37 (List.Mem.tail _ (List.Mem.head _)) ?_
  refine am_getf (f := 23) (v := .inr (.inr (some (19, 1)))) dX12_others_38 hc_10 (by decide) wd_1572 (by decide) rfl rfl ?_
  exact am_callv (d' := d + 8) (kc := 0) (ks := 0) (as := [.inr (.inr (some (19, 1)))]) dX12_others_41 wc_X12_needs wd_1965 wd_1967 wd_65 wd_122 ds_X12_needs (by decide) (by omega) (Nat.le_of_ble_eq_true rfl) (Nat.zero_le _) (Nat.zero_le _) hc_10 (by decide) rfl rfl h
theorem bX12_others_205 {SC : Nat → Nat} {X : mh_X} {d : Nat} {Q : Option am_V → am_W → Prop} {bc bs : Nat} {w : am_W} 
    (h : am_M (mh_G X) SC (d + 8) 0 0 mX12_needs_ [.inr (.inr (some (9, 0))), .inr (.inr (some (1000, 86)))] w (fun r w1 => am_A (mh_G X) SC (d + 9) mX12_others Q 212 [(0, .inr (.inr (some (9, 0))))] (r.toList ++ []) w1 bc bs)) :
    am_A (mh_G X) SC (d + 9) mX12_others Q 205 [(0, .inr (.inr (some (9, 0))))] [] w bc bs := by
  refine am_aload_n dX12_others_205 (List.Mem.head _) ?_
  refine am_ldcwS (sid := 86) dX12_others_206 rfl ?_
  exact am_callv (d' := d + 8) (kc := 0) (ks := 0) (as := [.inr (.inr (some (1000, 86)))]) dX12_others_209 wc_X12_needs_ wd_1974 wd_1976 wd_67 wd_122 ds_X12_needs_ (by decide) (by omega) (Nat.le_of_ble_eq_true rfl) (Nat.zero_le _) (Nat.zero_le _) hc_10 (by decide) rfl rfl h
theorem bX12_others_162 {SC : Nat → Nat} {X : mh_X} {d : Nat} {Q : Option am_V → am_W → Prop} {bc bs : Nat} {w : am_W} {xs0 : Int}
    (h : am_M (mh_G X) SC (d + 8) 0 0 mX12_needs_ [.inr (.inr (some (9, 0))), .inr (.inr (some (1000, 80)))] w (fun r w1 => am_A (mh_G X) SC (d + 9) mX12_others Q 170 [(1, .inl xs0), (0, .inr (.inr (some (9, 0))))] (r.toList ++ []) w1 bc bs)) :
    am_A (mh_G X) SC (d + 9) mX12_others Q 162 [(0, .inr (.inr (some (9, 0))))] [.inl xs0] w bc bs := by
  refine am_istore_n (ls' := [(1, .inl xs0), (0, .inr (.inr (some (9, 0))))]) dX12_others_162 (by decide) rfl ?_
  refine am_aload_n dX12_others_163 (List.Mem.tail _ (List.Mem.head _)) ?_
  refine am_ldcwS (sid := 80) dX12_others_164 rfl ?_
  exact am_callv (d' := d + 8) (kc := 0) (ks := 0) (as := [.inr (.inr (some (1000, 80)))]) dX12_others_167 wc_X12_needs_ wd_1974 wd_1976 wd_67 wd_122 ds_X12_needs_ (by decide) (by omega) (Nat.le_of_ble_eq_true rfl) (Nat.zero_le _) (Nat.zero_le _) hc_10 (by decide) rfl rfl h
theorem bX12_others_100 {SC : Nat → Nat} {X : mh_X} {d : Nat} {Q : Option am_V → am_W → Prop} {bc bs : Nat} {w : am_W} {x1 : Int}
    (h : am_M (mh_G X) SC (d + 8) 0 0 mX12_needs_ [.inr (.inr (some (9, 0))), .inr (.inr (some (1000, 80)))] w (fun r w1 => am_A (mh_G X) SC (d + 9) mX12_others Q 107 [(1, .inl x1), (0, .inr (.inr (some (9, 0))))] (r.toList ++ []) w1 bc bs)) :
    am_A (mh_G X) SC (d + 9) mX12_others Q 100 [(1, .inl x1), (0, .inr (.inr (some (9, 0))))] [] w bc bs := by
  refine am_aload_n dX12_others_100 (List.Mem.tail _ (List.Mem.head _)) ?_
  refine am_ldcwS (sid := 80) dX12_others_101 rfl ?_
  exact am_callv (d' := d + 8) (kc := 0) (ks := 0) (as := [.inr (.inr (some (1000, 80)))]) dX12_others_104 wc_X12_needs_ wd_1974 wd_1976 wd_67 wd_122 ds_X12_needs_ (by decide) (by omega) (Nat.le_of_ble_eq_true rfl) (Nat.zero_le _) (Nat.zero_le _) hc_10 (by decide) rfl rfl h
theorem bX12_others_44 {SC : Nat → Nat} {X : mh_X} {d : Nat} {Q : Option am_V → am_W → Prop} {bc bs : Nat} {w : am_W} {x1 : Int} {xs0 : Int}
    (h : ((¬ (w.1 9 0 4) = 0 → Q none w) ∧ ((w.1 9 0 4) = 0 → (0 ≤ x1 ∧ (x1 < 4 ∧ Q none ((am_up w.1 83 6 x1.toNat xs0), w.2)))))) :
    am_A (mh_G X) SC (d + 9) mX12_others Q 44 [(1, .inl x1), (0, .inr (.inr (some (9, 0))))] [.inl xs0] w bc bs := by
  refine am_istore_n (ls' := [(2, .inl xs0), (1, .inl x1), (0, .inr (.inr (some (9, 0))))]) dX12_others_44 (by decide) rfl ?_
  refine am_aload_n dX12_others_45 (List.Mem.tail _ (List.Mem.tail _ (List.Mem.head _))) ?_
  refine am_getf (f := 4) (v := .inl (w.1 9 0 4)) dX12_others_46 hc_10 (by decide) wd_1553 (by decide) rfl rfl ?_
  refine am_ifne (tgt := 62) dX12_others_49 (by decide) (fun c1 => ?_) (fun c1 => ?_)
  · replace h := h.1 c1
    refine am_goto (tgt := 227) dX12_others_62 (by decide) ?_
    exact am_ret (r := none) dX12_others_227 rfl rfl h
  · replace h := h.2 c1
    refine am_aload_n dX12_others_52 (List.Mem.tail _ (List.Mem.tail _ (List.Mem.head _))) ?_
    refine am_getf (f := 13) (v := .inr (.inr (some (82, 0)))) dX12_others_53 hc_10 (by decide) wd_1562 (by decide) rfl rfl ?_
    refine am_bipush dX12_others_56 (by decide) (by unfold am_rg; omega) ?_
    refine am_aaload (kd := 5) (r := some (83, 6)) dX12_others_58 (by decide) rfl (by decide) (by decide) (by decide) (show (6 : Int) < (7 : Nat) by decide) rfl ?_
    refine am_iload_n dX12_others_59 (List.Mem.tail _ (List.Mem.head _)) ?_
    refine am_iload_n dX12_others_60 (List.Mem.head _) ?_
    have o2 := h.1
    replace h := h.2
    have o3 := h.1
    replace h := h.2
    refine am_iastore dX12_others_61 (Or.inl (by decide)) rfl o2 o3 ?_
    refine am_goto (tgt := 227) dX12_others_62 (by decide) ?_
    exact am_ret (r := none) dX12_others_227 rfl rfl h
theorem bX12_others_212 {SC : Nat → Nat} {X : mh_X} {d : Nat} {Q : Option am_V → am_W → Prop} {bc bs : Nat} {w : am_W} 
    (h : am_M (mh_G X) SC (d + 8) 0 0 mX12_needs [.inr (.inr (some (9, 0))), .inr (.inr (some (19, 1)))] w (fun r w1 => am_A (mh_G X) SC (d + 9) mX12_others Q 226 [(0, .inr (.inr (some (9, 0))))] (r.toList ++ [.inl 6, .inr (.inr (some (92, 0)))]) w1 bc bs)) :
    am_A (mh_G X) SC (d + 9) mX12_others Q 212 [(0, .inr (.inr (some (9, 0))))] [] w bc bs := by
  refine am_aload_n dX12_others_212 (List.Mem.head _) ?_
  refine am_getf (f := 20) (v := .inr (.inr (some (92, 0)))) dX12_others_213 hc_10 (by decide) wd_1569 (by decide) rfl rfl ?_
  refine am_bipush dX12_others_216 (by decide) (by unfold am_rg; omega) ?_
  refine am_aload_n dX12_others_218 (List.Mem.head _) ?_
  refine am_aload_n dX12_others_219 (List.Mem.head _) ?_
  refine am_getf (f := 23) (v := .inr (.inr (some (19, 1)))) dX12_others_220 hc_10 (by decide) wd_1572 (by decide) rfl rfl ?_
  exact am_callv (d' := d + 8) (kc := 0) (ks := 0) (as := [.inr (.inr (some (19, 1)))]) dX12_others_223 wc_X12_needs wd_1965 wd_1967 wd_65 wd_122 ds_X12_needs (by decide) (by omega) (Nat.le_of_ble_eq_true rfl) (Nat.zero_le _) (Nat.zero_le _) hc_10 (by decide) rfl rfl h
theorem bX12_others_170 {SC : Nat → Nat} {X : mh_X} {d : Nat} {Q : Option am_V → am_W → Prop} {bc bs : Nat} {w : am_W} {x1 : Int}
    (h : am_M (mh_G X) SC (d + 8) 0 0 mX12_needs [.inr (.inr (some (9, 0))), .inr (.inr (some (19, 1)))] w (fun r w1 => am_A (mh_G X) SC (d + 9) mX12_others Q 178 [(1, .inl x1), (0, .inr (.inr (some (9, 0))))] (r.toList ++ []) w1 bc bs)) :
    am_A (mh_G X) SC (d + 9) mX12_others Q 170 [(1, .inl x1), (0, .inr (.inr (some (9, 0))))] [] w bc bs := by
  refine am_aload_n dX12_others_170 (List.Mem.tail _ (List.Mem.head _)) ?_
  refine am_aload_n dX12_others_171 (List.Mem.tail _ (List.Mem.head _)) ?_
  refine am_getf (f := 23) (v := .inr (.inr (some (19, 1)))) dX12_others_172 hc_10 (by decide) wd_1572 (by decide) rfl rfl ?_
  exact am_callv (d' := d + 8) (kc := 0) (ks := 0) (as := [.inr (.inr (some (19, 1)))]) dX12_others_175 wc_X12_needs wd_1965 wd_1967 wd_65 wd_122 ds_X12_needs (by decide) (by omega) (Nat.le_of_ble_eq_true rfl) (Nat.zero_le _) (Nat.zero_le _) hc_10 (by decide) rfl rfl h
theorem bX12_others_107 {SC : Nat → Nat} {X : mh_X} {d : Nat} {Q : Option am_V → am_W → Prop} {bc bs : Nat} {w : am_W} {x1 : Int}
    (h : am_M (mh_G X) SC (d + 8) 0 0 mX12_needs [.inr (.inr (some (9, 0))), .inr (.inr (some (19, 1)))] w (fun r w1 => am_A (mh_G X) SC (d + 9) mX12_others Q 115 [(1, .inl x1), (0, .inr (.inr (some (9, 0))))] (r.toList ++ []) w1 bc bs)) :
    am_A (mh_G X) SC (d + 9) mX12_others Q 107 [(1, .inl x1), (0, .inr (.inr (some (9, 0))))] [] w bc bs := by
  refine am_aload_n dX12_others_107 (List.Mem.tail _ (List.Mem.head _)) ?_
  refine am_aload_n dX12_others_108 (List.Mem.tail _ (List.Mem.head _)) ?_
  refine am_getf (f := 23) (v := .inr (.inr (some (19, 1)))) dX12_others_109 hc_10 (by decide) wd_1572 (by decide) rfl rfl ?_
  exact am_callv (d' := d + 8) (kc := 0) (ks := 0) (as := [.inr (.inr (some (19, 1)))]) dX12_others_112 wc_X12_needs wd_1965 wd_1967 wd_65 wd_122 ds_X12_needs (by decide) (by omega) (Nat.le_of_ble_eq_true rfl) (Nat.zero_le _) (Nat.zero_le _) hc_10 (by decide) rfl rfl h
theorem bX12_others_226 {SC : Nat → Nat} {X : mh_X} {d : Nat} {Q : Option am_V → am_W → Prop} {bc bs : Nat} {w : am_W} {xs0 : Int} {xs1 : Int}
    (h : (0 ≤ xs1 ∧ (xs1 < 7 ∧ Q none ((am_up w.1 92 0 xs1.toNat xs0), w.2)))) :
    am_A (mh_G X) SC (d + 9) mX12_others Q 226 [(0, .inr (.inr (some (9, 0))))] [.inl xs0, .inl xs1, .inr (.inr (some (92, 0)))] w bc bs := by
  have o1 := h.1
  replace h := h.2
  have o2 := h.1
  replace h := h.2
  refine am_iastore dX12_others_226 (Or.inl (by decide)) rfl o1 o2 ?_
  exact am_ret (r := none) dX12_others_227 rfl rfl h
theorem bX12_others_178 {SC : Nat → Nat} {X : mh_X} {d : Nat} {Q : Option am_V → am_W → Prop} {bc bs : Nat} {w : am_W} {x1 : Int} {xs0 : Int}
    (h : Q none ((am_up (am_up w.1 90 0 6 x1) 91 0 6 xs0), w.2)) :
    am_A (mh_G X) SC (d + 9) mX12_others Q 178 [(1, .inl x1), (0, .inr (.inr (some (9, 0))))] [.inl xs0] w bc bs := by
  refine am_istore_n (ls' := [(2, .inl xs0), (1, .inl x1), (0, .inr (.inr (some (9, 0))))]) dX12_others_178 (by decide) rfl ?_
  refine am_aload_n dX12_others_179 (List.Mem.tail _ (List.Mem.tail _ (List.Mem.head _))) ?_
  refine am_getf (f := 18) (v := .inr (.inr (some (90, 0)))) dX12_others_180 hc_10 (by decide) wd_1567 (by decide) rfl rfl ?_
  refine am_bipush dX12_others_183 (by decide) (by unfold am_rg; omega) ?_
  refine am_iload_n dX12_others_185 (List.Mem.tail _ (List.Mem.head _)) ?_
  refine am_iastore dX12_others_186 (Or.inl (by decide)) rfl (by decide) (show (6 : Int) < (7 : Nat) by decide) ?_
  refine am_aload_n dX12_others_187 (List.Mem.tail _ (List.Mem.tail _ (List.Mem.head _))) ?_
  refine am_getf (f := 19) (v := .inr (.inr (some (91, 0)))) dX12_others_188 hc_10 (by decide) wd_1568 (by decide) rfl rfl ?_
  refine am_bipush dX12_others_191 (by decide) (by unfold am_rg; omega) ?_
  refine am_iload_n dX12_others_193 (List.Mem.head _) ?_
  refine am_iastore dX12_others_194 (Or.inl (by decide)) rfl (by decide) (show (6 : Int) < (7 : Nat) by decide) ?_
  refine am_goto (tgt := 227) dX12_others_195 (by decide) ?_
  exact am_ret (r := none) dX12_others_227 rfl rfl h
theorem bX12_others_115 {SC : Nat → Nat} {X : mh_X} {d : Nat} {Q : Option am_V → am_W → Prop} {bc bs : Nat} {w : am_W} {x1 : Int} {xs0 : Int}
    (h : Q none ((am_up (am_up w.1 88 0 6 x1) 89 0 6 xs0), w.2)) :
    am_A (mh_G X) SC (d + 9) mX12_others Q 115 [(1, .inl x1), (0, .inr (.inr (some (9, 0))))] [.inl xs0] w bc bs := by
  refine am_istore_n (ls' := [(2, .inl xs0), (1, .inl x1), (0, .inr (.inr (some (9, 0))))]) dX12_others_115 (by decide) rfl ?_
  refine am_aload_n dX12_others_116 (List.Mem.tail _ (List.Mem.tail _ (List.Mem.head _))) ?_
  refine am_getf (f := 16) (v := .inr (.inr (some (88, 0)))) dX12_others_117 hc_10 (by decide) wd_1565 (by decide) rfl rfl ?_
  refine am_bipush dX12_others_120 (by decide) (by unfold am_rg; omega) ?_
  refine am_iload_n dX12_others_122 (List.Mem.tail _ (List.Mem.head _)) ?_
  refine am_iastore dX12_others_123 (Or.inl (by decide)) rfl (by decide) (show (6 : Int) < (7 : Nat) by decide) ?_
  refine am_aload_n dX12_others_124 (List.Mem.tail _ (List.Mem.tail _ (List.Mem.head _))) ?_
  refine am_getf (f := 17) (v := .inr (.inr (some (89, 0)))) dX12_others_125 hc_10 (by decide) wd_1566 (by decide) rfl rfl ?_
  refine am_bipush dX12_others_128 (by decide) (by unfold am_rg; omega) ?_
  refine am_iload_n dX12_others_130 (List.Mem.head _) ?_
  refine am_iastore dX12_others_131 (Or.inl (by decide)) rfl (by decide) (show (6 : Int) < (7 : Nat) by decide) ?_
  refine am_goto (tgt := 227) dX12_others_132 (by decide) ?_
  exact am_ret (r := none) dX12_others_227 rfl rfl h
