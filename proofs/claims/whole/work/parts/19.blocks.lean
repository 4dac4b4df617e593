-- MourningHouseModel.isKnownDay(I)Z
theorem dX12_isKnownDay_0 : decode mX12_isKnownDay.2.1 0 = .ok (.iload_n 1, 1) := by decide +kernel
theorem dX12_isKnownDay_1 : decode mX12_isKnownDay.2.1 1 = .ok (.ldc_w 316, 3) := by decide +kernel
theorem dX12_isKnownDay_4 : decode mX12_isKnownDay.2.1 4 = .ok (.aload_n 0, 1) := by decide +kernel
theorem dX12_isKnownDay_5 : decode mX12_isKnownDay.2.1 5 = .ok (.getfield 444, 3) := by decide +kernel
theorem dX12_isKnownDay_8 : decode mX12_isKnownDay.2.1 8 = .ok (.invokestatic 318, 3) := by decide +kernel
theorem dX12_isKnownDay_11 : decode mX12_isKnownDay.2.1 11 = .ok (.ireturn, 1) := by decide +kernel
theorem sX12_isKnownDay {SC : Nat → Nat} {X : mh_X} {d kc ks : Nat} {Q : Option am_V → am_W → Prop} {w : am_W} {x1 : Int}
    (h : Q (some (.inl (if (¬ x1 < ((-36524) : Int) ∧ (¬ (w.1 9 0 33) < x1)) then 1 else 0))) w) : am_M (mh_G X) SC (d + 2) kc ks mX12_isKnownDay [.inr (.inr (some (9, 0))), .inl x1] w Q := by
  refine am_M_of (by decide) (Nat.le_of_ble_eq_true rfl) ?_
  show am_A (mh_G X) SC (d + 2) mX12_isKnownDay Q 0 [(0, .inr (.inr (some (9, 0)))), (1, .inl x1)] [] w kc ks
  refine am_iload_n dX12_isKnownDay_0 (List.Mem.tail _ (List.Mem.head _)) ?_
  refine am_ldcwV (n := (-36524)) dX12_isKnownDay_1 (by decide) wd_1857 (by unfold am_rg; omega) ?_
  refine am_aload_n dX12_isKnownDay_4 (List.Mem.head _) ?_
  refine am_getf (f := 33) (v := .inl (w.1 9 0 33)) dX12_isKnownDay_5 hc_10 (by decide) wd_1582 (by decide) rfl rfl ?_
  refine am_calls (d' := d + 1) (kc := 0) (ks := 0) (as := [.inl x1, .inl (-36524), .inl (w.1 9 0 33)]) dX12_isKnownDay_8 wc_X12_in wd_1859 wd_1860 wd_122 ds_X12_in (by decide) (by omega) (Nat.le_of_ble_eq_true rfl) (Nat.zero_le _) (Nat.zero_le _) rfl (sX12_in (d := d + 0) (x0 := x1) (x1 := (-36524)) (x2 := (w.1 9 0 33))  ?_)
  show am_A (mh_G X) SC (d + 2) mX12_isKnownDay Q 11 [(0, .inr (.inr (some (9, 0)))), (1, .inl x1)] [.inl (if (¬ x1 < ((-36524) : Int) ∧ (¬ (w.1 9 0 33) < x1)) then 1 else 0)] w kc ks
  exact am_ret (r := some (.inl (if (¬ x1 < ((-36524) : Int) ∧ (¬ (w.1 9 0 33) < x1)) then 1 else 0))) dX12_isKnownDay_11 (Or.inr (Or.inl ⟨rfl, am_b01⟩)) rfl h
-- MourningHouseModel.mourns(III)I
theorem dX12_mourns_0 : decode mX12_mourns.2.1 0 = .ok (.aload_n 0, 1) := by decide +kernel
theorem dX12_mourns_1 : decode mX12_mourns.2.1 1 = .ok (.iload_n 1, 1) := by decide +kernel
theorem dX12_mourns_2 : decode mX12_mourns.2.1 2 = .ok (.invokevirtual 453, 3) := by decide +kernel
theorem dX12_mourns_5 : decode mX12_mourns.2.1 5 = .ok (.ifCond .eq 29, 3) := by decide +kernel
theorem dX12_mourns_8 : decode mX12_mourns.2.1 8 = .ok (.aload_n 0, 1) := by decide +kernel
theorem dX12_mourns_9 : decode mX12_mourns.2.1 9 = .ok (.iload_n 2, 1) := by decide +kernel
theorem dX12_mourns_10 : decode mX12_mourns.2.1 10 = .ok (.invokevirtual 453, 3) := by decide +kernel
theorem dX12_mourns_13 : decode mX12_mourns.2.1 13 = .ok (.ifCond .eq 21, 3) := by decide +kernel
theorem dX12_mourns_16 : decode mX12_mourns.2.1 16 = .ok (.aload_n 0, 1) := by decide +kernel
theorem dX12_mourns_17 : decode mX12_mourns.2.1 17 = .ok (.iload_n 3, 1) := by decide +kernel
theorem dX12_mourns_18 : decode mX12_mourns.2.1 18 = .ok (.invokevirtual 490, 3) := by decide +kernel
theorem dX12_mourns_21 : decode mX12_mourns.2.1 21 = .ok (.ifCond .eq 13, 3) := by decide +kernel
theorem dX12_mourns_24 : decode mX12_mourns.2.1 24 = .ok (.aload_n 0, 1) := by decide +kernel
theorem dX12_mourns_25 : decode mX12_mourns.2.1 25 = .ok (.iload_n 1, 1) := by decide +kernel
theorem dX12_mourns_26 : decode mX12_mourns.2.1 26 = .ok (.iload_n 2, 1) := by decide +kernel
theorem dX12_mourns_27 : decode mX12_mourns.2.1 27 = .ok (.iload_n 3, 1) := by decide +kernel
theorem dX12_mourns_28 : decode mX12_mourns.2.1 28 = .ok (.invokevirtual 493, 3) := by decide +kernel
theorem dX12_mourns_31 : decode mX12_mourns.2.1 31 = .ok (.goto 4, 3) := by decide +kernel
theorem dX12_mourns_34 : decode mX12_mourns.2.1 34 = .ok (.iconst (-1), 1) := by decide +kernel
theorem dX12_mourns_35 : decode mX12_mourns.2.1 35 = .ok (.ireturn, 1) := by decide +kernel
theorem bX12_mourns_0 {SC : Nat → Nat} {X : mh_X} {d : Nat} {Q : Option am_V → am_W → Prop} {bc bs : Nat} {w : am_W} {x1 : Int} {x2 : Int} {x3 : Int}
    (h : ((¬ (¬ x1 < (0 : Int) ∧ (¬ (am_w ((w.1 9 0 42) - 1)) < x1)) → Q (some (.inl (-1))) w) ∧ ((¬ x1 < (0 : Int) ∧ (¬ (am_w ((w.1 9 0 42) - 1)) < x1)) → ((¬ (¬ x2 < (0 : Int) ∧ (¬ (am_w ((w.1 9 0 42) - 1)) < x2)) → Q (some (.inl (-1))) w) ∧ ((¬ x2 < (0 : Int) ∧ (¬ (am_w ((w.1 9 0 42) - 1)) < x2)) → ((¬ (¬ x3 < ((-36524) : Int) ∧ (¬ (w.1 9 0 33) < x3)) → Q (some (.inl (-1))) w) ∧ ((¬ x3 < ((-36524) : Int) ∧ (¬ (w.1 9 0 33) < x3)) → am_M (mh_G X) SC (d + 4) 0 0 mX12_ruleFor [.inr (.inr (some (9, 0))), .inl x1, .inl x2, .inl x3] w (fun r w1 => am_A (mh_G X) SC (d + 5) mX12_mourns Q 31 [(0, .inr (.inr (some (9, 0)))), (1, .inl x1), (2, .inl x2), (3, .inl x3)] (r.toList ++ []) w1 bc bs)))))))) :
    am_A (mh_G X) SC (d + 5) mX12_mourns Q 0 [(0, .inr (.inr (some (9, 0)))), (1, .inl x1), (2, .inl x2), (3, .inl x3)] [] w bc bs := by
  refine am_aload_n dX12_mourns_0 (List.Mem.head _) ?_
  refine am_iload_n dX12_mourns_1 (List.Mem.tail _ (List.Mem.head _)) ?_
  refine am_callv (d' := d + 4) (kc := 0) (ks := 0) (as := [.inl x1]) dX12_mourns_2 wc_X12_isPerson wd_2018 wd_2020 wd_73 wd_122 ds_X12_isPerson (by decide) (by omega) (Nat.le_of_ble_eq_true rfl) (Nat.zero_le _) (Nat.zero_le _) hc_10 (by decide) rfl rfl (sX12_isPerson (d := d + 2) (x1 := x1)  ?_)
  show am_A (mh_G X) SC (d + 5) mX12_mourns Q 5 [(0, .inr (.inr (some (9, 0)))), (1, .inl x1), (2, .inl x2), (3, .inl x3)] [.inl (if (¬ x1 < (0 : Int) ∧ (¬ (am_w ((w.1 9 0 42) - 1)) < x1)) then 1 else 0)] w bc bs
  refine am_ifeq (tgt := 34) dX12_mourns_5 (by decide) (fun c1 => ?_) (fun c1 => ?_)
  · replace c1 := am_beq1 c1
    replace h := h.1 c1
    refine am_iconst dX12_mourns_34 (by unfold am_rg; omega) ?_
    exact am_ret (r := some (.inl (-1))) dX12_mourns_35 (Or.inl rfl) rfl h
  · replace c1 := am_beq2 c1
    replace h := h.2 c1
    refine am_aload_n dX12_mourns_8 (List.Mem.head _) ?_
    refine am_iload_n dX12_mourns_9 (List.Mem.tail _ (List.Mem.tail _ (List.Mem.head _))) ?_
    refine am_callv (d' := d + 4) (kc := 0) (ks := 0) (as := [.inl x2]) dX12_mourns_10 wc_X12_isPerson wd_2018 wd_2020 wd_73 wd_122 ds_X12_isPerson (by decide) (by omega) (Nat.le_of_ble_eq_true rfl) (Nat.zero_le _) (Nat.zero_le _) hc_10 (by decide) rfl rfl (sX12_isPerson (d := d + 2) (x1 := x2)  ?_)
    show am_A (mh_G X) SC (d + 5) mX12_mourns Q 13 [(0, .inr (.inr (some (9, 0)))), (1, .inl x1), (2, .inl x2), (3, .inl x3)] [.inl (if (¬ x2 < (0 : Int) ∧ (¬ (am_w ((w.1 9 0 42) - 1)) < x2)) then 1 else 0)] w bc bs
    refine am_ifeq (tgt := 34) dX12_mourns_13 (by decide) (fun c2 => ?_) (fun c2 => ?_)
    · replace c2 := am_beq1 c2
      replace h := h.1 c2
      refine am_iconst dX12_mourns_34 (by unfold am_rg; omega) ?_
      exact am_ret (r := some (.inl (-1))) dX12_mourns_35 (Or.inl rfl) rfl h
    · replace c2 := am_beq2 c2
      replace h := h.2 c2
      refine am_aload_n dX12_mourns_16 (List.Mem.head _) ?_
      refine am_iload_n dX12_mourns_17 (List.Mem.tail _ (List.Mem.tail _ (List.Mem.tail _ (List.Mem.head _)))) ?_
      refine am_callv (d' := d + 4) (kc := 0) (ks := 0) (as := [.inl x3]) dX12_mourns_18 wc_X12_isKnownDay wd_2069 wd_2071 wd_80 wd_122 ds_X12_isKnownDay (by decide) (by omega) (Nat.le_of_ble_eq_true rfl) (Nat.zero_le _) (Nat.zero_le _) hc_10 (by decide) rfl rfl (sX12_isKnownDay (d := d + 2) (x1 := x3)  ?_)
      show am_A (mh_G X) SC (d + 5) mX12_mourns Q 21 [(0, .inr (.inr (some (9, 0)))), (1, .inl x1), (2, .inl x2), (3, .inl x3)] [.inl (if (¬ x3 < ((-36524) : Int) ∧ (¬ (w.1 9 0 33) < x3)) then 1 else 0)] w bc bs
      refine am_ifeq (tgt := 34) dX12_mourns_21 (by decide) (fun c3 => ?_) (fun c3 => ?_)
      · replace c3 := am_beq1 c3
        replace h := h.1 c3
        refine am_iconst dX12_mourns_34 (by unfold am_rg; omega) ?_
        exact am_ret (r := some (.inl (-1))) dX12_mourns_35 (Or.inl rfl) rfl h
      · replace c3 := am_beq2 c3
        replace h := h.2 c3
        refine am_aload_n dX12_mourns_24 (List.Mem.head _) ?_
        refine am_iload_n dX12_mourns_25 (List.Mem.tail _ (List.Mem.head _)) ?_
        refine am_iload_n dX12_mourns_26 (List.Mem.tail _ (List.Mem.tail _ (List.Mem.head _))) ?_
        refine am_iload_n dX12_mourns_27 (List.Mem.tail _ (List.Mem.tail _ (List.Mem.tail _ (List.Mem.head _)))) ?_
        exact am_callv (d' := d + 4) (kc := 0) (ks := 0) (as := [.inl x1, .inl x2, .inl x3]) dX12_mourns_28 wc_X12_ruleFor wd_2073 wd_2075 wd_81 wd_122 ds_X12_ruleFor (by decide) (by omega) (Nat.le_of_ble_eq_true rfl) (Nat.zero_le _) (Nat.zero_le _) hc_10 (by decide) rfl rfl h
theorem bX12_mourns_31 {SC : Nat → Nat} {X : mh_X} {d : Nat} {Q : Option am_V → am_W → Prop} {bc bs : Nat} {w : am_W} {x1 : Int} {x2 : Int} {x3 : Int} {xs0 : Int}
    (h : Q (some (.inl xs0)) w) :
    am_A (mh_G X) SC (d + 5) mX12_mourns Q 31 [(0, .inr (.inr (some (9, 0)))), (1, .inl x1), (2, .inl x2), (3, .inl x3)] [.inl xs0] w bc bs := by
  refine am_goto (tgt := 35) dX12_mourns_31 (by decide) ?_
  exact am_ret (r := some (.inl xs0)) dX12_mourns_35 (Or.inl rfl) rfl h
-- MourningHouseModel.reached(III)I
theorem dX12_reached_0 : decode mX12_reached.2.1 0 = .ok (.iload_n 2, 1) := by decide +kernel
theorem dX12_reached_1 : decode mX12_reached.2.1 1 = .ok (.ifCond .ne 7, 3) := by decide +kernel
theorem dX12_reached_4 : decode mX12_reached.2.1 4 = .ok (.iload_n 0, 1) := by decide +kernel
theorem dX12_reached_5 : decode mX12_reached.2.1 5 = .ok (.iload_n 1, 1) := by decide +kernel
theorem dX12_reached_6 : decode mX12_reached.2.1 6 = .ok (.iadd, 1) := by decide +kernel
theorem dX12_reached_7 : decode mX12_reached.2.1 7 = .ok (.ireturn, 1) := by decide +kernel
theorem dX12_reached_8 : decode mX12_reached.2.1 8 = .ok (.iload_n 2, 1) := by decide +kernel
theorem dX12_reached_9 : decode mX12_reached.2.1 9 = .ok (.iconst 1, 1) := by decide +kernel
theorem dX12_reached_10 : decode mX12_reached.2.1 10 = .ok (.if_icmp .ne 10, 3) := by decide +kernel
theorem dX12_reached_13 : decode mX12_reached.2.1 13 = .ok (.iload_n 0, 1) := by decide +kernel
theorem dX12_reached_14 : decode mX12_reached.2.1 14 = .ok (.bipush 7, 2) := by decide +kernel
theorem dX12_reached_16 : decode mX12_reached.2.1 16 = .ok (.iload_n 1, 1) := by decide +kernel
theorem dX12_reached_17 : decode mX12_reached.2.1 17 = .ok (.imul, 1) := by decide +kernel
theorem dX12_reached_18 : decode mX12_reached.2.1 18 = .ok (.iadd, 1) := by decide +kernel
theorem dX12_reached_19 : decode mX12_reached.2.1 19 = .ok (.ireturn, 1) := by decide +kernel
theorem dX12_reached_20 : decode mX12_reached.2.1 20 = .ok (.iload_n 0, 1) := by decide +kernel
theorem dX12_reached_21 : decode mX12_reached.2.1 21 = .ok (.iload_n 2, 1) := by decide +kernel
theorem dX12_reached_22 : decode mX12_reached.2.1 22 = .ok (.iconst 2, 1) := by decide +kernel
theorem dX12_reached_23 : decode mX12_reached.2.1 23 = .ok (.if_icmp .ne 7, 3) := by decide +kernel
theorem dX12_reached_26 : decode mX12_reached.2.1 26 = .ok (.iload_n 1, 1) := by decide +kernel
theorem dX12_reached_27 : decode mX12_reached.2.1 27 = .ok (.goto 7, 3) := by decide +kernel
theorem dX12_reached_30 : decode mX12_reached.2.1 30 = .ok (.bipush 12, 2) := by decide +kernel
theorem dX12_reached_32 : decode mX12_reached.2.1 32 = .ok (.iload_n 1, 1) := by decide +kernel
theorem dX12_reached_33 : decode mX12_reached.2.1 33 = .ok (.imul, 1) := by decide +kernel
theorem dX12_reached_34 : decode mX12_reached.2.1 34 = .ok (.invokestatic 326, 3) := by decide +kernel
theorem dX12_reached_37 : decode mX12_reached.2.1 37 = .ok (.ireturn, 1) := by decide +kernel
theorem bX12_reached_0 {SC : Nat → Nat} {X : mh_X} {d : Nat} {Q : Option am_V → am_W → Prop} {bc bs : Nat} {w : am_W} {x0 : Int} {x1 : Int} {x2 : Int}
    (h : ((¬ x2 = 0 → ((¬ x2 = 1 → ((¬ x2 = 2 → am_A (mh_G X) SC (d + 8) mX12_reached Q 34 [] [.inl (am_w (12 * x1)), .inl x0] w bc bs) ∧ (x2 = 2 → am_A (mh_G X) SC (d + 8) mX12_reached Q 34 [] [.inl x1, .inl x0] w bc bs))) ∧ (x2 = 1 → Q (some (.inl (am_w (x0 + (am_w (7 * x1)))))) w))) ∧ (x2 = 0 → Q (some (.inl (am_w (x0 + x1)))) w))) :
    am_A (mh_G X) SC (d + 8) mX12_reached Q 0 [(0, .inl x0), (1, .inl x1), (2, .inl x2)] [] w bc bs := by
  refine am_iload_n dX12_reached_0 (List.Mem.tail _ (List.Mem.tail _ (List.Mem.head _))) ?_
  refine am_ifne (tgt := 8) dX12_reached_1 (by decide) (fun c1 => ?_) (fun c1 => ?_)
  · replace h := h.1 c1
    refine am_iload_n dX12_reached_8 (List.Mem.tail _ (List.Mem.tail _ (List.Mem.head _))) ?_
    refine am_iconst dX12_reached_9 (by unfold am_rg; omega) ?_
    refine am_icmpne (tgt := 20) dX12_reached_10 (by decide) (fun c2 => ?_) (fun c2 => ?_)
    · replace h := h.1 c2
      refine am_iload_n dX12_reached_20 (List.Mem.head _) ?_
      refine am_iload_n dX12_reached_21 (List.Mem.tail _ (List.Mem.tail _ (List.Mem.head _))) ?_
      refine am_iconst dX12_reached_22 (by unfold am_rg; omega) ?_
      refine am_icmpne (tgt := 30) dX12_reached_23 (by decide) (fun c3 => ?_) (fun c3 => ?_)
      · replace h := h.1 c3
        refine am_bipush dX12_reached_30 (by decide) (by unfold am_rg; omega) ?_
        refine am_iload_n dX12_reached_32 (List.Mem.tail _ (List.Mem.head _)) ?_
        refine am_imul dX12_reached_33 ?_
        exact am_sub [] rfl h
      · replace h := h.2 c3
        refine am_iload_n dX12_reached_26 (List.Mem.tail _ (List.Mem.head _)) ?_
        refine am_goto (tgt := 34) dX12_reached_27 (by decide) ?_
        exact am_sub [] rfl h
    · replace h := h.2 c2
      refine am_iload_n dX12_reached_13 (List.Mem.head _) ?_
      refine am_bipush dX12_reached_14 (by decide) (by unfold am_rg; omega) ?_
      refine am_iload_n dX12_reached_16 (List.Mem.tail _ (List.Mem.head _)) ?_
      refine am_imul dX12_reached_17 ?_
      refine am_iadd dX12_reached_18 ?_
      exact am_ret (r := some (.inl (am_w (x0 + (am_w (7 * x1)))))) dX12_reached_19 (Or.inl rfl) rfl h
  · replace h := h.2 c1
    refine am_iload_n dX12_reached_4 (List.Mem.head _) ?_
    refine am_iload_n dX12_reached_5 (List.Mem.tail _ (List.Mem.head _)) ?_
    refine am_iadd dX12_reached_6 ?_
    exact am_ret (r := some (.inl (am_w (x0 + x1)))) dX12_reached_7 (Or.inl rfl) rfl h
theorem bX12_reached_34 {SC : Nat → Nat} {X : mh_X} {d : Nat} {Q : Option am_V → am_W → Prop} {bc bs : Nat} {w : am_W} {xs0 : Int} {xs1 : Int}
    (h : am_M (mh_G X) SC (d + 7) 0 0 mX12_behind [.inl xs1, .inl xs0] w (fun r w1 => am_A (mh_G X) SC (d + 8) mX12_reached Q 37 [] (r.toList ++ []) w1 bc bs)) :
    am_A (mh_G X) SC (d + 8) mX12_reached Q 34 [] [.inl xs0, .inl xs1] w bc bs := by
  exact am_calls (d' := d + 7) (kc := 0) (ks := 0) (as := [.inl xs1, .inl xs0]) dX12_reached_34 wc_X12_behind wd_1892 wd_1893 wd_122 ds_X12_behind (by decide) (by omega) (Nat.le_of_ble_eq_true rfl) (Nat.zero_le _) (Nat.zero_le _) rfl h
theorem bX12_reached_37 {SC : Nat → Nat} {X : mh_X} {d : Nat} {Q : Option am_V → am_W → Prop} {bc bs : Nat} {w : am_W} {xs0 : Int}
    (h : Q (some (.inl xs0)) w) :
    am_A (mh_G X) SC (d + 8) mX12_reached Q 37 [] [.inl xs0] w bc bs := by
  exact am_ret (r := some (.inl xs0)) dX12_reached_37 (Or.inl rfl) rfl h
-- MourningHouseModel.enters(IIII)V
theorem dX12_enters_0 : decode mX12_enters.2.1 0 = .ok (.aload_n 0, 1) := by decide +kernel
theorem dX12_enters_1 : decode mX12_enters.2.1 1 = .ok (.getfield 496, 3) := by decide +kernel
theorem dX12_enters_4 : decode mX12_enters.2.1 4 = .ok (.istore 5, 2) := by decide +kernel
theorem dX12_enters_6 : decode mX12_enters.2.1 6 = .ok (.aload_n 0, 1) := by decide +kernel
theorem dX12_enters_7 : decode mX12_enters.2.1 7 = .ok (.aload_n 0, 1) := by decide +kernel
theorem dX12_enters_8 : decode mX12_enters.2.1 8 = .ok (.getfield 167, 3) := by decide +kernel
theorem dX12_enters_11 : decode mX12_enters.2.1 11 = .ok (.iload_n 2, 1) := by decide +kernel
theorem dX12_enters_12 : decode mX12_enters.2.1 12 = .ok (.iaload, 1) := by decide +kernel
theorem dX12_enters_13 : decode mX12_enters.2.1 13 = .ok (.iload 4, 2) := by decide +kernel
theorem dX12_enters_15 : decode mX12_enters.2.1 15 = .ok (.invokevirtual 487, 3) := by decide +kernel
theorem dX12_enters_18 : decode mX12_enters.2.1 18 = .ok (.istore 6, 2) := by decide +kernel
theorem dX12_enters_20 : decode mX12_enters.2.1 20 = .ok (.aload_n 0, 1) := by decide +kernel
theorem dX12_enters_21 : decode mX12_enters.2.1 21 = .ok (.getfield 204, 3) := by decide +kernel
theorem dX12_enters_24 : decode mX12_enters.2.1 24 = .ok (.iload 5, 2) := by decide +kernel
theorem dX12_enters_26 : decode mX12_enters.2.1 26 = .ok (.iload_n 2, 1) := by decide +kernel
theorem dX12_enters_27 : decode mX12_enters.2.1 27 = .ok (.iastore, 1) := by decide +kernel
theorem dX12_enters_28 : decode mX12_enters.2.1 28 = .ok (.aload_n 0, 1) := by decide +kernel
theorem dX12_enters_29 : decode mX12_enters.2.1 29 = .ok (.getfield 216, 3) := by decide +kernel
theorem dX12_enters_32 : decode mX12_enters.2.1 32 = .ok (.iload 5, 2) := by decide +kernel
theorem dX12_enters_34 : decode mX12_enters.2.1 34 = .ok (.iload 6, 2) := by decide +kernel
theorem dX12_enters_36 : decode mX12_enters.2.1 36 = .ok (.iastore, 1) := by decide +kernel
theorem dX12_enters_37 : decode mX12_enters.2.1 37 = .ok (.aload_n 0, 1) := by decide +kernel
theorem dX12_enters_38 : decode mX12_enters.2.1 38 = .ok (.getfield 213, 3) := by decide +kernel
theorem dX12_enters_41 : decode mX12_enters.2.1 41 = .ok (.iload 5, 2) := by decide +kernel
theorem dX12_enters_43 : decode mX12_enters.2.1 43 = .ok (.iload_n 3, 1) := by decide +kernel
theorem dX12_enters_44 : decode mX12_enters.2.1 44 = .ok (.iastore, 1) := by decide +kernel
theorem dX12_enters_45 : decode mX12_enters.2.1 45 = .ok (.aload_n 0, 1) := by decide +kernel
theorem dX12_enters_46 : decode mX12_enters.2.1 46 = .ok (.getfield 207, 3) := by decide +kernel
theorem dX12_enters_49 : decode mX12_enters.2.1 49 = .ok (.iload 5, 2) := by decide +kernel
theorem dX12_enters_51 : decode mX12_enters.2.1 51 = .ok (.aload_n 0, 1) := by decide +kernel
theorem dX12_enters_52 : decode mX12_enters.2.1 52 = .ok (.getfield 31, 3) := by decide +kernel
theorem dX12_enters_55 : decode mX12_enters.2.1 55 = .ok (.iload 6, 2) := by decide +kernel
theorem dX12_enters_57 : decode mX12_enters.2.1 57 = .ok (.aaload, 1) := by decide +kernel
theorem dX12_enters_58 : decode mX12_enters.2.1 58 = .ok (.iload_n 3, 1) := by decide +kernel
theorem dX12_enters_59 : decode mX12_enters.2.1 59 = .ok (.iaload, 1) := by decide +kernel
theorem dX12_enters_60 : decode mX12_enters.2.1 60 = .ok (.bipush 8, 2) := by decide +kernel
theorem dX12_enters_62 : decode mX12_enters.2.1 62 = .ok (.iand, 1) := by decide +kernel
theorem dX12_enters_63 : decode mX12_enters.2.1 63 = .ok (.ifCond .eq 12, 3) := by decide +kernel
theorem dX12_enters_66 : decode mX12_enters.2.1 66 = .ok (.aload_n 0, 1) := by decide +kernel
theorem dX12_enters_67 : decode mX12_enters.2.1 67 = .ok (.getfield 170, 3) := by decide +kernel
theorem dX12_enters_70 : decode mX12_enters.2.1 70 = .ok (.iload_n 2, 1) := by decide +kernel
theorem dX12_enters_71 : decode mX12_enters.2.1 71 = .ok (.iaload, 1) := by decide +kernel
theorem dX12_enters_72 : decode mX12_enters.2.1 72 = .ok (.goto 9, 3) := by decide +kernel
theorem dX12_enters_75 : decode mX12_enters.2.1 75 = .ok (.aload_n 0, 1) := by decide +kernel
theorem dX12_enters_76 : decode mX12_enters.2.1 76 = .ok (.getfield 167, 3) := by decide +kernel
theorem dX12_enters_79 : decode mX12_enters.2.1 79 = .ok (.iload_n 2, 1) := by decide +kernel
theorem dX12_enters_80 : decode mX12_enters.2.1 80 = .ok (.iaload, 1) := by decide +kernel
theorem dX12_enters_81 : decode mX12_enters.2.1 81 = .ok (.iastore, 1) := by decide +kernel
theorem dX12_enters_82 : decode mX12_enters.2.1 82 = .ok (.aload_n 0, 1) := by decide +kernel
theorem dX12_enters_83 : decode mX12_enters.2.1 83 = .ok (.getfield 207, 3) := by decide +kernel
theorem dX12_enters_86 : decode mX12_enters.2.1 86 = .ok (.iload 5, 2) := by decide +kernel
theorem dX12_enters_88 : decode mX12_enters.2.1 88 = .ok (.iaload, 1) := by decide +kernel
theorem dX12_enters_89 : decode mX12_enters.2.1 89 = .ok (.aload_n 0, 1) := by decide +kernel
theorem dX12_enters_90 : decode mX12_enters.2.1 90 = .ok (.getfield 161, 3) := by decide +kernel
theorem dX12_enters_93 : decode mX12_enters.2.1 93 = .ok (.iload_n 1, 1) := by decide +kernel
theorem dX12_enters_94 : decode mX12_enters.2.1 94 = .ok (.iaload, 1) := by decide +kernel
theorem dX12_enters_95 : decode mX12_enters.2.1 95 = .ok (.if_icmp .ge 16, 3) := by decide +kernel
theorem dX12_enters_98 : decode mX12_enters.2.1 98 = .ok (.aload_n 0, 1) := by decide +kernel
theorem dX12_enters_99 : decode mX12_enters.2.1 99 = .ok (.getfield 207, 3) := by decide +kernel
theorem dX12_enters_102 : decode mX12_enters.2.1 102 = .ok (.iload 5, 2) := by decide +kernel
theorem dX12_enters_104 : decode mX12_enters.2.1 104 = .ok (.aload_n 0, 1) := by decide +kernel
theorem dX12_enters_105 : decode mX12_enters.2.1 105 = .ok (.getfield 161, 3) := by decide +kernel
theorem dX12_enters_108 : decode mX12_enters.2.1 108 = .ok (.iload_n 1, 1) := by decide +kernel
theorem dX12_enters_109 : decode mX12_enters.2.1 109 = .ok (.iaload, 1) := by decide +kernel
theorem dX12_enters_110 : decode mX12_enters.2.1 110 = .ok (.iastore, 1) := by decide +kernel
theorem dX12_enters_111 : decode mX12_enters.2.1 111 = .ok (.aload_n 0, 1) := by decide +kernel
theorem dX12_enters_112 : decode mX12_enters.2.1 112 = .ok (.getfield 207, 3) := by decide +kernel
theorem dX12_enters_115 : decode mX12_enters.2.1 115 = .ok (.iload 5, 2) := by decide +kernel
theorem dX12_enters_117 : decode mX12_enters.2.1 117 = .ok (.iaload, 1) := by decide +kernel
theorem dX12_enters_118 : decode mX12_enters.2.1 118 = .ok (.istore 7, 2) := by decide +kernel
theorem dX12_enters_120 : decode mX12_enters.2.1 120 = .ok (.iconst 0, 1) := by decide +kernel
theorem dX12_enters_121 : decode mX12_enters.2.1 121 = .ok (.istore 8, 2) := by decide +kernel
theorem dX12_enters_123 : decode mX12_enters.2.1 123 = .ok (.iload 8, 2) := by decide +kernel
theorem dX12_enters_125 : decode mX12_enters.2.1 125 = .ok (.aload_n 0, 1) := by decide +kernel
theorem dX12_enters_126 : decode mX12_enters.2.1 126 = .ok (.getfield 28, 3) := by decide +kernel
theorem dX12_enters_129 : decode mX12_enters.2.1 129 = .ok (.iload 6, 2) := by decide +kernel
theorem dX12_enters_131 : decode mX12_enters.2.1 131 = .ok (.aaload, 1) := by decide +kernel
theorem dX12_enters_132 : decode mX12_enters.2.1 132 = .ok (.iload_n 3, 1) := by decide +kernel
theorem dX12_enters_133 : decode mX12_enters.2.1 133 = .ok (.iaload, 1) := by decide +kernel
theorem dX12_enters_134 : decode mX12_enters.2.1 134 = .ok (.if_icmp .ge 110, 3) := by decide +kernel
theorem dX12_enters_137 : decode mX12_enters.2.1 137 = .ok (.iload 7, 2) := by decide +kernel
theorem dX12_enters_139 : decode mX12_enters.2.1 139 = .ok (.aload_n 0, 1) := by decide +kernel
theorem dX12_enters_140 : decode mX12_enters.2.1 140 = .ok (.getfield 39, 3) := by decide +kernel
theorem dX12_enters_143 : decode mX12_enters.2.1 143 = .ok (.iload 6, 2) := by decide +kernel
theorem dX12_enters_145 : decode mX12_enters.2.1 145 = .ok (.aaload, 1) := by decide +kernel
theorem dX12_enters_146 : decode mX12_enters.2.1 146 = .ok (.iload_n 3, 1) := by decide +kernel
theorem dX12_enters_147 : decode mX12_enters.2.1 147 = .ok (.aaload, 1) := by decide +kernel
theorem dX12_enters_148 : decode mX12_enters.2.1 148 = .ok (.iconst 3, 1) := by decide +kernel
theorem dX12_enters_149 : decode mX12_enters.2.1 149 = .ok (.iload 8, 2) := by decide +kernel
theorem dX12_enters_151 : decode mX12_enters.2.1 151 = .ok (.imul, 1) := by decide +kernel
theorem dX12_enters_152 : decode mX12_enters.2.1 152 = .ok (.iconst 1, 1) := by decide +kernel
theorem dX12_enters_153 : decode mX12_enters.2.1 153 = .ok (.iadd, 1) := by decide +kernel
theorem dX12_enters_154 : decode mX12_enters.2.1 154 = .ok (.iaload, 1) := by decide +kernel
theorem dX12_enters_155 : decode mX12_enters.2.1 155 = .ok (.aload_n 0, 1) := by decide +kernel
theorem dX12_enters_156 : decode mX12_enters.2.1 156 = .ok (.getfield 39, 3) := by decide +kernel
theorem dX12_enters_159 : decode mX12_enters.2.1 159 = .ok (.iload 6, 2) := by decide +kernel
theorem dX12_enters_161 : decode mX12_enters.2.1 161 = .ok (.aaload, 1) := by decide +kernel
theorem dX12_enters_162 : decode mX12_enters.2.1 162 = .ok (.iload_n 3, 1) := by decide +kernel
theorem dX12_enters_163 : decode mX12_enters.2.1 163 = .ok (.aaload, 1) := by decide +kernel
theorem dX12_enters_164 : decode mX12_enters.2.1 164 = .ok (.iconst 3, 1) := by decide +kernel
theorem dX12_enters_165 : decode mX12_enters.2.1 165 = .ok (.iload 8, 2) := by decide +kernel
theorem dX12_enters_167 : decode mX12_enters.2.1 167 = .ok (.imul, 1) := by decide +kernel
theorem dX12_enters_168 : decode mX12_enters.2.1 168 = .ok (.iconst 2, 1) := by decide +kernel
theorem dX12_enters_169 : decode mX12_enters.2.1 169 = .ok (.iadd, 1) := by decide +kernel
theorem dX12_enters_170 : decode mX12_enters.2.1 170 = .ok (.iaload, 1) := by decide +kernel
theorem dX12_enters_171 : decode mX12_enters.2.1 171 = .ok (.invokestatic 499, 3) := by decide +kernel
theorem dX12_enters_174 : decode mX12_enters.2.1 174 = .ok (.istore 9, 2) := by decide +kernel
theorem dX12_enters_176 : decode mX12_enters.2.1 176 = .ok (.aload_n 0, 1) := by decide +kernel
theorem dX12_enters_177 : decode mX12_enters.2.1 177 = .ok (.getfield 219, 3) := by decide +kernel
theorem dX12_enters_180 : decode mX12_enters.2.1 180 = .ok (.iload 5, 2) := by decide +kernel
theorem dX12_enters_182 : decode mX12_enters.2.1 182 = .ok (.aaload, 1) := by decide +kernel
theorem dX12_enters_183 : decode mX12_enters.2.1 183 = .ok (.iload 8, 2) := by decide +kernel
theorem dX12_enters_185 : decode mX12_enters.2.1 185 = .ok (.iload 9, 2) := by decide +kernel
theorem dX12_enters_187 : decode mX12_enters.2.1 187 = .ok (.iload 7, 2) := by decide +kernel
theorem dX12_enters_189 : decode mX12_enters.2.1 189 = .ok (.isub, 1) := by decide +kernel
theorem dX12_enters_190 : decode mX12_enters.2.1 190 = .ok (.iastore, 1) := by decide +kernel
theorem dX12_enters_191 : decode mX12_enters.2.1 191 = .ok (.aload_n 0, 1) := by decide +kernel
theorem dX12_enters_192 : decode mX12_enters.2.1 192 = .ok (.getfield 151, 3) := by decide +kernel
theorem dX12_enters_195 : decode mX12_enters.2.1 195 = .ok (.iload_n 1, 1) := by decide +kernel
theorem dX12_enters_196 : decode mX12_enters.2.1 196 = .ok (.iaload, 1) := by decide +kernel
theorem dX12_enters_197 : decode mX12_enters.2.1 197 = .ok (.iconst 1, 1) := by decide +kernel
theorem dX12_enters_198 : decode mX12_enters.2.1 198 = .ok (.if_icmp .ne 36, 3) := by decide +kernel
theorem dX12_enters_201 : decode mX12_enters.2.1 201 = .ok (.aload_n 0, 1) := by decide +kernel
theorem dX12_enters_202 : decode mX12_enters.2.1 202 = .ok (.getfield 31, 3) := by decide +kernel
theorem dX12_enters_205 : decode mX12_enters.2.1 205 = .ok (.iload 6, 2) := by decide +kernel
theorem dX12_enters_207 : decode mX12_enters.2.1 207 = .ok (.aaload, 1) := by decide +kernel
theorem dX12_enters_208 : decode mX12_enters.2.1 208 = .ok (.iload_n 3, 1) := by decide +kernel
theorem dX12_enters_209 : decode mX12_enters.2.1 209 = .ok (.iaload, 1) := by decide +kernel
theorem dX12_enters_210 : decode mX12_enters.2.1 210 = .ok (.iconst 1, 1) := by decide +kernel
theorem dX12_enters_211 : decode mX12_enters.2.1 211 = .ok (.iand, 1) := by decide +kernel
theorem dX12_enters_212 : decode mX12_enters.2.1 212 = .ok (.ifCond .eq 22, 3) := by decide +kernel
theorem dX12_enters_215 : decode mX12_enters.2.1 215 = .ok (.aload_n 0, 1) := by decide +kernel
theorem dX12_enters_216 : decode mX12_enters.2.1 216 = .ok (.getfield 219, 3) := by decide +kernel
theorem dX12_enters_219 : decode mX12_enters.2.1 219 = .ok (.iload 5, 2) := by decide +kernel
theorem dX12_enters_221 : decode mX12_enters.2.1 221 = .ok (.aaload, 1) := by decide +kernel
theorem dX12_enters_222 : decode mX12_enters.2.1 222 = .ok (.iload 8, 2) := by decide +kernel
theorem dX12_enters_224 : decode mX12_enters.2.1 224 = .ok (.iload 9, 2) := by decide +kernel
theorem dX12_enters_226 : decode mX12_enters.2.1 226 = .ok (.iload 7, 2) := by decide +kernel
theorem dX12_enters_228 : decode mX12_enters.2.1 228 = .ok (.isub, 1) := by decide +kernel
theorem dX12_enters_229 : decode mX12_enters.2.1 229 = .ok (.iconst 1, 1) := by decide +kernel
theorem dX12_enters_230 : decode mX12_enters.2.1 230 = .ok (.iadd, 1) := by decide +kernel
theorem dX12_enters_231 : decode mX12_enters.2.1 231 = .ok (.iconst 2, 1) := by decide +kernel
theorem dX12_enters_232 : decode mX12_enters.2.1 232 = .ok (.idiv, 1) := by decide +kernel
theorem dX12_enters_233 : decode mX12_enters.2.1 233 = .ok (.iastore, 1) := by decide +kernel
theorem dX12_enters_234 : decode mX12_enters.2.1 234 = .ok (.iload 9, 2) := by decide +kernel
theorem dX12_enters_236 : decode mX12_enters.2.1 236 = .ok (.istore 7, 2) := by decide +kernel
theorem dX12_enters_238 : decode mX12_enters.2.1 238 = .ok (.iinc 8 1, 3) := by decide +kernel
theorem dX12_enters_241 : decode mX12_enters.2.1 241 = .ok (.goto (-118), 3) := by decide +kernel
theorem dX12_enters_244 : decode mX12_enters.2.1 244 = .ok (.aload_n 0, 1) := by decide +kernel
theorem dX12_enters_245 : decode mX12_enters.2.1 245 = .ok (.getfield 210, 3) := by decide +kernel
theorem dX12_enters_248 : decode mX12_enters.2.1 248 = .ok (.iload 5, 2) := by decide +kernel
theorem dX12_enters_250 : decode mX12_enters.2.1 250 = .ok (.iconst 0, 1) := by decide +kernel
theorem dX12_enters_251 : decode mX12_enters.2.1 251 = .ok (.iastore, 1) := by decide +kernel
theorem dX12_enters_252 : decode mX12_enters.2.1 252 = .ok (.aload_n 0, 1) := by decide +kernel
theorem dX12_enters_253 : decode mX12_enters.2.1 253 = .ok (.getfield 222, 3) := by decide +kernel
theorem dX12_enters_256 : decode mX12_enters.2.1 256 = .ok (.iload 5, 2) := by decide +kernel
theorem dX12_enters_258 : decode mX12_enters.2.1 258 = .ok (.iconst 0, 1) := by decide +kernel
theorem dX12_enters_259 : decode mX12_enters.2.1 259 = .ok (.bastore, 1) := by decide +kernel
theorem dX12_enters_260 : decode mX12_enters.2.1 260 = .ok (.aload_n 0, 1) := by decide +kernel
theorem dX12_enters_261 : decode mX12_enters.2.1 261 = .ok (.dup, 1) := by decide +kernel
theorem dX12_enters_262 : decode mX12_enters.2.1 262 = .ok (.getfield 496, 3) := by decide +kernel
theorem dX12_enters_265 : decode mX12_enters.2.1 265 = .ok (.iconst 1, 1) := by decide +kernel
theorem dX12_enters_266 : decode mX12_enters.2.1 266 = .ok (.iadd, 1) := by decide +kernel
theorem dX12_enters_267 : decode mX12_enters.2.1 267 = .ok (.putfield 496, 3) := by decide +kernel
theorem dX12_enters_270 : decode mX12_enters.2.1 270 = .ok (.return_, 1) := by decide +kernel
theorem bX12_enters_0 {SC : Nat → Nat} {X : mh_X} {d : Nat} {Q : Option am_V → am_W → Prop} {bc bs : Nat} {w : am_W} {x1 : Int} {x2 : Int} {x3 : Int} {x4 : Int}
    (h : (0 ≤ x2 ∧ (x2 < 40 ∧ am_M (mh_G X) SC (d + 8) 0 0 mX12_lawOf [.inr (.inr (some (9, 0))), .inl (w.1 102 0 x2.toNat), .inl x4] w (fun r w1 => am_A (mh_G X) SC (d + 9) mX12_enters Q 18 [(5, .inl (w.1 9 0 62)), (0, .inr (.inr (some (9, 0)))), (1, .inl x1), (2, .inl x2), (3, .inl x3), (4, .inl x4)] (r.toList ++ []) w1 bc bs)))) :
    am_A (mh_G X) SC (d + 9) mX12_enters Q 0 [(0, .inr (.inr (some (9, 0)))), (1, .inl x1), (2, .inl x2), (3, .inl x3), (4, .inl x4)] [] w bc bs := by
  refine am_aload_n dX12_enters_0 (List.Mem.head _) ?_
  refine am_getf (f := 62) (v := .inl (w.1 9 0 62)) dX12_enters_1 hc_10 (by decide) wd_1611 (by decide) rfl rfl ?_
  refine am_istore (ls' := [(5, .inl (w.1 9 0 62)), (0, .inr (.inr (some (9, 0)))), (1, .inl x1), (2, .inl x2), (3, .inl x3), (4, .inl x4)]) dX12_enters_4 (by decide) rfl ?_
  refine am_aload_n dX12_enters_6 (List.Mem.tail _ (List.Mem.head _)) ?_
  refine am_aload_n dX12_enters_7 (List.Mem.tail _ (List.Mem.head _)) ?_
  refine am_getf (f := 40) (v := .inr (.inr (some (102, 0)))) dX12_enters_8 hc_10 (by decide) wd_1589 (by decide) rfl rfl ?_
  refine am_iload_n dX12_enters_11 (List.Mem.tail _ (List.Mem.tail _ (List.Mem.tail _ (List.Mem.head _)))) ?_
  have o1 := h.1
  replace h := h.2
  have o2 := h.1
  replace h := h.2
  refine am_iaload (v := (w.1 102 0 x2.toNat)) dX12_enters_12 (by decide) rfl o1 o2 rfl ?_
  refine am_iload dX12_enters_13 (List.Mem.tail _ (List.Mem.tail _ (List.Mem.tail _ (List.Mem.tail _ (List.Mem.tail _ (List.Mem.head _)))))) ?_
  exact am_callv (d' := d + 8) (kc := 0) (ks := 0) (as := [.inl (w.1 102 0 x2.toNat), .inl x4]) dX12_enters_15 wc_X12_lawOf wd_2077 wd_2079 wd_82 wd_122 ds_X12_lawOf (by decide) (by omega) (Nat.le_of_ble_eq_true rfl) (Nat.zero_le _) (Nat.zero_le _) hc_10 (by decide) rfl rfl h
theorem bX12_enters_18 {SC : Nat → Nat} {X : mh_X} {d : Nat} {Q : Option am_V → am_W → Prop} {bc bs : Nat} {w : am_W} {x5 : Int} {x1 : Int} {x2 : Int} {x3 : Int} {x4 : Int} {xs0 : Int}
    (h : (0 ≤ x5 ∧ (x5 < 40 ∧ (0 ≤ xs0 ∧ (xs0 < 7 ∧ (0 ≤ x3 ∧ (x3 < 30 ∧ (((am_and (w.1 75 xs0.toNat x3.toNat) 8) = 0 → (0 ≤ x2 ∧ (x2 < 40 ∧ am_A (mh_G X) SC (d + 9) mX12_enters Q 81 [(0, .inr (.inr (some (9, 0)))), (1, .inl x1), (3, .inl x3), (5, .inl x5), (6, .inl xs0)] [.inl (w.1 102 0 x2.toNat), .inl x5, .inr (.inr (some (115, 0)))] ((am_up (am_up (am_up w.1 114 0 x5.toNat x2) 118 0 x5.toNat xs0) 117 0 x5.toNat x3), w.2) bc bs))) ∧ (¬ (am_and (w.1 75 xs0.toNat x3.toNat) 8) = 0 → (0 ≤ x2 ∧ (x2 < 40 ∧ am_A (mh_G X) SC (d + 9) mX12_enters Q 81 [(0, .inr (.inr (some (9, 0)))), (1, .inl x1), (3, .inl x3), (5, .inl x5), (6, .inl xs0)] [.inl (w.1 103 0 x2.toNat), .inl x5, .inr (.inr (some (115, 0)))] ((am_up (am_up (am_up w.1 114 0 x5.toNat x2) 118 0 x5.toNat xs0) 117 0 x5.toNat x3), w.2) bc bs))))))))))) :
    am_A (mh_G X) SC (d + 9) mX12_enters Q 18 [(5, .inl x5), (0, .inr (.inr (some (9, 0)))), (1, .inl x1), (2, .inl x2), (3, .inl x3), (4, .inl x4)] [.inl xs0] w bc bs := by
  refine am_istore (ls' := [(6, .inl xs0), (5, .inl x5), (0, .inr (.inr (some (9, 0)))), (1, .inl x1), (2, .inl x2), (3, .inl x3), (4, .inl x4)]) dX12_enters_18 (by decide) rfl ?_
  refine am_aload_n dX12_enters_20 (List.Mem.tail _ (List.Mem.tail _ (List.Mem.head _))) ?_
  refine am_getf (f := 55) (v := .inr (.inr (some (114, 0)))) dX12_enters_21 hc_10 (by decide) wd_1604 (by decide) rfl rfl ?_
  refine am_iload dX12_enters_24 (List.Mem.tail _ (List.Mem.head _)) ?_
  refine am_iload_n dX12_enters_26 (List.Mem.tail _ (List.Mem.tail _ (List.Mem.tail _ (List.Mem.tail _ (List.Mem.head _))))) ?_
  have o1 := h.1
  replace h := h.2
  have o2 := h.1
  replace h := h.2
  refine am_iastore dX12_enters_27 (Or.inl (by decide)) rfl o1 o2 ?_
  refine am_aload_n dX12_enters_28 (List.Mem.tail _ (List.Mem.tail _ (List.Mem.head _))) ?_
  refine am_getf (f := 59) (v := .inr (.inr (some (118, 0)))) dX12_enters_29 hc_10 (by decide) wd_1608 (by decide) rfl rfl ?_
  refine am_iload dX12_enters_32 (List.Mem.tail _ (List.Mem.head _)) ?_
  refine am_iload dX12_enters_34 (List.Mem.head _) ?_
  refine am_iastore dX12_enters_36 (Or.inl (by decide)) rfl o1 o2 ?_
  refine am_aload_n dX12_enters_37 (List.Mem.tail _ (List.Mem.tail _ (List.Mem.head _))) ?_
  refine am_getf (f := 58) (v := .inr (.inr (some (117, 0)))) dX12_enters_38 hc_10 (by decide) wd_1607 (by decide) rfl rfl ?_
  refine am_iload dX12_enters_41 (List.Mem.tail _ (List.Mem.head _)) ?_
  refine am_iload_n dX12_enters_43 (List.Mem.tail _ (List.Mem.tail _ (List.Mem.tail _ (List.Mem.tail _ (List.Mem.tail _ (List.Mem.head _)))))) ?_
  refine am_iastore dX12_enters_44 (Or.inl (by decide)) rfl o1 o2 ?_
  refine am_aload_n dX12_enters_45 (List.Mem.tail _ (List.Mem.tail _ (List.Mem.head _))) ?_
  refine am_getf (f := 56) (v := .inr (.inr (some (115, 0)))) dX12_enters_46 hc_10 (by decide) wd_1605 (by decide) rfl rfl ?_
  refine am_iload dX12_enters_49 (List.Mem.tail _ (List.Mem.head _)) ?_
  refine am_aload_n dX12_enters_51 (List.Mem.tail _ (List.Mem.tail _ (List.Mem.head _))) ?_
  refine am_getf (f := 10) (v := .inr (.inr (some (74, 0)))) dX12_enters_52 hc_10 (by decide) wd_1559 (by decide) rfl rfl ?_
  refine am_iload dX12_enters_55 (List.Mem.head _) ?_
  have o3 := h.1
  replace h := h.2
  have o4 := h.1
  replace h := h.2
  refine am_aaload (kd := 5) (r := some (75, xs0.toNat)) dX12_enters_57 (by decide) rfl (by decide) (by decide) o3 o4 rfl ?_
  refine am_iload_n dX12_enters_58 (List.Mem.tail _ (List.Mem.tail _ (List.Mem.tail _ (List.Mem.tail _ (List.Mem.tail _ (List.Mem.head _)))))) ?_
  have o5 := h.1
  replace h := h.2
  have o6 := h.1
  replace h := h.2
  refine am_iaload (v := (w.1 75 xs0.toNat x3.toNat)) dX12_enters_59 (by decide) rfl o5 o6 rfl ?_
  refine am_bipush dX12_enters_60 (by decide) (by unfold am_rg; omega) ?_
  refine am_iand dX12_enters_62 ?_
  refine am_ifeq (tgt := 75) dX12_enters_63 (by decide) (fun c7 => ?_) (fun c7 => ?_)
  · replace h := h.1 c7
    refine am_aload_n dX12_enters_75 (List.Mem.tail _ (List.Mem.tail _ (List.Mem.head _))) ?_
    refine am_getf (f := 40) (v := .inr (.inr (some (102, 0)))) dX12_enters_76 hc_10 (by decide) wd_1589 (by decide) rfl rfl ?_
    refine am_iload_n dX12_enters_79 (List.Mem.tail _ (List.Mem.tail _ (List.Mem.tail _ (List.Mem.tail _ (List.Mem.head _))))) ?_
    have o8 := h.1
    replace h := h.2
    have o9 := h.1
    replace h := h.2
    refine am_iaload (v := (w.1 102 0 x2.toNat)) dX12_enters_80 (by decide) rfl o8 o9 rfl ?_
    exact am_sub [2, 3, 5, 1, 0] rfl h
  · replace h := h.2 c7
    refine am_aload_n dX12_enters_66 (List.Mem.tail _ (List.Mem.tail _ (List.Mem.head _))) ?_
    refine am_getf (f := 41) (v := .inr (.inr (some (103, 0)))) dX12_enters_67 hc_10 (by decide) wd_1590 (by decide) rfl rfl ?_
    refine am_iload_n dX12_enters_70 (List.Mem.tail _ (List.Mem.tail _ (List.Mem.tail _ (List.Mem.tail _ (List.Mem.head _))))) ?_
    have o10 := h.1
    replace h := h.2
    have o11 := h.1
    replace h := h.2
    refine am_iaload (v := (w.1 103 0 x2.toNat)) dX12_enters_71 (by decide) rfl o10 o11 rfl ?_
    refine am_goto (tgt := 81) dX12_enters_72 (by decide) ?_
    exact am_sub [2, 3, 5, 1, 0] rfl h
theorem bX12_enters_81 {SC : Nat → Nat} {X : mh_X} {d : Nat} {Q : Option am_V → am_W → Prop} {bc bs : Nat} {w : am_W} {x1 : Int} {x3 : Int} {x5 : Int} {x6 : Int} {xs0 : Int} {xs1 : Int}
    (h : (0 ≤ xs1 ∧ (xs1 < 40 ∧ (0 ≤ x5 ∧ (x5 < 40 ∧ (0 ≤ x1 ∧ (x1 < 40 ∧ (((w.1 100 0 x1.toNat) ≤ ((am_up w.1 115 0 xs1.toNat xs0) 115 0 x5.toNat) → am_A (mh_G X) SC (d + 9) mX12_enters Q 111 [(0, .inr (.inr (some (9, 0)))), (1, .inl x1), (3, .inl x3), (5, .inl x5), (6, .inl x6)] [] ((am_up w.1 115 0 xs1.toNat xs0), w.2) bc bs) ∧ (¬ (w.1 100 0 x1.toNat) ≤ ((am_up w.1 115 0 xs1.toNat xs0) 115 0 x5.toNat) → am_A (mh_G X) SC (d + 9) mX12_enters Q 111 [(0, .inr (.inr (some (9, 0)))), (1, .inl x1), (3, .inl x3), (5, .inl x5), (6, .inl x6)] [] ((am_up (am_up w.1 115 0 xs1.toNat xs0) 115 0 x5.toNat (w.1 100 0 x1.toNat)), w.2) bc bs))))))))) :
    am_A (mh_G X) SC (d + 9) mX12_enters Q 81 [(0, .inr (.inr (some (9, 0)))), (1, .inl x1), (3, .inl x3), (5, .inl x5), (6, .inl x6)] [.inl xs0, .inl xs1, .inr (.inr (some (115, 0)))] w bc bs := by
  have o1 := h.1
  replace h := h.2
  have o2 := h.1
  replace h := h.2
  refine am_iastore dX12_enters_81 (Or.inl (by decide)) rfl o1 o2 ?_
  refine am_aload_n dX12_enters_82 (List.Mem.head _) ?_
  refine am_getf (f := 56) (v := .inr (.inr (some (115, 0)))) dX12_enters_83 hc_10 (by decide) wd_1605 (by decide) rfl rfl ?_
  refine am_iload dX12_enters_86 (List.Mem.tail _ (List.Mem.tail _ (List.Mem.tail _ (List.Mem.head _)))) ?_
  have o3 := h.1
  replace h := h.2
  have o4 := h.1
  replace h := h.2
  refine am_iaload (v := ((am_up w.1 115 0 xs1.toNat xs0) 115 0 x5.toNat)) dX12_enters_88 (by decide) rfl o3 o4 rfl ?_
  refine am_aload_n dX12_enters_89 (List.Mem.head _) ?_
  refine am_getf (f := 38) (v := .inr (.inr (some (100, 0)))) dX12_enters_90 hc_10 (by decide) wd_1587 (by decide) rfl rfl ?_
  refine am_iload_n dX12_enters_93 (List.Mem.tail _ (List.Mem.head _)) ?_
  have o5 := h.1
  replace h := h.2
  have o6 := h.1
  replace h := h.2
  refine am_iaload (v := (w.1 100 0 x1.toNat)) dX12_enters_94 (by decide) rfl o5 o6 rfl ?_
  refine am_icmpge (tgt := 111) dX12_enters_95 (by decide) (fun c7 => ?_) (fun c7 => ?_)
  · replace h := h.1 c7
    exact h
  · replace h := h.2 c7
    refine am_aload_n dX12_enters_98 (List.Mem.head _) ?_
    refine am_getf (f := 56) (v := .inr (.inr (some (115, 0)))) dX12_enters_99 hc_10 (by decide) wd_1605 (by decide) rfl rfl ?_
    refine am_iload dX12_enters_102 (List.Mem.tail _ (List.Mem.tail _ (List.Mem.tail _ (List.Mem.head _)))) ?_
    refine am_aload_n dX12_enters_104 (List.Mem.head _) ?_
    refine am_getf (f := 38) (v := .inr (.inr (some (100, 0)))) dX12_enters_105 hc_10 (by decide) wd_1587 (by decide) rfl rfl ?_
    refine am_iload_n dX12_enters_108 (List.Mem.tail _ (List.Mem.head _)) ?_
    refine am_iaload (v := (w.1 100 0 x1.toNat)) dX12_enters_109 (by decide) rfl o5 o6 rfl ?_
    refine am_iastore dX12_enters_110 (Or.inl (by decide)) rfl o3 o4 ?_
    exact h
theorem bX12_enters_111 {SC : Nat → Nat} {X : mh_X} {d : Nat} {Q : Option am_V → am_W → Prop} {bc bs : Nat} {w : am_W} {x1 : Int} {x3 : Int} {x5 : Int} {x6 : Int}
    (h : (0 ≤ x5 ∧ (x5 < 40 ∧ am_A (mh_G X) SC (d + 9) mX12_enters Q 123 [(0, .inr (.inr (some (9, 0)))), (1, .inl x1), (3, .inl x3), (5, .inl x5), (6, .inl x6), (7, .inl (w.1 115 0 x5.toNat)), (8, .inl 0)] [] w bc bs))) :
    am_A (mh_G X) SC (d + 9) mX12_enters Q 111 [(0, .inr (.inr (some (9, 0)))), (1, .inl x1), (3, .inl x3), (5, .inl x5), (6, .inl x6)] [] w bc bs := by
  refine am_aload_n dX12_enters_111 (List.Mem.head _) ?_
  refine am_getf (f := 56) (v := .inr (.inr (some (115, 0)))) dX12_enters_112 hc_10 (by decide) wd_1605 (by decide) rfl rfl ?_
  refine am_iload dX12_enters_115 (List.Mem.tail _ (List.Mem.tail _ (List.Mem.tail _ (List.Mem.head _)))) ?_
  have o1 := h.1
  replace h := h.2
  have o2 := h.1
  replace h := h.2
  refine am_iaload (v := (w.1 115 0 x5.toNat)) dX12_enters_117 (by decide) rfl o1 o2 rfl ?_
  refine am_istore (ls' := [(7, .inl (w.1 115 0 x5.toNat)), (0, .inr (.inr (some (9, 0)))), (1, .inl x1), (3, .inl x3), (5, .inl x5), (6, .inl x6)]) dX12_enters_118 (by decide) rfl ?_
  refine am_iconst dX12_enters_120 (by unfold am_rg; omega) ?_
  refine am_istore (ls' := [(8, .inl 0), (7, .inl (w.1 115 0 x5.toNat)), (0, .inr (.inr (some (9, 0)))), (1, .inl x1), (3, .inl x3), (5, .inl x5), (6, .inl x6)]) dX12_enters_121 (by decide) rfl ?_
  exact am_sub [2, 3, 4, 5, 6, 1, 0] rfl h
theorem bX12_enters_123 {SC : Nat → Nat} {X : mh_X} {d : Nat} {Q : Option am_V → am_W → Prop} {bc bs : Nat} {w : am_W} {x1 : Int} {x3 : Int} {x5 : Int} {x6 : Int} {x7 : Int} {x8 : Int}
    (h : (0 ≤ x6 ∧ (x6 < 7 ∧ (0 ≤ x3 ∧ (x3 < 30 ∧ (((w.1 73 x6.toNat x3.toNat) ≤ x8 → (0 ≤ x5 ∧ (x5 < 40 ∧ Q none ((am_up (am_up (am_up w.1 116 0 x5.toNat 0) 121 0 x5.toNat 0) 9 0 62 (am_w ((w.1 9 0 62) + 1))), w.2)))) ∧ (¬ (w.1 73 x6.toNat x3.toNat) ≤ x8 → (0 ≤ (am_w ((am_w (3 * x8)) + 1)) ∧ ((am_w ((am_w (3 * x8)) + 1)) < 12 ∧ (0 ≤ (am_w ((am_w (3 * x8)) + 2)) ∧ ((am_w ((am_w (3 * x8)) + 2)) < 12 ∧ am_M (mh_G X) SC (d + 8) 0 0 mX12_reached [.inl x7, .inl (w.1 81 (30 * x6.toNat + x3.toNat) (am_w ((am_w (3 * x8)) + 1)).toNat), .inl (w.1 81 (30 * x6.toNat + x3.toNat) (am_w ((am_w (3 * x8)) + 2)).toNat)] w (fun r w1 => am_A (mh_G X) SC (d + 9) mX12_enters Q 174 [(0, .inr (.inr (some (9, 0)))), (1, .inl x1), (3, .inl x3), (5, .inl x5), (6, .inl x6), (7, .inl x7), (8, .inl x8)] (r.toList ++ []) w1 bc bs)))))))))))) :
    am_A (mh_G X) SC (d + 9) mX12_enters Q 123 [(0, .inr (.inr (some (9, 0)))), (1, .inl x1), (3, .inl x3), (5, .inl x5), (6, .inl x6), (7, .inl x7), (8, .inl x8)] [] w bc bs := by
  refine am_iload dX12_enters_123 (List.Mem.tail _ (List.Mem.tail _ (List.Mem.tail _ (List.Mem.tail _ (List.Mem.tail _ (List.Mem.tail _ (List.Mem.head _))))))) ?_
  refine am_aload_n dX12_enters_125 (List.Mem.head _) ?_
  refine am_getf (f := 9) (v := .inr (.inr (some (72, 0)))) dX12_enters_126 hc_10 (by decide) wd_1558 (by decide) rfl rfl ?_
  refine am_iload dX12_enters_129 (List.Mem.tail _ (List.Mem.tail _ (List.Mem.tail _ (List.Mem.tail _ (List.Mem.head _))))) ?_
  have o1 := h.1
  replace h := h.2
  have o2 := h.1
  replace h := h.2
  refine am_aaload (kd := 5) (r := some (73, x6.toNat)) dX12_enters_131 (by decide) rfl (by decide) (by decide) o1 o2 rfl ?_
  refine am_iload_n dX12_enters_132 (List.Mem.tail _ (List.Mem.tail _ (List.Mem.head _))) ?_
  have o3 := h.1
  replace h := h.2
  have o4 := h.1
  replace h := h.2
  refine am_iaload (v := (w.1 73 x6.toNat x3.toNat)) dX12_enters_133 (by decide) rfl o3 o4 rfl ?_
  refine am_icmpge (tgt := 244) dX12_enters_134 (by decide) (fun c5 => ?_) (fun c5 => ?_)
  · replace h := h.1 c5
    refine am_aload_n dX12_enters_244 (List.Mem.head _) ?_
    refine am_getf (f := 57) (v := .inr (.inr (some (116, 0)))) dX12_enters_245 hc_10 (by decide) wd_1606 (by decide) rfl rfl ?_
    refine am_iload dX12_enters_248 (List.Mem.tail _ (List.Mem.tail _ (List.Mem.tail _ (List.Mem.head _)))) ?_
    refine am_iconst dX12_enters_250 (by unfold am_rg; omega) ?_
    have o6 := h.1
    replace h := h.2
    have o7 := h.1
    replace h := h.2
    refine am_iastore dX12_enters_251 (Or.inl (by decide)) rfl o6 o7 ?_
    refine am_aload_n dX12_enters_252 (List.Mem.head _) ?_
    refine am_getf (f := 61) (v := .inr (.inr (some (121, 0)))) dX12_enters_253 hc_10 (by decide) wd_1610 (by decide) rfl rfl ?_
    refine am_iload dX12_enters_256 (List.Mem.tail _ (List.Mem.tail _ (List.Mem.tail _ (List.Mem.head _)))) ?_
    refine am_iconst dX12_enters_258 (by unfold am_rg; omega) ?_
    refine am_zastore (by decide) dX12_enters_259 (Or.inl (by decide)) rfl o6 o7 ?_
    refine am_aload_n dX12_enters_260 (List.Mem.head _) ?_
    refine am_dup dX12_enters_261 rfl ?_
    refine am_getf (f := 62) (v := .inl (w.1 9 0 62)) dX12_enters_262 hc_10 (by decide) wd_1611 (by decide) rfl rfl ?_
    refine am_iconst dX12_enters_265 (by unfold am_rg; omega) ?_
    refine am_iadd dX12_enters_266 ?_
    refine am_putf (f := 62) dX12_enters_267 hc_10 (by decide) wd_1611 rfl (Or.inl rfl) (Or.inl (by decide)) rfl ?_
    exact am_ret (r := none) dX12_enters_270 rfl rfl h
  · replace h := h.2 c5
    refine am_iload dX12_enters_137 (List.Mem.tail _ (List.Mem.tail _ (List.Mem.tail _ (List.Mem.tail _ (List.Mem.tail _ (List.Mem.head _)))))) ?_
    refine am_aload_n dX12_enters_139 (List.Mem.head _) ?_
    refine am_getf (f := 12) (v := .inr (.inr (some (79, 0)))) dX12_enters_140 hc_10 (by decide) wd_1561 (by decide) rfl rfl ?_
    refine am_iload dX12_enters_143 (List.Mem.tail _ (List.Mem.tail _ (List.Mem.tail _ (List.Mem.tail _ (List.Mem.head _))))) ?_
    refine am_aaload (kd := 6) (r := some (80, x6.toNat)) dX12_enters_145 (by decide) rfl (by decide) (by decide) o1 o2 rfl ?_
    refine am_iload_n dX12_enters_146 (List.Mem.tail _ (List.Mem.tail _ (List.Mem.head _))) ?_
    refine am_aaload (kd := 5) (r := some (81, (30 * x6.toNat + x3.toNat))) dX12_enters_147 (by decide) rfl (by decide) (by decide) o3 o4 rfl ?_
    refine am_iconst dX12_enters_148 (by unfold am_rg; omega) ?_
    refine am_iload dX12_enters_149 (List.Mem.tail _ (List.Mem.tail _ (List.Mem.tail _ (List.Mem.tail _ (List.Mem.tail _ (List.Mem.tail _ (List.Mem.head _))))))) ?_
    refine am_imul dX12_enters_151 ?_
    refine am_iconst dX12_enters_152 (by unfold am_rg; omega) ?_
    refine am_iadd dX12_enters_153 ?_
    have o8 := h.1
    replace h := h.2
    have o9 := h.1
    replace h := h.2
    refine am_iaload (v := (w.1 81 (30 * x6.toNat + x3.toNat) (am_w ((am_w (3 * x8)) + 1)).toNat)) dX12_enters_154 (by decide) rfl o8 o9 rfl ?_
    refine am_aload_n dX12_enters_155 (List.Mem.head _) ?_
    refine am_getf (f := 12) (v := .inr (.inr (some (79, 0)))) dX12_enters_156 hc_10 (by decide) wd_1561 (by decide) rfl rfl ?_
    refine am_iload dX12_enters_159 (List.Mem.tail _ (List.Mem.tail _ (List.Mem.tail _ (List.Mem.tail _ (List.Mem.head _))))) ?_
    refine am_aaload (kd := 6) (r := some (80, x6.toNat)) dX12_enters_161 (by decide) rfl (by decide) (by decide) o1 o2 rfl ?_
    refine am_iload_n dX12_enters_162 (List.Mem.tail _ (List.Mem.tail _ (List.Mem.head _))) ?_
    refine am_aaload (kd := 5) (r := some (81, (30 * x6.toNat + x3.toNat))) dX12_enters_163 (by decide) rfl (by decide) (by decide) o3 o4 rfl ?_
    refine am_iconst dX12_enters_164 (by unfold am_rg; omega) ?_
    refine am_iload dX12_enters_165 (List.Mem.tail _ (List.Mem.tail _ (List.Mem.tail _ (List.Mem.tail _ (List.Mem.tail _ (List.Mem.tail _ (List.Mem.head _))))))) ?_
    refine am_imul dX12_enters_167 ?_
    refine am_iconst dX12_enters_168 (by unfold am_rg; omega) ?_
    refine am_iadd dX12_enters_169 ?_
    have o10 := h.1
    replace h := h.2
    have o11 := h.1
    replace h := h.2
    refine am_iaload (v := (w.1 81 (30 * x6.toNat + x3.toNat) (am_w ((am_w (3 * x8)) + 2)).toNat)) dX12_enters_170 (by decide) rfl o10 o11 rfl ?_
    exact am_calls (d' := d + 8) (kc := 0) (ks := 0) (as := [.inl x7, .inl (w.1 81 (30 * x6.toNat + x3.toNat) (am_w ((am_w (3 * x8)) + 1)).toNat), .inl (w.1 81 (30 * x6.toNat + x3.toNat) (am_w ((am_w (3 * x8)) + 2)).toNat)]) dX12_enters_171 wc_X12_reached wd_2101 wd_2102 wd_122 ds_X12_reached (by decide) (by omega) (Nat.le_of_ble_eq_true rfl) (Nat.zero_le _) (Nat.zero_le _) rfl h
theorem bX12_enters_174 {SC : Nat → Nat} {X : mh_X} {d : Nat} {Q : Option am_V → am_W → Prop} {bc bs : Nat} {w : am_W} {x1 : Int} {x3 : Int} {x5 : Int} {x6 : Int} {x7 : Int} {x8 : Int} {xs0 : Int}
    (h : (0 ≤ x5 ∧ (x5 < 40 ∧ (0 ≤ x8 ∧ (x8 < 4 ∧ (0 ≤ x1 ∧ (x1 < 40 ∧ ((¬ (w.1 96 0 x1.toNat) = 1 → am_A (mh_G X) SC (d + 9) mX12_enters Q 234 [(0, .inr (.inr (some (9, 0)))), (1, .inl x1), (3, .inl x3), (5, .inl x5), (6, .inl x6), (8, .inl x8), (9, .inl xs0)] [] ((am_up w.1 120 x5.toNat x8.toNat (am_w (xs0 - x7))), w.2) bc bs) ∧ ((w.1 96 0 x1.toNat) = 1 → (0 ≤ x6 ∧ (x6 < 7 ∧ (0 ≤ x3 ∧ (x3 < 30 ∧ (((am_and (w.1 75 x6.toNat x3.toNat) 1) = 0 → am_A (mh_G X) SC (d + 9) mX12_enters Q 234 [(0, .inr (.inr (some (9, 0)))), (1, .inl x1), (3, .inl x3), (5, .inl x5), (6, .inl x6), (8, .inl x8), (9, .inl xs0)] [] ((am_up w.1 120 x5.toNat x8.toNat (am_w (xs0 - x7))), w.2) bc bs) ∧ (¬ (am_and (w.1 75 x6.toNat x3.toNat) 1) = 0 → am_A (mh_G X) SC (d + 9) mX12_enters Q 234 [(0, .inr (.inr (some (9, 0)))), (1, .inl x1), (3, .inl x3), (5, .inl x5), (6, .inl x6), (8, .inl x8), (9, .inl xs0)] [] ((am_up (am_up w.1 120 x5.toNat x8.toNat (am_w (xs0 - x7))) 120 x5.toNat x8.toNat (am_w (Int.tdiv (am_w ((am_w (xs0 - x7)) + 1)) 2))), w.2) bc bs))))))))))))))) :
    am_A (mh_G X) SC (d + 9) mX12_enters Q 174 [(0, .inr (.inr (some (9, 0)))), (1, .inl x1), (3, .inl x3), (5, .inl x5), (6, .inl x6), (7, .inl x7), (8, .inl x8)] [.inl xs0] w bc bs := by
  refine am_istore (ls' := [(9, .inl xs0), (0, .inr (.inr (some (9, 0)))), (1, .inl x1), (3, .inl x3), (5, .inl x5), (6, .inl x6), (7, .inl x7), (8, .inl x8)]) dX12_enters_174 (by decide) rfl ?_
  refine am_aload_n dX12_enters_176 (List.Mem.tail _ (List.Mem.head _)) ?_
  refine am_getf (f := 60) (v := .inr (.inr (some (119, 0)))) dX12_enters_177 hc_10 (by decide) wd_1609 (by decide) rfl rfl ?_
  refine am_iload dX12_enters_180 (List.Mem.tail _ (List.Mem.tail _ (List.Mem.tail _ (List.Mem.tail _ (List.Mem.head _))))) ?_
  have o1 := h.1
  replace h := h.2
  have o2 := h.1
  replace h := h.2
  refine am_aaload (kd := 5) (r := some (120, x5.toNat)) dX12_enters_182 (by decide) rfl (by decide) (by decide) o1 o2 rfl ?_
  refine am_iload dX12_enters_183 (List.Mem.tail _ (List.Mem.tail _ (List.Mem.tail _ (List.Mem.tail _ (List.Mem.tail _ (List.Mem.tail _ (List.Mem.tail _ (List.Mem.head _)))))))) ?_
  refine am_iload dX12_enters_185 (List.Mem.head _) ?_
  refine am_iload dX12_enters_187 (List.Mem.tail _ (List.Mem.tail _ (List.Mem.tail _ (List.Mem.tail _ (List.Mem.tail _ (List.Mem.tail _ (List.Mem.head _))))))) ?_
  refine am_isub dX12_enters_189 ?_
  have o3 := h.1
  replace h := h.2
  have o4 := h.1
  replace h := h.2
  refine am_iastore dX12_enters_190 (Or.inl (by decide)) rfl o3 o4 ?_
  refine am_aload_n dX12_enters_191 (List.Mem.tail _ (List.Mem.head _)) ?_
  refine am_getf (f := 34) (v := .inr (.inr (some (96, 0)))) dX12_enters_192 hc_10 (by decide) wd_1583 (by decide) rfl rfl ?_
  refine am_iload_n dX12_enters_195 (List.Mem.tail _ (List.Mem.tail _ (List.Mem.head _))) ?_
  have o5 := h.1
  replace h := h.2
  have o6 := h.1
  replace h := h.2
  refine am_iaload (v := (w.1 96 0 x1.toNat)) dX12_enters_196 (by decide) rfl o5 o6 rfl ?_
  refine am_iconst dX12_enters_197 (by unfold am_rg; omega) ?_
  refine am_icmpne (tgt := 234) dX12_enters_198 (by decide) (fun c7 => ?_) (fun c7 => ?_)
  · replace h := h.1 c7
    exact am_sub [1, 2, 3, 4, 5, 7, 0] rfl h
  · replace h := h.2 c7
    refine am_aload_n dX12_enters_201 (List.Mem.tail _ (List.Mem.head _)) ?_
    refine am_getf (f := 10) (v := .inr (.inr (some (74, 0)))) dX12_enters_202 hc_10 (by decide) wd_1559 (by decide) rfl rfl ?_
    refine am_iload dX12_enters_205 (List.Mem.tail _ (List.Mem.tail _ (List.Mem.tail _ (List.Mem.tail _ (List.Mem.tail _ (List.Mem.head _)))))) ?_
    have o8 := h.1
    replace h := h.2
    have o9 := h.1
    replace h := h.2
    refine am_aaload (kd := 5) (r := some (75, x6.toNat)) dX12_enters_207 (by decide) rfl (by decide) (by decide) o8 o9 rfl ?_
    refine am_iload_n dX12_enters_208 (List.Mem.tail _ (List.Mem.tail _ (List.Mem.tail _ (List.Mem.head _)))) ?_
    have o10 := h.1
    replace h := h.2
    have o11 := h.1
    replace h := h.2
    refine am_iaload (v := (w.1 75 x6.toNat x3.toNat)) dX12_enters_209 (by decide) rfl o10 o11 rfl ?_
    refine am_iconst dX12_enters_210 (by unfold am_rg; omega) ?_
    refine am_iand dX12_enters_211 ?_
    refine am_ifeq (tgt := 234) dX12_enters_212 (by decide) (fun c12 => ?_) (fun c12 => ?_)
    · replace h := h.1 c12
      exact am_sub [1, 2, 3, 4, 5, 7, 0] rfl h
    · replace h := h.2 c12
      refine am_aload_n dX12_enters_215 (List.Mem.tail _ (List.Mem.head _)) ?_
      refine am_getf (f := 60) (v := .inr (.inr (some (119, 0)))) dX12_enters_216 hc_10 (by decide) wd_1609 (by decide) rfl rfl ?_
      refine am_iload dX12_enters_219 (List.Mem.tail _ (List.Mem.tail _ (List.Mem.tail _ (List.Mem.tail _ (List.Mem.head _))))) ?_
      refine am_aaload (kd := 5) (r := some (120, x5.toNat)) dX12_enters_221 (by decide) rfl (by decide) (by decide) o1 o2 rfl ?_
      refine am_iload dX12_enters_222 (List.Mem.tail _ (List.Mem.tail _ (List.Mem.tail _ (List.Mem.tail _ (List.Mem.tail _ (List.Mem.tail _ (List.Mem.tail _ (List.Mem.head _)))))))) ?_
      refine am_iload dX12_enters_224 (List.Mem.head _) ?_
      refine am_iload dX12_enters_226 (List.Mem.tail _ (List.Mem.tail _ (List.Mem.tail _ (List.Mem.tail _ (List.Mem.tail _ (List.Mem.tail _ (List.Mem.head _))))))) ?_
      refine am_isub dX12_enters_228 ?_
      refine am_iconst dX12_enters_229 (by unfold am_rg; omega) ?_
      refine am_iadd dX12_enters_230 ?_
      refine am_iconst dX12_enters_231 (by unfold am_rg; omega) ?_
      refine am_idiv dX12_enters_232 (by decide) ?_
      refine am_iastore dX12_enters_233 (Or.inl (by decide)) rfl o3 o4 ?_
      exact am_sub [1, 2, 3, 4, 5, 7, 0] rfl h
theorem bX12_enters_234 {SC : Nat → Nat} {X : mh_X} {d : Nat} {Q : Option am_V → am_W → Prop} {bc bs : Nat} {w : am_W} {x1 : Int} {x3 : Int} {x5 : Int} {x6 : Int} {x8 : Int} {x9 : Int}
    (h : am_A (mh_G X) SC (d + 9) mX12_enters Q 123 [(0, .inr (.inr (some (9, 0)))), (1, .inl x1), (3, .inl x3), (5, .inl x5), (6, .inl x6), (7, .inl x9), (8, .inl (am_w (x8 + 1)))] [] w bc bs) :
    am_A (mh_G X) SC (d + 9) mX12_enters Q 234 [(0, .inr (.inr (some (9, 0)))), (1, .inl x1), (3, .inl x3), (5, .inl x5), (6, .inl x6), (8, .inl x8), (9, .inl x9)] [] w bc bs := by
  refine am_iload dX12_enters_234 (List.Mem.tail _ (List.Mem.tail _ (List.Mem.tail _ (List.Mem.tail _ (List.Mem.tail _ (List.Mem.tail _ (List.Mem.head _))))))) ?_
  refine am_istore (ls' := [(7, .inl x9), (0, .inr (.inr (some (9, 0)))), (1, .inl x1), (3, .inl x3), (5, .inl x5), (6, .inl x6), (8, .inl x8), (9, .inl x9)]) dX12_enters_236 (by decide) rfl ?_
  refine am_iinc (ls' := [(8, .inl (am_w (x8 + 1))), (7, .inl x9), (0, .inr (.inr (some (9, 0)))), (1, .inl x1), (3, .inl x3), (5, .inl x5), (6, .inl x6), (9, .inl x9)]) dX12_enters_238 (List.Mem.tail _ (List.Mem.tail _ (List.Mem.tail _ (List.Mem.tail _ (List.Mem.tail _ (List.Mem.tail _ (List.Mem.head _))))))) (by decide) rfl ?_
  refine am_goto (tgt := 123) dX12_enters_241 (by decide) ?_
  exact am_sub [2, 3, 4, 5, 6, 1, 0] rfl h
-- MourningHouseModel.prepares(II)V
theorem dX12_prepares_0 : decode mX12_prepares.2.1 0 = .ok (.aload_n 0, 1) := by decide +kernel
theorem dX12_prepares_1 : decode mX12_prepares.2.1 1 = .ok (.iconst 0, 1) := by decide +kernel
theorem dX12_prepares_2 : decode mX12_prepares.2.1 2 = .ok (.putfield 496, 3) := by decide +kernel
theorem dX12_prepares_5 : decode mX12_prepares.2.1 5 = .ok (.aload_n 0, 1) := by decide +kernel
theorem dX12_prepares_6 : decode mX12_prepares.2.1 6 = .ok (.iload_n 1, 1) := by decide +kernel
theorem dX12_prepares_7 : decode mX12_prepares.2.1 7 = .ok (.putfield 502, 3) := by decide +kernel
theorem dX12_prepares_10 : decode mX12_prepares.2.1 10 = .ok (.aload_n 0, 1) := by decide +kernel
theorem dX12_prepares_11 : decode mX12_prepares.2.1 11 = .ok (.iload_n 2, 1) := by decide +kernel
theorem dX12_prepares_12 : decode mX12_prepares.2.1 12 = .ok (.putfield 505, 3) := by decide +kernel
theorem dX12_prepares_15 : decode mX12_prepares.2.1 15 = .ok (.aload_n 0, 1) := by decide +kernel
theorem dX12_prepares_16 : decode mX12_prepares.2.1 16 = .ok (.iconst 0, 1) := by decide +kernel
theorem dX12_prepares_17 : decode mX12_prepares.2.1 17 = .ok (.putfield 508, 3) := by decide +kernel
theorem dX12_prepares_20 : decode mX12_prepares.2.1 20 = .ok (.iconst 0, 1) := by decide +kernel
theorem dX12_prepares_21 : decode mX12_prepares.2.1 21 = .ok (.istore_n 3, 1) := by decide +kernel
theorem dX12_prepares_22 : decode mX12_prepares.2.1 22 = .ok (.iload_n 3, 1) := by decide +kernel
theorem dX12_prepares_23 : decode mX12_prepares.2.1 23 = .ok (.aload_n 0, 1) := by decide +kernel
theorem dX12_prepares_24 : decode mX12_prepares.2.1 24 = .ok (.getfield 447, 3) := by decide +kernel
theorem dX12_prepares_27 : decode mX12_prepares.2.1 27 = .ok (.if_icmp .ge 33, 3) := by decide +kernel
theorem dX12_prepares_30 : decode mX12_prepares.2.1 30 = .ok (.aload_n 0, 1) := by decide +kernel
theorem dX12_prepares_31 : decode mX12_prepares.2.1 31 = .ok (.iload_n 1, 1) := by decide +kernel
theorem dX12_prepares_32 : decode mX12_prepares.2.1 32 = .ok (.iload_n 3, 1) := by decide +kernel
theorem dX12_prepares_33 : decode mX12_prepares.2.1 33 = .ok (.iload_n 2, 1) := by decide +kernel
theorem dX12_prepares_34 : decode mX12_prepares.2.1 34 = .ok (.invokevirtual 493, 3) := by decide +kernel
theorem dX12_prepares_37 : decode mX12_prepares.2.1 37 = .ok (.istore 4, 2) := by decide +kernel
theorem dX12_prepares_39 : decode mX12_prepares.2.1 39 = .ok (.iload 4, 2) := by decide +kernel
theorem dX12_prepares_41 : decode mX12_prepares.2.1 41 = .ok (.iconst (-1), 1) := by decide +kernel
theorem dX12_prepares_42 : decode mX12_prepares.2.1 42 = .ok (.if_icmp .eq 12, 3) := by decide +kernel
theorem dX12_prepares_45 : decode mX12_prepares.2.1 45 = .ok (.aload_n 0, 1) := by decide +kernel
theorem dX12_prepares_46 : decode mX12_prepares.2.1 46 = .ok (.iload_n 1, 1) := by decide +kernel
theorem dX12_prepares_47 : decode mX12_prepares.2.1 47 = .ok (.iload_n 3, 1) := by decide +kernel
theorem dX12_prepares_48 : decode mX12_prepares.2.1 48 = .ok (.iload 4, 2) := by decide +kernel
theorem dX12_prepares_50 : decode mX12_prepares.2.1 50 = .ok (.iload_n 2, 1) := by decide +kernel
theorem dX12_prepares_51 : decode mX12_prepares.2.1 51 = .ok (.invokevirtual 512, 3) := by decide +kernel
theorem dX12_prepares_54 : decode mX12_prepares.2.1 54 = .ok (.iinc 3 1, 3) := by decide +kernel
theorem dX12_prepares_57 : decode mX12_prepares.2.1 57 = .ok (.goto (-35), 3) := by decide +kernel
theorem dX12_prepares_60 : decode mX12_prepares.2.1 60 = .ok (.return_, 1) := by decide +kernel
theorem bX12_prepares_0 {SC : Nat → Nat} {X : mh_X} {d : Nat} {Q : Option am_V → am_W → Prop} {bc bs : Nat} {w : am_W} {x1 : Int} {x2 : Int}
    (h : am_A (mh_G X) SC (d + 10) mX12_prepares Q 22 [(0, .inr (.inr (some (9, 0)))), (1, .inl x1), (2, .inl x2), (3, .inl 0)] [] ((am_up (am_up (am_up (am_up w.1 9 0 62 0) 9 0 63 x1) 9 0 64 x2) 9 0 66 0), w.2) bc bs) :
    am_A (mh_G X) SC (d + 10) mX12_prepares Q 0 [(0, .inr (.inr (some (9, 0)))), (1, .inl x1), (2, .inl x2)] [] w bc bs := by
  refine am_aload_n dX12_prepares_0 (List.Mem.head _) ?_
  refine am_iconst dX12_prepares_1 (by unfold am_rg; omega) ?_
  refine am_putf (f := 62) dX12_prepares_2 hc_10 (by decide) wd_1611 rfl (Or.inl rfl) (Or.inl (by decide)) rfl ?_
  refine am_aload_n dX12_prepares_5 (List.Mem.head _) ?_
  refine am_iload_n dX12_prepares_6 (List.Mem.tail _ (List.Mem.head _)) ?_
  refine am_putf (f := 63) dX12_prepares_7 hc_10 (by decide) wd_1612 rfl (Or.inl rfl) (Or.inl (by decide)) rfl ?_
  refine am_aload_n dX12_prepares_10 (List.Mem.head _) ?_
  refine am_iload_n dX12_prepares_11 (List.Mem.tail _ (List.Mem.tail _ (List.Mem.head _))) ?_
  refine am_putf (f := 64) dX12_prepares_12 hc_10 (by decide) wd_1613 rfl (Or.inl rfl) (Or.inl (by decide)) rfl ?_
  refine am_aload_n dX12_prepares_15 (List.Mem.head _) ?_
  refine am_iconst dX12_prepares_16 (by unfold am_rg; omega) ?_
  refine am_putf (f := 66) dX12_prepares_17 hc_10 (by decide) wd_1615 rfl (Or.inr (Or.inl ⟨rfl, (Or.inl rfl)⟩)) (Or.inl (by decide)) rfl ?_
  refine am_iconst dX12_prepares_20 (by unfold am_rg; omega) ?_
  refine am_istore_n (ls' := [(3, .inl 0), (0, .inr (.inr (some (9, 0)))), (1, .inl x1), (2, .inl x2)]) dX12_prepares_21 (by decide) rfl ?_
  exact am_sub [1, 2, 3, 0] rfl h
theorem bX12_prepares_22 {SC : Nat → Nat} {X : mh_X} {d : Nat} {Q : Option am_V → am_W → Prop} {bc bs : Nat} {w : am_W} {x1 : Int} {x2 : Int} {x3 : Int}
    (h : (((w.1 9 0 42) ≤ x3 → Q none w) ∧ (¬ (w.1 9 0 42) ≤ x3 → am_M (mh_G X) SC (d + 9) 0 0 mX12_ruleFor [.inr (.inr (some (9, 0))), .inl x1, .inl x3, .inl x2] w (fun r w1 => am_A (mh_G X) SC (d + 10) mX12_prepares Q 37 [(0, .inr (.inr (some (9, 0)))), (1, .inl x1), (2, .inl x2), (3, .inl x3)] (r.toList ++ []) w1 bc bs)))) :
    am_A (mh_G X) SC (d + 10) mX12_prepares Q 22 [(0, .inr (.inr (some (9, 0)))), (1, .inl x1), (2, .inl x2), (3, .inl x3)] [] w bc bs := by
  refine am_iload_n dX12_prepares_22 (List.Mem.tail _ (List.Mem.tail _ (List.Mem.tail _ (List.Mem.head _)))) ?_
  refine am_aload_n dX12_prepares_23 (List.Mem.head _) ?_
  refine am_getf (f := 42) (v := .inl (w.1 9 0 42)) dX12_prepares_24 hc_10 (by decide) wd_1591 (by decide) rfl rfl ?_
  refine am_icmpge (tgt := 60) dX12_prepares_27 (by decide) (fun c1 => ?_) (fun c1 => ?_)
  · replace h := h.1 c1
    exact am_ret (r := none) dX12_prepares_60 rfl rfl h
  · replace h := h.2 c1
    refine am_aload_n dX12_prepares_30 (List.Mem.head _) ?_
    refine am_iload_n dX12_prepares_31 (List.Mem.tail _ (List.Mem.head _)) ?_
    refine am_iload_n dX12_prepares_32 (List.Mem.tail _ (List.Mem.tail _ (List.Mem.tail _ (List.Mem.head _)))) ?_
    refine am_iload_n dX12_prepares_33 (List.Mem.tail _ (List.Mem.tail _ (List.Mem.head _))) ?_
    exact am_callv (d' := d + 9) (kc := 0) (ks := 0) (as := [.inl x1, .inl x3, .inl x2]) dX12_prepares_34 wc_X12_ruleFor wd_2073 wd_2075 wd_81 wd_122 ds_X12_ruleFor (by decide) (by omega) (Nat.le_of_ble_eq_true rfl) (Nat.zero_le _) (Nat.zero_le _) hc_10 (by decide) rfl rfl h
theorem bX12_prepares_37 {SC : Nat → Nat} {X : mh_X} {d : Nat} {Q : Option am_V → am_W → Prop} {bc bs : Nat} {w : am_W} {x1 : Int} {x2 : Int} {x3 : Int} {xs0 : Int}
    (h : ((xs0 = (-1) → am_A (mh_G X) SC (d + 10) mX12_prepares Q 54 [(0, .inr (.inr (some (9, 0)))), (1, .inl x1), (2, .inl x2), (3, .inl x3)] [] w bc bs) ∧ (¬ xs0 = (-1) → am_M (mh_G X) SC (d + 9) 0 0 mX12_enters [.inr (.inr (some (9, 0))), .inl x1, .inl x3, .inl xs0, .inl x2] w (fun r w1 => am_A (mh_G X) SC (d + 10) mX12_prepares Q 54 [(4, .inl xs0), (0, .inr (.inr (some (9, 0)))), (1, .inl x1), (2, .inl x2), (3, .inl x3)] (r.toList ++ []) w1 bc bs)))) :
    am_A (mh_G X) SC (d + 10) mX12_prepares Q 37 [(0, .inr (.inr (some (9, 0)))), (1, .inl x1), (2, .inl x2), (3, .inl x3)] [.inl xs0] w bc bs := by
  refine am_istore (ls' := [(4, .inl xs0), (0, .inr (.inr (some (9, 0)))), (1, .inl x1), (2, .inl x2), (3, .inl x3)]) dX12_prepares_37 (by decide) rfl ?_
  refine am_iload dX12_prepares_39 (List.Mem.head _) ?_
  refine am_iconst dX12_prepares_41 (by unfold am_rg; omega) ?_
  refine am_icmpeq (tgt := 54) dX12_prepares_42 (by decide) (fun c1 => ?_) (fun c1 => ?_)
  · replace h := h.1 c1
    exact am_sub [1, 2, 3, 4] rfl h
  · replace h := h.2 c1
    refine am_aload_n dX12_prepares_45 (List.Mem.tail _ (List.Mem.head _)) ?_
    refine am_iload_n dX12_prepares_46 (List.Mem.tail _ (List.Mem.tail _ (List.Mem.head _))) ?_
    refine am_iload_n dX12_prepares_47 (List.Mem.tail _ (List.Mem.tail _ (List.Mem.tail _ (List.Mem.tail _ (List.Mem.head _))))) ?_
    refine am_iload dX12_prepares_48 (List.Mem.head _) ?_
    refine am_iload_n dX12_prepares_50 (List.Mem.tail _ (List.Mem.tail _ (List.Mem.tail _ (List.Mem.head _)))) ?_
    exact am_callv (d' := d + 9) (kc := 0) (ks := 0) (as := [.inl x1, .inl x3, .inl xs0, .inl x2]) dX12_prepares_51 wc_X12_enters wd_2097 wd_2099 wd_86 wd_122 ds_X12_enters (by decide) (by omega) (Nat.le_of_ble_eq_true rfl) (Nat.zero_le _) (Nat.zero_le _) hc_10 (by decide) rfl rfl h
theorem bX12_prepares_54 {SC : Nat → Nat} {X : mh_X} {d : Nat} {Q : Option am_V → am_W → Prop} {bc bs : Nat} {w : am_W} {x1 : Int} {x2 : Int} {x3 : Int}
    (h : am_A (mh_G X) SC (d + 10) mX12_prepares Q 22 [(0, .inr (.inr (some (9, 0)))), (1, .inl x1), (2, .inl x2), (3, .inl (am_w (x3 + 1)))] [] w bc bs) :
    am_A (mh_G X) SC (d + 10) mX12_prepares Q 54 [(0, .inr (.inr (some (9, 0)))), (1, .inl x1), (2, .inl x2), (3, .inl x3)] [] w bc bs := by
  refine am_iinc (ls' := [(3, .inl (am_w (x3 + 1))), (0, .inr (.inr (some (9, 0)))), (1, .inl x1), (2, .inl x2)]) dX12_prepares_54 (List.Mem.tail _ (List.Mem.tail _ (List.Mem.tail _ (List.Mem.head _)))) (by decide) rfl ?_
  refine am_goto (tgt := 22) dX12_prepares_57 (by decide) ?_
  exact am_sub [1, 2, 3, 0] rfl h
theorem bX12_prepares_54a {SC : Nat → Nat} {X : mh_X} {d : Nat} {Q : Option am_V → am_W → Prop} {bc bs : Nat} {w : am_W} {x4 : Int} {x1 : Int} {x2 : Int} {x3 : Int}
    (h : am_A (mh_G X) SC (d + 10) mX12_prepares Q 22 [(0, .inr (.inr (some (9, 0)))), (1, .inl x1), (2, .inl x2), (3, .inl (am_w (x3 + 1)))] [] w bc bs) :
    am_A (mh_G X) SC (d + 10) mX12_prepares Q 54 [(4, .inl x4), (0, .inr (.inr (some (9, 0)))), (1, .inl x1), (2, .inl x2), (3, .inl x3)] [] w bc bs := by
  refine am_iinc (ls' := [(3, .inl (am_w (x3 + 1))), (4, .inl x4), (0, .inr (.inr (some (9, 0)))), (1, .inl x1), (2, .inl x2)]) dX12_prepares_54 (List.Mem.tail _ (List.Mem.tail _ (List.Mem.tail _ (List.Mem.tail _ (List.Mem.head _))))) (by decide) rfl ?_
  refine am_goto (tgt := 22) dX12_prepares_57 (by decide) ?_
  exact am_sub [2, 3, 4, 0] rfl h
-- MourningHouseModel.firstBegin()I
theorem dX12_firstBegin_0 : decode mX12_firstBegin.2.1 0 = .ok (.ldc_w 518, 3) := by decide +kernel
theorem dX12_firstBegin_3 : decode mX12_firstBegin.2.1 3 = .ok (.istore_n 1, 1) := by decide +kernel
theorem dX12_firstBegin_4 : decode mX12_firstBegin.2.1 4 = .ok (.iconst 0, 1) := by decide +kernel
theorem dX12_firstBegin_5 : decode mX12_firstBegin.2.1 5 = .ok (.istore_n 2, 1) := by decide +kernel
theorem dX12_firstBegin_6 : decode mX12_firstBegin.2.1 6 = .ok (.iload_n 2, 1) := by decide +kernel
theorem dX12_firstBegin_7 : decode mX12_firstBegin.2.1 7 = .ok (.aload_n 0, 1) := by decide +kernel
theorem dX12_firstBegin_8 : decode mX12_firstBegin.2.1 8 = .ok (.getfield 496, 3) := by decide +kernel
theorem dX12_firstBegin_11 : decode mX12_firstBegin.2.1 11 = .ok (.if_icmp .ge 26, 3) := by decide +kernel
theorem dX12_firstBegin_14 : decode mX12_firstBegin.2.1 14 = .ok (.aload_n 0, 1) := by decide +kernel
theorem dX12_firstBegin_15 : decode mX12_firstBegin.2.1 15 = .ok (.getfield 207, 3) := by decide +kernel
theorem dX12_firstBegin_18 : decode mX12_firstBegin.2.1 18 = .ok (.iload_n 2, 1) := by decide +kernel
theorem dX12_firstBegin_19 : decode mX12_firstBegin.2.1 19 = .ok (.iaload, 1) := by decide +kernel
theorem dX12_firstBegin_20 : decode mX12_firstBegin.2.1 20 = .ok (.iload_n 1, 1) := by decide +kernel
theorem dX12_firstBegin_21 : decode mX12_firstBegin.2.1 21 = .ok (.if_icmp .ge 10, 3) := by decide +kernel
theorem dX12_firstBegin_24 : decode mX12_firstBegin.2.1 24 = .ok (.aload_n 0, 1) := by decide +kernel
theorem dX12_firstBegin_25 : decode mX12_firstBegin.2.1 25 = .ok (.getfield 207, 3) := by decide +kernel
theorem dX12_firstBegin_28 : decode mX12_firstBegin.2.1 28 = .ok (.iload_n 2, 1) := by decide +kernel
theorem dX12_firstBegin_29 : decode mX12_firstBegin.2.1 29 = .ok (.iaload, 1) := by decide +kernel
theorem dX12_firstBegin_30 : decode mX12_firstBegin.2.1 30 = .ok (.istore_n 1, 1) := by decide +kernel
theorem dX12_firstBegin_31 : decode mX12_firstBegin.2.1 31 = .ok (.iinc 2 1, 3) := by decide +kernel
theorem dX12_firstBegin_34 : decode mX12_firstBegin.2.1 34 = .ok (.goto (-28), 3) := by decide +kernel
theorem dX12_firstBegin_37 : decode mX12_firstBegin.2.1 37 = .ok (.iload_n 1, 1) := by decide +kernel
theorem dX12_firstBegin_38 : decode mX12_firstBegin.2.1 38 = .ok (.ireturn, 1) := by decide +kernel
theorem bX12_firstBegin_0 {SC : Nat → Nat} {X : mh_X} {d : Nat} {Q : Option am_V → am_W → Prop} {bc bs : Nat} {w : am_W} 
    (h : am_A (mh_G X) SC (d + 1) mX12_firstBegin Q 6 [(0, .inr (.inr (some (9, 0)))), (1, .inl 2147483647), (2, .inl 0)] [] w bc bs) :
    am_A (mh_G X) SC (d + 1) mX12_firstBegin Q 0 [(0, .inr (.inr (some (9, 0))))] [] w bc bs := by
  refine am_ldcwV (n := 2147483647) dX12_firstBegin_0 (by decide) wd_2112 (by unfold am_rg; omega) ?_
  refine am_istore_n (ls' := [(1, .inl 2147483647), (0, .inr (.inr (some (9, 0))))]) dX12_firstBegin_3 (by decide) rfl ?_
  refine am_iconst dX12_firstBegin_4 (by unfold am_rg; omega) ?_
  refine am_istore_n (ls' := [(2, .inl 0), (1, .inl 2147483647), (0, .inr (.inr (some (9, 0))))]) dX12_firstBegin_5 (by decide) rfl ?_
  exact am_sub [2, 1, 0] rfl h
theorem bX12_firstBegin_6 {SC : Nat → Nat} {X : mh_X} {d : Nat} {Q : Option am_V → am_W → Prop} {bc bs : Nat} {w : am_W} {x1 : Int} {x2 : Int}
    (h : (((w.1 9 0 62) ≤ x2 → Q (some (.inl x1)) w) ∧ (¬ (w.1 9 0 62) ≤ x2 → (0 ≤ x2 ∧ (x2 < 40 ∧ ((x1 ≤ (w.1 115 0 x2.toNat) → am_A (mh_G X) SC (d + 1) mX12_firstBegin Q 31 [(0, .inr (.inr (some (9, 0)))), (1, .inl x1), (2, .inl x2)] [] w bc bs) ∧ (¬ x1 ≤ (w.1 115 0 x2.toNat) → am_A (mh_G X) SC (d + 1) mX12_firstBegin Q 31 [(0, .inr (.inr (some (9, 0)))), (1, .inl (w.1 115 0 x2.toNat)), (2, .inl x2)] [] w bc bs))))))) :
    am_A (mh_G X) SC (d + 1) mX12_firstBegin Q 6 [(0, .inr (.inr (some (9, 0)))), (1, .inl x1), (2, .inl x2)] [] w bc bs := by
  refine am_iload_n dX12_firstBegin_6 (List.Mem.tail _ (List.Mem.tail _ (List.Mem.head _))) ?_
  refine am_aload_n dX12_firstBegin_7 (List.Mem.head _) ?_
  refine am_getf (f := 62) (v := .inl (w.1 9 0 62)) dX12_firstBegin_8 hc_10 (by decide) wd_1611 (by decide) rfl rfl ?_
  refine am_icmpge (tgt := 37) dX12_firstBegin_11 (by decide) (fun c1 => ?_) (fun c1 => ?_)
  · replace h := h.1 c1
    refine am_iload_n dX12_firstBegin_37 (List.Mem.tail _ (List.Mem.head _)) ?_
    exact am_ret (r := some (.inl x1)) dX12_firstBegin_38 (Or.inl rfl) rfl h
  · replace h := h.2 c1
    refine am_aload_n dX12_firstBegin_14 (List.Mem.head _) ?_
    refine am_getf (f := 56) (v := .inr (.inr (some (115, 0)))) dX12_firstBegin_15 hc_10 (by decide) wd_1605 (by decide) rfl rfl ?_
    refine am_iload_n dX12_firstBegin_18 (List.Mem.tail _ (List.Mem.tail _ (List.Mem.head _))) ?_
    have o2 := h.1
    replace h := h.2
    have o3 := h.1
    replace h := h.2
    refine am_iaload (v := (w.1 115 0 x2.toNat)) dX12_firstBegin_19 (by decide) rfl o2 o3 rfl ?_
    refine am_iload_n dX12_firstBegin_20 (List.Mem.tail _ (List.Mem.head _)) ?_
    refine am_icmpge (tgt := 31) dX12_firstBegin_21 (by decide) (fun c4 => ?_) (fun c4 => ?_)
    · replace h := h.1 c4
      exact h
    · replace h := h.2 c4
      refine am_aload_n dX12_firstBegin_24 (List.Mem.head _) ?_
      refine am_getf (f := 56) (v := .inr (.inr (some (115, 0)))) dX12_firstBegin_25 hc_10 (by decide) wd_1605 (by decide) rfl rfl ?_
      refine am_iload_n dX12_firstBegin_28 (List.Mem.tail _ (List.Mem.tail _ (List.Mem.head _))) ?_
      refine am_iaload (v := (w.1 115 0 x2.toNat)) dX12_firstBegin_29 (by decide) rfl o2 o3 rfl ?_
      refine am_istore_n (ls' := [(1, .inl (w.1 115 0 x2.toNat)), (0, .inr (.inr (some (9, 0)))), (2, .inl x2)]) dX12_firstBegin_30 (by decide) rfl ?_
      exact am_sub [1, 0, 2] rfl h
theorem bX12_firstBegin_31 {SC : Nat → Nat} {X : mh_X} {d : Nat} {Q : Option am_V → am_W → Prop} {bc bs : Nat} {w : am_W} {x1 : Int} {x2 : Int}
    (h : am_A (mh_G X) SC (d + 1) mX12_firstBegin Q 6 [(0, .inr (.inr (some (9, 0)))), (1, .inl x1), (2, .inl (am_w (x2 + 1)))] [] w bc bs) :
    am_A (mh_G X) SC (d + 1) mX12_firstBegin Q 31 [(0, .inr (.inr (some (9, 0)))), (1, .inl x1), (2, .inl x2)] [] w bc bs := by
  refine am_iinc (ls' := [(2, .inl (am_w (x2 + 1))), (0, .inr (.inr (some (9, 0)))), (1, .inl x1)]) dX12_firstBegin_31 (List.Mem.tail _ (List.Mem.tail _ (List.Mem.head _))) (by decide) rfl ?_
  refine am_goto (tgt := 6) dX12_firstBegin_34 (by decide) ?_
  exact am_sub [1, 2, 0] rfl h
-- MourningHouseModel.depthOf(II)I
theorem dX12_depthOf_0 : decode mX12_depthOf.2.1 0 = .ok (.aload_n 0, 1) := by decide +kernel
theorem dX12_depthOf_1 : decode mX12_depthOf.2.1 1 = .ok (.getfield 222, 3) := by decide +kernel
theorem dX12_depthOf_4 : decode mX12_depthOf.2.1 4 = .ok (.iload_n 1, 1) := by decide +kernel
theorem dX12_depthOf_5 : decode mX12_depthOf.2.1 5 = .ok (.baload, 1) := by decide +kernel
theorem dX12_depthOf_6 : decode mX12_depthOf.2.1 6 = .ok (.ifCond .ne 13, 3) := by decide +kernel
theorem dX12_depthOf_9 : decode mX12_depthOf.2.1 9 = .ok (.iload_n 2, 1) := by decide +kernel
theorem dX12_depthOf_10 : decode mX12_depthOf.2.1 10 = .ok (.aload_n 0, 1) := by decide +kernel
theorem dX12_depthOf_11 : decode mX12_depthOf.2.1 11 = .ok (.getfield 207, 3) := by decide +kernel
theorem dX12_depthOf_14 : decode mX12_depthOf.2.1 14 = .ok (.iload_n 1, 1) := by decide +kernel
theorem dX12_depthOf_15 : decode mX12_depthOf.2.1 15 = .ok (.iaload, 1) := by decide +kernel
theorem dX12_depthOf_16 : decode mX12_depthOf.2.1 16 = .ok (.if_icmp .ge 5, 3) := by decide +kernel
theorem dX12_depthOf_19 : decode mX12_depthOf.2.1 19 = .ok (.iconst 0, 1) := by decide +kernel
theorem dX12_depthOf_20 : decode mX12_depthOf.2.1 20 = .ok (.ireturn, 1) := by decide +kernel
theorem dX12_depthOf_21 : decode mX12_depthOf.2.1 21 = .ok (.aload_n 0, 1) := by decide +kernel
theorem dX12_depthOf_22 : decode mX12_depthOf.2.1 22 = .ok (.getfield 210, 3) := by decide +kernel
theorem dX12_depthOf_25 : decode mX12_depthOf.2.1 25 = .ok (.iload_n 1, 1) := by decide +kernel
theorem dX12_depthOf_26 : decode mX12_depthOf.2.1 26 = .ok (.iaload, 1) := by decide +kernel
theorem dX12_depthOf_27 : decode mX12_depthOf.2.1 27 = .ok (.istore_n 3, 1) := by decide +kernel
theorem dX12_depthOf_28 : decode mX12_depthOf.2.1 28 = .ok (.iconst 0, 1) := by decide +kernel
theorem dX12_depthOf_29 : decode mX12_depthOf.2.1 29 = .ok (.istore 4, 2) := by decide +kernel
theorem dX12_depthOf_31 : decode mX12_depthOf.2.1 31 = .ok (.iload 4, 2) := by decide +kernel
theorem dX12_depthOf_33 : decode mX12_depthOf.2.1 33 = .ok (.aload_n 0, 1) := by decide +kernel
theorem dX12_depthOf_34 : decode mX12_depthOf.2.1 34 = .ok (.getfield 28, 3) := by decide +kernel
theorem dX12_depthOf_37 : decode mX12_depthOf.2.1 37 = .ok (.aload_n 0, 1) := by decide +kernel
theorem dX12_depthOf_38 : decode mX12_depthOf.2.1 38 = .ok (.getfield 216, 3) := by decide +kernel
theorem dX12_depthOf_41 : decode mX12_depthOf.2.1 41 = .ok (.iload_n 1, 1) := by decide +kernel
theorem dX12_depthOf_42 : decode mX12_depthOf.2.1 42 = .ok (.iaload, 1) := by decide +kernel
theorem dX12_depthOf_43 : decode mX12_depthOf.2.1 43 = .ok (.aaload, 1) := by decide +kernel
theorem dX12_depthOf_44 : decode mX12_depthOf.2.1 44 = .ok (.aload_n 0, 1) := by decide +kernel
theorem dX12_depthOf_45 : decode mX12_depthOf.2.1 45 = .ok (.getfield 213, 3) := by decide +kernel
theorem dX12_depthOf_48 : decode mX12_depthOf.2.1 48 = .ok (.iload_n 1, 1) := by decide +kernel
theorem dX12_depthOf_49 : decode mX12_depthOf.2.1 49 = .ok (.iaload, 1) := by decide +kernel
theorem dX12_depthOf_50 : decode mX12_depthOf.2.1 50 = .ok (.iaload, 1) := by decide +kernel
theorem dX12_depthOf_51 : decode mX12_depthOf.2.1 51 = .ok (.if_icmp .ge 58, 3) := by decide +kernel
theorem dX12_depthOf_54 : decode mX12_depthOf.2.1 54 = .ok (.iload_n 3, 1) := by decide +kernel
theorem dX12_depthOf_55 : decode mX12_depthOf.2.1 55 = .ok (.aload_n 0, 1) := by decide +kernel
theorem dX12_depthOf_56 : decode mX12_depthOf.2.1 56 = .ok (.getfield 219, 3) := by decide +kernel
theorem dX12_depthOf_59 : decode mX12_depthOf.2.1 59 = .ok (.iload_n 1, 1) := by decide +kernel
theorem dX12_depthOf_60 : decode mX12_depthOf.2.1 60 = .ok (.aaload, 1) := by decide +kernel
theorem dX12_depthOf_61 : decode mX12_depthOf.2.1 61 = .ok (.iload 4, 2) := by decide +kernel
theorem dX12_depthOf_63 : decode mX12_depthOf.2.1 63 = .ok (.iaload, 1) := by decide +kernel
theorem dX12_depthOf_64 : decode mX12_depthOf.2.1 64 = .ok (.if_icmp .ge 27, 3) := by decide +kernel
theorem dX12_depthOf_67 : decode mX12_depthOf.2.1 67 = .ok (.aload_n 0, 1) := by decide +kernel
theorem dX12_depthOf_68 : decode mX12_depthOf.2.1 68 = .ok (.getfield 39, 3) := by decide +kernel
theorem dX12_depthOf_71 : decode mX12_depthOf.2.1 71 = .ok (.aload_n 0, 1) := by decide +kernel
theorem dX12_depthOf_72 : decode mX12_depthOf.2.1 72 = .ok (.getfield 216, 3) := by decide +kernel
theorem dX12_depthOf_75 : decode mX12_depthOf.2.1 75 = .ok (.iload_n 1, 1) := by decide +kernel
theorem dX12_depthOf_76 : decode mX12_depthOf.2.1 76 = .ok (.iaload, 1) := by decide +kernel
theorem dX12_depthOf_77 : decode mX12_depthOf.2.1 77 = .ok (.aaload, 1) := by decide +kernel
theorem dX12_depthOf_78 : decode mX12_depthOf.2.1 78 = .ok (.aload_n 0, 1) := by decide +kernel
theorem dX12_depthOf_79 : decode mX12_depthOf.2.1 79 = .ok (.getfield 213, 3) := by decide +kernel
theorem dX12_depthOf_82 : decode mX12_depthOf.2.1 82 = .ok (.iload_n 1, 1) := by decide +kernel
theorem dX12_depthOf_83 : decode mX12_depthOf.2.1 83 = .ok (.iaload, 1) := by decide +kernel
theorem dX12_depthOf_84 : decode mX12_depthOf.2.1 84 = .ok (.aaload, 1) := by decide +kernel
theorem dX12_depthOf_85 : decode mX12_depthOf.2.1 85 = .ok (.iconst 3, 1) := by decide +kernel
theorem dX12_depthOf_86 : decode mX12_depthOf.2.1 86 = .ok (.iload 4, 2) := by decide +kernel
theorem dX12_depthOf_88 : decode mX12_depthOf.2.1 88 = .ok (.imul, 1) := by decide +kernel
theorem dX12_depthOf_89 : decode mX12_depthOf.2.1 89 = .ok (.iaload, 1) := by decide +kernel
theorem dX12_depthOf_90 : decode mX12_depthOf.2.1 90 = .ok (.ireturn, 1) := by decide +kernel
theorem dX12_depthOf_91 : decode mX12_depthOf.2.1 91 = .ok (.iload_n 3, 1) := by decide +kernel
theorem dX12_depthOf_92 : decode mX12_depthOf.2.1 92 = .ok (.aload_n 0, 1) := by decide +kernel
theorem dX12_depthOf_93 : decode mX12_depthOf.2.1 93 = .ok (.getfield 219, 3) := by decide +kernel
theorem dX12_depthOf_96 : decode mX12_depthOf.2.1 96 = .ok (.iload_n 1, 1) := by decide +kernel
theorem dX12_depthOf_97 : decode mX12_depthOf.2.1 97 = .ok (.aaload, 1) := by decide +kernel
theorem dX12_depthOf_98 : decode mX12_depthOf.2.1 98 = .ok (.iload 4, 2) := by decide +kernel
theorem dX12_depthOf_100 : decode mX12_depthOf.2.1 100 = .ok (.iaload, 1) := by decide +kernel
theorem dX12_depthOf_101 : decode mX12_depthOf.2.1 101 = .ok (.isub, 1) := by decide +kernel
theorem dX12_depthOf_102 : decode mX12_depthOf.2.1 102 = .ok (.istore_n 3, 1) := by decide +kernel
theorem dX12_depthOf_103 : decode mX12_depthOf.2.1 103 = .ok (.iinc 4 1, 3) := by decide +kernel
theorem dX12_depthOf_106 : decode mX12_depthOf.2.1 106 = .ok (.goto (-75), 3) := by decide +kernel
theorem dX12_depthOf_109 : decode mX12_depthOf.2.1 109 = .ok (.iconst 0, 1) := by decide +kernel
theorem dX12_depthOf_110 : decode mX12_depthOf.2.1 110 = .ok (.ireturn, 1) := by decide +kernel
theorem bX12_depthOf_0 {SC : Nat → Nat} {X : mh_X} {d : Nat} {Q : Option am_V → am_W → Prop} {bc bs : Nat} {w : am_W} {x1 : Int} {x2 : Int}
    (h : (0 ≤ x1 ∧ (x1 < 40 ∧ ((¬ (w.1 121 0 x1.toNat) = 0 → Q (some (.inl 0)) w) ∧ ((w.1 121 0 x1.toNat) = 0 → (((w.1 115 0 x1.toNat) ≤ x2 → am_A (mh_G X) SC (d + 1) mX12_depthOf Q 31 [(0, .inr (.inr (some (9, 0)))), (1, .inl x1), (3, .inl (w.1 116 0 x1.toNat)), (4, .inl 0)] [] w bc bs) ∧ (¬ (w.1 115 0 x1.toNat) ≤ x2 → Q (some (.inl 0)) w))))))) :
    am_A (mh_G X) SC (d + 1) mX12_depthOf Q 0 [(0, .inr (.inr (some (9, 0)))), (1, .inl x1), (2, .inl x2)] [] w bc bs := by
  refine am_aload_n dX12_depthOf_0 (List.Mem.head _) ?_
  refine am_getf (f := 61) (v := .inr (.inr (some (121, 0)))) dX12_depthOf_1 hc_10 (by decide) wd_1610 (by decide) rfl rfl ?_
  refine am_iload_n dX12_depthOf_4 (List.Mem.tail _ (List.Mem.head _)) ?_
  have o1 := h.1
  replace h := h.2
  have o2 := h.1
  replace h := h.2
  refine am_zaload (v := (w.1 121 0 x1.toNat)) dX12_depthOf_5 (by decide) rfl o1 o2 rfl ?_
  refine am_ifne (tgt := 19) dX12_depthOf_6 (by decide) (fun c3 => ?_) (fun c3 => ?_)
  · replace h := h.1 c3
    refine am_iconst dX12_depthOf_19 (by unfold am_rg; omega) ?_
    exact am_ret (r := some (.inl 0)) dX12_depthOf_20 (Or.inl rfl) rfl h
  · replace h := h.2 c3
    refine am_iload_n dX12_depthOf_9 (List.Mem.tail _ (List.Mem.tail _ (List.Mem.head _))) ?_
    refine am_aload_n dX12_depthOf_10 (List.Mem.head _) ?_
    refine am_getf (f := 56) (v := .inr (.inr (some (115, 0)))) dX12_depthOf_11 hc_10 (by decide) wd_1605 (by decide) rfl rfl ?_
    refine am_iload_n dX12_depthOf_14 (List.Mem.tail _ (List.Mem.head _)) ?_
    refine am_iaload (v := (w.1 115 0 x1.toNat)) dX12_depthOf_15 (by decide) rfl o1 o2 rfl ?_
    refine am_icmpge (tgt := 21) dX12_depthOf_16 (by decide) (fun c4 => ?_) (fun c4 => ?_)
    · replace h := h.1 c4
      refine am_aload_n dX12_depthOf_21 (List.Mem.head _) ?_
      refine am_getf (f := 57) (v := .inr (.inr (some (116, 0)))) dX12_depthOf_22 hc_10 (by decide) wd_1606 (by decide) rfl rfl ?_
      refine am_iload_n dX12_depthOf_25 (List.Mem.tail _ (List.Mem.head _)) ?_
      refine am_iaload (v := (w.1 116 0 x1.toNat)) dX12_depthOf_26 (by decide) rfl o1 o2 rfl ?_
      refine am_istore_n (ls' := [(3, .inl (w.1 116 0 x1.toNat)), (0, .inr (.inr (some (9, 0)))), (1, .inl x1), (2, .inl x2)]) dX12_depthOf_27 (by decide) rfl ?_
      refine am_iconst dX12_depthOf_28 (by unfold am_rg; omega) ?_
      refine am_istore (ls' := [(4, .inl 0), (3, .inl (w.1 116 0 x1.toNat)), (0, .inr (.inr (some (9, 0)))), (1, .inl x1), (2, .inl x2)]) dX12_depthOf_29 (by decide) rfl ?_
      exact am_sub [2, 3, 1, 0] rfl h
    · replace h := h.2 c4
      refine am_iconst dX12_depthOf_19 (by unfold am_rg; omega) ?_
      exact am_ret (r := some (.inl 0)) dX12_depthOf_20 (Or.inl rfl) rfl h
theorem bX12_depthOf_31 {SC : Nat → Nat} {X : mh_X} {d : Nat} {Q : Option am_V → am_W → Prop} {bc bs : Nat} {w : am_W} {x1 : Int} {x3 : Int} {x4 : Int}
    (h : (0 ≤ x1 ∧ (x1 < 40 ∧ (0 ≤ (w.1 118 0 x1.toNat) ∧ ((w.1 118 0 x1.toNat) < 7 ∧ (0 ≤ (w.1 117 0 x1.toNat) ∧ ((w.1 117 0 x1.toNat) < 30 ∧ (((w.1 73 (w.1 118 0 x1.toNat).toNat (w.1 117 0 x1.toNat).toNat) ≤ x4 → Q (some (.inl 0)) w) ∧ (¬ (w.1 73 (w.1 118 0 x1.toNat).toNat (w.1 117 0 x1.toNat).toNat) ≤ x4 → (0 ≤ x4 ∧ (x4 < 4 ∧ (((w.1 120 x1.toNat x4.toNat) ≤ x3 → am_A (mh_G X) SC (d + 1) mX12_depthOf Q 31 [(0, .inr (.inr (some (9, 0)))), (1, .inl x1), (3, .inl (am_w (x3 - (w.1 120 x1.toNat x4.toNat)))), (4, .inl (am_w (x4 + 1)))] [] w bc bs) ∧ (¬ (w.1 120 x1.toNat x4.toNat) ≤ x3 → (0 ≤ (am_w (3 * x4)) ∧ ((am_w (3 * x4)) < 12 ∧ Q (some (.inl (w.1 81 (30 * (w.1 118 0 x1.toNat).toNat + (w.1 117 0 x1.toNat).toNat) (am_w (3 * x4)).toNat))) w))))))))))))))) :
    am_A (mh_G X) SC (d + 1) mX12_depthOf Q 31 [(0, .inr (.inr (some (9, 0)))), (1, .inl x1), (3, .inl x3), (4, .inl x4)] [] w bc bs := by
  refine am_iload dX12_depthOf_31 (List.Mem.tail _ (List.Mem.tail _ (List.Mem.tail _ (List.Mem.head _)))) ?_
  refine am_aload_n dX12_depthOf_33 (List.Mem.head _) ?_
  refine am_getf (f := 9) (v := .inr (.inr (some (72, 0)))) dX12_depthOf_34 hc_10 (by decide) wd_1558 (by decide) rfl rfl ?_
  refine am_aload_n dX12_depthOf_37 (List.Mem.head _) ?_
  refine am_getf (f := 59) (v := .inr (.inr (some (118, 0)))) dX12_depthOf_38 hc_10 (by decide) wd_1608 (by decide) rfl rfl ?_
  refine am_iload_n dX12_depthOf_41 (List.Mem.tail _ (List.Mem.head _)) ?_
  have o1 := h.1
  replace h := h.2
  have o2 := h.1
  replace h := h.2
  refine am_iaload (v := (w.1 118 0 x1.toNat)) dX12_depthOf_42 (by decide) rfl o1 o2 rfl ?_
  have o3 := h.1
  replace h := h.2
  have o4 := h.1
  replace h := h.2
  refine am_aaload (kd := 5) (r := some (73, (w.1 118 0 x1.toNat).toNat)) dX12_depthOf_43 (by decide) rfl (by decide) (by decide) o3 o4 rfl ?_
  refine am_aload_n dX12_depthOf_44 (List.Mem.head _) ?_
  refine am_getf (f := 58) (v := .inr (.inr (some (117, 0)))) dX12_depthOf_45 hc_10 (by decide) wd_1607 (by decide) rfl rfl ?_
  refine am_iload_n dX12_depthOf_48 (List.Mem.tail _ (List.Mem.head _)) ?_
  refine am_iaload (v := (w.1 117 0 x1.toNat)) dX12_depthOf_49 (by decide) rfl o1 o2 rfl ?_
  have o5 := h.1
  replace h := h.2
  have o6 := h.1
  replace h := h.2
  refine am_iaload (v := (w.1 73 (w.1 118 0 x1.toNat).toNat (w.1 117 0 x1.toNat).toNat)) dX12_depthOf_50 (by decide) rfl o5 o6 rfl ?_
  refine am_icmpge (tgt := 109) dX12_depthOf_51 (by decide) (fun c7 => ?_) (fun c7 => ?_)
  · replace h := h.1 c7
    refine am_iconst dX12_depthOf_109 (by unfold am_rg; omega) ?_
    exact am_ret (r := some (.inl 0)) dX12_depthOf_110 (Or.inl rfl) rfl h
  · replace h := h.2 c7
    refine am_iload_n dX12_depthOf_54 (List.Mem.tail _ (List.Mem.tail _ (List.Mem.head _))) ?_
    refine am_aload_n dX12_depthOf_55 (List.Mem.head _) ?_
    refine am_getf (f := 60) (v := .inr (.inr (some (119, 0)))) dX12_depthOf_56 hc_10 (by decide) wd_1609 (by decide) rfl rfl ?_
    refine am_iload_n dX12_depthOf_59 (List.Mem.tail _ (List.Mem.head _)) ?_
    refine am_aaload (kd := 5) (r := some (120, x1.toNat)) dX12_depthOf_60 (by decide) rfl (by decide) (by decide) o1 o2 rfl ?_
    refine am_iload dX12_depthOf_61 (List.Mem.tail _ (List.Mem.tail _ (List.Mem.tail _ (List.Mem.head _)))) ?_
    have o8 := h.1
    replace h := h.2
    have o9 := h.1
    replace h := h.2
    refine am_iaload (v := (w.1 120 x1.toNat x4.toNat)) dX12_depthOf_63 (by decide) rfl o8 o9 rfl ?_
    refine am_icmpge (tgt := 91) dX12_depthOf_64 (by decide) (fun c10 => ?_) (fun c10 => ?_)
    · replace h := h.1 c10
      refine am_iload_n dX12_depthOf_91 (List.Mem.tail _ (List.Mem.tail _ (List.Mem.head _))) ?_
      refine am_aload_n dX12_depthOf_92 (List.Mem.head _) ?_
      refine am_getf (f := 60) (v := .inr (.inr (some (119, 0)))) dX12_depthOf_93 hc_10 (by decide) wd_1609 (by decide) rfl rfl ?_
      refine am_iload_n dX12_depthOf_96 (List.Mem.tail _ (List.Mem.head _)) ?_
      refine am_aaload (kd := 5) (r := some (120, x1.toNat)) dX12_depthOf_97 (by decide) rfl (by decide) (by decide) o1 o2 rfl ?_
      refine am_iload dX12_depthOf_98 (List.Mem.tail _ (List.Mem.tail _ (List.Mem.tail _ (List.Mem.head _)))) ?_
      refine am_iaload (v := (w.1 120 x1.toNat x4.toNat)) dX12_depthOf_100 (by decide) rfl o8 o9 rfl ?_
      refine am_isub dX12_depthOf_101 ?_
      refine am_istore_n (ls' := [(3, .inl (am_w (x3 - (w.1 120 x1.toNat x4.toNat)))), (0, .inr (.inr (some (9, 0)))), (1, .inl x1), (4, .inl x4)]) dX12_depthOf_102 (by decide) rfl ?_
      refine am_iinc (ls' := [(4, .inl (am_w (x4 + 1))), (3, .inl (am_w (x3 - (w.1 120 x1.toNat x4.toNat)))), (0, .inr (.inr (some (9, 0)))), (1, .inl x1)]) dX12_depthOf_103 (List.Mem.tail _ (List.Mem.tail _ (List.Mem.tail _ (List.Mem.head _)))) (by decide) rfl ?_
      refine am_goto (tgt := 31) dX12_depthOf_106 (by decide) ?_
      exact am_sub [2, 3, 1, 0] rfl h
    · replace h := h.2 c10
      refine am_aload_n dX12_depthOf_67 (List.Mem.head _) ?_
      refine am_getf (f := 12) (v := .inr (.inr (some (79, 0)))) dX12_depthOf_68 hc_10 (by decide) wd_1561 (by decide) rfl rfl ?_
      refine am_aload_n dX12_depthOf_71 (List.Mem.head _) ?_
      refine am_getf (f := 59) (v := .inr (.inr (some (118, 0)))) dX12_depthOf_72 hc_10 (by decide) wd_1608 (by decide) rfl rfl ?_
      refine am_iload_n dX12_depthOf_75 (List.Mem.tail _ (List.Mem.head _)) ?_
      refine am_iaload (v := (w.1 118 0 x1.toNat)) dX12_depthOf_76 (by decide) rfl o1 o2 rfl ?_
      refine am_aaload (kd := 6) (r := some (80, (w.1 118 0 x1.toNat).toNat)) dX12_depthOf_77 (by decide) rfl (by decide) (by decide) o3 o4 rfl ?_
      refine am_aload_n dX12_depthOf_78 (List.Mem.head _) ?_
      refine am_getf (f := 58) (v := .inr (.inr (some (117, 0)))) dX12_depthOf_79 hc_10 (by decide) wd_1607 (by decide) rfl rfl ?_
      refine am_iload_n dX12_depthOf_82 (List.Mem.tail _ (List.Mem.head _)) ?_
      refine am_iaload (v := (w.1 117 0 x1.toNat)) dX12_depthOf_83 (by decide) rfl o1 o2 rfl ?_
      refine am_aaload (kd := 5) (r := some (81, (30 * (w.1 118 0 x1.toNat).toNat + (w.1 117 0 x1.toNat).toNat))) dX12_depthOf_84 (by decide) rfl (by decide) (by decide) o5 o6 rfl ?_
      refine am_iconst dX12_depthOf_85 (by unfold am_rg; omega) ?_
      refine am_iload dX12_depthOf_86 (List.Mem.tail _ (List.Mem.tail _ (List.Mem.tail _ (List.Mem.head _)))) ?_
      refine am_imul dX12_depthOf_88 ?_
      have o11 := h.1
      replace h := h.2
      have o12 := h.1
      replace h := h.2
      refine am_iaload (v := (w.1 81 (30 * (w.1 118 0 x1.toNat).toNat + (w.1 117 0 x1.toNat).toNat) (am_w (3 * x4)).toNat)) dX12_depthOf_89 (by decide) rfl o11 o12 rfl ?_
      exact am_ret (r := some (.inl (w.1 81 (30 * (w.1 118 0 x1.toNat).toNat + (w.1 117 0 x1.toNat).toNat) (am_w (3 * x4)).toNat))) dX12_depthOf_90 (Or.inl rfl) rfl h
-- MourningHouseModel.weds(I)V
theorem dX12_weds_0 : decode mX12_weds.2.1 0 = .ok (.aload_n 0, 1) := by decide +kernel
theorem dX12_weds_1 : decode mX12_weds.2.1 1 = .ok (.iload_n 1, 1) := by decide +kernel
theorem dX12_weds_2 : decode mX12_weds.2.1 2 = .ok (.aload_n 0, 1) := by decide +kernel
theorem dX12_weds_3 : decode mX12_weds.2.1 3 = .ok (.getfield 505, 3) := by decide +kernel
theorem dX12_weds_6 : decode mX12_weds.2.1 6 = .ok (.invokevirtual 487, 3) := by decide +kernel
theorem dX12_weds_9 : decode mX12_weds.2.1 9 = .ok (.istore_n 2, 1) := by decide +kernel
theorem dX12_weds_10 : decode mX12_weds.2.1 10 = .ok (.iload_n 2, 1) := by decide +kernel
theorem dX12_weds_11 : decode mX12_weds.2.1 11 = .ok (.iconst (-1), 1) := by decide +kernel
theorem dX12_weds_12 : decode mX12_weds.2.1 12 = .ok (.if_icmp .eq 13, 3) := by decide +kernel
theorem dX12_weds_15 : decode mX12_weds.2.1 15 = .ok (.aload_n 0, 1) := by decide +kernel
theorem dX12_weds_16 : decode mX12_weds.2.1 16 = .ok (.getfield 63, 3) := by decide +kernel
theorem dX12_weds_19 : decode mX12_weds.2.1 19 = .ok (.iload_n 2, 1) := by decide +kernel
theorem dX12_weds_20 : decode mX12_weds.2.1 20 = .ok (.iaload, 1) := by decide +kernel
theorem dX12_weds_21 : decode mX12_weds.2.1 21 = .ok (.iconst (-1), 1) := by decide +kernel
theorem dX12_weds_22 : decode mX12_weds.2.1 22 = .ok (.if_icmp .ne 4, 3) := by decide +kernel
theorem dX12_weds_25 : decode mX12_weds.2.1 25 = .ok (.return_, 1) := by decide +kernel
theorem dX12_weds_26 : decode mX12_weds.2.1 26 = .ok (.iconst 0, 1) := by decide +kernel
theorem dX12_weds_27 : decode mX12_weds.2.1 27 = .ok (.istore_n 3, 1) := by decide +kernel
theorem dX12_weds_28 : decode mX12_weds.2.1 28 = .ok (.iconst 0, 1) := by decide +kernel
theorem dX12_weds_29 : decode mX12_weds.2.1 29 = .ok (.istore 4, 2) := by decide +kernel
theorem dX12_weds_31 : decode mX12_weds.2.1 31 = .ok (.iload 4, 2) := by decide +kernel
theorem dX12_weds_33 : decode mX12_weds.2.1 33 = .ok (.aload_n 0, 1) := by decide +kernel
theorem dX12_weds_34 : decode mX12_weds.2.1 34 = .ok (.getfield 456, 3) := by decide +kernel
theorem dX12_weds_37 : decode mX12_weds.2.1 37 = .ok (.if_icmp .ge 72, 3) := by decide +kernel
theorem dX12_weds_40 : decode mX12_weds.2.1 40 = .ok (.iload_n 3, 1) := by decide +kernel
theorem dX12_weds_41 : decode mX12_weds.2.1 41 = .ok (.ifCond .ne 56, 3) := by decide +kernel
theorem dX12_weds_44 : decode mX12_weds.2.1 44 = .ok (.aload_n 0, 1) := by decide +kernel
theorem dX12_weds_45 : decode mX12_weds.2.1 45 = .ok (.getfield 173, 3) := by decide +kernel
theorem dX12_weds_48 : decode mX12_weds.2.1 48 = .ok (.iload 4, 2) := by decide +kernel
theorem dX12_weds_50 : decode mX12_weds.2.1 50 = .ok (.iaload, 1) := by decide +kernel
theorem dX12_weds_51 : decode mX12_weds.2.1 51 = .ok (.aload_n 0, 1) := by decide +kernel
theorem dX12_weds_52 : decode mX12_weds.2.1 52 = .ok (.getfield 502, 3) := by decide +kernel
theorem dX12_weds_55 : decode mX12_weds.2.1 55 = .ok (.if_icmp .eq 17, 3) := by decide +kernel
theorem dX12_weds_58 : decode mX12_weds.2.1 58 = .ok (.aload_n 0, 1) := by decide +kernel
theorem dX12_weds_59 : decode mX12_weds.2.1 59 = .ok (.getfield 176, 3) := by decide +kernel
theorem dX12_weds_62 : decode mX12_weds.2.1 62 = .ok (.iload 4, 2) := by decide +kernel
theorem dX12_weds_64 : decode mX12_weds.2.1 64 = .ok (.iaload, 1) := by decide +kernel
theorem dX12_weds_65 : decode mX12_weds.2.1 65 = .ok (.aload_n 0, 1) := by decide +kernel
theorem dX12_weds_66 : decode mX12_weds.2.1 66 = .ok (.getfield 502, 3) := by decide +kernel
theorem dX12_weds_69 : decode mX12_weds.2.1 69 = .ok (.if_icmp .ne 32, 3) := by decide +kernel
theorem dX12_weds_72 : decode mX12_weds.2.1 72 = .ok (.aload_n 0, 1) := by decide +kernel
theorem dX12_weds_73 : decode mX12_weds.2.1 73 = .ok (.getfield 179, 3) := by decide +kernel
theorem dX12_weds_76 : decode mX12_weds.2.1 76 = .ok (.iload 4, 2) := by decide +kernel
theorem dX12_weds_78 : decode mX12_weds.2.1 78 = .ok (.iaload, 1) := by decide +kernel
theorem dX12_weds_79 : decode mX12_weds.2.1 79 = .ok (.iload_n 1, 1) := by decide +kernel
theorem dX12_weds_80 : decode mX12_weds.2.1 80 = .ok (.if_icmp .ne 21, 3) := by decide +kernel
theorem dX12_weds_83 : decode mX12_weds.2.1 83 = .ok (.aload_n 0, 1) := by decide +kernel
theorem dX12_weds_84 : decode mX12_weds.2.1 84 = .ok (.getfield 182, 3) := by decide +kernel
theorem dX12_weds_87 : decode mX12_weds.2.1 87 = .ok (.iload 4, 2) := by decide +kernel
theorem dX12_weds_89 : decode mX12_weds.2.1 89 = .ok (.iaload, 1) := by decide +kernel
theorem dX12_weds_90 : decode mX12_weds.2.1 90 = .ok (.aload_n 0, 1) := by decide +kernel
theorem dX12_weds_91 : decode mX12_weds.2.1 91 = .ok (.getfield 505, 3) := by decide +kernel
theorem dX12_weds_94 : decode mX12_weds.2.1 94 = .ok (.if_icmp .gt 7, 3) := by decide +kernel
theorem dX12_weds_97 : decode mX12_weds.2.1 97 = .ok (.iconst 1, 1) := by decide +kernel
theorem dX12_weds_98 : decode mX12_weds.2.1 98 = .ok (.goto 4, 3) := by decide +kernel
theorem dX12_weds_101 : decode mX12_weds.2.1 101 = .ok (.iconst 0, 1) := by decide +kernel
theorem dX12_weds_102 : decode mX12_weds.2.1 102 = .ok (.istore_n 3, 1) := by decide +kernel
theorem dX12_weds_103 : decode mX12_weds.2.1 103 = .ok (.iinc 4 1, 3) := by decide +kernel
theorem dX12_weds_106 : decode mX12_weds.2.1 106 = .ok (.goto (-75), 3) := by decide +kernel
theorem dX12_weds_109 : decode mX12_weds.2.1 109 = .ok (.iconst 0, 1) := by decide +kernel
theorem dX12_weds_110 : decode mX12_weds.2.1 110 = .ok (.istore 4, 2) := by decide +kernel
theorem dX12_weds_112 : decode mX12_weds.2.1 112 = .ok (.iload 4, 2) := by decide +kernel
theorem dX12_weds_114 : decode mX12_weds.2.1 114 = .ok (.aload_n 0, 1) := by decide +kernel
theorem dX12_weds_115 : decode mX12_weds.2.1 115 = .ok (.getfield 496, 3) := by decide +kernel
theorem dX12_weds_118 : decode mX12_weds.2.1 118 = .ok (.if_icmp .ge 48, 3) := by decide +kernel
theorem dX12_weds_121 : decode mX12_weds.2.1 121 = .ok (.iload_n 3, 1) := by decide +kernel
theorem dX12_weds_122 : decode mX12_weds.2.1 122 = .ok (.ifCond .eq 44, 3) := by decide +kernel
theorem dX12_weds_125 : decode mX12_weds.2.1 125 = .ok (.iload_n 1, 1) := by decide +kernel
theorem dX12_weds_126 : decode mX12_weds.2.1 126 = .ok (.aload_n 0, 1) := by decide +kernel
theorem dX12_weds_127 : decode mX12_weds.2.1 127 = .ok (.getfield 207, 3) := by decide +kernel
theorem dX12_weds_130 : decode mX12_weds.2.1 130 = .ok (.iload 4, 2) := by decide +kernel
theorem dX12_weds_132 : decode mX12_weds.2.1 132 = .ok (.iaload, 1) := by decide +kernel
theorem dX12_weds_133 : decode mX12_weds.2.1 133 = .ok (.if_icmp .lt 27, 3) := by decide +kernel
theorem dX12_weds_136 : decode mX12_weds.2.1 136 = .ok (.aload_n 0, 1) := by decide +kernel
theorem dX12_weds_137 : decode mX12_weds.2.1 137 = .ok (.iload 4, 2) := by decide +kernel
theorem dX12_weds_139 : decode mX12_weds.2.1 139 = .ok (.iload_n 1, 1) := by decide +kernel
theorem dX12_weds_140 : decode mX12_weds.2.1 140 = .ok (.invokevirtual 519, 3) := by decide +kernel
theorem dX12_weds_143 : decode mX12_weds.2.1 143 = .ok (.aload_n 0, 1) := by decide +kernel
theorem dX12_weds_144 : decode mX12_weds.2.1 144 = .ok (.getfield 63, 3) := by decide +kernel
theorem dX12_weds_147 : decode mX12_weds.2.1 147 = .ok (.iload_n 2, 1) := by decide +kernel
theorem dX12_weds_148 : decode mX12_weds.2.1 148 = .ok (.iaload, 1) := by decide +kernel
theorem dX12_weds_149 : decode mX12_weds.2.1 149 = .ok (.if_icmp .gt 11, 3) := by decide +kernel
theorem dX12_weds_152 : decode mX12_weds.2.1 152 = .ok (.aload_n 0, 1) := by decide +kernel
theorem dX12_weds_153 : decode mX12_weds.2.1 153 = .ok (.getfield 222, 3) := by decide +kernel
theorem dX12_weds_156 : decode mX12_weds.2.1 156 = .ok (.iload 4, 2) := by decide +kernel
theorem dX12_weds_158 : decode mX12_weds.2.1 158 = .ok (.iconst 1, 1) := by decide +kernel
theorem dX12_weds_159 : decode mX12_weds.2.1 159 = .ok (.bastore, 1) := by decide +kernel
theorem dX12_weds_160 : decode mX12_weds.2.1 160 = .ok (.iinc 4 1, 3) := by decide +kernel
theorem dX12_weds_163 : decode mX12_weds.2.1 163 = .ok (.goto (-51), 3) := by decide +kernel
theorem dX12_weds_166 : decode mX12_weds.2.1 166 = .ok (.return_, 1) := by decide +kernel
theorem bX12_weds_0 {SC : Nat → Nat} {X : mh_X} {d : Nat} {Q : Option am_V → am_W → Prop} {bc bs : Nat} {w : am_W} {x1 : Int}
    (h : am_M (mh_G X) SC (d + 1) 0 0 mX12_lawOf [.inr (.inr (some (9, 0))), .inl x1, .inl (w.1 9 0 64)] w (fun r w1 => am_A (mh_G X) SC (d + 2) mX12_weds Q 9 [(0, .inr (.inr (some (9, 0)))), (1, .inl x1)] (r.toList ++ []) w1 bc bs)) :
    am_A (mh_G X) SC (d + 2) mX12_weds Q 0 [(0, .inr (.inr (some (9, 0)))), (1, .inl x1)] [] w bc bs := by
  refine am_aload_n dX12_weds_0 (List.Mem.head _) ?_
  refine am_iload_n dX12_weds_1 (List.Mem.tail _ (List.Mem.head _)) ?_
  refine am_aload_n dX12_weds_2 (List.Mem.head _) ?_
  refine am_getf (f := 64) (v := .inl (w.1 9 0 64)) dX12_weds_3 hc_10 (by decide) wd_1613 (by decide) rfl rfl ?_
  exact am_callv (d' := d + 1) (kc := 0) (ks := 0) (as := [.inl x1, .inl (w.1 9 0 64)]) dX12_weds_6 wc_X12_lawOf wd_2077 wd_2079 wd_82 wd_122 ds_X12_lawOf (by decide) (by omega) (Nat.le_of_ble_eq_true rfl) (Nat.zero_le _) (Nat.zero_le _) hc_10 (by decide) rfl rfl h
theorem bX12_weds_9 {SC : Nat → Nat} {X : mh_X} {d : Nat} {Q : Option am_V → am_W → Prop} {bc bs : Nat} {w : am_W} {x1 : Int} {xs0 : Int}
    (h : ((xs0 = (-1) → Q none w) ∧ (¬ xs0 = (-1) → (0 ≤ xs0 ∧ (xs0 < 7 ∧ ((¬ (w.1 92 0 xs0.toNat) = (-1) → am_A (mh_G X) SC (d + 2) mX12_weds Q 31 [(0, .inr (.inr (some (9, 0)))), (1, .inl x1), (2, .inl xs0), (3, .inl 0), (4, .inl 0)] [] w bc bs) ∧ ((w.1 92 0 xs0.toNat) = (-1) → Q none w))))))) :
    am_A (mh_G X) SC (d + 2) mX12_weds Q 9 [(0, .inr (.inr (some (9, 0)))), (1, .inl x1)] [.inl xs0] w bc bs := by
  refine am_istore_n (ls' := [(2, .inl xs0), (0, .inr (.inr (some (9, 0)))), (1, .inl x1)]) dX12_weds_9 (by decide) rfl ?_
  refine am_iload_n dX12_weds_10 (List.Mem.head _) ?_
  refine am_iconst dX12_weds_11 (by unfold am_rg; omega) ?_
  refine am_icmpeq (tgt := 25) dX12_weds_12 (by decide) (fun c1 => ?_) (fun c1 => ?_)
  · replace h := h.1 c1
    exact am_ret (r := none) dX12_weds_25 rfl rfl h
  · replace h := h.2 c1
    refine am_aload_n dX12_weds_15 (List.Mem.tail _ (List.Mem.head _)) ?_
    refine am_getf (f := 20) (v := .inr (.inr (some (92, 0)))) dX12_weds_16 hc_10 (by decide) wd_1569 (by decide) rfl rfl ?_
    refine am_iload_n dX12_weds_19 (List.Mem.head _) ?_
    have o2 := h.1
    replace h := h.2
    have o3 := h.1
    replace h := h.2
    refine am_iaload (v := (w.1 92 0 xs0.toNat)) dX12_weds_20 (by decide) rfl o2 o3 rfl ?_
    refine am_iconst dX12_weds_21 (by unfold am_rg; omega) ?_
    refine am_icmpne (tgt := 26) dX12_weds_22 (by decide) (fun c4 => ?_) (fun c4 => ?_)
    · replace h := h.1 c4
      refine am_iconst dX12_weds_26 (by unfold am_rg; omega) ?_
      refine am_istore_n (ls' := [(3, .inl 0), (2, .inl xs0), (0, .inr (.inr (some (9, 0)))), (1, .inl x1)]) dX12_weds_27 (by decide) rfl ?_
      refine am_iconst dX12_weds_28 (by unfold am_rg; omega) ?_
      refine am_istore (ls' := [(4, .inl 0), (3, .inl 0), (2, .inl xs0), (0, .inr (.inr (some (9, 0)))), (1, .inl x1)]) dX12_weds_29 (by decide) rfl ?_
      exact am_sub [3, 4, 2, 1, 0] rfl h
    · replace h := h.2 c4
      exact am_ret (r := none) dX12_weds_25 rfl rfl h
theorem bX12_weds_31 {SC : Nat → Nat} {X : mh_X} {d : Nat} {Q : Option am_V → am_W → Prop} {bc bs : Nat} {w : am_W} {x1 : Int} {x2 : Int} {x3 : Int} {x4 : Int}
    (h : (((w.1 9 0 47) ≤ x4 → am_A (mh_G X) SC (d + 2) mX12_weds Q 112 [(0, .inr (.inr (some (9, 0)))), (1, .inl x1), (2, .inl x2), (3, .inl x3), (4, .inl 0)] [] w bc bs) ∧ (¬ (w.1 9 0 47) ≤ x4 → ((¬ x3 = 0 → am_A (mh_G X) SC (d + 2) mX12_weds Q 97 [(0, .inr (.inr (some (9, 0)))), (1, .inl x1), (2, .inl x2), (4, .inl x4)] [] w bc bs) ∧ (x3 = 0 → (0 ≤ x4 ∧ (x4 < 40 ∧ (((w.1 104 0 x4.toNat) = (w.1 9 0 63) → am_A (mh_G X) SC (d + 2) mX12_weds Q 72 [(0, .inr (.inr (some (9, 0)))), (1, .inl x1), (2, .inl x2), (4, .inl x4)] [] w bc bs) ∧ (¬ (w.1 104 0 x4.toNat) = (w.1 9 0 63) → ((¬ (w.1 105 0 x4.toNat) = (w.1 9 0 63) → am_A (mh_G X) SC (d + 2) mX12_weds Q 101 [(0, .inr (.inr (some (9, 0)))), (1, .inl x1), (2, .inl x2), (4, .inl x4)] [] w bc bs) ∧ ((w.1 105 0 x4.toNat) = (w.1 9 0 63) → am_A (mh_G X) SC (d + 2) mX12_weds Q 72 [(0, .inr (.inr (some (9, 0)))), (1, .inl x1), (2, .inl x2), (4, .inl x4)] [] w bc bs))))))))))) :
    am_A (mh_G X) SC (d + 2) mX12_weds Q 31 [(0, .inr (.inr (some (9, 0)))), (1, .inl x1), (2, .inl x2), (3, .inl x3), (4, .inl x4)] [] w bc bs := by
  refine am_iload dX12_weds_31 (List.Mem.tail _ (List.Mem.tail _ (List.Mem.tail _ (List.Mem.tail _ (List.Mem.head _))))) ?_
  refine am_aload_n dX12_weds_33 (List.Mem.head _) ?_
  refine am_getf (f := 47) (v := .inl (w.1 9 0 47)) dX12_weds_34 hc_10 (by decide) wd_1596 (by decide) rfl rfl ?_
  refine am_icmpge (tgt := 109) dX12_weds_37 (by decide) (fun c1 => ?_) (fun c1 => ?_)
  · replace h := h.1 c1
    refine am_iconst dX12_weds_109 (by unfold am_rg; omega) ?_
    refine am_istore (ls' := [(4, .inl 0), (0, .inr (.inr (some (9, 0)))), (1, .inl x1), (2, .inl x2), (3, .inl x3)]) dX12_weds_110 (by decide) rfl ?_
    exact am_sub [1, 2, 3, 4, 0] rfl h
  · replace h := h.2 c1
    refine am_iload_n dX12_weds_40 (List.Mem.tail _ (List.Mem.tail _ (List.Mem.tail _ (List.Mem.head _)))) ?_
    refine am_ifne (tgt := 97) dX12_weds_41 (by decide) (fun c2 => ?_) (fun c2 => ?_)
    · replace h := h.1 c2
      exact am_sub [0, 1, 2, 4] rfl h
    · replace h := h.2 c2
      refine am_aload_n dX12_weds_44 (List.Mem.head _) ?_
      refine am_getf (f := 43) (v := .inr (.inr (some (104, 0)))) dX12_weds_45 hc_10 (by decide) wd_1592 (by decide) rfl rfl ?_
      refine am_iload dX12_weds_48 (List.Mem.tail _ (List.Mem.tail _ (List.Mem.tail _ (List.Mem.tail _ (List.Mem.head _))))) ?_
      have o3 := h.1
      replace h := h.2
      have o4 := h.1
      replace h := h.2
      refine am_iaload (v := (w.1 104 0 x4.toNat)) dX12_weds_50 (by decide) rfl o3 o4 rfl ?_
      refine am_aload_n dX12_weds_51 (List.Mem.head _) ?_
      refine am_getf (f := 63) (v := .inl (w.1 9 0 63)) dX12_weds_52 hc_10 (by decide) wd_1612 (by decide) rfl rfl ?_
      refine am_icmpeq (tgt := 72) dX12_weds_55 (by decide) (fun c5 => ?_) (fun c5 => ?_)
      · replace h := h.1 c5
        exact am_sub [0, 1, 2, 4] rfl h
      · replace h := h.2 c5
        refine am_aload_n dX12_weds_58 (List.Mem.head _) ?_
        refine am_getf (f := 44) (v := .inr (.inr (some (105, 0)))) dX12_weds_59 hc_10 (by decide) wd_1593 (by decide) rfl rfl ?_
        refine am_iload dX12_weds_62 (List.Mem.tail _ (List.Mem.tail _ (List.Mem.tail _ (List.Mem.tail _ (List.Mem.head _))))) ?_
        refine am_iaload (v := (w.1 105 0 x4.toNat)) dX12_weds_64 (by decide) rfl o3 o4 rfl ?_
        refine am_aload_n dX12_weds_65 (List.Mem.head _) ?_
        refine am_getf (f := 63) (v := .inl (w.1 9 0 63)) dX12_weds_66 hc_10 (by decide) wd_1612 (by decide) rfl rfl ?_
        refine am_icmpne (tgt := 101) dX12_weds_69 (by decide) (fun c6 => ?_) (fun c6 => ?_)
        · replace h := h.1 c6
          exact am_sub [0, 1, 2, 4] rfl h
        · replace h := h.2 c6
          exact am_sub [0, 1, 2, 4] rfl h
theorem bX12_weds_112 {SC : Nat → Nat} {X : mh_X} {d : Nat} {Q : Option am_V → am_W → Prop} {bc bs : Nat} {w : am_W} {x1 : Int} {x2 : Int} {x3 : Int} {x4 : Int}
    (h : (((w.1 9 0 62) ≤ x4 → Q none w) ∧ (¬ (w.1 9 0 62) ≤ x4 → ((x3 = 0 → Q none w) ∧ (¬ x3 = 0 → (0 ≤ x4 ∧ (x4 < 40 ∧ ((x1 < (w.1 115 0 x4.toNat) → am_A (mh_G X) SC (d + 2) mX12_weds Q 160 [(0, .inr (.inr (some (9, 0)))), (1, .inl x1), (2, .inl x2), (3, .inl x3), (4, .inl x4)] [] w bc bs) ∧ (¬ x1 < (w.1 115 0 x4.toNat) → am_M (mh_G X) SC (d + 1) 0 0 mX12_depthOf [.inr (.inr (some (9, 0))), .inl x4, .inl x1] w (fun r w1 => am_A (mh_G X) SC (d + 2) mX12_weds Q 143 [(0, .inr (.inr (some (9, 0)))), (1, .inl x1), (2, .inl x2), (3, .inl x3), (4, .inl x4)] (r.toList ++ []) w1 bc bs)))))))))) :
    am_A (mh_G X) SC (d + 2) mX12_weds Q 112 [(0, .inr (.inr (some (9, 0)))), (1, .inl x1), (2, .inl x2), (3, .inl x3), (4, .inl x4)] [] w bc bs := by
  refine am_iload dX12_weds_112 (List.Mem.tail _ (List.Mem.tail _ (List.Mem.tail _ (List.Mem.tail _ (List.Mem.head _))))) ?_
  refine am_aload_n dX12_weds_114 (List.Mem.head _) ?_
  refine am_getf (f := 62) (v := .inl (w.1 9 0 62)) dX12_weds_115 hc_10 (by decide) wd_1611 (by decide) rfl rfl ?_
  refine am_icmpge (tgt := 166) dX12_weds_118 (by decide) (fun c1 => ?_) (fun c1 => ?_)
  · replace h := h.1 c1
    exact am_ret (r := none) dX12_weds_166 rfl rfl h
  · replace h := h.2 c1
    refine am_iload_n dX12_weds_121 (List.Mem.tail _ (List.Mem.tail _ (List.Mem.tail _ (List.Mem.head _)))) ?_
    refine am_ifeq (tgt := 166) dX12_weds_122 (by decide) (fun c2 => ?_) (fun c2 => ?_)
    · replace h := h.1 c2
      exact am_ret (r := none) dX12_weds_166 rfl rfl h
    · replace h := h.2 c2
      refine am_iload_n dX12_weds_125 (List.Mem.tail _ (List.Mem.head _)) ?_
      refine am_aload_n dX12_weds_126 (List.Mem.head _) ?_
      refine am_getf (f := 56) (v := .inr (.inr (some (115, 0)))) dX12_weds_127 hc_10 (by decide) wd_1605 (by decide) rfl rfl ?_
      refine am_iload dX12_weds_130 (List.Mem.tail _ (List.Mem.tail _ (List.Mem.tail _ (List.Mem.tail _ (List.Mem.head _))))) ?_
      have o3 := h.1
      replace h := h.2
      have o4 := h.1
      replace h := h.2
      refine am_iaload (v := (w.1 115 0 x4.toNat)) dX12_weds_132 (by decide) rfl o3 o4 rfl ?_
      refine am_icmplt (tgt := 160) dX12_weds_133 (by decide) (fun c5 => ?_) (fun c5 => ?_)
      · replace h := h.1 c5
        exact h
      · replace h := h.2 c5
        refine am_aload_n dX12_weds_136 (List.Mem.head _) ?_
        refine am_iload dX12_weds_137 (List.Mem.tail _ (List.Mem.tail _ (List.Mem.tail _ (List.Mem.tail _ (List.Mem.head _))))) ?_
        refine am_iload_n dX12_weds_139 (List.Mem.tail _ (List.Mem.head _)) ?_
        exact am_callv (d' := d + 1) (kc := 0) (ks := 0) (as := [.inl x4, .inl x1]) dX12_weds_140 wc_X12_depthOf wd_2117 wd_2119 wd_90 wd_122 ds_X12_depthOf (by decide) (by omega) (Nat.le_of_ble_eq_true rfl) (Nat.zero_le _) (Nat.zero_le _) hc_10 (by decide) rfl rfl h
theorem bX12_weds_97 {SC : Nat → Nat} {X : mh_X} {d : Nat} {Q : Option am_V → am_W → Prop} {bc bs : Nat} {w : am_W} {x1 : Int} {x2 : Int} {x4 : Int}
    (h : am_A (mh_G X) SC (d + 2) mX12_weds Q 102 [(0, .inr (.inr (some (9, 0)))), (1, .inl x1), (2, .inl x2), (4, .inl x4)] [.inl 1] w bc bs) :
    am_A (mh_G X) SC (d + 2) mX12_weds Q 97 [(0, .inr (.inr (some (9, 0)))), (1, .inl x1), (2, .inl x2), (4, .inl x4)] [] w bc bs := by
  refine am_iconst dX12_weds_97 (by unfold am_rg; omega) ?_
  refine am_goto (tgt := 102) dX12_weds_98 (by decide) ?_
  exact h
theorem bX12_weds_72 {SC : Nat → Nat} {X : mh_X} {d : Nat} {Q : Option am_V → am_W → Prop} {bc bs : Nat} {w : am_W} {x1 : Int} {x2 : Int} {x4 : Int}
    (h : (0 ≤ x4 ∧ (x4 < 40 ∧ ((¬ (w.1 106 0 x4.toNat) = x1 → am_A (mh_G X) SC (d + 2) mX12_weds Q 101 [(0, .inr (.inr (some (9, 0)))), (1, .inl x1), (2, .inl x2), (4, .inl x4)] [] w bc bs) ∧ ((w.1 106 0 x4.toNat) = x1 → (((w.1 9 0 64) < (w.1 107 0 x4.toNat) → am_A (mh_G X) SC (d + 2) mX12_weds Q 101 [(0, .inr (.inr (some (9, 0)))), (1, .inl x1), (2, .inl x2), (4, .inl x4)] [] w bc bs) ∧ (¬ (w.1 9 0 64) < (w.1 107 0 x4.toNat) → am_A (mh_G X) SC (d + 2) mX12_weds Q 97 [(0, .inr (.inr (some (9, 0)))), (1, .inl x1), (2, .inl x2), (4, .inl x4)] [] w bc bs))))))) :
    am_A (mh_G X) SC (d + 2) mX12_weds Q 72 [(0, .inr (.inr (some (9, 0)))), (1, .inl x1), (2, .inl x2), (4, .inl x4)] [] w bc bs := by
  refine am_aload_n dX12_weds_72 (List.Mem.head _) ?_
  refine am_getf (f := 45) (v := .inr (.inr (some (106, 0)))) dX12_weds_73 hc_10 (by decide) wd_1594 (by decide) rfl rfl ?_
  refine am_iload dX12_weds_76 (List.Mem.tail _ (List.Mem.tail _ (List.Mem.tail _ (List.Mem.head _)))) ?_
  have o1 := h.1
  replace h := h.2
  have o2 := h.1
  replace h := h.2
  refine am_iaload (v := (w.1 106 0 x4.toNat)) dX12_weds_78 (by decide) rfl o1 o2 rfl ?_
  refine am_iload_n dX12_weds_79 (List.Mem.tail _ (List.Mem.head _)) ?_
  refine am_icmpne (tgt := 101) dX12_weds_80 (by decide) (fun c3 => ?_) (fun c3 => ?_)
  · replace h := h.1 c3
    exact h
  · replace h := h.2 c3
    refine am_aload_n dX12_weds_83 (List.Mem.head _) ?_
    refine am_getf (f := 46) (v := .inr (.inr (some (107, 0)))) dX12_weds_84 hc_10 (by decide) wd_1595 (by decide) rfl rfl ?_
    refine am_iload dX12_weds_87 (List.Mem.tail _ (List.Mem.tail _ (List.Mem.tail _ (List.Mem.head _)))) ?_
    refine am_iaload (v := (w.1 107 0 x4.toNat)) dX12_weds_89 (by decide) rfl o1 o2 rfl ?_
    refine am_aload_n dX12_weds_90 (List.Mem.head _) ?_
    refine am_getf (f := 64) (v := .inl (w.1 9 0 64)) dX12_weds_91 hc_10 (by decide) wd_1613 (by decide) rfl rfl ?_
    refine am_icmpgt (tgt := 101) dX12_weds_94 (by decide) (fun c4 => ?_) (fun c4 => ?_)
    · replace h := h.1 c4
      exact h
    · replace h := h.2 c4
      exact h
theorem bX12_weds_101 {SC : Nat → Nat} {X : mh_X} {d : Nat} {Q : Option am_V → am_W → Prop} {bc bs : Nat} {w : am_W} {x1 : Int} {x2 : Int} {x4 : Int}
    (h : am_A (mh_G X) SC (d + 2) mX12_weds Q 102 [(0, .inr (.inr (some (9, 0)))), (1, .inl x1), (2, .inl x2), (4, .inl x4)] [.inl 0] w bc bs) :
    am_A (mh_G X) SC (d + 2) mX12_weds Q 101 [(0, .inr (.inr (some (9, 0)))), (1, .inl x1), (2, .inl x2), (4, .inl x4)] [] w bc bs := by
  refine am_iconst dX12_weds_101 (by unfold am_rg; omega) ?_
  exact h
theorem bX12_weds_160 {SC : Nat → Nat} {X : mh_X} {d : Nat} {Q : Option am_V → am_W → Prop} {bc bs : Nat} {w : am_W} {x1 : Int} {x2 : Int} {x3 : Int} {x4 : Int}
    (h : am_A (mh_G X) SC (d + 2) mX12_weds Q 112 [(0, .inr (.inr (some (9, 0)))), (1, .inl x1), (2, .inl x2), (3, .inl x3), (4, .inl (am_w (x4 + 1)))] [] w bc bs) :
    am_A (mh_G X) SC (d + 2) mX12_weds Q 160 [(0, .inr (.inr (some (9, 0)))), (1, .inl x1), (2, .inl x2), (3, .inl x3), (4, .inl x4)] [] w bc bs := by
  refine am_iinc (ls' := [(4, .inl (am_w (x4 + 1))), (0, .inr (.inr (some (9, 0)))), (1, .inl x1), (2, .inl x2), (3, .inl x3)]) dX12_weds_160 (List.Mem.tail _ (List.Mem.tail _ (List.Mem.tail _ (List.Mem.tail _ (List.Mem.head _))))) (by decide) rfl ?_
  refine am_goto (tgt := 112) dX12_weds_163 (by decide) ?_
  exact am_sub [1, 2, 3, 4, 0] rfl h
theorem bX12_weds_143 {SC : Nat → Nat} {X : mh_X} {d : Nat} {Q : Option am_V → am_W → Prop} {bc bs : Nat} {w : am_W} {x1 : Int} {x2 : Int} {x3 : Int} {x4 : Int} {xs0 : Int}
    (h : (0 ≤ x2 ∧ (x2 < 7 ∧ (((w.1 92 0 x2.toNat) < xs0 → am_A (mh_G X) SC (d + 2) mX12_weds Q 160 [(0, .inr (.inr (some (9, 0)))), (1, .inl x1), (2, .inl x2), (3, .inl x3), (4, .inl x4)] [] w bc bs) ∧ (¬ (w.1 92 0 x2.toNat) < xs0 → (0 ≤ x4 ∧ (x4 < 40 ∧ am_A (mh_G X) SC (d + 2) mX12_weds Q 160 [(0, .inr (.inr (some (9, 0)))), (1, .inl x1), (2, .inl x2), (3, .inl x3), (4, .inl x4)] [] ((am_up w.1 121 0 x4.toNat 1), w.2) bc bs))))))) :
    am_A (mh_G X) SC (d + 2) mX12_weds Q 143 [(0, .inr (.inr (some (9, 0)))), (1, .inl x1), (2, .inl x2), (3, .inl x3), (4, .inl x4)] [.inl xs0] w bc bs := by
  refine am_aload_n dX12_weds_143 (List.Mem.head _) ?_
  refine am_getf (f := 20) (v := .inr (.inr (some (92, 0)))) dX12_weds_144 hc_10 (by decide) wd_1569 (by decide) rfl rfl ?_
  refine am_iload_n dX12_weds_147 (List.Mem.tail _ (List.Mem.tail _ (List.Mem.head _))) ?_
  have o1 := h.1
  replace h := h.2
  have o2 := h.1
  replace h := h.2
  refine am_iaload (v := (w.1 92 0 x2.toNat)) dX12_weds_148 (by decide) rfl o1 o2 rfl ?_
  refine am_icmpgt (tgt := 160) dX12_weds_149 (by decide) (fun c3 => ?_) (fun c3 => ?_)
  · replace h := h.1 c3
    exact h
  · replace h := h.2 c3
    refine am_aload_n dX12_weds_152 (List.Mem.head _) ?_
    refine am_getf (f := 61) (v := .inr (.inr (some (121, 0)))) dX12_weds_153 hc_10 (by decide) wd_1610 (by decide) rfl rfl ?_
    refine am_iload dX12_weds_156 (List.Mem.tail _ (List.Mem.tail _ (List.Mem.tail _ (List.Mem.tail _ (List.Mem.head _))))) ?_
    refine am_iconst dX12_weds_158 (by unfold am_rg; omega) ?_
    have o4 := h.1
    replace h := h.2
    have o5 := h.1
    replace h := h.2
    refine am_zastore (by decide) dX12_weds_159 (Or.inl (by decide)) rfl o4 o5 ?_
    exact h
theorem bX12_weds_102 {SC : Nat → Nat} {X : mh_X} {d : Nat} {Q : Option am_V → am_W → Prop} {bc bs : Nat} {w : am_W} {x1 : Int} {x2 : Int} {x4 : Int} {xs0 : Int}
    (h : am_A (mh_G X) SC (d + 2) mX12_weds Q 31 [(0, .inr (.inr (some (9, 0)))), (1, .inl x1), (2, .inl x2), (3, .inl xs0), (4, .inl (am_w (x4 + 1)))] [] w bc bs) :
    am_A (mh_G X) SC (d + 2) mX12_weds Q 102 [(0, .inr (.inr (some (9, 0)))), (1, .inl x1), (2, .inl x2), (4, .inl x4)] [.inl xs0] w bc bs := by
  refine am_istore_n (ls' := [(3, .inl xs0), (0, .inr (.inr (some (9, 0)))), (1, .inl x1), (2, .inl x2), (4, .inl x4)]) dX12_weds_102 (by decide) rfl ?_
  refine am_iinc (ls' := [(4, .inl (am_w (x4 + 1))), (3, .inl xs0), (0, .inr (.inr (some (9, 0)))), (1, .inl x1), (2, .inl x2)]) dX12_weds_103 (List.Mem.tail _ (List.Mem.tail _ (List.Mem.tail _ (List.Mem.tail _ (List.Mem.head _))))) (by decide) rfl ?_
  refine am_goto (tgt := 31) dX12_weds_106 (by decide) ?_
  exact am_sub [2, 3, 4, 1, 0] rfl h
-- MourningHouseModel.advances(I)V
theorem dX12_advances_0 : decode mX12_advances.2.1 0 = .ok (.iconst 0, 1) := by decide +kernel
theorem dX12_advances_1 : decode mX12_advances.2.1 1 = .ok (.istore_n 2, 1) := by decide +kernel
theorem dX12_advances_2 : decode mX12_advances.2.1 2 = .ok (.iconst 0, 1) := by decide +kernel
theorem dX12_advances_3 : decode mX12_advances.2.1 3 = .ok (.istore_n 3, 1) := by decide +kernel
theorem dX12_advances_4 : decode mX12_advances.2.1 4 = .ok (.iload_n 3, 1) := by decide +kernel
theorem dX12_advances_5 : decode mX12_advances.2.1 5 = .ok (.aload_n 0, 1) := by decide +kernel
theorem dX12_advances_6 : decode mX12_advances.2.1 6 = .ok (.getfield 496, 3) := by decide +kernel
theorem dX12_advances_9 : decode mX12_advances.2.1 9 = .ok (.if_icmp .ge 26, 3) := by decide +kernel
theorem dX12_advances_12 : decode mX12_advances.2.1 12 = .ok (.aload_n 0, 1) := by decide +kernel
theorem dX12_advances_13 : decode mX12_advances.2.1 13 = .ok (.iload_n 3, 1) := by decide +kernel
theorem dX12_advances_14 : decode mX12_advances.2.1 14 = .ok (.iload_n 1, 1) := by decide +kernel
theorem dX12_advances_15 : decode mX12_advances.2.1 15 = .ok (.invokevirtual 519, 3) := by decide +kernel
theorem dX12_advances_18 : decode mX12_advances.2.1 18 = .ok (.iload_n 2, 1) := by decide +kernel
theorem dX12_advances_19 : decode mX12_advances.2.1 19 = .ok (.if_icmp .le 10, 3) := by decide +kernel
theorem dX12_advances_22 : decode mX12_advances.2.1 22 = .ok (.aload_n 0, 1) := by decide +kernel
theorem dX12_advances_23 : decode mX12_advances.2.1 23 = .ok (.iload_n 3, 1) := by decide +kernel
theorem dX12_advances_24 : decode mX12_advances.2.1 24 = .ok (.iload_n 1, 1) := by decide +kernel
theorem dX12_advances_25 : decode mX12_advances.2.1 25 = .ok (.invokevirtual 519, 3) := by decide +kernel
theorem dX12_advances_28 : decode mX12_advances.2.1 28 = .ok (.istore_n 2, 1) := by decide +kernel
theorem dX12_advances_29 : decode mX12_advances.2.1 29 = .ok (.iinc 3 1, 3) := by decide +kernel
theorem dX12_advances_32 : decode mX12_advances.2.1 32 = .ok (.goto (-28), 3) := by decide +kernel
theorem dX12_advances_35 : decode mX12_advances.2.1 35 = .ok (.iconst 0, 1) := by decide +kernel
theorem dX12_advances_36 : decode mX12_advances.2.1 36 = .ok (.istore_n 3, 1) := by decide +kernel
theorem dX12_advances_37 : decode mX12_advances.2.1 37 = .ok (.iload_n 3, 1) := by decide +kernel
theorem dX12_advances_38 : decode mX12_advances.2.1 38 = .ok (.aload_n 0, 1) := by decide +kernel
theorem dX12_advances_39 : decode mX12_advances.2.1 39 = .ok (.getfield 496, 3) := by decide +kernel
theorem dX12_advances_42 : decode mX12_advances.2.1 42 = .ok (.if_icmp .ge 61, 3) := by decide +kernel
theorem dX12_advances_45 : decode mX12_advances.2.1 45 = .ok (.aload_n 0, 1) := by decide +kernel
theorem dX12_advances_46 : decode mX12_advances.2.1 46 = .ok (.iload_n 3, 1) := by decide +kernel
theorem dX12_advances_47 : decode mX12_advances.2.1 47 = .ok (.iload_n 1, 1) := by decide +kernel
theorem dX12_advances_48 : decode mX12_advances.2.1 48 = .ok (.invokevirtual 519, 3) := by decide +kernel
theorem dX12_advances_51 : decode mX12_advances.2.1 51 = .ok (.istore 4, 2) := by decide +kernel
theorem dX12_advances_53 : decode mX12_advances.2.1 53 = .ok (.iload 4, 2) := by decide +kernel
theorem dX12_advances_55 : decode mX12_advances.2.1 55 = .ok (.ifCond .le 42, 3) := by decide +kernel
theorem dX12_advances_58 : decode mX12_advances.2.1 58 = .ok (.aload_n 0, 1) := by decide +kernel
theorem dX12_advances_59 : decode mX12_advances.2.1 59 = .ok (.getfield 31, 3) := by decide +kernel
theorem dX12_advances_62 : decode mX12_advances.2.1 62 = .ok (.aload_n 0, 1) := by decide +kernel
theorem dX12_advances_63 : decode mX12_advances.2.1 63 = .ok (.getfield 216, 3) := by decide +kernel
theorem dX12_advances_66 : decode mX12_advances.2.1 66 = .ok (.iload_n 3, 1) := by decide +kernel
theorem dX12_advances_67 : decode mX12_advances.2.1 67 = .ok (.iaload, 1) := by decide +kernel
theorem dX12_advances_68 : decode mX12_advances.2.1 68 = .ok (.aaload, 1) := by decide +kernel
theorem dX12_advances_69 : decode mX12_advances.2.1 69 = .ok (.aload_n 0, 1) := by decide +kernel
theorem dX12_advances_70 : decode mX12_advances.2.1 70 = .ok (.getfield 213, 3) := by decide +kernel
theorem dX12_advances_73 : decode mX12_advances.2.1 73 = .ok (.iload_n 3, 1) := by decide +kernel
theorem dX12_advances_74 : decode mX12_advances.2.1 74 = .ok (.iaload, 1) := by decide +kernel
theorem dX12_advances_75 : decode mX12_advances.2.1 75 = .ok (.iaload, 1) := by decide +kernel
theorem dX12_advances_76 : decode mX12_advances.2.1 76 = .ok (.iconst 2, 1) := by decide +kernel
theorem dX12_advances_77 : decode mX12_advances.2.1 77 = .ok (.iand, 1) := by decide +kernel
theorem dX12_advances_78 : decode mX12_advances.2.1 78 = .ok (.ifCond .eq 9, 3) := by decide +kernel
theorem dX12_advances_81 : decode mX12_advances.2.1 81 = .ok (.iload 4, 2) := by decide +kernel
theorem dX12_advances_83 : decode mX12_advances.2.1 83 = .ok (.iload_n 2, 1) := by decide +kernel
theorem dX12_advances_84 : decode mX12_advances.2.1 84 = .ok (.if_icmp .ne 13, 3) := by decide +kernel
theorem dX12_advances_87 : decode mX12_advances.2.1 87 = .ok (.aload_n 0, 1) := by decide +kernel
theorem dX12_advances_88 : decode mX12_advances.2.1 88 = .ok (.getfield 210, 3) := by decide +kernel
theorem dX12_advances_91 : decode mX12_advances.2.1 91 = .ok (.iload_n 3, 1) := by decide +kernel
theorem dX12_advances_92 : decode mX12_advances.2.1 92 = .ok (.dup2, 1) := by decide +kernel
theorem dX12_advances_93 : decode mX12_advances.2.1 93 = .ok (.iaload, 1) := by decide +kernel
theorem dX12_advances_94 : decode mX12_advances.2.1 94 = .ok (.iconst 1, 1) := by decide +kernel
theorem dX12_advances_95 : decode mX12_advances.2.1 95 = .ok (.iadd, 1) := by decide +kernel
theorem dX12_advances_96 : decode mX12_advances.2.1 96 = .ok (.iastore, 1) := by decide +kernel
theorem dX12_advances_97 : decode mX12_advances.2.1 97 = .ok (.iinc 3 1, 3) := by decide +kernel
theorem dX12_advances_100 : decode mX12_advances.2.1 100 = .ok (.goto (-63), 3) := by decide +kernel
theorem dX12_advances_103 : decode mX12_advances.2.1 103 = .ok (.return_, 1) := by decide +kernel
theorem bX12_advances_0 {SC : Nat → Nat} {X : mh_X} {d : Nat} {Q : Option am_V → am_W → Prop} {bc bs : Nat} {w : am_W} {x1 : Int}
    (h : am_A (mh_G X) SC (d + 2) mX12_advances Q 4 [(0, .inr (.inr (some (9, 0)))), (1, .inl x1), (2, .inl 0), (3, .inl 0)] [] w bc bs) :
    am_A (mh_G X) SC (d + 2) mX12_advances Q 0 [(0, .inr (.inr (some (9, 0)))), (1, .inl x1)] [] w bc bs := by
  refine am_iconst dX12_advances_0 (by unfold am_rg; omega) ?_
  refine am_istore_n (ls' := [(2, .inl 0), (0, .inr (.inr (some (9, 0)))), (1, .inl x1)]) dX12_advances_1 (by decide) rfl ?_
  refine am_iconst dX12_advances_2 (by unfold am_rg; omega) ?_
  refine am_istore_n (ls' := [(3, .inl 0), (2, .inl 0), (0, .inr (.inr (some (9, 0)))), (1, .inl x1)]) dX12_advances_3 (by decide) rfl ?_
  exact am_sub [2, 3, 1, 0] rfl h
theorem bX12_advances_4 {SC : Nat → Nat} {X : mh_X} {d : Nat} {Q : Option am_V → am_W → Prop} {bc bs : Nat} {w : am_W} {x1 : Int} {x2 : Int} {x3 : Int}
    (h : (((w.1 9 0 62) ≤ x3 → am_A (mh_G X) SC (d + 2) mX12_advances Q 37 [(0, .inr (.inr (some (9, 0)))), (1, .inl x1), (2, .inl x2), (3, .inl 0)] [] w bc bs) ∧ (¬ (w.1 9 0 62) ≤ x3 → am_M (mh_G X) SC (d + 1) 0 0 mX12_depthOf [.inr (.inr (some (9, 0))), .inl x3, .inl x1] w (fun r w1 => am_A (mh_G X) SC (d + 2) mX12_advances Q 18 [(0, .inr (.inr (some (9, 0)))), (1, .inl x1), (2, .inl x2), (3, .inl x3)] (r.toList ++ []) w1 bc bs)))) :
    am_A (mh_G X) SC (d + 2) mX12_advances Q 4 [(0, .inr (.inr (some (9, 0)))), (1, .inl x1), (2, .inl x2), (3, .inl x3)] [] w bc bs := by
  refine am_iload_n dX12_advances_4 (List.Mem.tail _ (List.Mem.tail _ (List.Mem.tail _ (List.Mem.head _)))) ?_
  refine am_aload_n dX12_advances_5 (List.Mem.head _) ?_
  refine am_getf (f := 62) (v := .inl (w.1 9 0 62)) dX12_advances_6 hc_10 (by decide) wd_1611 (by decide) rfl rfl ?_
  refine am_icmpge (tgt := 35) dX12_advances_9 (by decide) (fun c1 => ?_) (fun c1 => ?_)
  · replace h := h.1 c1
    refine am_iconst dX12_advances_35 (by unfold am_rg; omega) ?_
    refine am_istore_n (ls' := [(3, .inl 0), (0, .inr (.inr (some (9, 0)))), (1, .inl x1), (2, .inl x2)]) dX12_advances_36 (by decide) rfl ?_
    exact am_sub [1, 2, 3, 0] rfl h
  · replace h := h.2 c1
    refine am_aload_n dX12_advances_12 (List.Mem.head _) ?_
    refine am_iload_n dX12_advances_13 (List.Mem.tail _ (List.Mem.tail _ (List.Mem.tail _ (List.Mem.head _)))) ?_
    refine am_iload_n dX12_advances_14 (List.Mem.tail _ (List.Mem.head _)) ?_
    exact am_callv (d' := d + 1) (kc := 0) (ks := 0) (as := [.inl x3, .inl x1]) dX12_advances_15 wc_X12_depthOf wd_2117 wd_2119 wd_90 wd_122 ds_X12_depthOf (by decide) (by omega) (Nat.le_of_ble_eq_true rfl) (Nat.zero_le _) (Nat.zero_le _) hc_10 (by decide) rfl rfl h
theorem bX12_advances_37 {SC : Nat → Nat} {X : mh_X} {d : Nat} {Q : Option am_V → am_W → Prop} {bc bs : Nat} {w : am_W} {x1 : Int} {x2 : Int} {x3 : Int}
    (h : (((w.1 9 0 62) ≤ x3 → Q none w) ∧ (¬ (w.1 9 0 62) ≤ x3 → am_M (mh_G X) SC (d + 1) 0 0 mX12_depthOf [.inr (.inr (some (9, 0))), .inl x3, .inl x1] w (fun r w1 => am_A (mh_G X) SC (d + 2) mX12_advances Q 51 [(0, .inr (.inr (some (9, 0)))), (1, .inl x1), (2, .inl x2), (3, .inl x3)] (r.toList ++ []) w1 bc bs)))) :
    am_A (mh_G X) SC (d + 2) mX12_advances Q 37 [(0, .inr (.inr (some (9, 0)))), (1, .inl x1), (2, .inl x2), (3, .inl x3)] [] w bc bs := by
  refine am_iload_n dX12_advances_37 (List.Mem.tail _ (List.Mem.tail _ (List.Mem.tail _ (List.Mem.head _)))) ?_
  refine am_aload_n dX12_advances_38 (List.Mem.head _) ?_
  refine am_getf (f := 62) (v := .inl (w.1 9 0 62)) dX12_advances_39 hc_10 (by decide) wd_1611 (by decide) rfl rfl ?_
  refine am_icmpge (tgt := 103) dX12_advances_42 (by decide) (fun c1 => ?_) (fun c1 => ?_)
  · replace h := h.1 c1
    exact am_ret (r := none) dX12_advances_103 rfl rfl h
  · replace h := h.2 c1
    refine am_aload_n dX12_advances_45 (List.Mem.head _) ?_
    refine am_iload_n dX12_advances_46 (List.Mem.tail _ (List.Mem.tail _ (List.Mem.tail _ (List.Mem.head _)))) ?_
    refine am_iload_n dX12_advances_47 (List.Mem.tail _ (List.Mem.head _)) ?_
    exact am_callv (d' := d + 1) (kc := 0) (ks := 0) (as := [.inl x3, .inl x1]) dX12_advances_48 wc_X12_depthOf wd_2117 wd_2119 wd_90 wd_122 ds_X12_depthOf (by decide) (by omega) (Nat.le_of_ble_eq_true rfl) (Nat.zero_le _) (Nat.zero_le _) hc_10 (by decide) rfl rfl h
theorem bX12_advances_18 {SC : Nat → Nat} {X : mh_X} {d : Nat} {Q : Option am_V → am_W → Prop} {bc bs : Nat} {w : am_W} {x1 : Int} {x2 : Int} {x3 : Int} {xs0 : Int}
    (h : ((xs0 ≤ x2 → am_A (mh_G X) SC (d + 2) mX12_advances Q 29 [(0, .inr (.inr (some (9, 0)))), (1, .inl x1), (2, .inl x2), (3, .inl x3)] [] w bc bs) ∧ (¬ xs0 ≤ x2 → am_M (mh_G X) SC (d + 1) 0 0 mX12_depthOf [.inr (.inr (some (9, 0))), .inl x3, .inl x1] w (fun r w1 => am_A (mh_G X) SC (d + 2) mX12_advances Q 28 [(0, .inr (.inr (some (9, 0)))), (1, .inl x1), (2, .inl x2), (3, .inl x3)] (r.toList ++ []) w1 bc bs)))) :
    am_A (mh_G X) SC (d + 2) mX12_advances Q 18 [(0, .inr (.inr (some (9, 0)))), (1, .inl x1), (2, .inl x2), (3, .inl x3)] [.inl xs0] w bc bs := by
  refine am_iload_n dX12_advances_18 (List.Mem.tail _ (List.Mem.tail _ (List.Mem.head _))) ?_
  refine am_icmple (tgt := 29) dX12_advances_19 (by decide) (fun c1 => ?_) (fun c1 => ?_)
  · replace h := h.1 c1
    exact h
  · replace h := h.2 c1
    refine am_aload_n dX12_advances_22 (List.Mem.head _) ?_
    refine am_iload_n dX12_advances_23 (List.Mem.tail _ (List.Mem.tail _ (List.Mem.tail _ (List.Mem.head _)))) ?_
    refine am_iload_n dX12_advances_24 (List.Mem.tail _ (List.Mem.head _)) ?_
    exact am_callv (d' := d + 1) (kc := 0) (ks := 0) (as := [.inl x3, .inl x1]) dX12_advances_25 wc_X12_depthOf wd_2117 wd_2119 wd_90 wd_122 ds_X12_depthOf (by decide) (by omega) (Nat.le_of_ble_eq_true rfl) (Nat.zero_le _) (Nat.zero_le _) hc_10 (by decide) rfl rfl h
theorem bX12_advances_51 {SC : Nat → Nat} {X : mh_X} {d : Nat} {Q : Option am_V → am_W → Prop} {bc bs : Nat} {w : am_W} {x1 : Int} {x2 : Int} {x3 : Int} {xs0 : Int}
    (h : ((xs0 ≤ 0 → am_A (mh_G X) SC (d + 2) mX12_advances Q 97 [(0, .inr (.inr (some (9, 0)))), (1, .inl x1), (2, .inl x2), (3, .inl x3)] [] w bc bs) ∧ (¬ xs0 ≤ 0 → (0 ≤ x3 ∧ (x3 < 40 ∧ (0 ≤ (w.1 118 0 x3.toNat) ∧ ((w.1 118 0 x3.toNat) < 7 ∧ (0 ≤ (w.1 117 0 x3.toNat) ∧ ((w.1 117 0 x3.toNat) < 30 ∧ (((am_and (w.1 75 (w.1 118 0 x3.toNat).toNat (w.1 117 0 x3.toNat).toNat) 2) = 0 → am_A (mh_G X) SC (d + 2) mX12_advances Q 87 [(0, .inr (.inr (some (9, 0)))), (1, .inl x1), (2, .inl x2), (3, .inl x3)] [] w bc bs) ∧ (¬ (am_and (w.1 75 (w.1 118 0 x3.toNat).toNat (w.1 117 0 x3.toNat).toNat) 2) = 0 → ((¬ xs0 = x2 → am_A (mh_G X) SC (d + 2) mX12_advances Q 97 [(0, .inr (.inr (some (9, 0)))), (1, .inl x1), (2, .inl x2), (3, .inl x3)] [] w bc bs) ∧ (xs0 = x2 → am_A (mh_G X) SC (d + 2) mX12_advances Q 87 [(0, .inr (.inr (some (9, 0)))), (1, .inl x1), (2, .inl x2), (3, .inl x3)] [] w bc bs))))))))))))) :
    am_A (mh_G X) SC (d + 2) mX12_advances Q 51 [(0, .inr (.inr (some (9, 0)))), (1, .inl x1), (2, .inl x2), (3, .inl x3)] [.inl xs0] w bc bs := by
  refine am_istore (ls' := [(4, .inl xs0), (0, .inr (.inr (some (9, 0)))), (1, .inl x1), (2, .inl x2), (3, .inl x3)]) dX12_advances_51 (by decide) rfl ?_
  refine am_iload dX12_advances_53 (List.Mem.head _) ?_
  refine am_ifle (tgt := 97) dX12_advances_55 (by decide) (fun c1 => ?_) (fun c1 => ?_)
  · replace h := h.1 c1
    exact am_sub [1, 2, 3, 4] rfl h
  · replace h := h.2 c1
    refine am_aload_n dX12_advances_58 (List.Mem.tail _ (List.Mem.head _)) ?_
    refine am_getf (f := 10) (v := .inr (.inr (some (74, 0)))) dX12_advances_59 hc_10 (by decide) wd_1559 (by decide) rfl rfl ?_
    refine am_aload_n dX12_advances_62 (List.Mem.tail _ (List.Mem.head _)) ?_
    refine am_getf (f := 59) (v := .inr (.inr (some (118, 0)))) dX12_advances_63 hc_10 (by decide) wd_1608 (by decide) rfl rfl ?_
    refine am_iload_n dX12_advances_66 (List.Mem.tail _ (List.Mem.tail _ (List.Mem.tail _ (List.Mem.tail _ (List.Mem.head _))))) ?_
    have o2 := h.1
    replace h := h.2
    have o3 := h.1
    replace h := h.2
    refine am_iaload (v := (w.1 118 0 x3.toNat)) dX12_advances_67 (by decide) rfl o2 o3 rfl ?_
    have o4 := h.1
    replace h := h.2
    have o5 := h.1
    replace h := h.2
    refine am_aaload (kd := 5) (r := some (75, (w.1 118 0 x3.toNat).toNat)) dX12_advances_68 (by decide) rfl (by decide) (by decide) o4 o5 rfl ?_
    refine am_aload_n dX12_advances_69 (List.Mem.tail _ (List.Mem.head _)) ?_
    refine am_getf (f := 58) (v := .inr (.inr (some (117, 0)))) dX12_advances_70 hc_10 (by decide) wd_1607 (by decide) rfl rfl ?_
    refine am_iload_n dX12_advances_73 (List.Mem.tail _ (List.Mem.tail _ (List.Mem.tail _ (List.Mem.tail _ (List.Mem.head _))))) ?_
    refine am_iaload (v := (w.1 117 0 x3.toNat)) dX12_advances_74 (by decide) rfl o2 o3 rfl ?_
    have o6 := h.1
    replace h := h.2
    have o7 := h.1
    replace h := h.2
    refine am_iaload (v := (w.1 75 (w.1 118 0 x3.toNat).toNat (w.1 117 0 x3.toNat).toNat)) dX12_advances_75 (by decide) rfl o6 o7 rfl ?_
    refine am_iconst dX12_advances_76 (by unfold am_rg; omega) ?_
    refine am_iand dX12_advances_77 ?_
    refine am_ifeq (tgt := 87) dX12_advances_78 (by decide) (fun c8 => ?_) (fun c8 => ?_)
    · replace h := h.1 c8
      exact am_sub [1, 2, 3, 4] rfl h
    · replace h := h.2 c8
      refine am_iload dX12_advances_81 (List.Mem.head _) ?_
      refine am_iload_n dX12_advances_83 (List.Mem.tail _ (List.Mem.tail _ (List.Mem.tail _ (List.Mem.head _)))) ?_
      refine am_icmpne (tgt := 97) dX12_advances_84 (by decide) (fun c9 => ?_) (fun c9 => ?_)
      · replace h := h.1 c9
        exact am_sub [1, 2, 3, 4] rfl h
      · replace h := h.2 c9
        exact am_sub [1, 2, 3, 4] rfl h
theorem bX12_advances_29 {SC : Nat → Nat} {X : mh_X} {d : Nat} {Q : Option am_V → am_W → Prop} {bc bs : Nat} {w : am_W} {x1 : Int} {x2 : Int} {x3 : Int}
    (h : am_A (mh_G X) SC (d + 2) mX12_advances Q 4 [(0, .inr (.inr (some (9, 0)))), (1, .inl x1), (2, .inl x2), (3, .inl (am_w (x3 + 1)))] [] w bc bs) :
    am_A (mh_G X) SC (d + 2) mX12_advances Q 29 [(0, .inr (.inr (some (9, 0)))), (1, .inl x1), (2, .inl x2), (3, .inl x3)] [] w bc bs := by
  refine am_iinc (ls' := [(3, .inl (am_w (x3 + 1))), (0, .inr (.inr (some (9, 0)))), (1, .inl x1), (2, .inl x2)]) dX12_advances_29 (List.Mem.tail _ (List.Mem.tail _ (List.Mem.tail _ (List.Mem.head _)))) (by decide) rfl ?_
  refine am_goto (tgt := 4) dX12_advances_32 (by decide) ?_
  exact am_sub [1, 2, 3, 0] rfl h
theorem bX12_advances_28 {SC : Nat → Nat} {X : mh_X} {d : Nat} {Q : Option am_V → am_W → Prop} {bc bs : Nat} {w : am_W} {x1 : Int} {x2 : Int} {x3 : Int} {xs0 : Int}
    (h : am_A (mh_G X) SC (d + 2) mX12_advances Q 29 [(0, .inr (.inr (some (9, 0)))), (1, .inl x1), (2, .inl xs0), (3, .inl x3)] [] w bc bs) :
    am_A (mh_G X) SC (d + 2) mX12_advances Q 28 [(0, .inr (.inr (some (9, 0)))), (1, .inl x1), (2, .inl x2), (3, .inl x3)] [.inl xs0] w bc bs := by
  refine am_istore_n (ls' := [(2, .inl xs0), (0, .inr (.inr (some (9, 0)))), (1, .inl x1), (3, .inl x3)]) dX12_advances_28 (by decide) rfl ?_
  exact am_sub [1, 2, 0, 3] rfl h
theorem bX12_advances_97 {SC : Nat → Nat} {X : mh_X} {d : Nat} {Q : Option am_V → am_W → Prop} {bc bs : Nat} {w : am_W} {x1 : Int} {x2 : Int} {x3 : Int}
    (h : am_A (mh_G X) SC (d + 2) mX12_advances Q 37 [(0, .inr (.inr (some (9, 0)))), (1, .inl x1), (2, .inl x2), (3, .inl (am_w (x3 + 1)))] [] w bc bs) :
    am_A (mh_G X) SC (d + 2) mX12_advances Q 97 [(0, .inr (.inr (some (9, 0)))), (1, .inl x1), (2, .inl x2), (3, .inl x3)] [] w bc bs := by
  refine am_iinc (ls' := [(3, .inl (am_w (x3 + 1))), (0, .inr (.inr (some (9, 0)))), (1, .inl x1), (2, .inl x2)]) dX12_advances_97 (List.Mem.tail _ (List.Mem.tail _ (List.Mem.tail _ (List.Mem.head _)))) (by decide) rfl ?_
  refine am_goto (tgt := 37) dX12_advances_100 (by decide) ?_
  exact am_sub [1, 2, 3, 0] rfl h
theorem bX12_advances_87 {SC : Nat → Nat} {X : mh_X} {d : Nat} {Q : Option am_V → am_W → Prop} {bc bs : Nat} {w : am_W} {x1 : Int} {x2 : Int} {x3 : Int}
    (h : (0 ≤ x3 ∧ (x3 < 40 ∧ am_A (mh_G X) SC (d + 2) mX12_advances Q 97 [(0, .inr (.inr (some (9, 0)))), (1, .inl x1), (2, .inl x2), (3, .inl x3)] [] ((am_up w.1 116 0 x3.toNat (am_w ((w.1 116 0 x3.toNat) + 1))), w.2) bc bs))) :
    am_A (mh_G X) SC (d + 2) mX12_advances Q 87 [(0, .inr (.inr (some (9, 0)))), (1, .inl x1), (2, .inl x2), (3, .inl x3)] [] w bc bs := by
  refine am_aload_n dX12_advances_87 (List.Mem.head _) ?_
  refine am_getf (f := 57) (v := .inr (.inr (some (116, 0)))) dX12_advances_88 hc_10 (by decide) wd_1606 (by decide) rfl rfl ?_
  refine am_iload_n dX12_advances_91 (List.Mem.tail _ (List.Mem.tail _ (List.Mem.tail _ (List.Mem.head _)))) ?_
  refine am_dup2 dX12_advances_92 rfl rfl ?_
  have o1 := h.1
  replace h := h.2
  have o2 := h.1
  replace h := h.2
  refine am_iaload (v := (w.1 116 0 x3.toNat)) dX12_advances_93 (by decide) rfl o1 o2 rfl ?_
  refine am_iconst dX12_advances_94 (by unfold am_rg; omega) ?_
  refine am_iadd dX12_advances_95 ?_
  refine am_iastore dX12_advances_96 (Or.inl (by decide)) rfl o1 o2 ?_
  exact h
-- MourningHouseModel.goesTo(I)V
theorem dX12_goesTo_0 : decode mX12_goesTo.2.1 0 = .ok (.aload_n 0, 1) := by decide +kernel
theorem dX12_goesTo_1 : decode mX12_goesTo.2.1 1 = .ok (.getfield 496, 3) := by decide +kernel
theorem dX12_goesTo_4 : decode mX12_goesTo.2.1 4 = .ok (.ifCond .ne 4, 3) := by decide +kernel
theorem dX12_goesTo_7 : decode mX12_goesTo.2.1 7 = .ok (.return_, 1) := by decide +kernel
theorem dX12_goesTo_8 : decode mX12_goesTo.2.1 8 = .ok (.aload_n 0, 1) := by decide +kernel
theorem dX12_goesTo_9 : decode mX12_goesTo.2.1 9 = .ok (.getfield 508, 3) := by decide +kernel
theorem dX12_goesTo_12 : decode mX12_goesTo.2.1 12 = .ok (.ifCond .ne 33, 3) := by decide +kernel
theorem dX12_goesTo_15 : decode mX12_goesTo.2.1 15 = .ok (.iload_n 1, 1) := by decide +kernel
theorem dX12_goesTo_16 : decode mX12_goesTo.2.1 16 = .ok (.aload_n 0, 1) := by decide +kernel
theorem dX12_goesTo_17 : decode mX12_goesTo.2.1 17 = .ok (.invokevirtual 522, 3) := by decide +kernel
theorem dX12_goesTo_20 : decode mX12_goesTo.2.1 20 = .ok (.if_icmp .ge 4, 3) := by decide +kernel
theorem dX12_goesTo_23 : decode mX12_goesTo.2.1 23 = .ok (.return_, 1) := by decide +kernel
theorem dX12_goesTo_24 : decode mX12_goesTo.2.1 24 = .ok (.aload_n 0, 1) := by decide +kernel
theorem dX12_goesTo_25 : decode mX12_goesTo.2.1 25 = .ok (.aload_n 0, 1) := by decide +kernel
theorem dX12_goesTo_26 : decode mX12_goesTo.2.1 26 = .ok (.invokevirtual 522, 3) := by decide +kernel
theorem dX12_goesTo_29 : decode mX12_goesTo.2.1 29 = .ok (.putfield 525, 3) := by decide +kernel
theorem dX12_goesTo_32 : decode mX12_goesTo.2.1 32 = .ok (.aload_n 0, 1) := by decide +kernel
theorem dX12_goesTo_33 : decode mX12_goesTo.2.1 33 = .ok (.iconst 1, 1) := by decide +kernel
theorem dX12_goesTo_34 : decode mX12_goesTo.2.1 34 = .ok (.putfield 508, 3) := by decide +kernel
theorem dX12_goesTo_37 : decode mX12_goesTo.2.1 37 = .ok (.aload_n 0, 1) := by decide +kernel
theorem dX12_goesTo_38 : decode mX12_goesTo.2.1 38 = .ok (.aload_n 0, 1) := by decide +kernel
theorem dX12_goesTo_39 : decode mX12_goesTo.2.1 39 = .ok (.getfield 525, 3) := by decide +kernel
theorem dX12_goesTo_42 : decode mX12_goesTo.2.1 42 = .ok (.invokevirtual 528, 3) := by decide +kernel
theorem dX12_goesTo_45 : decode mX12_goesTo.2.1 45 = .ok (.aload_n 0, 1) := by decide +kernel
theorem dX12_goesTo_46 : decode mX12_goesTo.2.1 46 = .ok (.getfield 525, 3) := by decide +kernel
theorem dX12_goesTo_49 : decode mX12_goesTo.2.1 49 = .ok (.iload_n 1, 1) := by decide +kernel
theorem dX12_goesTo_50 : decode mX12_goesTo.2.1 50 = .ok (.if_icmp .ge 32, 3) := by decide +kernel
theorem dX12_goesTo_53 : decode mX12_goesTo.2.1 53 = .ok (.aload_n 0, 1) := by decide +kernel
theorem dX12_goesTo_54 : decode mX12_goesTo.2.1 54 = .ok (.aload_n 0, 1) := by decide +kernel
theorem dX12_goesTo_55 : decode mX12_goesTo.2.1 55 = .ok (.getfield 525, 3) := by decide +kernel
theorem dX12_goesTo_58 : decode mX12_goesTo.2.1 58 = .ok (.invokevirtual 531, 3) := by decide +kernel
theorem dX12_goesTo_61 : decode mX12_goesTo.2.1 61 = .ok (.aload_n 0, 1) := by decide +kernel
theorem dX12_goesTo_62 : decode mX12_goesTo.2.1 62 = .ok (.dup, 1) := by decide +kernel
theorem dX12_goesTo_63 : decode mX12_goesTo.2.1 63 = .ok (.getfield 525, 3) := by decide +kernel
theorem dX12_goesTo_66 : decode mX12_goesTo.2.1 66 = .ok (.iconst 1, 1) := by decide +kernel
theorem dX12_goesTo_67 : decode mX12_goesTo.2.1 67 = .ok (.iadd, 1) := by decide +kernel
theorem dX12_goesTo_68 : decode mX12_goesTo.2.1 68 = .ok (.putfield 525, 3) := by decide +kernel
theorem dX12_goesTo_71 : decode mX12_goesTo.2.1 71 = .ok (.aload_n 0, 1) := by decide +kernel
theorem dX12_goesTo_72 : decode mX12_goesTo.2.1 72 = .ok (.aload_n 0, 1) := by decide +kernel
theorem dX12_goesTo_73 : decode mX12_goesTo.2.1 73 = .ok (.getfield 525, 3) := by decide +kernel
theorem dX12_goesTo_76 : decode mX12_goesTo.2.1 76 = .ok (.invokevirtual 528, 3) := by decide +kernel
theorem dX12_goesTo_79 : decode mX12_goesTo.2.1 79 = .ok (.goto (-34), 3) := by decide +kernel
theorem dX12_goesTo_82 : decode mX12_goesTo.2.1 82 = .ok (.return_, 1) := by decide +kernel
theorem bX12_goesTo_0 {SC : Nat → Nat} {X : mh_X} {d : Nat} {Q : Option am_V → am_W → Prop} {bc bs : Nat} {w : am_W} {x1 : Int}
    (h : ((¬ (w.1 9 0 62) = 0 → ((¬ (w.1 9 0 66) = 0 → am_A (mh_G X) SC (d + 3) mX12_goesTo Q 45 [(0, .inr (.inr (some (9, 0)))), (1, .inl x1)] [] w bc bs) ∧ ((w.1 9 0 66) = 0 → am_M (mh_G X) SC (d + 2) 0 0 mX12_firstBegin [.inr (.inr (some (9, 0)))] w (fun r w1 => am_A (mh_G X) SC (d + 3) mX12_goesTo Q 20 [(0, .inr (.inr (some (9, 0)))), (1, .inl x1)] (r.toList ++ [.inl x1]) w1 bc bs)))) ∧ ((w.1 9 0 62) = 0 → Q none w))) :
    am_A (mh_G X) SC (d + 3) mX12_goesTo Q 0 [(0, .inr (.inr (some (9, 0)))), (1, .inl x1)] [] w bc bs := by
  refine am_aload_n dX12_goesTo_0 (List.Mem.head _) ?_
  refine am_getf (f := 62) (v := .inl (w.1 9 0 62)) dX12_goesTo_1 hc_10 (by decide) wd_1611 (by decide) rfl rfl ?_
  refine am_ifne (tgt := 8) dX12_goesTo_4 (by decide) (fun c1 => ?_) (fun c1 => ?_)
  · replace h := h.1 c1
    refine am_aload_n dX12_goesTo_8 (List.Mem.head _) ?_
    refine am_getf (f := 66) (v := .inl (w.1 9 0 66)) dX12_goesTo_9 hc_10 (by decide) wd_1615 (by decide) rfl rfl ?_
    refine am_ifne (tgt := 45) dX12_goesTo_12 (by decide) (fun c2 => ?_) (fun c2 => ?_)
    · replace h := h.1 c2
      exact h
    · replace h := h.2 c2
      refine am_iload_n dX12_goesTo_15 (List.Mem.tail _ (List.Mem.head _)) ?_
      refine am_aload_n dX12_goesTo_16 (List.Mem.head _) ?_
      exact am_callv (d' := d + 2) (kc := 0) (ks := 0) (as := []) dX12_goesTo_17 wc_X12_firstBegin wd_2108 wd_2110 wd_88 wd_122 ds_X12_firstBegin (by decide) (by omega) (Nat.le_of_ble_eq_true rfl) (Nat.zero_le _) (Nat.zero_le _) hc_10 (by decide) rfl rfl h
  · replace h := h.2 c1
    exact am_ret (r := none) dX12_goesTo_7 rfl rfl h
theorem bX12_goesTo_45 {SC : Nat → Nat} {X : mh_X} {d : Nat} {Q : Option am_V → am_W → Prop} {bc bs : Nat} {w : am_W} {x1 : Int}
    (h : ((x1 ≤ (w.1 9 0 65) → Q none w) ∧ (¬ x1 ≤ (w.1 9 0 65) → am_M (mh_G X) SC (d + 2) 0 0 mX12_advances [.inr (.inr (some (9, 0))), .inl (w.1 9 0 65)] w (fun r w1 => am_A (mh_G X) SC (d + 3) mX12_goesTo Q 61 [(0, .inr (.inr (some (9, 0)))), (1, .inl x1)] (r.toList ++ []) w1 bc bs)))) :
    am_A (mh_G X) SC (d + 3) mX12_goesTo Q 45 [(0, .inr (.inr (some (9, 0)))), (1, .inl x1)] [] w bc bs := by
  refine am_aload_n dX12_goesTo_45 (List.Mem.head _) ?_
  refine am_getf (f := 65) (v := .inl (w.1 9 0 65)) dX12_goesTo_46 hc_10 (by decide) wd_1614 (by decide) rfl rfl ?_
  refine am_iload_n dX12_goesTo_49 (List.Mem.tail _ (List.Mem.head _)) ?_
  refine am_icmpge (tgt := 82) dX12_goesTo_50 (by decide) (fun c1 => ?_) (fun c1 => ?_)
  · replace h := h.1 c1
    exact am_ret (r := none) dX12_goesTo_82 rfl rfl h
  · replace h := h.2 c1
    refine am_aload_n dX12_goesTo_53 (List.Mem.head _) ?_
    refine am_aload_n dX12_goesTo_54 (List.Mem.head _) ?_
    refine am_getf (f := 65) (v := .inl (w.1 9 0 65)) dX12_goesTo_55 hc_10 (by decide) wd_1614 (by decide) rfl rfl ?_
    exact am_callv (d' := d + 2) (kc := 0) (ks := 0) (as := [.inl (w.1 9 0 65)]) dX12_goesTo_58 wc_X12_advances wd_2121 wd_2123 wd_91 wd_122 ds_X12_advances (by decide) (by omega) (Nat.le_of_ble_eq_true rfl) (Nat.zero_le _) (Nat.zero_le _) hc_10 (by decide) rfl rfl h
theorem bX12_goesTo_20 {SC : Nat → Nat} {X : mh_X} {d : Nat} {Q : Option am_V → am_W → Prop} {bc bs : Nat} {w : am_W} {x1 : Int} {xs0 : Int} {xs1 : Int}
    (h : ((xs0 ≤ xs1 → am_M (mh_G X) SC (d + 2) 0 0 mX12_firstBegin [.inr (.inr (some (9, 0)))] w (fun r w1 => am_A (mh_G X) SC (d + 3) mX12_goesTo Q 29 [(0, .inr (.inr (some (9, 0)))), (1, .inl x1)] (r.toList ++ [.inr (.inr (some (9, 0)))]) w1 bc bs)) ∧ (¬ xs0 ≤ xs1 → Q none w))) :
    am_A (mh_G X) SC (d + 3) mX12_goesTo Q 20 [(0, .inr (.inr (some (9, 0)))), (1, .inl x1)] [.inl xs0, .inl xs1] w bc bs := by
  refine am_icmpge (tgt := 24) dX12_goesTo_20 (by decide) (fun c1 => ?_) (fun c1 => ?_)
  · replace h := h.1 c1
    refine am_aload_n dX12_goesTo_24 (List.Mem.head _) ?_
    refine am_aload_n dX12_goesTo_25 (List.Mem.head _) ?_
    exact am_callv (d' := d + 2) (kc := 0) (ks := 0) (as := []) dX12_goesTo_26 wc_X12_firstBegin wd_2108 wd_2110 wd_88 wd_122 ds_X12_firstBegin (by decide) (by omega) (Nat.le_of_ble_eq_true rfl) (Nat.zero_le _) (Nat.zero_le _) hc_10 (by decide) rfl rfl h
  · replace h := h.2 c1
    exact am_ret (r := none) dX12_goesTo_23 rfl rfl h
theorem bX12_goesTo_61 {SC : Nat → Nat} {X : mh_X} {d : Nat} {Q : Option am_V → am_W → Prop} {bc bs : Nat} {w : am_W} {x1 : Int}
    (h : am_M (mh_G X) SC (d + 2) 0 0 mX12_weds [.inr (.inr (some (9, 0))), .inl ((am_up w.1 9 0 65 (am_w ((w.1 9 0 65) + 1))) 9 0 65)] ((am_up w.1 9 0 65 (am_w ((w.1 9 0 65) + 1))), w.2) (fun r w1 => am_A (mh_G X) SC (d + 3) mX12_goesTo Q 79 [(0, .inr (.inr (some (9, 0)))), (1, .inl x1)] (r.toList ++ []) w1 bc bs)) :
    am_A (mh_G X) SC (d + 3) mX12_goesTo Q 61 [(0, .inr (.inr (some (9, 0)))), (1, .inl x1)] [] w bc bs := by
  refine am_aload_n dX12_goesTo_61 (List.Mem.head _) ?_
  refine am_dup dX12_goesTo_62 rfl ?_
  refine am_getf (f := 65) (v := .inl (w.1 9 0 65)) dX12_goesTo_63 hc_10 (by decide) wd_1614 (by decide) rfl rfl ?_
  refine am_iconst dX12_goesTo_66 (by unfold am_rg; omega) ?_
  refine am_iadd dX12_goesTo_67 ?_
  refine am_putf (f := 65) dX12_goesTo_68 hc_10 (by decide) wd_1614 rfl (Or.inl rfl) (Or.inl (by decide)) rfl ?_
  refine am_aload_n dX12_goesTo_71 (List.Mem.head _) ?_
  refine am_aload_n dX12_goesTo_72 (List.Mem.head _) ?_
  refine am_getf (f := 65) (v := .inl ((am_up w.1 9 0 65 (am_w ((w.1 9 0 65) + 1))) 9 0 65)) dX12_goesTo_73 hc_10 (by decide) wd_1614 (by decide) rfl rfl ?_
  exact am_callv (d' := d + 2) (kc := 0) (ks := 0) (as := [.inl ((am_up w.1 9 0 65 (am_w ((w.1 9 0 65) + 1))) 9 0 65)]) dX12_goesTo_76 wc_X12_weds wd_2113 wd_2115 wd_89 wd_122 ds_X12_weds (by decide) (by omega) (Nat.le_of_ble_eq_true rfl) (Nat.zero_le _) (Nat.zero_le _) hc_10 (by decide) rfl rfl h
theorem bX12_goesTo_29 {SC : Nat → Nat} {X : mh_X} {d : Nat} {Q : Option am_V → am_W → Prop} {bc bs : Nat} {w : am_W} {x1 : Int} {xs0 : Int}
    (h : am_M (mh_G X) SC (d + 2) 0 0 mX12_weds [.inr (.inr (some (9, 0))), .inl ((am_up (am_up w.1 9 0 65 xs0) 9 0 66 1) 9 0 65)] ((am_up (am_up w.1 9 0 65 xs0) 9 0 66 1), w.2) (fun r w1 => am_A (mh_G X) SC (d + 3) mX12_goesTo Q 45 [(0, .inr (.inr (some (9, 0)))), (1, .inl x1)] (r.toList ++ []) w1 bc bs)) :
    am_A (mh_G X) SC (d + 3) mX12_goesTo Q 29 [(0, .inr (.inr (some (9, 0)))), (1, .inl x1)] [.inl xs0, .inr (.inr (some (9, 0)))] w bc bs := by
  refine am_putf (f := 65) dX12_goesTo_29 hc_10 (by decide) wd_1614 rfl (Or.inl rfl) (Or.inl (by decide)) rfl ?_
  refine am_aload_n dX12_goesTo_32 (List.Mem.head _) ?_
  refine am_iconst dX12_goesTo_33 (by unfold am_rg; omega) ?_
  refine am_putf (f := 66) dX12_goesTo_34 hc_10 (by decide) wd_1615 rfl (Or.inr (Or.inl ⟨rfl, (Or.inr rfl)⟩)) (Or.inl (by decide)) rfl ?_
  refine am_aload_n dX12_goesTo_37 (List.Mem.head _) ?_
  refine am_aload_n dX12_goesTo_38 (List.Mem.head _) ?_
  refine am_getf (f := 65) (v := .inl ((am_up (am_up w.1 9 0 65 xs0) 9 0 66 1) 9 0 65)) dX12_goesTo_39 hc_10 (by decide) wd_1614 (by decide) rfl rfl ?_
  exact am_callv (d' := d + 2) (kc := 0) (ks := 0) (as := [.inl ((am_up (am_up w.1 9 0 65 xs0) 9 0 66 1) 9 0 65)]) dX12_goesTo_42 wc_X12_weds wd_2113 wd_2115 wd_89 wd_122 ds_X12_weds (by decide) (by omega) (Nat.le_of_ble_eq_true rfl) (Nat.zero_le _) (Nat.zero_le _) hc_10 (by decide) rfl rfl h
theorem bX12_goesTo_79 {SC : Nat → Nat} {X : mh_X} {d : Nat} {Q : Option am_V → am_W → Prop} {bc bs : Nat} {w : am_W} {x1 : Int}
    (h : am_A (mh_G X) SC (d + 3) mX12_goesTo Q 45 [(0, .inr (.inr (some (9, 0)))), (1, .inl x1)] [] w bc bs) :
    am_A (mh_G X) SC (d + 3) mX12_goesTo Q 79 [(0, .inr (.inr (some (9, 0)))), (1, .inl x1)] [] w bc bs := by
  refine am_goto (tgt := 45) dX12_goesTo_79 (by decide) ?_
  exact h
-- MourningHouseModel.heirCap(III)I
theorem dX12_heirCap_0 : decode mX12_heirCap.2.1 0 = .ok (.iconst 4, 1) := by decide +kernel
theorem dX12_heirCap_1 : decode mX12_heirCap.2.1 1 = .ok (.istore 4, 2) := by decide +kernel
theorem dX12_heirCap_3 : decode mX12_heirCap.2.1 3 = .ok (.iconst 0, 1) := by decide +kernel
theorem dX12_heirCap_4 : decode mX12_heirCap.2.1 4 = .ok (.istore 5, 2) := by decide +kernel
theorem dX12_heirCap_6 : decode mX12_heirCap.2.1 6 = .ok (.iload 5, 2) := by decide +kernel
theorem dX12_heirCap_8 : decode mX12_heirCap.2.1 8 = .ok (.aload_n 0, 1) := by decide +kernel
theorem dX12_heirCap_9 : decode mX12_heirCap.2.1 9 = .ok (.getfield 447, 3) := by decide +kernel
theorem dX12_heirCap_12 : decode mX12_heirCap.2.1 12 = .ok (.if_icmp .ge 94, 3) := by decide +kernel
theorem dX12_heirCap_15 : decode mX12_heirCap.2.1 15 = .ok (.iload_n 1, 1) := by decide +kernel
theorem dX12_heirCap_16 : decode mX12_heirCap.2.1 16 = .ok (.iconst (-1), 1) := by decide +kernel
theorem dX12_heirCap_17 : decode mX12_heirCap.2.1 17 = .ok (.if_icmp .eq 89, 3) := by decide +kernel
theorem dX12_heirCap_20 : decode mX12_heirCap.2.1 20 = .ok (.aload_n 0, 1) := by decide +kernel
theorem dX12_heirCap_21 : decode mX12_heirCap.2.1 21 = .ok (.getfield 51, 3) := by decide +kernel
theorem dX12_heirCap_24 : decode mX12_heirCap.2.1 24 = .ok (.iload_n 1, 1) := by decide +kernel
theorem dX12_heirCap_25 : decode mX12_heirCap.2.1 25 = .ok (.iaload, 1) := by decide +kernel
theorem dX12_heirCap_26 : decode mX12_heirCap.2.1 26 = .ok (.ifCond .le 80, 3) := by decide +kernel
theorem dX12_heirCap_29 : decode mX12_heirCap.2.1 29 = .ok (.aload_n 0, 1) := by decide +kernel
theorem dX12_heirCap_30 : decode mX12_heirCap.2.1 30 = .ok (.aload_n 0, 1) := by decide +kernel
theorem dX12_heirCap_31 : decode mX12_heirCap.2.1 31 = .ok (.getfield 502, 3) := by decide +kernel
theorem dX12_heirCap_34 : decode mX12_heirCap.2.1 34 = .ok (.iload 5, 2) := by decide +kernel
theorem dX12_heirCap_36 : decode mX12_heirCap.2.1 36 = .ok (.invokevirtual 469, 3) := by decide +kernel
theorem dX12_heirCap_39 : decode mX12_heirCap.2.1 39 = .ok (.ifCond .eq 61, 3) := by decide +kernel
theorem dX12_heirCap_42 : decode mX12_heirCap.2.1 42 = .ok (.aload_n 0, 1) := by decide +kernel
theorem dX12_heirCap_43 : decode mX12_heirCap.2.1 43 = .ok (.iload 5, 2) := by decide +kernel
theorem dX12_heirCap_45 : decode mX12_heirCap.2.1 45 = .ok (.iload_n 3, 1) := by decide +kernel
theorem dX12_heirCap_46 : decode mX12_heirCap.2.1 46 = .ok (.invokevirtual 476, 3) := by decide +kernel
theorem dX12_heirCap_49 : decode mX12_heirCap.2.1 49 = .ok (.ifCond .eq 51, 3) := by decide +kernel
theorem dX12_heirCap_52 : decode mX12_heirCap.2.1 52 = .ok (.aload_n 0, 1) := by decide +kernel
theorem dX12_heirCap_53 : decode mX12_heirCap.2.1 53 = .ok (.getfield 161, 3) := by decide +kernel
theorem dX12_heirCap_56 : decode mX12_heirCap.2.1 56 = .ok (.iload 5, 2) := by decide +kernel
theorem dX12_heirCap_58 : decode mX12_heirCap.2.1 58 = .ok (.iaload, 1) := by decide +kernel
theorem dX12_heirCap_59 : decode mX12_heirCap.2.1 59 = .ok (.iload_n 2, 1) := by decide +kernel
theorem dX12_heirCap_60 : decode mX12_heirCap.2.1 60 = .ok (.if_icmp .gt 40, 3) := by decide +kernel
theorem dX12_heirCap_63 : decode mX12_heirCap.2.1 63 = .ok (.iload_n 2, 1) := by decide +kernel
theorem dX12_heirCap_64 : decode mX12_heirCap.2.1 64 = .ok (.aload_n 0, 1) := by decide +kernel
theorem dX12_heirCap_65 : decode mX12_heirCap.2.1 65 = .ok (.getfield 161, 3) := by decide +kernel
theorem dX12_heirCap_68 : decode mX12_heirCap.2.1 68 = .ok (.iload 5, 2) := by decide +kernel
theorem dX12_heirCap_70 : decode mX12_heirCap.2.1 70 = .ok (.iaload, 1) := by decide +kernel
theorem dX12_heirCap_71 : decode mX12_heirCap.2.1 71 = .ok (.isub, 1) := by decide +kernel
theorem dX12_heirCap_72 : decode mX12_heirCap.2.1 72 = .ok (.aload_n 0, 1) := by decide +kernel
theorem dX12_heirCap_73 : decode mX12_heirCap.2.1 73 = .ok (.getfield 51, 3) := by decide +kernel
theorem dX12_heirCap_76 : decode mX12_heirCap.2.1 76 = .ok (.iload_n 1, 1) := by decide +kernel
theorem dX12_heirCap_77 : decode mX12_heirCap.2.1 77 = .ok (.iaload, 1) := by decide +kernel
theorem dX12_heirCap_78 : decode mX12_heirCap.2.1 78 = .ok (.if_icmp .ge 22, 3) := by decide +kernel
theorem dX12_heirCap_81 : decode mX12_heirCap.2.1 81 = .ok (.aload_n 0, 1) := by decide +kernel
theorem dX12_heirCap_82 : decode mX12_heirCap.2.1 82 = .ok (.getfield 54, 3) := by decide +kernel
theorem dX12_heirCap_85 : decode mX12_heirCap.2.1 85 = .ok (.iload_n 1, 1) := by decide +kernel
theorem dX12_heirCap_86 : decode mX12_heirCap.2.1 86 = .ok (.iaload, 1) := by decide +kernel
theorem dX12_heirCap_87 : decode mX12_heirCap.2.1 87 = .ok (.iload 4, 2) := by decide +kernel
theorem dX12_heirCap_89 : decode mX12_heirCap.2.1 89 = .ok (.if_icmp .ge 11, 3) := by decide +kernel
theorem dX12_heirCap_92 : decode mX12_heirCap.2.1 92 = .ok (.aload_n 0, 1) := by decide +kernel
theorem dX12_heirCap_93 : decode mX12_heirCap.2.1 93 = .ok (.getfield 54, 3) := by decide +kernel
theorem dX12_heirCap_96 : decode mX12_heirCap.2.1 96 = .ok (.iload_n 1, 1) := by decide +kernel
theorem dX12_heirCap_97 : decode mX12_heirCap.2.1 97 = .ok (.iaload, 1) := by decide +kernel
theorem dX12_heirCap_98 : decode mX12_heirCap.2.1 98 = .ok (.istore 4, 2) := by decide +kernel
theorem dX12_heirCap_100 : decode mX12_heirCap.2.1 100 = .ok (.iinc 5 1, 3) := by decide +kernel
theorem dX12_heirCap_103 : decode mX12_heirCap.2.1 103 = .ok (.goto (-97), 3) := by decide +kernel
theorem dX12_heirCap_106 : decode mX12_heirCap.2.1 106 = .ok (.iload 4, 2) := by decide +kernel
theorem dX12_heirCap_108 : decode mX12_heirCap.2.1 108 = .ok (.ireturn, 1) := by decide +kernel
theorem bX12_heirCap_0 {SC : Nat → Nat} {X : mh_X} {d : Nat} {Q : Option am_V → am_W → Prop} {bc bs : Nat} {w : am_W} {x1 : Int} {x2 : Int} {x3 : Int}
    (h : am_A (mh_G X) SC (d + 2) mX12_heirCap Q 6 [(0, .inr (.inr (some (9, 0)))), (1, .inl x1), (2, .inl x2), (3, .inl x3), (4, .inl 4), (5, .inl 0)] [] w bc bs) :
    am_A (mh_G X) SC (d + 2) mX12_heirCap Q 0 [(0, .inr (.inr (some (9, 0)))), (1, .inl x1), (2, .inl x2), (3, .inl x3)] [] w bc bs := by
  refine am_iconst dX12_heirCap_0 (by unfold am_rg; omega) ?_
  refine am_istore (ls' := [(4, .inl 4), (0, .inr (.inr (some (9, 0)))), (1, .inl x1), (2, .inl x2), (3, .inl x3)]) dX12_heirCap_1 (by decide) rfl ?_
  refine am_iconst dX12_heirCap_3 (by unfold am_rg; omega) ?_
  refine am_istore (ls' := [(5, .inl 0), (4, .inl 4), (0, .inr (.inr (some (9, 0)))), (1, .inl x1), (2, .inl x2), (3, .inl x3)]) dX12_heirCap_4 (by decide) rfl ?_
  exact am_sub [2, 3, 4, 5, 1, 0] rfl h
theorem bX12_heirCap_6 {SC : Nat → Nat} {X : mh_X} {d : Nat} {Q : Option am_V → am_W → Prop} {bc bs : Nat} {w : am_W} {x1 : Int} {x2 : Int} {x3 : Int} {x4 : Int} {x5 : Int}
    (h : (((w.1 9 0 42) ≤ x5 → Q (some (.inl x4)) w) ∧ (¬ (w.1 9 0 42) ≤ x5 → ((x1 = (-1) → Q (some (.inl x4)) w) ∧ (¬ x1 = (-1) → (0 ≤ x1 ∧ (x1 < 7 ∧ (((w.1 88 0 x1.toNat) ≤ 0 → Q (some (.inl x4)) w) ∧ (¬ (w.1 88 0 x1.toNat) ≤ 0 → (0 ≤ x5 ∧ (x5 < 40 ∧ ((¬ ((w.1 98 0 x5.toNat) = (w.1 9 0 63) ∨ ((w.1 99 0 x5.toNat) = (w.1 9 0 63))) → am_A (mh_G X) SC (d + 2) mX12_heirCap Q 100 [(0, .inr (.inr (some (9, 0)))), (1, .inl x1), (2, .inl x2), (3, .inl x3), (4, .inl x4), (5, .inl x5)] [] w bc bs) ∧ (((w.1 98 0 x5.toNat) = (w.1 9 0 63) ∨ ((w.1 99 0 x5.toNat) = (w.1 9 0 63))) → ((¬ (¬ x3 < (w.1 101 0 x5.toNat)) → am_A (mh_G X) SC (d + 2) mX12_heirCap Q 100 [(0, .inr (.inr (some (9, 0)))), (1, .inl x1), (2, .inl x2), (3, .inl x3), (4, .inl x4), (5, .inl x5)] [] w bc bs) ∧ ((¬ x3 < (w.1 101 0 x5.toNat)) → ((x2 < (w.1 100 0 x5.toNat) → am_A (mh_G X) SC (d + 2) mX12_heirCap Q 100 [(0, .inr (.inr (some (9, 0)))), (1, .inl x1), (2, .inl x2), (3, .inl x3), (4, .inl x4), (5, .inl x5)] [] w bc bs) ∧ (¬ x2 < (w.1 100 0 x5.toNat) → (((w.1 88 0 x1.toNat) ≤ (am_w (x2 - (w.1 100 0 x5.toNat))) → am_A (mh_G X) SC (d + 2) mX12_heirCap Q 100 [(0, .inr (.inr (some (9, 0)))), (1, .inl x1), (2, .inl x2), (3, .inl x3), (4, .inl x4), (5, .inl x5)] [] w bc bs) ∧ (¬ (w.1 88 0 x1.toNat) ≤ (am_w (x2 - (w.1 100 0 x5.toNat))) → ((x4 ≤ (w.1 89 0 x1.toNat) → am_A (mh_G X) SC (d + 2) mX12_heirCap Q 100 [(0, .inr (.inr (some (9, 0)))), (1, .inl x1), (2, .inl x2), (3, .inl x3), (4, .inl x4), (5, .inl x5)] [] w bc bs) ∧ (¬ x4 ≤ (w.1 89 0 x1.toNat) → am_A (mh_G X) SC (d + 2) mX12_heirCap Q 100 [(0, .inr (.inr (some (9, 0)))), (1, .inl x1), (2, .inl x2), (3, .inl x3), (4, .inl (w.1 89 0 x1.toNat)), (5, .inl x5)] [] w bc bs))))))))))))))))))))) :
    am_A (mh_G X) SC (d + 2) mX12_heirCap Q 6 [(0, .inr (.inr (some (9, 0)))), (1, .inl x1), (2, .inl x2), (3, .inl x3), (4, .inl x4), (5, .inl x5)] [] w bc bs := by
  refine am_iload dX12_heirCap_6 (List.Mem.tail _ (List.Mem.tail _ (List.Mem.tail _ (List.Mem.tail _ (List.Mem.tail _ (List.Mem.head _)))))) ?_
  refine am_aload_n dX12_heirCap_8 (List.Mem.head _) ?_
  refine am_getf (f := 42) (v := .inl (w.1 9 0 42)) dX12_heirCap_9 hc_10 (by decide) wd_1591 (by decide) rfl rfl ?_
  refine am_icmpge (tgt := 106) dX12_heirCap_12 (by decide) (fun c1 => ?_) (fun c1 => ?_)
  · replace h := h.1 c1
    refine am_iload dX12_heirCap_106 (List.Mem.tail _ (List.Mem.tail _ (List.Mem.tail _ (List.Mem.tail _ (List.Mem.head _))))) ?_
    exact am_ret (r := some (.inl x4)) dX12_heirCap_108 (Or.inl rfl) rfl h
  · replace h := h.2 c1
    refine am_iload_n dX12_heirCap_15 (List.Mem.tail _ (List.Mem.head _)) ?_
    refine am_iconst dX12_heirCap_16 (by unfold am_rg; omega) ?_
    refine am_icmpeq (tgt := 106) dX12_heirCap_17 (by decide) (fun c2 => ?_) (fun c2 => ?_)
    · replace h := h.1 c2
      refine am_iload dX12_heirCap_106 (List.Mem.tail _ (List.Mem.tail _ (List.Mem.tail _ (List.Mem.tail _ (List.Mem.head _))))) ?_
      exact am_ret (r := some (.inl x4)) dX12_heirCap_108 (Or.inl rfl) rfl h
    · replace h := h.2 c2
      refine am_aload_n dX12_heirCap_20 (List.Mem.head _) ?_
      refine am_getf (f := 16) (v := .inr (.inr (some (88, 0)))) dX12_heirCap_21 hc_10 (by decide) wd_1565 (by decide) rfl rfl ?_
      refine am_iload_n dX12_heirCap_24 (List.Mem.tail _ (List.Mem.head _)) ?_
      have o3 := h.1
      replace h := h.2
      have o4 := h.1
      replace h := h.2
      refine am_iaload (v := (w.1 88 0 x1.toNat)) dX12_heirCap_25 (by decide) rfl o3 o4 rfl ?_
      refine am_ifle (tgt := 106) dX12_heirCap_26 (by decide) (fun c5 => ?_) (fun c5 => ?_)
      · replace h := h.1 c5
        refine am_iload dX12_heirCap_106 (List.Mem.tail _ (List.Mem.tail _ (List.Mem.tail _ (List.Mem.tail _ (List.Mem.head _))))) ?_
        exact am_ret (r := some (.inl x4)) dX12_heirCap_108 (Or.inl rfl) rfl h
      · replace h := h.2 c5
        refine am_aload_n dX12_heirCap_29 (List.Mem.head _) ?_
        refine am_aload_n dX12_heirCap_30 (List.Mem.head _) ?_
        refine am_getf (f := 63) (v := .inl (w.1 9 0 63)) dX12_heirCap_31 hc_10 (by decide) wd_1612 (by decide) rfl rfl ?_
        refine am_iload dX12_heirCap_34 (List.Mem.tail _ (List.Mem.tail _ (List.Mem.tail _ (List.Mem.tail _ (List.Mem.tail _ (List.Mem.head _)))))) ?_
        have o6 := h.1
        replace h := h.2
        have o7 := h.1
        replace h := h.2
        refine am_callv (d' := d + 1) (kc := 0) (ks := 0) (as := [.inl (w.1 9 0 63), .inl x5]) dX12_heirCap_36 wc_X12_isParent wd_2057 wd_2059 wd_78 wd_122 ds_X12_isParent (by decide) (by omega) (Nat.le_of_ble_eq_true rfl) (Nat.zero_le _) (Nat.zero_le _) hc_10 (by decide) rfl rfl (sX12_isParent (d := d + 0) (x1 := (w.1 9 0 63)) (x2 := x5) o6 o7 ?_)
        show am_A (mh_G X) SC (d + 2) mX12_heirCap Q 39 [(0, .inr (.inr (some (9, 0)))), (1, .inl x1), (2, .inl x2), (3, .inl x3), (4, .inl x4), (5, .inl x5)] [.inl (if ((w.1 98 0 x5.toNat) = (w.1 9 0 63) ∨ ((w.1 99 0 x5.toNat) = (w.1 9 0 63))) then 1 else 0)] w bc bs
        refine am_ifeq (tgt := 100) dX12_heirCap_39 (by decide) (fun c8 => ?_) (fun c8 => ?_)
        · replace c8 := am_beq1 c8
          replace h := h.1 c8
          exact h
        · replace c8 := am_beq2 c8
          replace h := h.2 c8
          refine am_aload_n dX12_heirCap_42 (List.Mem.head _) ?_
          refine am_iload dX12_heirCap_43 (List.Mem.tail _ (List.Mem.tail _ (List.Mem.tail _ (List.Mem.tail _ (List.Mem.tail _ (List.Mem.head _)))))) ?_
          refine am_iload_n dX12_heirCap_45 (List.Mem.tail _ (List.Mem.tail _ (List.Mem.tail _ (List.Mem.head _)))) ?_
          refine am_callv (d' := d + 1) (kc := 0) (ks := 0) (as := [.inl x5, .inl x3]) dX12_heirCap_46 wc_X12_isThere wd_2042 wd_2044 wd_75 wd_122 ds_X12_isThere (by decide) (by omega) (Nat.le_of_ble_eq_true rfl) (Nat.zero_le _) (Nat.zero_le _) hc_10 (by decide) rfl rfl (sX12_isThere (d := d + 0) (x1 := x5) (x2 := x3) o6 o7 ?_)
          show am_A (mh_G X) SC (d + 2) mX12_heirCap Q 49 [(0, .inr (.inr (some (9, 0)))), (1, .inl x1), (2, .inl x2), (3, .inl x3), (4, .inl x4), (5, .inl x5)] [.inl (if (¬ x3 < (w.1 101 0 x5.toNat)) then 1 else 0)] w bc bs
          refine am_ifeq (tgt := 100) dX12_heirCap_49 (by decide) (fun c9 => ?_) (fun c9 => ?_)
          · replace c9 := am_beq1 c9
            replace h := h.1 c9
            exact h
          · replace c9 := am_beq2 c9
            replace h := h.2 c9
            refine am_aload_n dX12_heirCap_52 (List.Mem.head _) ?_
            refine am_getf (f := 38) (v := .inr (.inr (some (100, 0)))) dX12_heirCap_53 hc_10 (by decide) wd_1587 (by decide) rfl rfl ?_
            refine am_iload dX12_heirCap_56 (List.Mem.tail _ (List.Mem.tail _ (List.Mem.tail _ (List.Mem.tail _ (List.Mem.tail _ (List.Mem.head _)))))) ?_
            refine am_iaload (v := (w.1 100 0 x5.toNat)) dX12_heirCap_58 (by decide) rfl o6 o7 rfl ?_
            refine am_iload_n dX12_heirCap_59 (List.Mem.tail _ (List.Mem.tail _ (List.Mem.head _))) ?_
            refine am_icmpgt (tgt := 100) dX12_heirCap_60 (by decide) (fun c10 => ?_) (fun c10 => ?_)
            · replace h := h.1 c10
              exact h
            · replace h := h.2 c10
              refine am_iload_n dX12_heirCap_63 (List.Mem.tail _ (List.Mem.tail _ (List.Mem.head _))) ?_
              refine am_aload_n dX12_heirCap_64 (List.Mem.head _) ?_
              refine am_getf (f := 38) (v := .inr (.inr (some (100, 0)))) dX12_heirCap_65 hc_10 (by decide) wd_1587 (by decide) rfl rfl ?_
              refine am_iload dX12_heirCap_68 (List.Mem.tail _ (List.Mem.tail _ (List.Mem.tail _ (List.Mem.tail _ (List.Mem.tail _ (List.Mem.head _)))))) ?_
              refine am_iaload (v := (w.1 100 0 x5.toNat)) dX12_heirCap_70 (by decide) rfl o6 o7 rfl ?_
              refine am_isub dX12_heirCap_71 ?_
              refine am_aload_n dX12_heirCap_72 (List.Mem.head _) ?_
              refine am_getf (f := 16) (v := .inr (.inr (some (88, 0)))) dX12_heirCap_73 hc_10 (by decide) wd_1565 (by decide) rfl rfl ?_
              refine am_iload_n dX12_heirCap_76 (List.Mem.tail _ (List.Mem.head _)) ?_
              refine am_iaload (v := (w.1 88 0 x1.toNat)) dX12_heirCap_77 (by decide) rfl o3 o4 rfl ?_
              refine am_icmpge (tgt := 100) dX12_heirCap_78 (by decide) (fun c11 => ?_) (fun c11 => ?_)
              · replace h := h.1 c11
                exact h
              · replace h := h.2 c11
                refine am_aload_n dX12_heirCap_81 (List.Mem.head _) ?_
                refine am_getf (f := 17) (v := .inr (.inr (some (89, 0)))) dX12_heirCap_82 hc_10 (by decide) wd_1566 (by decide) rfl rfl ?_
                refine am_iload_n dX12_heirCap_85 (List.Mem.tail _ (List.Mem.head _)) ?_
                refine am_iaload (v := (w.1 89 0 x1.toNat)) dX12_heirCap_86 (by decide) rfl o3 o4 rfl ?_
                refine am_iload dX12_heirCap_87 (List.Mem.tail _ (List.Mem.tail _ (List.Mem.tail _ (List.Mem.tail _ (List.Mem.head _))))) ?_
                refine am_icmpge (tgt := 100) dX12_heirCap_89 (by decide) (fun c12 => ?_) (fun c12 => ?_)
                · replace h := h.1 c12
                  exact h
                · replace h := h.2 c12
                  refine am_aload_n dX12_heirCap_92 (List.Mem.head _) ?_
                  refine am_getf (f := 17) (v := .inr (.inr (some (89, 0)))) dX12_heirCap_93 hc_10 (by decide) wd_1566 (by decide) rfl rfl ?_
                  refine am_iload_n dX12_heirCap_96 (List.Mem.tail _ (List.Mem.head _)) ?_
                  refine am_iaload (v := (w.1 89 0 x1.toNat)) dX12_heirCap_97 (by decide) rfl o3 o4 rfl ?_
                  refine am_istore (ls' := [(4, .inl (w.1 89 0 x1.toNat)), (0, .inr (.inr (some (9, 0)))), (1, .inl x1), (2, .inl x2), (3, .inl x3), (5, .inl x5)]) dX12_heirCap_98 (by decide) rfl ?_
                  exact am_sub [1, 2, 3, 4, 0, 5] rfl h
theorem bX12_heirCap_100 {SC : Nat → Nat} {X : mh_X} {d : Nat} {Q : Option am_V → am_W → Prop} {bc bs : Nat} {w : am_W} {x1 : Int} {x2 : Int} {x3 : Int} {x4 : Int} {x5 : Int}
    (h : am_A (mh_G X) SC (d + 2) mX12_heirCap Q 6 [(0, .inr (.inr (some (9, 0)))), (1, .inl x1), (2, .inl x2), (3, .inl x3), (4, .inl x4), (5, .inl (am_w (x5 + 1)))] [] w bc bs) :
    am_A (mh_G X) SC (d + 2) mX12_heirCap Q 100 [(0, .inr (.inr (some (9, 0)))), (1, .inl x1), (2, .inl x2), (3, .inl x3), (4, .inl x4), (5, .inl x5)] [] w bc bs := by
  refine am_iinc (ls' := [(5, .inl (am_w (x5 + 1))), (0, .inr (.inr (some (9, 0)))), (1, .inl x1), (2, .inl x2), (3, .inl x3), (4, .inl x4)]) dX12_heirCap_100 (List.Mem.tail _ (List.Mem.tail _ (List.Mem.tail _ (List.Mem.tail _ (List.Mem.tail _ (List.Mem.head _)))))) (by decide) rfl ?_
  refine am_goto (tgt := 6) dX12_heirCap_103 (by decide) ?_
  exact am_sub [1, 2, 3, 4, 5, 0] rfl h
-- MourningHouseModel.feastCap(II)I
theorem dX12_feastCap_0 : decode mX12_feastCap.2.1 0 = .ok (.iconst 4, 1) := by decide +kernel
theorem dX12_feastCap_1 : decode mX12_feastCap.2.1 1 = .ok (.istore_n 3, 1) := by decide +kernel
theorem dX12_feastCap_2 : decode mX12_feastCap.2.1 2 = .ok (.iload_n 2, 1) := by decide +kernel
theorem dX12_feastCap_3 : decode mX12_feastCap.2.1 3 = .ok (.invokestatic 313, 3) := by decide +kernel
theorem dX12_feastCap_6 : decode mX12_feastCap.2.1 6 = .ok (.sipush 10000, 3) := by decide +kernel
theorem dX12_feastCap_9 : decode mX12_feastCap.2.1 9 = .ok (.irem, 1) := by decide +kernel
theorem dX12_feastCap_10 : decode mX12_feastCap.2.1 10 = .ok (.istore 4, 2) := by decide +kernel
theorem dX12_feastCap_12 : decode mX12_feastCap.2.1 12 = .ok (.iconst 0, 1) := by decide +kernel
theorem dX12_feastCap_13 : decode mX12_feastCap.2.1 13 = .ok (.istore 5, 2) := by decide +kernel
theorem dX12_feastCap_15 : decode mX12_feastCap.2.1 15 = .ok (.iload_n 1, 1) := by decide +kernel
theorem dX12_feastCap_16 : decode mX12_feastCap.2.1 16 = .ok (.iconst (-1), 1) := by decide +kernel
theorem dX12_feastCap_17 : decode mX12_feastCap.2.1 17 = .ok (.if_icmp .eq 57, 3) := by decide +kernel
theorem dX12_feastCap_20 : decode mX12_feastCap.2.1 20 = .ok (.iload 5, 2) := by decide +kernel
theorem dX12_feastCap_22 : decode mX12_feastCap.2.1 22 = .ok (.aload_n 0, 1) := by decide +kernel
theorem dX12_feastCap_23 : decode mX12_feastCap.2.1 23 = .ok (.getfield 20, 3) := by decide +kernel
theorem dX12_feastCap_26 : decode mX12_feastCap.2.1 26 = .ok (.iload_n 1, 1) := by decide +kernel
theorem dX12_feastCap_27 : decode mX12_feastCap.2.1 27 = .ok (.iaload, 1) := by decide +kernel
theorem dX12_feastCap_28 : decode mX12_feastCap.2.1 28 = .ok (.if_icmp .ge 46, 3) := by decide +kernel
theorem dX12_feastCap_31 : decode mX12_feastCap.2.1 31 = .ok (.aload_n 0, 1) := by decide +kernel
theorem dX12_feastCap_32 : decode mX12_feastCap.2.1 32 = .ok (.getfield 45, 3) := by decide +kernel
theorem dX12_feastCap_35 : decode mX12_feastCap.2.1 35 = .ok (.iload_n 1, 1) := by decide +kernel
theorem dX12_feastCap_36 : decode mX12_feastCap.2.1 36 = .ok (.aaload, 1) := by decide +kernel
theorem dX12_feastCap_37 : decode mX12_feastCap.2.1 37 = .ok (.iload 5, 2) := by decide +kernel
theorem dX12_feastCap_39 : decode mX12_feastCap.2.1 39 = .ok (.iaload, 1) := by decide +kernel
theorem dX12_feastCap_40 : decode mX12_feastCap.2.1 40 = .ok (.iload 4, 2) := by decide +kernel
theorem dX12_feastCap_42 : decode mX12_feastCap.2.1 42 = .ok (.if_icmp .ne 26, 3) := by decide +kernel
theorem dX12_feastCap_45 : decode mX12_feastCap.2.1 45 = .ok (.aload_n 0, 1) := by decide +kernel
theorem dX12_feastCap_46 : decode mX12_feastCap.2.1 46 = .ok (.getfield 48, 3) := by decide +kernel
theorem dX12_feastCap_49 : decode mX12_feastCap.2.1 49 = .ok (.iload_n 1, 1) := by decide +kernel
theorem dX12_feastCap_50 : decode mX12_feastCap.2.1 50 = .ok (.aaload, 1) := by decide +kernel
theorem dX12_feastCap_51 : decode mX12_feastCap.2.1 51 = .ok (.iload 5, 2) := by decide +kernel
theorem dX12_feastCap_53 : decode mX12_feastCap.2.1 53 = .ok (.iaload, 1) := by decide +kernel
theorem dX12_feastCap_54 : decode mX12_feastCap.2.1 54 = .ok (.iload_n 3, 1) := by decide +kernel
theorem dX12_feastCap_55 : decode mX12_feastCap.2.1 55 = .ok (.if_icmp .ge 13, 3) := by decide +kernel
theorem dX12_feastCap_58 : decode mX12_feastCap.2.1 58 = .ok (.aload_n 0, 1) := by decide +kernel
theorem dX12_feastCap_59 : decode mX12_feastCap.2.1 59 = .ok (.getfield 48, 3) := by decide +kernel
theorem dX12_feastCap_62 : decode mX12_feastCap.2.1 62 = .ok (.iload_n 1, 1) := by decide +kernel
theorem dX12_feastCap_63 : decode mX12_feastCap.2.1 63 = .ok (.aaload, 1) := by decide +kernel
theorem dX12_feastCap_64 : decode mX12_feastCap.2.1 64 = .ok (.iload 5, 2) := by decide +kernel
theorem dX12_feastCap_66 : decode mX12_feastCap.2.1 66 = .ok (.iaload, 1) := by decide +kernel
theorem dX12_feastCap_67 : decode mX12_feastCap.2.1 67 = .ok (.istore_n 3, 1) := by decide +kernel
theorem dX12_feastCap_68 : decode mX12_feastCap.2.1 68 = .ok (.iinc 5 1, 3) := by decide +kernel
theorem dX12_feastCap_71 : decode mX12_feastCap.2.1 71 = .ok (.goto (-56), 3) := by decide +kernel
theorem dX12_feastCap_74 : decode mX12_feastCap.2.1 74 = .ok (.iload_n 3, 1) := by decide +kernel
theorem dX12_feastCap_75 : decode mX12_feastCap.2.1 75 = .ok (.ireturn, 1) := by decide +kernel
theorem bX12_feastCap_0 {SC : Nat → Nat} {X : mh_X} {d : Nat} {Q : Option am_V → am_W → Prop} {bc bs : Nat} {w : am_W} {x1 : Int} {x2 : Int}
    (h : am_M (mh_G X) SC (d + 6) 0 0 mX12_dateOf [.inl x2] w (fun r w1 => am_A (mh_G X) SC (d + 7) mX12_feastCap Q 6 [(3, .inl 4), (0, .inr (.inr (some (9, 0)))), (1, .inl x1), (2, .inl x2)] (r.toList ++ []) w1 bc bs)) :
    am_A (mh_G X) SC (d + 7) mX12_feastCap Q 0 [(0, .inr (.inr (some (9, 0)))), (1, .inl x1), (2, .inl x2)] [] w bc bs := by
  refine am_iconst dX12_feastCap_0 (by unfold am_rg; omega) ?_
  refine am_istore_n (ls' := [(3, .inl 4), (0, .inr (.inr (some (9, 0)))), (1, .inl x1), (2, .inl x2)]) dX12_feastCap_1 (by decide) rfl ?_
  refine am_iload_n dX12_feastCap_2 (List.Mem.tail _ (List.Mem.tail _ (List.Mem.tail _ (List.Mem.head _)))) ?_
  exact am_calls (d' := d + 6) (kc := 0) (ks := 0) (as := [.inl x2]) dX12_feastCap_3 wc_X12_dateOf wd_1862 wd_1863 wd_122 ds_X12_dateOf (by decide) (by omega) (Nat.le_of_ble_eq_true rfl) (Nat.zero_le _) (Nat.zero_le _) rfl h
theorem bX12_feastCap_6 {SC : Nat → Nat} {X : mh_X} {d : Nat} {Q : Option am_V → am_W → Prop} {bc bs : Nat} {w : am_W} {x3 : Int} {x1 : Int} {x2 : Int} {xs0 : Int}
    (h : am_A (mh_G X) SC (d + 7) mX12_feastCap Q 15 [(0, .inr (.inr (some (9, 0)))), (1, .inl x1), (3, .inl x3), (4, .inl (am_w (Int.tmod xs0 10000))), (5, .inl 0)] [] w bc bs) :
    am_A (mh_G X) SC (d + 7) mX12_feastCap Q 6 [(3, .inl x3), (0, .inr (.inr (some (9, 0)))), (1, .inl x1), (2, .inl x2)] [.inl xs0] w bc bs := by
  refine am_sipush dX12_feastCap_6 (by decide) (by unfold am_rg; omega) ?_
  refine am_irem dX12_feastCap_9 (by decide) ?_
  refine am_istore (ls' := [(4, .inl (am_w (Int.tmod xs0 10000))), (3, .inl x3), (0, .inr (.inr (some (9, 0)))), (1, .inl x1), (2, .inl x2)]) dX12_feastCap_10 (by decide) rfl ?_
  refine am_iconst dX12_feastCap_12 (by unfold am_rg; omega) ?_
  refine am_istore (ls' := [(5, .inl 0), (4, .inl (am_w (Int.tmod xs0 10000))), (3, .inl x3), (0, .inr (.inr (some (9, 0)))), (1, .inl x1), (2, .inl x2)]) dX12_feastCap_13 (by decide) rfl ?_
  exact am_sub [3, 4, 2, 1, 0] rfl h
theorem bX12_feastCap_15 {SC : Nat → Nat} {X : mh_X} {d : Nat} {Q : Option am_V → am_W → Prop} {bc bs : Nat} {w : am_W} {x1 : Int} {x3 : Int} {x4 : Int} {x5 : Int}
    (h : ((x1 = (-1) → Q (some (.inl x3)) w) ∧ (¬ x1 = (-1) → (0 ≤ x1 ∧ (x1 < 7 ∧ (((w.1 69 0 x1.toNat) ≤ x5 → Q (some (.inl x3)) w) ∧ (¬ (w.1 69 0 x1.toNat) ≤ x5 → (0 ≤ x5 ∧ (x5 < 8 ∧ ((¬ (w.1 85 x1.toNat x5.toNat) = x4 → am_A (mh_G X) SC (d + 7) mX12_feastCap Q 68 [(0, .inr (.inr (some (9, 0)))), (1, .inl x1), (3, .inl x3), (4, .inl x4), (5, .inl x5)] [] w bc bs) ∧ ((w.1 85 x1.toNat x5.toNat) = x4 → ((x3 ≤ (w.1 87 x1.toNat x5.toNat) → am_A (mh_G X) SC (d + 7) mX12_feastCap Q 68 [(0, .inr (.inr (some (9, 0)))), (1, .inl x1), (3, .inl x3), (4, .inl x4), (5, .inl x5)] [] w bc bs) ∧ (¬ x3 ≤ (w.1 87 x1.toNat x5.toNat) → am_A (mh_G X) SC (d + 7) mX12_feastCap Q 68 [(0, .inr (.inr (some (9, 0)))), (1, .inl x1), (3, .inl (w.1 87 x1.toNat x5.toNat)), (4, .inl x4), (5, .inl x5)] [] w bc bs))))))))))))) :
    am_A (mh_G X) SC (d + 7) mX12_feastCap Q 15 [(0, .inr (.inr (some (9, 0)))), (1, .inl x1), (3, .inl x3), (4, .inl x4), (5, .inl x5)] [] w bc bs := by
  refine am_iload_n dX12_feastCap_15 (List.Mem.tail _ (List.Mem.head _)) ?_
  refine am_iconst dX12_feastCap_16 (by unfold am_rg; omega) ?_
  refine am_icmpeq (tgt := 74) dX12_feastCap_17 (by decide) (fun c1 => ?_) (fun c1 => ?_)
  · replace h := h.1 c1
    refine am_iload_n dX12_feastCap_74 (List.Mem.tail _ (List.Mem.tail _ (List.Mem.head _))) ?_
    exact am_ret (r := some (.inl x3)) dX12_feastCap_75 (Or.inl rfl) rfl h
  · replace h := h.2 c1
    refine am_iload dX12_feastCap_20 (List.Mem.tail _ (List.Mem.tail _ (List.Mem.tail _ (List.Mem.tail _ (List.Mem.head _))))) ?_
    refine am_aload_n dX12_feastCap_22 (List.Mem.head _) ?_
    refine am_getf (f := 7) (v := .inr (.inr (some (69, 0)))) dX12_feastCap_23 hc_10 (by decide) wd_1556 (by decide) rfl rfl ?_
    refine am_iload_n dX12_feastCap_26 (List.Mem.tail _ (List.Mem.head _)) ?_
    have o2 := h.1
    replace h := h.2
    have o3 := h.1
    replace h := h.2
    refine am_iaload (v := (w.1 69 0 x1.toNat)) dX12_feastCap_27 (by decide) rfl o2 o3 rfl ?_
    refine am_icmpge (tgt := 74) dX12_feastCap_28 (by decide) (fun c4 => ?_) (fun c4 => ?_)
    · replace h := h.1 c4
      refine am_iload_n dX12_feastCap_74 (List.Mem.tail _ (List.Mem.tail _ (List.Mem.head _))) ?_
      exact am_ret (r := some (.inl x3)) dX12_feastCap_75 (Or.inl rfl) rfl h
    · replace h := h.2 c4
      refine am_aload_n dX12_feastCap_31 (List.Mem.head _) ?_
      refine am_getf (f := 14) (v := .inr (.inr (some (84, 0)))) dX12_feastCap_32 hc_10 (by decide) wd_1563 (by decide) rfl rfl ?_
      refine am_iload_n dX12_feastCap_35 (List.Mem.tail _ (List.Mem.head _)) ?_
      refine am_aaload (kd := 5) (r := some (85, x1.toNat)) dX12_feastCap_36 (by decide) rfl (by decide) (by decide) o2 o3 rfl ?_
      refine am_iload dX12_feastCap_37 (List.Mem.tail _ (List.Mem.tail _ (List.Mem.tail _ (List.Mem.tail _ (List.Mem.head _))))) ?_
      have o5 := h.1
      replace h := h.2
      have o6 := h.1
      replace h := h.2
      refine am_iaload (v := (w.1 85 x1.toNat x5.toNat)) dX12_feastCap_39 (by decide) rfl o5 o6 rfl ?_
      refine am_iload dX12_feastCap_40 (List.Mem.tail _ (List.Mem.tail _ (List.Mem.tail _ (List.Mem.head _)))) ?_
      refine am_icmpne (tgt := 68) dX12_feastCap_42 (by decide) (fun c7 => ?_) (fun c7 => ?_)
      · replace h := h.1 c7
        exact h
      · replace h := h.2 c7
        refine am_aload_n dX12_feastCap_45 (List.Mem.head _) ?_
        refine am_getf (f := 15) (v := .inr (.inr (some (86, 0)))) dX12_feastCap_46 hc_10 (by decide) wd_1564 (by decide) rfl rfl ?_
        refine am_iload_n dX12_feastCap_49 (List.Mem.tail _ (List.Mem.head _)) ?_
        refine am_aaload (kd := 5) (r := some (87, x1.toNat)) dX12_feastCap_50 (by decide) rfl (by decide) (by decide) o2 o3 rfl ?_
        refine am_iload dX12_feastCap_51 (List.Mem.tail _ (List.Mem.tail _ (List.Mem.tail _ (List.Mem.tail _ (List.Mem.head _))))) ?_
        refine am_iaload (v := (w.1 87 x1.toNat x5.toNat)) dX12_feastCap_53 (by decide) rfl o5 o6 rfl ?_
        refine am_iload_n dX12_feastCap_54 (List.Mem.tail _ (List.Mem.tail _ (List.Mem.head _))) ?_
        refine am_icmpge (tgt := 68) dX12_feastCap_55 (by decide) (fun c8 => ?_) (fun c8 => ?_)
        · replace h := h.1 c8
          exact h
        · replace h := h.2 c8
          refine am_aload_n dX12_feastCap_58 (List.Mem.head _) ?_
          refine am_getf (f := 15) (v := .inr (.inr (some (86, 0)))) dX12_feastCap_59 hc_10 (by decide) wd_1564 (by decide) rfl rfl ?_
          refine am_iload_n dX12_feastCap_62 (List.Mem.tail _ (List.Mem.head _)) ?_
          refine am_aaload (kd := 5) (r := some (87, x1.toNat)) dX12_feastCap_63 (by decide) rfl (by decide) (by decide) o2 o3 rfl ?_
          refine am_iload dX12_feastCap_64 (List.Mem.tail _ (List.Mem.tail _ (List.Mem.tail _ (List.Mem.tail _ (List.Mem.head _))))) ?_
          refine am_iaload (v := (w.1 87 x1.toNat x5.toNat)) dX12_feastCap_66 (by decide) rfl o5 o6 rfl ?_
          refine am_istore_n (ls' := [(3, .inl (w.1 87 x1.toNat x5.toNat)), (0, .inr (.inr (some (9, 0)))), (1, .inl x1), (4, .inl x4), (5, .inl x5)]) dX12_feastCap_67 (by decide) rfl ?_
          exact am_sub [1, 2, 0, 3, 4] rfl h
theorem bX12_feastCap_68 {SC : Nat → Nat} {X : mh_X} {d : Nat} {Q : Option am_V → am_W → Prop} {bc bs : Nat} {w : am_W} {x1 : Int} {x3 : Int} {x4 : Int} {x5 : Int}
    (h : am_A (mh_G X) SC (d + 7) mX12_feastCap Q 15 [(0, .inr (.inr (some (9, 0)))), (1, .inl x1), (3, .inl x3), (4, .inl x4), (5, .inl (am_w (x5 + 1)))] [] w bc bs) :
    am_A (mh_G X) SC (d + 7) mX12_feastCap Q 68 [(0, .inr (.inr (some (9, 0)))), (1, .inl x1), (3, .inl x3), (4, .inl x4), (5, .inl x5)] [] w bc bs := by
  refine am_iinc (ls' := [(5, .inl (am_w (x5 + 1))), (0, .inr (.inr (some (9, 0)))), (1, .inl x1), (3, .inl x3), (4, .inl x4)]) dX12_feastCap_68 (List.Mem.tail _ (List.Mem.tail _ (List.Mem.tail _ (List.Mem.tail _ (List.Mem.head _))))) (by decide) rfl ?_
  refine am_goto (tgt := 15) dX12_feastCap_71 (by decide) ?_
  exact am_sub [1, 2, 3, 4, 0] rfl h
-- MourningHouseModel.depthNow(I)I
theorem dX12_depthNow_0 : decode mX12_depthNow.2.1 0 = .ok (.aload_n 0, 1) := by decide +kernel
theorem dX12_depthNow_1 : decode mX12_depthNow.2.1 1 = .ok (.iload_n 1, 1) := by decide +kernel
theorem dX12_depthNow_2 : decode mX12_depthNow.2.1 2 = .ok (.aload_n 0, 1) := by decide +kernel
theorem dX12_depthNow_3 : decode mX12_depthNow.2.1 3 = .ok (.getfield 505, 3) := by decide +kernel
theorem dX12_depthNow_6 : decode mX12_depthNow.2.1 6 = .ok (.invokevirtual 487, 3) := by decide +kernel
theorem dX12_depthNow_9 : decode mX12_depthNow.2.1 9 = .ok (.istore_n 2, 1) := by decide +kernel
theorem dX12_depthNow_10 : decode mX12_depthNow.2.1 10 = .ok (.aload_n 0, 1) := by decide +kernel
theorem dX12_depthNow_11 : decode mX12_depthNow.2.1 11 = .ok (.iload_n 2, 1) := by decide +kernel
theorem dX12_depthNow_12 : decode mX12_depthNow.2.1 12 = .ok (.iload_n 1, 1) := by decide +kernel
theorem dX12_depthNow_13 : decode mX12_depthNow.2.1 13 = .ok (.invokevirtual 534, 3) := by decide +kernel
theorem dX12_depthNow_16 : decode mX12_depthNow.2.1 16 = .ok (.aload_n 0, 1) := by decide +kernel
theorem dX12_depthNow_17 : decode mX12_depthNow.2.1 17 = .ok (.iload_n 2, 1) := by decide +kernel
theorem dX12_depthNow_18 : decode mX12_depthNow.2.1 18 = .ok (.iload_n 1, 1) := by decide +kernel
theorem dX12_depthNow_19 : decode mX12_depthNow.2.1 19 = .ok (.aload_n 0, 1) := by decide +kernel
theorem dX12_depthNow_20 : decode mX12_depthNow.2.1 20 = .ok (.getfield 505, 3) := by decide +kernel
theorem dX12_depthNow_23 : decode mX12_depthNow.2.1 23 = .ok (.invokevirtual 537, 3) := by decide +kernel
theorem dX12_depthNow_26 : decode mX12_depthNow.2.1 26 = .ok (.invokestatic 540, 3) := by decide +kernel
theorem dX12_depthNow_29 : decode mX12_depthNow.2.1 29 = .ok (.istore_n 3, 1) := by decide +kernel
theorem dX12_depthNow_30 : decode mX12_depthNow.2.1 30 = .ok (.iconst 0, 1) := by decide +kernel
theorem dX12_depthNow_31 : decode mX12_depthNow.2.1 31 = .ok (.istore 4, 2) := by decide +kernel
theorem dX12_depthNow_33 : decode mX12_depthNow.2.1 33 = .ok (.iconst 0, 1) := by decide +kernel
theorem dX12_depthNow_34 : decode mX12_depthNow.2.1 34 = .ok (.istore 5, 2) := by decide +kernel
theorem dX12_depthNow_36 : decode mX12_depthNow.2.1 36 = .ok (.iload 5, 2) := by decide +kernel
theorem dX12_depthNow_38 : decode mX12_depthNow.2.1 38 = .ok (.aload_n 0, 1) := by decide +kernel
theorem dX12_depthNow_39 : decode mX12_depthNow.2.1 39 = .ok (.getfield 496, 3) := by decide +kernel
theorem dX12_depthNow_42 : decode mX12_depthNow.2.1 42 = .ok (.if_icmp .ge 73, 3) := by decide +kernel
theorem dX12_depthNow_45 : decode mX12_depthNow.2.1 45 = .ok (.aload_n 0, 1) := by decide +kernel
theorem dX12_depthNow_46 : decode mX12_depthNow.2.1 46 = .ok (.getfield 31, 3) := by decide +kernel
theorem dX12_depthNow_49 : decode mX12_depthNow.2.1 49 = .ok (.aload_n 0, 1) := by decide +kernel
theorem dX12_depthNow_50 : decode mX12_depthNow.2.1 50 = .ok (.getfield 216, 3) := by decide +kernel
theorem dX12_depthNow_53 : decode mX12_depthNow.2.1 53 = .ok (.iload 5, 2) := by decide +kernel
theorem dX12_depthNow_55 : decode mX12_depthNow.2.1 55 = .ok (.iaload, 1) := by decide +kernel
theorem dX12_depthNow_56 : decode mX12_depthNow.2.1 56 = .ok (.aaload, 1) := by decide +kernel
theorem dX12_depthNow_57 : decode mX12_depthNow.2.1 57 = .ok (.aload_n 0, 1) := by decide +kernel
theorem dX12_depthNow_58 : decode mX12_depthNow.2.1 58 = .ok (.getfield 213, 3) := by decide +kernel
theorem dX12_depthNow_61 : decode mX12_depthNow.2.1 61 = .ok (.iload 5, 2) := by decide +kernel
theorem dX12_depthNow_63 : decode mX12_depthNow.2.1 63 = .ok (.iaload, 1) := by decide +kernel
theorem dX12_depthNow_64 : decode mX12_depthNow.2.1 64 = .ok (.iaload, 1) := by decide +kernel
theorem dX12_depthNow_65 : decode mX12_depthNow.2.1 65 = .ok (.iconst 4, 1) := by decide +kernel
theorem dX12_depthNow_66 : decode mX12_depthNow.2.1 66 = .ok (.iand, 1) := by decide +kernel
theorem dX12_depthNow_67 : decode mX12_depthNow.2.1 67 = .ok (.ifCond .eq 7, 3) := by decide +kernel
theorem dX12_depthNow_70 : decode mX12_depthNow.2.1 70 = .ok (.iconst 1, 1) := by decide +kernel
theorem dX12_depthNow_71 : decode mX12_depthNow.2.1 71 = .ok (.goto 4, 3) := by decide +kernel
theorem dX12_depthNow_74 : decode mX12_depthNow.2.1 74 = .ok (.iconst 0, 1) := by decide +kernel
theorem dX12_depthNow_75 : decode mX12_depthNow.2.1 75 = .ok (.istore 6, 2) := by decide +kernel
theorem dX12_depthNow_77 : decode mX12_depthNow.2.1 77 = .ok (.aload_n 0, 1) := by decide +kernel
theorem dX12_depthNow_78 : decode mX12_depthNow.2.1 78 = .ok (.iload 5, 2) := by decide +kernel
theorem dX12_depthNow_80 : decode mX12_depthNow.2.1 80 = .ok (.iload_n 1, 1) := by decide +kernel
theorem dX12_depthNow_81 : decode mX12_depthNow.2.1 81 = .ok (.invokevirtual 519, 3) := by decide +kernel
theorem dX12_depthNow_84 : decode mX12_depthNow.2.1 84 = .ok (.istore 7, 2) := by decide +kernel
theorem dX12_depthNow_86 : decode mX12_depthNow.2.1 86 = .ok (.iload 4, 2) := by decide +kernel
theorem dX12_depthNow_88 : decode mX12_depthNow.2.1 88 = .ok (.iload 6, 2) := by decide +kernel
theorem dX12_depthNow_90 : decode mX12_depthNow.2.1 90 = .ok (.ifCond .eq 8, 3) := by decide +kernel
theorem dX12_depthNow_93 : decode mX12_depthNow.2.1 93 = .ok (.iload 7, 2) := by decide +kernel
theorem dX12_depthNow_95 : decode mX12_depthNow.2.1 95 = .ok (.goto 9, 3) := by decide +kernel
theorem dX12_depthNow_98 : decode mX12_depthNow.2.1 98 = .ok (.iload 7, 2) := by decide +kernel
theorem dX12_depthNow_100 : decode mX12_depthNow.2.1 100 = .ok (.iload_n 3, 1) := by decide +kernel
theorem dX12_depthNow_101 : decode mX12_depthNow.2.1 101 = .ok (.invokestatic 540, 3) := by decide +kernel
theorem dX12_depthNow_104 : decode mX12_depthNow.2.1 104 = .ok (.invokestatic 545, 3) := by decide +kernel
theorem dX12_depthNow_107 : decode mX12_depthNow.2.1 107 = .ok (.istore 4, 2) := by decide +kernel
theorem dX12_depthNow_109 : decode mX12_depthNow.2.1 109 = .ok (.iinc 5 1, 3) := by decide +kernel
theorem dX12_depthNow_112 : decode mX12_depthNow.2.1 112 = .ok (.goto (-76), 3) := by decide +kernel
theorem dX12_depthNow_115 : decode mX12_depthNow.2.1 115 = .ok (.iconst 0, 1) := by decide +kernel
theorem dX12_depthNow_116 : decode mX12_depthNow.2.1 116 = .ok (.istore 5, 2) := by decide +kernel
theorem dX12_depthNow_118 : decode mX12_depthNow.2.1 118 = .ok (.iload 5, 2) := by decide +kernel
theorem dX12_depthNow_120 : decode mX12_depthNow.2.1 120 = .ok (.aload_n 0, 1) := by decide +kernel
theorem dX12_depthNow_121 : decode mX12_depthNow.2.1 121 = .ok (.getfield 459, 3) := by decide +kernel
theorem dX12_depthNow_124 : decode mX12_depthNow.2.1 124 = .ok (.if_icmp .ge 67, 3) := by decide +kernel
theorem dX12_depthNow_127 : decode mX12_depthNow.2.1 127 = .ok (.aload_n 0, 1) := by decide +kernel
theorem dX12_depthNow_128 : decode mX12_depthNow.2.1 128 = .ok (.getfield 194, 3) := by decide +kernel
theorem dX12_depthNow_131 : decode mX12_depthNow.2.1 131 = .ok (.iload 5, 2) := by decide +kernel
theorem dX12_depthNow_133 : decode mX12_depthNow.2.1 133 = .ok (.iaload, 1) := by decide +kernel
theorem dX12_depthNow_134 : decode mX12_depthNow.2.1 134 = .ok (.aload_n 0, 1) := by decide +kernel
theorem dX12_depthNow_135 : decode mX12_depthNow.2.1 135 = .ok (.getfield 505, 3) := by decide +kernel
theorem dX12_depthNow_138 : decode mX12_depthNow.2.1 138 = .ok (.if_icmp .gt 47, 3) := by decide +kernel
theorem dX12_depthNow_141 : decode mX12_depthNow.2.1 141 = .ok (.iload_n 1, 1) := by decide +kernel
theorem dX12_depthNow_142 : decode mX12_depthNow.2.1 142 = .ok (.aload_n 0, 1) := by decide +kernel
theorem dX12_depthNow_143 : decode mX12_depthNow.2.1 143 = .ok (.getfield 185, 3) := by decide +kernel
theorem dX12_depthNow_146 : decode mX12_depthNow.2.1 146 = .ok (.iload 5, 2) := by decide +kernel
theorem dX12_depthNow_148 : decode mX12_depthNow.2.1 148 = .ok (.iaload, 1) := by decide +kernel
theorem dX12_depthNow_149 : decode mX12_depthNow.2.1 149 = .ok (.if_icmp .lt 36, 3) := by decide +kernel
theorem dX12_depthNow_152 : decode mX12_depthNow.2.1 152 = .ok (.iload_n 1, 1) := by decide +kernel
theorem dX12_depthNow_153 : decode mX12_depthNow.2.1 153 = .ok (.aload_n 0, 1) := by decide +kernel
theorem dX12_depthNow_154 : decode mX12_depthNow.2.1 154 = .ok (.getfield 185, 3) := by decide +kernel
theorem dX12_depthNow_157 : decode mX12_depthNow.2.1 157 = .ok (.iload 5, 2) := by decide +kernel
theorem dX12_depthNow_159 : decode mX12_depthNow.2.1 159 = .ok (.iaload, 1) := by decide +kernel
theorem dX12_depthNow_160 : decode mX12_depthNow.2.1 160 = .ok (.isub, 1) := by decide +kernel
theorem dX12_depthNow_161 : decode mX12_depthNow.2.1 161 = .ok (.aload_n 0, 1) := by decide +kernel
theorem dX12_depthNow_162 : decode mX12_depthNow.2.1 162 = .ok (.getfield 188, 3) := by decide +kernel
theorem dX12_depthNow_165 : decode mX12_depthNow.2.1 165 = .ok (.iload 5, 2) := by decide +kernel
theorem dX12_depthNow_167 : decode mX12_depthNow.2.1 167 = .ok (.iaload, 1) := by decide +kernel
theorem dX12_depthNow_168 : decode mX12_depthNow.2.1 168 = .ok (.if_icmp .ge 17, 3) := by decide +kernel
theorem dX12_depthNow_171 : decode mX12_depthNow.2.1 171 = .ok (.iload 4, 2) := by decide +kernel
theorem dX12_depthNow_173 : decode mX12_depthNow.2.1 173 = .ok (.aload_n 0, 1) := by decide +kernel
theorem dX12_depthNow_174 : decode mX12_depthNow.2.1 174 = .ok (.getfield 191, 3) := by decide +kernel
theorem dX12_depthNow_177 : decode mX12_depthNow.2.1 177 = .ok (.iload 5, 2) := by decide +kernel
theorem dX12_depthNow_179 : decode mX12_depthNow.2.1 179 = .ok (.iaload, 1) := by decide +kernel
theorem dX12_depthNow_180 : decode mX12_depthNow.2.1 180 = .ok (.invokestatic 545, 3) := by decide +kernel
theorem dX12_depthNow_183 : decode mX12_depthNow.2.1 183 = .ok (.istore 4, 2) := by decide +kernel
theorem dX12_depthNow_185 : decode mX12_depthNow.2.1 185 = .ok (.iinc 5 1, 3) := by decide +kernel
theorem dX12_depthNow_188 : decode mX12_depthNow.2.1 188 = .ok (.goto (-70), 3) := by decide +kernel
theorem dX12_depthNow_191 : decode mX12_depthNow.2.1 191 = .ok (.iload_n 2, 1) := by decide +kernel
theorem dX12_depthNow_192 : decode mX12_depthNow.2.1 192 = .ok (.iconst (-1), 1) := by decide +kernel
theorem dX12_depthNow_193 : decode mX12_depthNow.2.1 193 = .ok (.if_icmp .eq 50, 3) := by decide +kernel
theorem dX12_depthNow_196 : decode mX12_depthNow.2.1 196 = .ok (.aload_n 0, 1) := by decide +kernel
theorem dX12_depthNow_197 : decode mX12_depthNow.2.1 197 = .ok (.getfield 57, 3) := by decide +kernel
theorem dX12_depthNow_200 : decode mX12_depthNow.2.1 200 = .ok (.iload_n 2, 1) := by decide +kernel
theorem dX12_depthNow_201 : decode mX12_depthNow.2.1 201 = .ok (.iaload, 1) := by decide +kernel
theorem dX12_depthNow_202 : decode mX12_depthNow.2.1 202 = .ok (.ifCond .le 41, 3) := by decide +kernel
theorem dX12_depthNow_205 : decode mX12_depthNow.2.1 205 = .ok (.aload_n 0, 1) := by decide +kernel
theorem dX12_depthNow_206 : decode mX12_depthNow.2.1 206 = .ok (.getfield 161, 3) := by decide +kernel
theorem dX12_depthNow_209 : decode mX12_depthNow.2.1 209 = .ok (.aload_n 0, 1) := by decide +kernel
theorem dX12_depthNow_210 : decode mX12_depthNow.2.1 210 = .ok (.getfield 502, 3) := by decide +kernel
theorem dX12_depthNow_213 : decode mX12_depthNow.2.1 213 = .ok (.iaload, 1) := by decide +kernel
theorem dX12_depthNow_214 : decode mX12_depthNow.2.1 214 = .ok (.bipush 12, 2) := by decide +kernel
theorem dX12_depthNow_216 : decode mX12_depthNow.2.1 216 = .ok (.aload_n 0, 1) := by decide +kernel
theorem dX12_depthNow_217 : decode mX12_depthNow.2.1 217 = .ok (.getfield 57, 3) := by decide +kernel
theorem dX12_depthNow_220 : decode mX12_depthNow.2.1 220 = .ok (.iload_n 2, 1) := by decide +kernel
theorem dX12_depthNow_221 : decode mX12_depthNow.2.1 221 = .ok (.iaload, 1) := by decide +kernel
theorem dX12_depthNow_222 : decode mX12_depthNow.2.1 222 = .ok (.imul, 1) := by decide +kernel
theorem dX12_depthNow_223 : decode mX12_depthNow.2.1 223 = .ok (.invokestatic 326, 3) := by decide +kernel
theorem dX12_depthNow_226 : decode mX12_depthNow.2.1 226 = .ok (.iload_n 1, 1) := by decide +kernel
theorem dX12_depthNow_227 : decode mX12_depthNow.2.1 227 = .ok (.if_icmp .le 16, 3) := by decide +kernel
theorem dX12_depthNow_230 : decode mX12_depthNow.2.1 230 = .ok (.iload 4, 2) := by decide +kernel
theorem dX12_depthNow_232 : decode mX12_depthNow.2.1 232 = .ok (.aload_n 0, 1) := by decide +kernel
theorem dX12_depthNow_233 : decode mX12_depthNow.2.1 233 = .ok (.getfield 60, 3) := by decide +kernel
theorem dX12_depthNow_236 : decode mX12_depthNow.2.1 236 = .ok (.iload_n 2, 1) := by decide +kernel
theorem dX12_depthNow_237 : decode mX12_depthNow.2.1 237 = .ok (.iaload, 1) := by decide +kernel
theorem dX12_depthNow_238 : decode mX12_depthNow.2.1 238 = .ok (.invokestatic 540, 3) := by decide +kernel
theorem dX12_depthNow_241 : decode mX12_depthNow.2.1 241 = .ok (.istore 4, 2) := by decide +kernel
theorem dX12_depthNow_243 : decode mX12_depthNow.2.1 243 = .ok (.iload 4, 2) := by decide +kernel
theorem dX12_depthNow_245 : decode mX12_depthNow.2.1 245 = .ok (.ireturn, 1) := by decide +kernel
theorem bX12_depthNow_0 {SC : Nat → Nat} {X : mh_X} {d : Nat} {Q : Option am_V → am_W → Prop} {bc bs : Nat} {w : am_W} {x1 : Int}
    (h : am_M (mh_G X) SC (d + 7) 0 0 mX12_lawOf [.inr (.inr (some (9, 0))), .inl x1, .inl (w.1 9 0 64)] w (fun r w1 => am_A (mh_G X) SC (d + 8) mX12_depthNow Q 9 [(0, .inr (.inr (some (9, 0)))), (1, .inl x1)] (r.toList ++ []) w1 bc bs)) :
    am_A (mh_G X) SC (d + 8) mX12_depthNow Q 0 [(0, .inr (.inr (some (9, 0)))), (1, .inl x1)] [] w bc bs := by
  refine am_aload_n dX12_depthNow_0 (List.Mem.head _) ?_
  refine am_iload_n dX12_depthNow_1 (List.Mem.tail _ (List.Mem.head _)) ?_
  refine am_aload_n dX12_depthNow_2 (List.Mem.head _) ?_
  refine am_getf (f := 64) (v := .inl (w.1 9 0 64)) dX12_depthNow_3 hc_10 (by decide) wd_1613 (by decide) rfl rfl ?_
  exact am_callv (d' := d + 7) (kc := 0) (ks := 0) (as := [.inl x1, .inl (w.1 9 0 64)]) dX12_depthNow_6 wc_X12_lawOf wd_2077 wd_2079 wd_82 wd_122 ds_X12_lawOf (by decide) (by omega) (Nat.le_of_ble_eq_true rfl) (Nat.zero_le _) (Nat.zero_le _) hc_10 (by decide) rfl rfl h
theorem bX12_depthNow_9 {SC : Nat → Nat} {X : mh_X} {d : Nat} {Q : Option am_V → am_W → Prop} {bc bs : Nat} {w : am_W} {x1 : Int} {xs0 : Int}
    (h : am_M (mh_G X) SC (d + 7) 0 0 mX12_feastCap [.inr (.inr (some (9, 0))), .inl xs0, .inl x1] w (fun r w1 => am_A (mh_G X) SC (d + 8) mX12_depthNow Q 16 [(2, .inl xs0), (0, .inr (.inr (some (9, 0)))), (1, .inl x1)] (r.toList ++ []) w1 bc bs)) :
    am_A (mh_G X) SC (d + 8) mX12_depthNow Q 9 [(0, .inr (.inr (some (9, 0)))), (1, .inl x1)] [.inl xs0] w bc bs := by
  refine am_istore_n (ls' := [(2, .inl xs0), (0, .inr (.inr (some (9, 0)))), (1, .inl x1)]) dX12_depthNow_9 (by decide) rfl ?_
  refine am_aload_n dX12_depthNow_10 (List.Mem.tail _ (List.Mem.head _)) ?_
  refine am_iload_n dX12_depthNow_11 (List.Mem.head _) ?_
  refine am_iload_n dX12_depthNow_12 (List.Mem.tail _ (List.Mem.tail _ (List.Mem.head _))) ?_
  exact am_callv (d' := d + 7) (kc := 0) (ks := 0) (as := [.inl xs0, .inl x1]) dX12_depthNow_13 wc_X12_feastCap wd_2129 wd_2131 wd_93 wd_122 ds_X12_feastCap (by decide) (by omega) (Nat.le_of_ble_eq_true rfl) (Nat.zero_le _) (Nat.zero_le _) hc_10 (by decide) rfl rfl h
theorem bX12_depthNow_16 {SC : Nat → Nat} {X : mh_X} {d : Nat} {Q : Option am_V → am_W → Prop} {bc bs : Nat} {w : am_W} {x2 : Int} {x1 : Int} {xs0 : Int}
    (h : am_M (mh_G X) SC (d + 7) 0 0 mX12_heirCap [.inr (.inr (some (9, 0))), .inl x2, .inl x1, .inl (w.1 9 0 64)] w (fun r w1 => am_A (mh_G X) SC (d + 8) mX12_depthNow Q 26 [(2, .inl x2), (0, .inr (.inr (some (9, 0)))), (1, .inl x1)] (r.toList ++ [.inl xs0]) w1 bc bs)) :
    am_A (mh_G X) SC (d + 8) mX12_depthNow Q 16 [(2, .inl x2), (0, .inr (.inr (some (9, 0)))), (1, .inl x1)] [.inl xs0] w bc bs := by
  refine am_aload_n dX12_depthNow_16 (List.Mem.tail _ (List.Mem.head _)) ?_
  refine am_iload_n dX12_depthNow_17 (List.Mem.head _) ?_
  refine am_iload_n dX12_depthNow_18 (List.Mem.tail _ (List.Mem.tail _ (List.Mem.head _))) ?_
  refine am_aload_n dX12_depthNow_19 (List.Mem.tail _ (List.Mem.head _)) ?_
  refine am_getf (f := 64) (v := .inl (w.1 9 0 64)) dX12_depthNow_20 hc_10 (by decide) wd_1613 (by decide) rfl rfl ?_
  exact am_callv (d' := d + 7) (kc := 0) (ks := 0) (as := [.inl x2, .inl x1, .inl (w.1 9 0 64)]) dX12_depthNow_23 wc_X12_heirCap wd_2133 wd_2135 wd_94 wd_122 ds_X12_heirCap (by decide) (by omega) (Nat.le_of_ble_eq_true rfl) (Nat.zero_le _) (Nat.zero_le _) hc_10 (by decide) rfl rfl h
theorem bX12_depthNow_26 {SC : Nat → Nat} {X : mh_X} {d : Nat} {Q : Option am_V → am_W → Prop} {bc bs : Nat} {w : am_W} {x2 : Int} {x1 : Int} {xs0 : Int} {xs1 : Int}
    (h : am_A (mh_G X) SC (d + 8) mX12_depthNow Q 36 [(0, .inr (.inr (some (9, 0)))), (1, .inl x1), (2, .inl x2), (3, .inl (min xs1 xs0)), (4, .inl 0), (5, .inl 0)] [] w bc bs) :
    am_A (mh_G X) SC (d + 8) mX12_depthNow Q 26 [(2, .inl x2), (0, .inr (.inr (some (9, 0)))), (1, .inl x1)] [.inl xs0, .inl xs1] w bc bs := by
  refine am_mmin dX12_depthNow_26 wd_2137 (by omega) (Nat.le_of_ble_eq_true rfl) ?_
  refine am_istore_n (ls' := [(3, .inl (min xs1 xs0)), (2, .inl x2), (0, .inr (.inr (some (9, 0)))), (1, .inl x1)]) dX12_depthNow_29 (by decide) rfl ?_
  refine am_iconst dX12_depthNow_30 (by unfold am_rg; omega) ?_
  refine am_istore (ls' := [(4, .inl 0), (3, .inl (min xs1 xs0)), (2, .inl x2), (0, .inr (.inr (some (9, 0)))), (1, .inl x1)]) dX12_depthNow_31 (by decide) rfl ?_
  refine am_iconst dX12_depthNow_33 (by unfold am_rg; omega) ?_
  refine am_istore (ls' := [(5, .inl 0), (4, .inl 0), (3, .inl (min xs1 xs0)), (2, .inl x2), (0, .inr (.inr (some (9, 0)))), (1, .inl x1)]) dX12_depthNow_34 (by decide) rfl ?_
  exact am_sub [4, 5, 3, 2, 1, 0] rfl h
theorem bX12_depthNow_36 {SC : Nat → Nat} {X : mh_X} {d : Nat} {Q : Option am_V → am_W → Prop} {bc bs : Nat} {w : am_W} {x1 : Int} {x2 : Int} {x3 : Int} {x4 : Int} {x5 : Int}
    (h : (((w.1 9 0 62) ≤ x5 → am_A (mh_G X) SC (d + 8) mX12_depthNow Q 118 [(0, .inr (.inr (some (9, 0)))), (1, .inl x1), (2, .inl x2), (4, .inl x4), (5, .inl 0)] [] w bc bs) ∧ (¬ (w.1 9 0 62) ≤ x5 → (0 ≤ x5 ∧ (x5 < 40 ∧ (0 ≤ (w.1 118 0 x5.toNat) ∧ ((w.1 118 0 x5.toNat) < 7 ∧ (0 ≤ (w.1 117 0 x5.toNat) ∧ ((w.1 117 0 x5.toNat) < 30 ∧ (((am_and (w.1 75 (w.1 118 0 x5.toNat).toNat (w.1 117 0 x5.toNat).toNat) 4) = 0 → am_A (mh_G X) SC (d + 8) mX12_depthNow Q 75 [(0, .inr (.inr (some (9, 0)))), (1, .inl x1), (2, .inl x2), (3, .inl x3), (4, .inl x4), (5, .inl x5)] [.inl 0] w bc bs) ∧ (¬ (am_and (w.1 75 (w.1 118 0 x5.toNat).toNat (w.1 117 0 x5.toNat).toNat) 4) = 0 → am_A (mh_G X) SC (d + 8) mX12_depthNow Q 75 [(0, .inr (.inr (some (9, 0)))), (1, .inl x1), (2, .inl x2), (3, .inl x3), (4, .inl x4), (5, .inl x5)] [.inl 1] w bc bs))))))))))) :
    am_A (mh_G X) SC (d + 8) mX12_depthNow Q 36 [(0, .inr (.inr (some (9, 0)))), (1, .inl x1), (2, .inl x2), (3, .inl x3), (4, .inl x4), (5, .inl x5)] [] w bc bs := by
  refine am_iload dX12_depthNow_36 (List.Mem.tail _ (List.Mem.tail _ (List.Mem.tail _ (List.Mem.tail _ (List.Mem.tail _ (List.Mem.head _)))))) ?_
  refine am_aload_n dX12_depthNow_38 (List.Mem.head _) ?_
  refine am_getf (f := 62) (v := .inl (w.1 9 0 62)) dX12_depthNow_39 hc_10 (by decide) wd_1611 (by decide) rfl rfl ?_
  refine am_icmpge (tgt := 115) dX12_depthNow_42 (by decide) (fun c1 => ?_) (fun c1 => ?_)
  · replace h := h.1 c1
    refine am_iconst dX12_depthNow_115 (by unfold am_rg; omega) ?_
    refine am_istore (ls' := [(5, .inl 0), (0, .inr (.inr (some (9, 0)))), (1, .inl x1), (2, .inl x2), (3, .inl x3), (4, .inl x4)]) dX12_depthNow_116 (by decide) rfl ?_
    exact am_sub [1, 2, 3, 5, 0] rfl h
  · replace h := h.2 c1
    refine am_aload_n dX12_depthNow_45 (List.Mem.head _) ?_
    refine am_getf (f := 10) (v := .inr (.inr (some (74, 0)))) dX12_depthNow_46 hc_10 (by decide) wd_1559 (by decide) rfl rfl ?_
    refine am_aload_n dX12_depthNow_49 (List.Mem.head _) ?_
    refine am_getf (f := 59) (v := .inr (.inr (some (118, 0)))) dX12_depthNow_50 hc_10 (by decide) wd_1608 (by decide) rfl rfl ?_
    refine am_iload dX12_depthNow_53 (List.Mem.tail _ (List.Mem.tail _ (List.Mem.tail _ (List.Mem.tail _ (List.Mem.tail _ (List.Mem.head _)))))) ?_
    have o2 := h.1
    replace h := h.2
    have o3 := h.1
    replace h := h.2
    refine am_iaload (v := (w.1 118 0 x5.toNat)) dX12_depthNow_55 (by decide) rfl o2 o3 rfl ?_
    have o4 := h.1
    replace h := h.2
    have o5 := h.1
    replace h := h.2
    refine am_aaload (kd := 5) (r := some (75, (w.1 118 0 x5.toNat).toNat)) dX12_depthNow_56 (by decide) rfl (by decide) (by decide) o4 o5 rfl ?_
    refine am_aload_n dX12_depthNow_57 (List.Mem.head _) ?_
    refine am_getf (f := 58) (v := .inr (.inr (some (117, 0)))) dX12_depthNow_58 hc_10 (by decide) wd_1607 (by decide) rfl rfl ?_
    refine am_iload dX12_depthNow_61 (List.Mem.tail _ (List.Mem.tail _ (List.Mem.tail _ (List.Mem.tail _ (List.Mem.tail _ (List.Mem.head _)))))) ?_
    refine am_iaload (v := (w.1 117 0 x5.toNat)) dX12_depthNow_63 (by decide) rfl o2 o3 rfl ?_
    have o6 := h.1
    replace h := h.2
    have o7 := h.1
    replace h := h.2
    refine am_iaload (v := (w.1 75 (w.1 118 0 x5.toNat).toNat (w.1 117 0 x5.toNat).toNat)) dX12_depthNow_64 (by decide) rfl o6 o7 rfl ?_
    refine am_iconst dX12_depthNow_65 (by unfold am_rg; omega) ?_
    refine am_iand dX12_depthNow_66 ?_
    refine am_ifeq (tgt := 74) dX12_depthNow_67 (by decide) (fun c8 => ?_) (fun c8 => ?_)
    · replace h := h.1 c8
      refine am_iconst dX12_depthNow_74 (by unfold am_rg; omega) ?_
      exact h
    · replace h := h.2 c8
      refine am_iconst dX12_depthNow_70 (by unfold am_rg; omega) ?_
      refine am_goto (tgt := 75) dX12_depthNow_71 (by decide) ?_
      exact h
theorem bX12_depthNow_118 {SC : Nat → Nat} {X : mh_X} {d : Nat} {Q : Option am_V → am_W → Prop} {bc bs : Nat} {w : am_W} {x1 : Int} {x2 : Int} {x4 : Int} {x5 : Int}
    (h : (((w.1 9 0 52) ≤ x5 → ((x2 = (-1) → Q (some (.inl x4)) w) ∧ (¬ x2 = (-1) → (0 ≤ x2 ∧ (x2 < 7 ∧ (((w.1 90 0 x2.toNat) ≤ 0 → Q (some (.inl x4)) w) ∧ (¬ (w.1 90 0 x2.toNat) ≤ 0 → (0 ≤ (w.1 9 0 63) ∧ ((w.1 9 0 63) < 40 ∧ am_M (mh_G X) SC (d + 7) 0 0 mX12_behind [.inl (w.1 100 0 (w.1 9 0 63).toNat), .inl (am_w (12 * (w.1 90 0 x2.toNat)))] w (fun r w1 => am_A (mh_G X) SC (d + 8) mX12_depthNow Q 226 [(0, .inr (.inr (some (9, 0)))), (1, .inl x1), (2, .inl x2), (4, .inl x4), (5, .inl x5)] (r.toList ++ []) w1 bc bs)))))))))) ∧ (¬ (w.1 9 0 52) ≤ x5 → (0 ≤ x5 ∧ (x5 < 10 ∧ (((w.1 9 0 64) < (w.1 111 0 x5.toNat) → am_A (mh_G X) SC (d + 8) mX12_depthNow Q 185 [(0, .inr (.inr (some (9, 0)))), (1, .inl x1), (2, .inl x2), (4, .inl x4), (5, .inl x5)] [] w bc bs) ∧ (¬ (w.1 9 0 64) < (w.1 111 0 x5.toNat) → ((x1 < (w.1 108 0 x5.toNat) → am_A (mh_G X) SC (d + 8) mX12_depthNow Q 185 [(0, .inr (.inr (some (9, 0)))), (1, .inl x1), (2, .inl x2), (4, .inl x4), (5, .inl x5)] [] w bc bs) ∧ (¬ x1 < (w.1 108 0 x5.toNat) → (((w.1 109 0 x5.toNat) ≤ (am_w (x1 - (w.1 108 0 x5.toNat))) → am_A (mh_G X) SC (d + 8) mX12_depthNow Q 185 [(0, .inr (.inr (some (9, 0)))), (1, .inl x1), (2, .inl x2), (4, .inl x4), (5, .inl x5)] [] w bc bs) ∧ (¬ (w.1 109 0 x5.toNat) ≤ (am_w (x1 - (w.1 108 0 x5.toNat))) → am_A (mh_G X) SC (d + 8) mX12_depthNow Q 185 [(0, .inr (.inr (some (9, 0)))), (1, .inl x1), (2, .inl x2), (4, .inl (max x4 (w.1 110 0 x5.toNat))), (5, .inl x5)] [] w bc bs))))))))))) :
    am_A (mh_G X) SC (d + 8) mX12_depthNow Q 118 [(0, .inr (.inr (some (9, 0)))), (1, .inl x1), (2, .inl x2), (4, .inl x4), (5, .inl x5)] [] w bc bs := by
  refine am_iload dX12_depthNow_118 (List.Mem.tail _ (List.Mem.tail _ (List.Mem.tail _ (List.Mem.tail _ (List.Mem.head _))))) ?_
  refine am_aload_n dX12_depthNow_120 (List.Mem.head _) ?_
  refine am_getf (f := 52) (v := .inl (w.1 9 0 52)) dX12_depthNow_121 hc_10 (by decide) wd_1601 (by decide) rfl rfl ?_
  refine am_icmpge (tgt := 191) dX12_depthNow_124 (by decide) (fun c1 => ?_) (fun c1 => ?_)
  · replace h := h.1 c1
    refine am_iload_n dX12_depthNow_191 (List.Mem.tail _ (List.Mem.tail _ (List.Mem.head _))) ?_
    refine am_iconst dX12_depthNow_192 (by unfold am_rg; omega) ?_
    refine am_icmpeq (tgt := 243) dX12_depthNow_193 (by decide) (fun c2 => ?_) (fun c2 => ?_)
    · replace h := h.1 c2
      refine am_iload dX12_depthNow_243 (List.Mem.tail _ (List.Mem.tail _ (List.Mem.tail _ (List.Mem.head _)))) ?_
      exact am_ret (r := some (.inl x4)) dX12_depthNow_245 (Or.inl rfl) rfl h
    · replace h := h.2 c2
      refine am_aload_n dX12_depthNow_196 (List.Mem.head _) ?_
      refine am_getf (f := 18) (v := .inr (.inr (some (90, 0)))) dX12_depthNow_197 hc_10 (by decide) wd_1567 (by decide) rfl rfl ?_
      refine am_iload_n dX12_depthNow_200 (List.Mem.tail _ (List.Mem.tail _ (List.Mem.head _))) ?_
      have o3 := h.1
      replace h := h.2
      have o4 := h.1
      replace h := h.2
      refine am_iaload (v := (w.1 90 0 x2.toNat)) dX12_depthNow_201 (by decide) rfl o3 o4 rfl ?_
      refine am_ifle (tgt := 243) dX12_depthNow_202 (by decide) (fun c5 => ?_) (fun c5 => ?_)
      · replace h := h.1 c5
        refine am_iload dX12_depthNow_243 (List.Mem.tail _ (List.Mem.tail _ (List.Mem.tail _ (List.Mem.head _)))) ?_
        exact am_ret (r := some (.inl x4)) dX12_depthNow_245 (Or.inl rfl) rfl h
      · replace h := h.2 c5
        refine am_aload_n dX12_depthNow_205 (List.Mem.head _) ?_
        refine am_getf (f := 38) (v := .inr (.inr (some (100, 0)))) dX12_depthNow_206 hc_10 (by decide) wd_1587 (by decide) rfl rfl ?_
        refine am_aload_n dX12_depthNow_209 (List.Mem.head _) ?_
        refine am_getf (f := 63) (v := .inl (w.1 9 0 63)) dX12_depthNow_210 hc_10 (by decide) wd_1612 (by decide) rfl rfl ?_
        have o6 := h.1
        replace h := h.2
        have o7 := h.1
        replace h := h.2
        refine am_iaload (v := (w.1 100 0 (w.1 9 0 63).toNat)) dX12_depthNow_213 (by decide) rfl o6 o7 rfl ?_
        refine am_bipush dX12_depthNow_214 (by decide) (by unfold am_rg; omega) ?_
        refine am_aload_n dX12_depthNow_216 (List.Mem.head _) ?_
        refine am_getf (f := 18) (v := .inr (.inr (some (90, 0)))) dX12_depthNow_217 hc_10 (by decide) wd_1567 (by decide) rfl rfl ?_
        refine am_iload_n dX12_depthNow_220 (List.Mem.tail _ (List.Mem.tail _ (List.Mem.head _))) ?_
        refine am_iaload (v := (w.1 90 0 x2.toNat)) dX12_depthNow_221 (by decide) rfl o3 o4 rfl ?_
        refine am_imul dX12_depthNow_222 ?_
        exact am_calls (d' := d + 7) (kc := 0) (ks := 0) (as := [.inl (w.1 100 0 (w.1 9 0 63).toNat), .inl (am_w (12 * (w.1 90 0 x2.toNat)))]) dX12_depthNow_223 wc_X12_behind wd_1892 wd_1893 wd_122 ds_X12_behind (by decide) (by omega) (Nat.le_of_ble_eq_true rfl) (Nat.zero_le _) (Nat.zero_le _) rfl h
  · replace h := h.2 c1
    refine am_aload_n dX12_depthNow_127 (List.Mem.head _) ?_
    refine am_getf (f := 51) (v := .inr (.inr (some (111, 0)))) dX12_depthNow_128 hc_10 (by decide) wd_1600 (by decide) rfl rfl ?_
    refine am_iload dX12_depthNow_131 (List.Mem.tail _ (List.Mem.tail _ (List.Mem.tail _ (List.Mem.tail _ (List.Mem.head _))))) ?_
    have o8 := h.1
    replace h := h.2
    have o9 := h.1
    replace h := h.2
    refine am_iaload (v := (w.1 111 0 x5.toNat)) dX12_depthNow_133 (by decide) rfl o8 o9 rfl ?_
    refine am_aload_n dX12_depthNow_134 (List.Mem.head _) ?_
    refine am_getf (f := 64) (v := .inl (w.1 9 0 64)) dX12_depthNow_135 hc_10 (by decide) wd_1613 (by decide) rfl rfl ?_
    refine am_icmpgt (tgt := 185) dX12_depthNow_138 (by decide) (fun c10 => ?_) (fun c10 => ?_)
    · replace h := h.1 c10
      exact h
    · replace h := h.2 c10
      refine am_iload_n dX12_depthNow_141 (List.Mem.tail _ (List.Mem.head _)) ?_
      refine am_aload_n dX12_depthNow_142 (List.Mem.head _) ?_
      refine am_getf (f := 48) (v := .inr (.inr (some (108, 0)))) dX12_depthNow_143 hc_10 (by decide) wd_1597 (by decide) rfl rfl ?_
      refine am_iload dX12_depthNow_146 (List.Mem.tail _ (List.Mem.tail _ (List.Mem.tail _ (List.Mem.tail _ (List.Mem.head _))))) ?_
      refine am_iaload (v := (w.1 108 0 x5.toNat)) dX12_depthNow_148 (by decide) rfl o8 o9 rfl ?_
      refine am_icmplt (tgt := 185) dX12_depthNow_149 (by decide) (fun c11 => ?_) (fun c11 => ?_)
      · replace h := h.1 c11
        exact h
      · replace h := h.2 c11
        refine am_iload_n dX12_depthNow_152 (List.Mem.tail _ (List.Mem.head _)) ?_
        refine am_aload_n dX12_depthNow_153 (List.Mem.head _) ?_
        refine am_getf (f := 48) (v := .inr (.inr (some (108, 0)))) dX12_depthNow_154 hc_10 (by decide) wd_1597 (by decide) rfl rfl ?_
        refine am_iload dX12_depthNow_157 (List.Mem.tail _ (List.Mem.tail _ (List.Mem.tail _ (List.Mem.tail _ (List.Mem.head _))))) ?_
        refine am_iaload (v := (w.1 108 0 x5.toNat)) dX12_depthNow_159 (by decide) rfl o8 o9 rfl ?_
        refine am_isub dX12_depthNow_160 ?_
        refine am_aload_n dX12_depthNow_161 (List.Mem.head _) ?_
        refine am_getf (f := 49) (v := .inr (.inr (some (109, 0)))) dX12_depthNow_162 hc_10 (by decide) wd_1598 (by decide) rfl rfl ?_
        refine am_iload dX12_depthNow_165 (List.Mem.tail _ (List.Mem.tail _ (List.Mem.tail _ (List.Mem.tail _ (List.Mem.head _))))) ?_
        refine am_iaload (v := (w.1 109 0 x5.toNat)) dX12_depthNow_167 (by decide) rfl o8 o9 rfl ?_
        refine am_icmpge (tgt := 185) dX12_depthNow_168 (by decide) (fun c12 => ?_) (fun c12 => ?_)
        · replace h := h.1 c12
          exact h
        · replace h := h.2 c12
          refine am_iload dX12_depthNow_171 (List.Mem.tail _ (List.Mem.tail _ (List.Mem.tail _ (List.Mem.head _)))) ?_
          refine am_aload_n dX12_depthNow_173 (List.Mem.head _) ?_
          refine am_getf (f := 50) (v := .inr (.inr (some (110, 0)))) dX12_depthNow_174 hc_10 (by decide) wd_1599 (by decide) rfl rfl ?_
          refine am_iload dX12_depthNow_177 (List.Mem.tail _ (List.Mem.tail _ (List.Mem.tail _ (List.Mem.tail _ (List.Mem.head _))))) ?_
          refine am_iaload (v := (w.1 110 0 x5.toNat)) dX12_depthNow_179 (by decide) rfl o8 o9 rfl ?_
          refine am_mmax dX12_depthNow_180 wd_2138 (by omega) (Nat.le_of_ble_eq_true rfl) ?_
          refine am_istore (ls' := [(4, .inl (max x4 (w.1 110 0 x5.toNat))), (0, .inr (.inr (some (9, 0)))), (1, .inl x1), (2, .inl x2), (5, .inl x5)]) dX12_depthNow_183 (by decide) rfl ?_
          exact am_sub [1, 2, 3, 0, 4] rfl h
theorem bX12_depthNow_75 {SC : Nat → Nat} {X : mh_X} {d : Nat} {Q : Option am_V → am_W → Prop} {bc bs : Nat} {w : am_W} {x1 : Int} {x2 : Int} {x3 : Int} {x4 : Int} {x5 : Int} {xs0 : Int}
    (h : am_M (mh_G X) SC (d + 7) 0 0 mX12_depthOf [.inr (.inr (some (9, 0))), .inl x5, .inl x1] w (fun r w1 => am_A (mh_G X) SC (d + 8) mX12_depthNow Q 84 [(6, .inl xs0), (0, .inr (.inr (some (9, 0)))), (1, .inl x1), (2, .inl x2), (3, .inl x3), (4, .inl x4), (5, .inl x5)] (r.toList ++ []) w1 bc bs)) :
    am_A (mh_G X) SC (d + 8) mX12_depthNow Q 75 [(0, .inr (.inr (some (9, 0)))), (1, .inl x1), (2, .inl x2), (3, .inl x3), (4, .inl x4), (5, .inl x5)] [.inl xs0] w bc bs := by
  refine am_istore (ls' := [(6, .inl xs0), (0, .inr (.inr (some (9, 0)))), (1, .inl x1), (2, .inl x2), (3, .inl x3), (4, .inl x4), (5, .inl x5)]) dX12_depthNow_75 (by decide) rfl ?_
  refine am_aload_n dX12_depthNow_77 (List.Mem.tail _ (List.Mem.head _)) ?_
  refine am_iload dX12_depthNow_78 (List.Mem.tail _ (List.Mem.tail _ (List.Mem.tail _ (List.Mem.tail _ (List.Mem.tail _ (List.Mem.tail _ (List.Mem.head _))))))) ?_
  refine am_iload_n dX12_depthNow_80 (List.Mem.tail _ (List.Mem.tail _ (List.Mem.head _))) ?_
  exact am_callv (d' := d + 7) (kc := 0) (ks := 0) (as := [.inl x5, .inl x1]) dX12_depthNow_81 wc_X12_depthOf wd_2117 wd_2119 wd_90 wd_122 ds_X12_depthOf (by decide) (by omega) (Nat.le_of_ble_eq_true rfl) (Nat.zero_le _) (Nat.zero_le _) hc_10 (by decide) rfl rfl h
theorem bX12_depthNow_226 {SC : Nat → Nat} {X : mh_X} {d : Nat} {Q : Option am_V → am_W → Prop} {bc bs : Nat} {w : am_W} {x1 : Int} {x2 : Int} {x4 : Int} {x5 : Int} {xs0 : Int}
    (h : ((xs0 ≤ x1 → Q (some (.inl x4)) w) ∧ (¬ xs0 ≤ x1 → (0 ≤ x2 ∧ (x2 < 7 ∧ Q (some (.inl (min x4 (w.1 91 0 x2.toNat)))) w))))) :
    am_A (mh_G X) SC (d + 8) mX12_depthNow Q 226 [(0, .inr (.inr (some (9, 0)))), (1, .inl x1), (2, .inl x2), (4, .inl x4), (5, .inl x5)] [.inl xs0] w bc bs := by
  refine am_iload_n dX12_depthNow_226 (List.Mem.tail _ (List.Mem.head _)) ?_
  refine am_icmple (tgt := 243) dX12_depthNow_227 (by decide) (fun c1 => ?_) (fun c1 => ?_)
  · replace h := h.1 c1
    refine am_iload dX12_depthNow_243 (List.Mem.tail _ (List.Mem.tail _ (List.Mem.tail _ (List.Mem.head _)))) ?_
    exact am_ret (r := some (.inl x4)) dX12_depthNow_245 (Or.inl rfl) rfl h
  · replace h := h.2 c1
    refine am_iload dX12_depthNow_230 (List.Mem.tail _ (List.Mem.tail _ (List.Mem.tail _ (List.Mem.head _)))) ?_
    refine am_aload_n dX12_depthNow_232 (List.Mem.head _) ?_
    refine am_getf (f := 19) (v := .inr (.inr (some (91, 0)))) dX12_depthNow_233 hc_10 (by decide) wd_1568 (by decide) rfl rfl ?_
    refine am_iload_n dX12_depthNow_236 (List.Mem.tail _ (List.Mem.tail _ (List.Mem.head _))) ?_
    have o2 := h.1
    replace h := h.2
    have o3 := h.1
    replace h := h.2
    refine am_iaload (v := (w.1 91 0 x2.toNat)) dX12_depthNow_237 (by decide) rfl o2 o3 rfl ?_
    refine am_mmin dX12_depthNow_238 wd_2137 (by omega) (Nat.le_of_ble_eq_true rfl) ?_
    refine am_istore (ls' := [(4, .inl (min x4 (w.1 91 0 x2.toNat))), (0, .inr (.inr (some (9, 0)))), (1, .inl x1), (2, .inl x2), (5, .inl x5)]) dX12_depthNow_241 (by decide) rfl ?_
    refine am_iload dX12_depthNow_243 (List.Mem.head _) ?_
    exact am_ret (r := some (.inl (min x4 (w.1 91 0 x2.toNat)))) dX12_depthNow_245 (Or.inl rfl) rfl h
theorem bX12_depthNow_185 {SC : Nat → Nat} {X : mh_X} {d : Nat} {Q : Option am_V → am_W → Prop} {bc bs : Nat} {w : am_W} {x1 : Int} {x2 : Int} {x4 : Int} {x5 : Int}
    (h : am_A (mh_G X) SC (d + 8) mX12_depthNow Q 118 [(0, .inr (.inr (some (9, 0)))), (1, .inl x1), (2, .inl x2), (4, .inl x4), (5, .inl (am_w (x5 + 1)))] [] w bc bs) :
    am_A (mh_G X) SC (d + 8) mX12_depthNow Q 185 [(0, .inr (.inr (some (9, 0)))), (1, .inl x1), (2, .inl x2), (4, .inl x4), (5, .inl x5)] [] w bc bs := by
  refine am_iinc (ls' := [(5, .inl (am_w (x5 + 1))), (0, .inr (.inr (some (9, 0)))), (1, .inl x1), (2, .inl x2), (4, .inl x4)]) dX12_depthNow_185 (List.Mem.tail _ (List.Mem.tail _ (List.Mem.tail _ (List.Mem.tail _ (List.Mem.head _))))) (by decide) rfl ?_
  refine am_goto (tgt := 118) dX12_depthNow_188 (by decide) ?_
  exact am_sub [1, 2, 3, 4, 0] rfl h
theorem bX12_depthNow_84 {SC : Nat → Nat} {X : mh_X} {d : Nat} {Q : Option am_V → am_W → Prop} {bc bs : Nat} {w : am_W} {x6 : Int} {x1 : Int} {x2 : Int} {x3 : Int} {x4 : Int} {x5 : Int} {xs0 : Int}
    (h : ((x6 = 0 → am_A (mh_G X) SC (d + 8) mX12_depthNow Q 104 [(0, .inr (.inr (some (9, 0)))), (1, .inl x1), (2, .inl x2), (3, .inl x3), (5, .inl x5)] [.inl (min xs0 x3), .inl x4] w bc bs) ∧ (¬ x6 = 0 → am_A (mh_G X) SC (d + 8) mX12_depthNow Q 104 [(0, .inr (.inr (some (9, 0)))), (1, .inl x1), (2, .inl x2), (3, .inl x3), (5, .inl x5)] [.inl xs0, .inl x4] w bc bs))) :
    am_A (mh_G X) SC (d + 8) mX12_depthNow Q 84 [(6, .inl x6), (0, .inr (.inr (some (9, 0)))), (1, .inl x1), (2, .inl x2), (3, .inl x3), (4, .inl x4), (5, .inl x5)] [.inl xs0] w bc bs := by
  refine am_istore (ls' := [(7, .inl xs0), (6, .inl x6), (0, .inr (.inr (some (9, 0)))), (1, .inl x1), (2, .inl x2), (3, .inl x3), (4, .inl x4), (5, .inl x5)]) dX12_depthNow_84 (by decide) rfl ?_
  refine am_iload dX12_depthNow_86 (List.Mem.tail _ (List.Mem.tail _ (List.Mem.tail _ (List.Mem.tail _ (List.Mem.tail _ (List.Mem.tail _ (List.Mem.head _))))))) ?_
  refine am_iload dX12_depthNow_88 (List.Mem.tail _ (List.Mem.head _)) ?_
  refine am_ifeq (tgt := 98) dX12_depthNow_90 (by decide) (fun c1 => ?_) (fun c1 => ?_)
  · replace h := h.1 c1
    refine am_iload dX12_depthNow_98 (List.Mem.head _) ?_
    refine am_iload_n dX12_depthNow_100 (List.Mem.tail _ (List.Mem.tail _ (List.Mem.tail _ (List.Mem.tail _ (List.Mem.tail _ (List.Mem.head _)))))) ?_
    refine am_mmin dX12_depthNow_101 wd_2137 (by omega) (Nat.le_of_ble_eq_true rfl) ?_
    exact am_sub [2, 3, 4, 5, 7] rfl h
  · replace h := h.2 c1
    refine am_iload dX12_depthNow_93 (List.Mem.head _) ?_
    refine am_goto (tgt := 104) dX12_depthNow_95 (by decide) ?_
    exact am_sub [2, 3, 4, 5, 7] rfl h
theorem bX12_depthNow_104 {SC : Nat → Nat} {X : mh_X} {d : Nat} {Q : Option am_V → am_W → Prop} {bc bs : Nat} {w : am_W} {x1 : Int} {x2 : Int} {x3 : Int} {x5 : Int} {xs0 : Int} {xs1 : Int}
    (h : am_A (mh_G X) SC (d + 8) mX12_depthNow Q 36 [(0, .inr (.inr (some (9, 0)))), (1, .inl x1), (2, .inl x2), (3, .inl x3), (4, .inl (max xs1 xs0)), (5, .inl (am_w (x5 + 1)))] [] w bc bs) :
    am_A (mh_G X) SC (d + 8) mX12_depthNow Q 104 [(0, .inr (.inr (some (9, 0)))), (1, .inl x1), (2, .inl x2), (3, .inl x3), (5, .inl x5)] [.inl xs0, .inl xs1] w bc bs := by
  refine am_mmax dX12_depthNow_104 wd_2138 (by omega) (Nat.le_of_ble_eq_true rfl) ?_
  refine am_istore (ls' := [(4, .inl (max xs1 xs0)), (0, .inr (.inr (some (9, 0)))), (1, .inl x1), (2, .inl x2), (3, .inl x3), (5, .inl x5)]) dX12_depthNow_107 (by decide) rfl ?_
  refine am_iinc (ls' := [(5, .inl (am_w (x5 + 1))), (4, .inl (max xs1 xs0)), (0, .inr (.inr (some (9, 0)))), (1, .inl x1), (2, .inl x2), (3, .inl x3)]) dX12_depthNow_109 (List.Mem.tail _ (List.Mem.tail _ (List.Mem.tail _ (List.Mem.tail _ (List.Mem.tail _ (List.Mem.head _)))))) (by decide) rfl ?_
  refine am_goto (tgt := 36) dX12_depthNow_112 (by decide) ?_
  exact am_sub [2, 3, 4, 5, 1, 0] rfl h
-- MourningHouseModel.isAlive(III)Z
theorem dX12_isAlive_0 : decode mX12_isAlive.2.1 0 = .ok (.aload_n 0, 1) := by decide +kernel
theorem dX12_isAlive_1 : decode mX12_isAlive.2.1 1 = .ok (.getfield 167, 3) := by decide +kernel
theorem dX12_isAlive_4 : decode mX12_isAlive.2.1 4 = .ok (.iload_n 1, 1) := by decide +kernel
theorem dX12_isAlive_5 : decode mX12_isAlive.2.1 5 = .ok (.iaload, 1) := by decide +kernel
theorem dX12_isAlive_6 : decode mX12_isAlive.2.1 6 = .ok (.ldc_w 325, 3) := by decide +kernel
theorem dX12_isAlive_9 : decode mX12_isAlive.2.1 9 = .ok (.if_icmp .eq 27, 3) := by decide +kernel
theorem dX12_isAlive_12 : decode mX12_isAlive.2.1 12 = .ok (.aload_n 0, 1) := by decide +kernel
theorem dX12_isAlive_13 : decode mX12_isAlive.2.1 13 = .ok (.getfield 170, 3) := by decide +kernel
theorem dX12_isAlive_16 : decode mX12_isAlive.2.1 16 = .ok (.iload_n 1, 1) := by decide +kernel
theorem dX12_isAlive_17 : decode mX12_isAlive.2.1 17 = .ok (.iaload, 1) := by decide +kernel
theorem dX12_isAlive_18 : decode mX12_isAlive.2.1 18 = .ok (.iload_n 3, 1) := by decide +kernel
theorem dX12_isAlive_19 : decode mX12_isAlive.2.1 19 = .ok (.if_icmp .gt 17, 3) := by decide +kernel
theorem dX12_isAlive_22 : decode mX12_isAlive.2.1 22 = .ok (.iload_n 2, 1) := by decide +kernel
theorem dX12_isAlive_23 : decode mX12_isAlive.2.1 23 = .ok (.aload_n 0, 1) := by decide +kernel
theorem dX12_isAlive_24 : decode mX12_isAlive.2.1 24 = .ok (.getfield 167, 3) := by decide +kernel
theorem dX12_isAlive_27 : decode mX12_isAlive.2.1 27 = .ok (.iload_n 1, 1) := by decide +kernel
theorem dX12_isAlive_28 : decode mX12_isAlive.2.1 28 = .ok (.iaload, 1) := by decide +kernel
theorem dX12_isAlive_29 : decode mX12_isAlive.2.1 29 = .ok (.if_icmp .le 7, 3) := by decide +kernel
theorem dX12_isAlive_32 : decode mX12_isAlive.2.1 32 = .ok (.iconst 1, 1) := by decide +kernel
theorem dX12_isAlive_33 : decode mX12_isAlive.2.1 33 = .ok (.goto 4, 3) := by decide +kernel
theorem dX12_isAlive_36 : decode mX12_isAlive.2.1 36 = .ok (.iconst 0, 1) := by decide +kernel
theorem dX12_isAlive_37 : decode mX12_isAlive.2.1 37 = .ok (.istore 4, 2) := by decide +kernel
theorem dX12_isAlive_39 : decode mX12_isAlive.2.1 39 = .ok (.aload_n 0, 1) := by decide +kernel
theorem dX12_isAlive_40 : decode mX12_isAlive.2.1 40 = .ok (.iload_n 1, 1) := by decide +kernel
theorem dX12_isAlive_41 : decode mX12_isAlive.2.1 41 = .ok (.iload_n 3, 1) := by decide +kernel
theorem dX12_isAlive_42 : decode mX12_isAlive.2.1 42 = .ok (.invokevirtual 476, 3) := by decide +kernel
theorem dX12_isAlive_45 : decode mX12_isAlive.2.1 45 = .ok (.ifCond .eq 22, 3) := by decide +kernel
theorem dX12_isAlive_48 : decode mX12_isAlive.2.1 48 = .ok (.iload_n 2, 1) := by decide +kernel
theorem dX12_isAlive_49 : decode mX12_isAlive.2.1 49 = .ok (.aload_n 0, 1) := by decide +kernel
theorem dX12_isAlive_50 : decode mX12_isAlive.2.1 50 = .ok (.getfield 161, 3) := by decide +kernel
theorem dX12_isAlive_53 : decode mX12_isAlive.2.1 53 = .ok (.iload_n 1, 1) := by decide +kernel
theorem dX12_isAlive_54 : decode mX12_isAlive.2.1 54 = .ok (.iaload, 1) := by decide +kernel
theorem dX12_isAlive_55 : decode mX12_isAlive.2.1 55 = .ok (.if_icmp .lt 12, 3) := by decide +kernel
theorem dX12_isAlive_58 : decode mX12_isAlive.2.1 58 = .ok (.iload 4, 2) := by decide +kernel
theorem dX12_isAlive_60 : decode mX12_isAlive.2.1 60 = .ok (.ifCond .ne 7, 3) := by decide +kernel
theorem dX12_isAlive_63 : decode mX12_isAlive.2.1 63 = .ok (.iconst 1, 1) := by decide +kernel
theorem dX12_isAlive_64 : decode mX12_isAlive.2.1 64 = .ok (.goto 4, 3) := by decide +kernel
theorem dX12_isAlive_67 : decode mX12_isAlive.2.1 67 = .ok (.iconst 0, 1) := by decide +kernel
theorem dX12_isAlive_68 : decode mX12_isAlive.2.1 68 = .ok (.ireturn, 1) := by decide +kernel
theorem sX12_isAlive {SC : Nat → Nat} {X : mh_X} {d kc ks : Nat} {Q : Option am_V → am_W → Prop} {w : am_W} {x1 : Int} {x2 : Int} {x3 : Int} (Ho1 : 0 ≤ x1) (Ho2 : x1 < 40)
    (h : Q (some (.inl (if (((w.1 102 0 x1.toNat) = (-2147483648) ∧ ((¬ x3 < (w.1 101 0 x1.toNat)) ∧ (¬ x2 < (w.1 100 0 x1.toNat)))) ∨ (¬ (w.1 102 0 x1.toNat) = (-2147483648) ∧ ((x3 < (w.1 103 0 x1.toNat) ∧ ((¬ x3 < (w.1 101 0 x1.toNat)) ∧ (¬ x2 < (w.1 100 0 x1.toNat)))) ∨ (¬ x3 < (w.1 103 0 x1.toNat) ∧ (x2 ≤ (w.1 102 0 x1.toNat) ∧ ((¬ x3 < (w.1 101 0 x1.toNat)) ∧ (¬ x2 < (w.1 100 0 x1.toNat)))))))) then 1 else 0))) w) : am_M (mh_G X) SC (d + 2) kc ks mX12_isAlive [.inr (.inr (some (9, 0))), .inl x1, .inl x2, .inl x3] w Q := by
  refine am_M_of (by decide) (Nat.le_of_ble_eq_true rfl) ?_
  show am_A (mh_G X) SC (d + 2) mX12_isAlive Q 0 [(0, .inr (.inr (some (9, 0)))), (1, .inl x1), (2, .inl x2), (3, .inl x3)] [] w kc ks
  refine am_aload_n dX12_isAlive_0 (List.Mem.head _) ?_
  refine am_getf (f := 40) (v := .inr (.inr (some (102, 0)))) dX12_isAlive_1 hc_10 (by decide) wd_1589 (by decide) rfl rfl ?_
  refine am_iload_n dX12_isAlive_4 (List.Mem.tail _ (List.Mem.head _)) ?_
  have o1 := Ho1
  have o2 := Ho2
  refine am_iaload (v := (w.1 102 0 x1.toNat)) dX12_isAlive_5 (by decide) rfl o1 o2 rfl ?_
  refine am_ldcwV (n := (-2147483648)) dX12_isAlive_6 (by decide) wd_1887 (by unfold am_rg; omega) ?_
  refine am_icmpeq (tgt := 36) dX12_isAlive_9 (by decide) (fun c3 => ?_) (fun c3 => ?_)
  · refine am_iconst dX12_isAlive_36 (by unfold am_rg; omega) ?_
    refine am_istore (ls' := [(4, .inl 0), (0, .inr (.inr (some (9, 0)))), (1, .inl x1), (2, .inl x2), (3, .inl x3)]) dX12_isAlive_37 (by decide) rfl ?_
    refine am_aload_n dX12_isAlive_39 (List.Mem.tail _ (List.Mem.head _)) ?_
    refine am_iload_n dX12_isAlive_40 (List.Mem.tail _ (List.Mem.tail _ (List.Mem.head _))) ?_
    refine am_iload_n dX12_isAlive_41 (List.Mem.tail _ (List.Mem.tail _ (List.Mem.tail _ (List.Mem.tail _ (List.Mem.head _))))) ?_
    refine am_callv (d' := d + 1) (kc := 0) (ks := 0) (as := [.inl x1, .inl x3]) dX12_isAlive_42 wc_X12_isThere wd_2042 wd_2044 wd_75 wd_122 ds_X12_isThere (by decide) (by omega) (Nat.le_of_ble_eq_true rfl) (Nat.zero_le _) (Nat.zero_le _) hc_10 (by decide) rfl rfl (sX12_isThere (d := d + 0) (x1 := x1) (x2 := x3) o1 o2 ?_)
    show am_A (mh_G X) SC (d + 2) mX12_isAlive Q 45 [(4, .inl 0), (0, .inr (.inr (some (9, 0)))), (1, .inl x1), (2, .inl x2), (3, .inl x3)] [.inl (if (¬ x3 < (w.1 101 0 x1.toNat)) then 1 else 0)] w kc ks
    refine am_ifeq (tgt := 67) dX12_isAlive_45 (by decide) (fun c4 => ?_) (fun c4 => ?_)
    · replace c4 := am_beq1 c4
      refine am_iconst dX12_isAlive_67 (by unfold am_rg; omega) ?_
      rw [if_neg (by omega)] at h
      exact am_ret (r := some (.inl 0)) dX12_isAlive_68 (Or.inr (Or.inl ⟨rfl, (Or.inl rfl)⟩)) rfl h
    · replace c4 := am_beq2 c4
      refine am_iload_n dX12_isAlive_48 (List.Mem.tail _ (List.Mem.tail _ (List.Mem.tail _ (List.Mem.head _)))) ?_
      refine am_aload_n dX12_isAlive_49 (List.Mem.tail _ (List.Mem.head _)) ?_
      refine am_getf (f := 38) (v := .inr (.inr (some (100, 0)))) dX12_isAlive_50 hc_10 (by decide) wd_1587 (by decide) rfl rfl ?_
      refine am_iload_n dX12_isAlive_53 (List.Mem.tail _ (List.Mem.tail _ (List.Mem.head _))) ?_
      refine am_iaload (v := (w.1 100 0 x1.toNat)) dX12_isAlive_54 (by decide) rfl o1 o2 rfl ?_
      refine am_icmplt (tgt := 67) dX12_isAlive_55 (by decide) (fun c5 => ?_) (fun c5 => ?_)
      · refine am_iconst dX12_isAlive_67 (by unfold am_rg; omega) ?_
        rw [if_neg (by omega)] at h
        exact am_ret (r := some (.inl 0)) dX12_isAlive_68 (Or.inr (Or.inl ⟨rfl, (Or.inl rfl)⟩)) rfl h
      · refine am_iload dX12_isAlive_58 (List.Mem.head _) ?_
        refine am_ifne (tgt := 67) dX12_isAlive_60 (by decide) (fun c => absurd c (by decide)) (fun _ => ?_)
        refine am_iconst dX12_isAlive_63 (by unfold am_rg; omega) ?_
        refine am_goto (tgt := 68) dX12_isAlive_64 (by decide) ?_
        rw [if_pos (by omega)] at h
        exact am_ret (r := some (.inl 1)) dX12_isAlive_68 (Or.inr (Or.inl ⟨rfl, (Or.inr rfl)⟩)) rfl h
  · refine am_aload_n dX12_isAlive_12 (List.Mem.head _) ?_
    refine am_getf (f := 41) (v := .inr (.inr (some (103, 0)))) dX12_isAlive_13 hc_10 (by decide) wd_1590 (by decide) rfl rfl ?_
    refine am_iload_n dX12_isAlive_16 (List.Mem.tail _ (List.Mem.head _)) ?_
    refine am_iaload (v := (w.1 103 0 x1.toNat)) dX12_isAlive_17 (by decide) rfl o1 o2 rfl ?_
    refine am_iload_n dX12_isAlive_18 (List.Mem.tail _ (List.Mem.tail _ (List.Mem.tail _ (List.Mem.head _)))) ?_
    refine am_icmpgt (tgt := 36) dX12_isAlive_19 (by decide) (fun c6 => ?_) (fun c6 => ?_)
    · refine am_iconst dX12_isAlive_36 (by unfold am_rg; omega) ?_
      refine am_istore (ls' := [(4, .inl 0), (0, .inr (.inr (some (9, 0)))), (1, .inl x1), (2, .inl x2), (3, .inl x3)]) dX12_isAlive_37 (by decide) rfl ?_
      refine am_aload_n dX12_isAlive_39 (List.Mem.tail _ (List.Mem.head _)) ?_
      refine am_iload_n dX12_isAlive_40 (List.Mem.tail _ (List.Mem.tail _ (List.Mem.head _))) ?_
      refine am_iload_n dX12_isAlive_41 (List.Mem.tail _ (List.Mem.tail _ (List.Mem.tail _ (List.Mem.tail _ (List.Mem.head _))))) ?_
      refine am_callv (d' := d + 1) (kc := 0) (ks := 0) (as := [.inl x1, .inl x3]) dX12_isAlive_42 wc_X12_isThere wd_2042 wd_2044 wd_75 wd_122 ds_X12_isThere (by decide) (by omega) (Nat.le_of_ble_eq_true rfl) (Nat.zero_le _) (Nat.zero_le _) hc_10 (by decide) rfl rfl (sX12_isThere (d := d + 0) (x1 := x1) (x2 := x3) o1 o2 ?_)
      show am_A (mh_G X) SC (d + 2) mX12_isAlive Q 45 [(4, .inl 0), (0, .inr (.inr (some (9, 0)))), (1, .inl x1), (2, .inl x2), (3, .inl x3)] [.inl (if (¬ x3 < (w.1 101 0 x1.toNat)) then 1 else 0)] w kc ks
      refine am_ifeq (tgt := 67) dX12_isAlive_45 (by decide) (fun c7 => ?_) (fun c7 => ?_)
      · replace c7 := am_beq1 c7
        refine am_iconst dX12_isAlive_67 (by unfold am_rg; omega) ?_
        rw [if_neg (by omega)] at h
        exact am_ret (r := some (.inl 0)) dX12_isAlive_68 (Or.inr (Or.inl ⟨rfl, (Or.inl rfl)⟩)) rfl h
      · replace c7 := am_beq2 c7
        refine am_iload_n dX12_isAlive_48 (List.Mem.tail _ (List.Mem.tail _ (List.Mem.tail _ (List.Mem.head _)))) ?_
        refine am_aload_n dX12_isAlive_49 (List.Mem.tail _ (List.Mem.head _)) ?_
        refine am_getf (f := 38) (v := .inr (.inr (some (100, 0)))) dX12_isAlive_50 hc_10 (by decide) wd_1587 (by decide) rfl rfl ?_
        refine am_iload_n dX12_isAlive_53 (List.Mem.tail _ (List.Mem.tail _ (List.Mem.head _))) ?_
        refine am_iaload (v := (w.1 100 0 x1.toNat)) dX12_isAlive_54 (by decide) rfl o1 o2 rfl ?_
        refine am_icmplt (tgt := 67) dX12_isAlive_55 (by decide) (fun c8 => ?_) (fun c8 => ?_)
        · refine am_iconst dX12_isAlive_67 (by unfold am_rg; omega) ?_
          rw [if_neg (by omega)] at h
          exact am_ret (r := some (.inl 0)) dX12_isAlive_68 (Or.inr (Or.inl ⟨rfl, (Or.inl rfl)⟩)) rfl h
        · refine am_iload dX12_isAlive_58 (List.Mem.head _) ?_
          refine am_ifne (tgt := 67) dX12_isAlive_60 (by decide) (fun c => absurd c (by decide)) (fun _ => ?_)
          refine am_iconst dX12_isAlive_63 (by unfold am_rg; omega) ?_
          refine am_goto (tgt := 68) dX12_isAlive_64 (by decide) ?_
          rw [if_pos (by omega)] at h
          exact am_ret (r := some (.inl 1)) dX12_isAlive_68 (Or.inr (Or.inl ⟨rfl, (Or.inr rfl)⟩)) rfl h
    · refine am_iload_n dX12_isAlive_22 (List.Mem.tail _ (List.Mem.tail _ (List.Mem.head _))) ?_
      refine am_aload_n dX12_isAlive_23 (List.Mem.head _) ?_
      refine am_getf (f := 40) (v := .inr (.inr (some (102, 0)))) dX12_isAlive_24 hc_10 (by decide) wd_1589 (by decide) rfl rfl ?_
      refine am_iload_n dX12_isAlive_27 (List.Mem.tail _ (List.Mem.head _)) ?_
      refine am_iaload (v := (w.1 102 0 x1.toNat)) dX12_isAlive_28 (by decide) rfl o1 o2 rfl ?_
      refine am_icmple (tgt := 36) dX12_isAlive_29 (by decide) (fun c9 => ?_) (fun c9 => ?_)
      · refine am_iconst dX12_isAlive_36 (by unfold am_rg; omega) ?_
        refine am_istore (ls' := [(4, .inl 0), (0, .inr (.inr (some (9, 0)))), (1, .inl x1), (2, .inl x2), (3, .inl x3)]) dX12_isAlive_37 (by decide) rfl ?_
        refine am_aload_n dX12_isAlive_39 (List.Mem.tail _ (List.Mem.head _)) ?_
        refine am_iload_n dX12_isAlive_40 (List.Mem.tail _ (List.Mem.tail _ (List.Mem.head _))) ?_
        refine am_iload_n dX12_isAlive_41 (List.Mem.tail _ (List.Mem.tail _ (List.Mem.tail _ (List.Mem.tail _ (List.Mem.head _))))) ?_
        refine am_callv (d' := d + 1) (kc := 0) (ks := 0) (as := [.inl x1, .inl x3]) dX12_isAlive_42 wc_X12_isThere wd_2042 wd_2044 wd_75 wd_122 ds_X12_isThere (by decide) (by omega) (Nat.le_of_ble_eq_true rfl) (Nat.zero_le _) (Nat.zero_le _) hc_10 (by decide) rfl rfl (sX12_isThere (d := d + 0) (x1 := x1) (x2 := x3) o1 o2 ?_)
        show am_A (mh_G X) SC (d + 2) mX12_isAlive Q 45 [(4, .inl 0), (0, .inr (.inr (some (9, 0)))), (1, .inl x1), (2, .inl x2), (3, .inl x3)] [.inl (if (¬ x3 < (w.1 101 0 x1.toNat)) then 1 else 0)] w kc ks
        refine am_ifeq (tgt := 67) dX12_isAlive_45 (by decide) (fun c10 => ?_) (fun c10 => ?_)
        · replace c10 := am_beq1 c10
          refine am_iconst dX12_isAlive_67 (by unfold am_rg; omega) ?_
          rw [if_neg (by omega)] at h
          exact am_ret (r := some (.inl 0)) dX12_isAlive_68 (Or.inr (Or.inl ⟨rfl, (Or.inl rfl)⟩)) rfl h
        · replace c10 := am_beq2 c10
          refine am_iload_n dX12_isAlive_48 (List.Mem.tail _ (List.Mem.tail _ (List.Mem.tail _ (List.Mem.head _)))) ?_
          refine am_aload_n dX12_isAlive_49 (List.Mem.tail _ (List.Mem.head _)) ?_
          refine am_getf (f := 38) (v := .inr (.inr (some (100, 0)))) dX12_isAlive_50 hc_10 (by decide) wd_1587 (by decide) rfl rfl ?_
          refine am_iload_n dX12_isAlive_53 (List.Mem.tail _ (List.Mem.tail _ (List.Mem.head _))) ?_
          refine am_iaload (v := (w.1 100 0 x1.toNat)) dX12_isAlive_54 (by decide) rfl o1 o2 rfl ?_
          refine am_icmplt (tgt := 67) dX12_isAlive_55 (by decide) (fun c11 => ?_) (fun c11 => ?_)
          · refine am_iconst dX12_isAlive_67 (by unfold am_rg; omega) ?_
            rw [if_neg (by omega)] at h
            exact am_ret (r := some (.inl 0)) dX12_isAlive_68 (Or.inr (Or.inl ⟨rfl, (Or.inl rfl)⟩)) rfl h
          · refine am_iload dX12_isAlive_58 (List.Mem.head _) ?_
            refine am_ifne (tgt := 67) dX12_isAlive_60 (by decide) (fun c => absurd c (by decide)) (fun _ => ?_)
            refine am_iconst dX12_isAlive_63 (by unfold am_rg; omega) ?_
            refine am_goto (tgt := 68) dX12_isAlive_64 (by decide) ?_
            rw [if_pos (by omega)] at h
            exact am_ret (r := some (.inl 1)) dX12_isAlive_68 (Or.inr (Or.inl ⟨rfl, (Or.inr rfl)⟩)) rfl h
      · refine am_iconst dX12_isAlive_32 (by unfold am_rg; omega) ?_
        refine am_goto (tgt := 37) dX12_isAlive_33 (by decide) ?_
        refine am_istore (ls' := [(4, .inl 1), (0, .inr (.inr (some (9, 0)))), (1, .inl x1), (2, .inl x2), (3, .inl x3)]) dX12_isAlive_37 (by decide) rfl ?_
        refine am_aload_n dX12_isAlive_39 (List.Mem.tail _ (List.Mem.head _)) ?_
        refine am_iload_n dX12_isAlive_40 (List.Mem.tail _ (List.Mem.tail _ (List.Mem.head _))) ?_
        refine am_iload_n dX12_isAlive_41 (List.Mem.tail _ (List.Mem.tail _ (List.Mem.tail _ (List.Mem.tail _ (List.Mem.head _))))) ?_
        refine am_callv (d' := d + 1) (kc := 0) (ks := 0) (as := [.inl x1, .inl x3]) dX12_isAlive_42 wc_X12_isThere wd_2042 wd_2044 wd_75 wd_122 ds_X12_isThere (by decide) (by omega) (Nat.le_of_ble_eq_true rfl) (Nat.zero_le _) (Nat.zero_le _) hc_10 (by decide) rfl rfl (sX12_isThere (d := d + 0) (x1 := x1) (x2 := x3) o1 o2 ?_)
        show am_A (mh_G X) SC (d + 2) mX12_isAlive Q 45 [(4, .inl 1), (0, .inr (.inr (some (9, 0)))), (1, .inl x1), (2, .inl x2), (3, .inl x3)] [.inl (if (¬ x3 < (w.1 101 0 x1.toNat)) then 1 else 0)] w kc ks
        refine am_ifeq (tgt := 67) dX12_isAlive_45 (by decide) (fun c12 => ?_) (fun c12 => ?_)
        · replace c12 := am_beq1 c12
          refine am_iconst dX12_isAlive_67 (by unfold am_rg; omega) ?_
          rw [if_neg (by omega)] at h
          exact am_ret (r := some (.inl 0)) dX12_isAlive_68 (Or.inr (Or.inl ⟨rfl, (Or.inl rfl)⟩)) rfl h
        · replace c12 := am_beq2 c12
          refine am_iload_n dX12_isAlive_48 (List.Mem.tail _ (List.Mem.tail _ (List.Mem.tail _ (List.Mem.head _)))) ?_
          refine am_aload_n dX12_isAlive_49 (List.Mem.tail _ (List.Mem.head _)) ?_
          refine am_getf (f := 38) (v := .inr (.inr (some (100, 0)))) dX12_isAlive_50 hc_10 (by decide) wd_1587 (by decide) rfl rfl ?_
          refine am_iload_n dX12_isAlive_53 (List.Mem.tail _ (List.Mem.tail _ (List.Mem.head _))) ?_
          refine am_iaload (v := (w.1 100 0 x1.toNat)) dX12_isAlive_54 (by decide) rfl o1 o2 rfl ?_
          refine am_icmplt (tgt := 67) dX12_isAlive_55 (by decide) (fun c13 => ?_) (fun c13 => ?_)
          · refine am_iconst dX12_isAlive_67 (by unfold am_rg; omega) ?_
            rw [if_neg (by omega)] at h
            exact am_ret (r := some (.inl 0)) dX12_isAlive_68 (Or.inr (Or.inl ⟨rfl, (Or.inl rfl)⟩)) rfl h
          · refine am_iload dX12_isAlive_58 (List.Mem.head _) ?_
            refine am_ifne (tgt := 67) dX12_isAlive_60 (by decide) (fun _ => ?_) (fun c => absurd c (by decide))
            refine am_iconst dX12_isAlive_67 (by unfold am_rg; omega) ?_
            rw [if_neg (by omega)] at h
            exact am_ret (r := some (.inl 0)) dX12_isAlive_68 (Or.inr (Or.inl ⟨rfl, (Or.inl rfl)⟩)) rfl h
-- MourningHouseModel.depthAt(III)I
theorem dX12_depthAt_0 : decode mX12_depthAt.2.1 0 = .ok (.aload_n 0, 1) := by decide +kernel
theorem dX12_depthAt_1 : decode mX12_depthAt.2.1 1 = .ok (.iload_n 1, 1) := by decide +kernel
theorem dX12_depthAt_2 : decode mX12_depthAt.2.1 2 = .ok (.iload_n 2, 1) := by decide +kernel
theorem dX12_depthAt_3 : decode mX12_depthAt.2.1 3 = .ok (.iload_n 3, 1) := by decide +kernel
theorem dX12_depthAt_4 : decode mX12_depthAt.2.1 4 = .ok (.invokevirtual 548, 3) := by decide +kernel
theorem dX12_depthAt_7 : decode mX12_depthAt.2.1 7 = .ok (.ifCond .ne 5, 3) := by decide +kernel
theorem dX12_depthAt_10 : decode mX12_depthAt.2.1 10 = .ok (.iconst (-1), 1) := by decide +kernel
theorem dX12_depthAt_11 : decode mX12_depthAt.2.1 11 = .ok (.ireturn, 1) := by decide +kernel
theorem dX12_depthAt_12 : decode mX12_depthAt.2.1 12 = .ok (.aload_n 0, 1) := by decide +kernel
theorem dX12_depthAt_13 : decode mX12_depthAt.2.1 13 = .ok (.iload_n 1, 1) := by decide +kernel
theorem dX12_depthAt_14 : decode mX12_depthAt.2.1 14 = .ok (.iload_n 3, 1) := by decide +kernel
theorem dX12_depthAt_15 : decode mX12_depthAt.2.1 15 = .ok (.invokevirtual 551, 3) := by decide +kernel
theorem dX12_depthAt_18 : decode mX12_depthAt.2.1 18 = .ok (.aload_n 0, 1) := by decide +kernel
theorem dX12_depthAt_19 : decode mX12_depthAt.2.1 19 = .ok (.iload_n 2, 1) := by decide +kernel
theorem dX12_depthAt_20 : decode mX12_depthAt.2.1 20 = .ok (.invokevirtual 554, 3) := by decide +kernel
theorem dX12_depthAt_23 : decode mX12_depthAt.2.1 23 = .ok (.aload_n 0, 1) := by decide +kernel
theorem dX12_depthAt_24 : decode mX12_depthAt.2.1 24 = .ok (.iload_n 2, 1) := by decide +kernel
theorem dX12_depthAt_25 : decode mX12_depthAt.2.1 25 = .ok (.invokevirtual 557, 3) := by decide +kernel
theorem dX12_depthAt_28 : decode mX12_depthAt.2.1 28 = .ok (.ireturn, 1) := by decide +kernel
theorem bX12_depthAt_0 {SC : Nat → Nat} {X : mh_X} {d : Nat} {Q : Option am_V → am_W → Prop} {bc bs : Nat} {w : am_W} {x1 : Int} {x2 : Int} {x3 : Int}
    (h : am_M (mh_G X) SC (d + 10) 0 0 mX12_isAlive [.inr (.inr (some (9, 0))), .inl x1, .inl x2, .inl x3] w (fun r w1 => am_A (mh_G X) SC (d + 11) mX12_depthAt Q 7 [(0, .inr (.inr (some (9, 0)))), (1, .inl x1), (2, .inl x2), (3, .inl x3)] (r.toList ++ []) w1 bc bs)) :
    am_A (mh_G X) SC (d + 11) mX12_depthAt Q 0 [(0, .inr (.inr (some (9, 0)))), (1, .inl x1), (2, .inl x2), (3, .inl x3)] [] w bc bs := by
  refine am_aload_n dX12_depthAt_0 (List.Mem.head _) ?_
  refine am_iload_n dX12_depthAt_1 (List.Mem.tail _ (List.Mem.head _)) ?_
  refine am_iload_n dX12_depthAt_2 (List.Mem.tail _ (List.Mem.tail _ (List.Mem.head _))) ?_
  refine am_iload_n dX12_depthAt_3 (List.Mem.tail _ (List.Mem.tail _ (List.Mem.tail _ (List.Mem.head _)))) ?_
  exact am_callv (d' := d + 10) (kc := 0) (ks := 0) (as := [.inl x1, .inl x2, .inl x3]) dX12_depthAt_4 wc_X12_isAlive wd_2089 wd_2091 wd_84 wd_122 ds_X12_isAlive (by decide) (by omega) (Nat.le_of_ble_eq_true rfl) (Nat.zero_le _) (Nat.zero_le _) hc_10 (by decide) rfl rfl h
theorem bX12_depthAt_7 {SC : Nat → Nat} {X : mh_X} {d : Nat} {Q : Option am_V → am_W → Prop} {bc bs : Nat} {w : am_W} {x1 : Int} {x2 : Int} {x3 : Int} {xs0 : Int}
    (h : ((¬ xs0 = 0 → am_M (mh_G X) SC (d + 10) 0 0 mX12_prepares [.inr (.inr (some (9, 0))), .inl x1, .inl x3] w (fun r w1 => am_A (mh_G X) SC (d + 11) mX12_depthAt Q 18 [(0, .inr (.inr (some (9, 0)))), (1, .inl x1), (2, .inl x2), (3, .inl x3)] (r.toList ++ []) w1 bc bs)) ∧ (xs0 = 0 → Q (some (.inl (-1))) w))) :
    am_A (mh_G X) SC (d + 11) mX12_depthAt Q 7 [(0, .inr (.inr (some (9, 0)))), (1, .inl x1), (2, .inl x2), (3, .inl x3)] [.inl xs0] w bc bs := by
  refine am_ifne (tgt := 12) dX12_depthAt_7 (by decide) (fun c1 => ?_) (fun c1 => ?_)
  · replace h := h.1 c1
    refine am_aload_n dX12_depthAt_12 (List.Mem.head _) ?_
    refine am_iload_n dX12_depthAt_13 (List.Mem.tail _ (List.Mem.head _)) ?_
    refine am_iload_n dX12_depthAt_14 (List.Mem.tail _ (List.Mem.tail _ (List.Mem.tail _ (List.Mem.head _)))) ?_
    exact am_callv (d' := d + 10) (kc := 0) (ks := 0) (as := [.inl x1, .inl x3]) dX12_depthAt_15 wc_X12_prepares wd_2093 wd_2095 wd_85 wd_122 ds_X12_prepares (by decide) (by omega) (Nat.le_of_ble_eq_true rfl) (Nat.zero_le _) (Nat.zero_le _) hc_10 (by decide) rfl rfl h
  · replace h := h.2 c1
    refine am_iconst dX12_depthAt_10 (by unfold am_rg; omega) ?_
    exact am_ret (r := some (.inl (-1))) dX12_depthAt_11 (Or.inl rfl) rfl h
theorem bX12_depthAt_18 {SC : Nat → Nat} {X : mh_X} {d : Nat} {Q : Option am_V → am_W → Prop} {bc bs : Nat} {w : am_W} {x1 : Int} {x2 : Int} {x3 : Int}
    (h : am_M (mh_G X) SC (d + 10) 0 0 mX12_goesTo [.inr (.inr (some (9, 0))), .inl x2] w (fun r w1 => am_A (mh_G X) SC (d + 11) mX12_depthAt Q 23 [(0, .inr (.inr (some (9, 0)))), (1, .inl x1), (2, .inl x2), (3, .inl x3)] (r.toList ++ []) w1 bc bs)) :
    am_A (mh_G X) SC (d + 11) mX12_depthAt Q 18 [(0, .inr (.inr (some (9, 0)))), (1, .inl x1), (2, .inl x2), (3, .inl x3)] [] w bc bs := by
  refine am_aload_n dX12_depthAt_18 (List.Mem.head _) ?_
  refine am_iload_n dX12_depthAt_19 (List.Mem.tail _ (List.Mem.tail _ (List.Mem.head _))) ?_
  exact am_callv (d' := d + 10) (kc := 0) (ks := 0) (as := [.inl x2]) dX12_depthAt_20 wc_X12_goesTo wd_2104 wd_2106 wd_87 wd_122 ds_X12_goesTo (by decide) (by omega) (Nat.le_of_ble_eq_true rfl) (Nat.zero_le _) (Nat.zero_le _) hc_10 (by decide) rfl rfl h
theorem bX12_depthAt_23 {SC : Nat → Nat} {X : mh_X} {d : Nat} {Q : Option am_V → am_W → Prop} {bc bs : Nat} {w : am_W} {x1 : Int} {x2 : Int} {x3 : Int}
    (h : am_M (mh_G X) SC (d + 10) 0 0 mX12_depthNow [.inr (.inr (some (9, 0))), .inl x2] w (fun r w1 => am_A (mh_G X) SC (d + 11) mX12_depthAt Q 28 [(0, .inr (.inr (some (9, 0)))), (1, .inl x1), (2, .inl x2), (3, .inl x3)] (r.toList ++ []) w1 bc bs)) :
    am_A (mh_G X) SC (d + 11) mX12_depthAt Q 23 [(0, .inr (.inr (some (9, 0)))), (1, .inl x1), (2, .inl x2), (3, .inl x3)] [] w bc bs := by
  refine am_aload_n dX12_depthAt_23 (List.Mem.head _) ?_
  refine am_iload_n dX12_depthAt_24 (List.Mem.tail _ (List.Mem.tail _ (List.Mem.head _))) ?_
  exact am_callv (d' := d + 10) (kc := 0) (ks := 0) (as := [.inl x2]) dX12_depthAt_25 wc_X12_depthNow wd_2125 wd_2127 wd_92 wd_122 ds_X12_depthNow (by decide) (by omega) (Nat.le_of_ble_eq_true rfl) (Nat.zero_le _) (Nat.zero_le _) hc_10 (by decide) rfl rfl h
theorem bX12_depthAt_28 {SC : Nat → Nat} {X : mh_X} {d : Nat} {Q : Option am_V → am_W → Prop} {bc bs : Nat} {w : am_W} {x1 : Int} {x2 : Int} {x3 : Int} {xs0 : Int}
    (h : Q (some (.inl xs0)) w) :
    am_A (mh_G X) SC (d + 11) mX12_depthAt Q 28 [(0, .inr (.inr (some (9, 0)))), (1, .inl x1), (2, .inl x2), (3, .inl x3)] [.inl xs0] w bc bs := by
  exact am_ret (r := some (.inl xs0)) dX12_depthAt_28 (Or.inl rfl) rfl h
-- MourningHouseModel.depth(III)I
theorem dX12_depth_0 : decode mX12_depth.2.1 0 = .ok (.aload_n 0, 1) := by decide +kernel
theorem dX12_depth_1 : decode mX12_depth.2.1 1 = .ok (.iload_n 1, 1) := by decide +kernel
theorem dX12_depth_2 : decode mX12_depth.2.1 2 = .ok (.invokevirtual 453, 3) := by decide +kernel
theorem dX12_depth_5 : decode mX12_depth.2.1 5 = .ok (.ifCond .eq 28, 3) := by decide +kernel
theorem dX12_depth_8 : decode mX12_depth.2.1 8 = .ok (.iload_n 2, 1) := by decide +kernel
theorem dX12_depth_9 : decode mX12_depth.2.1 9 = .ok (.invokestatic 322, 3) := by decide +kernel
theorem dX12_depth_12 : decode mX12_depth.2.1 12 = .ok (.ifCond .eq 21, 3) := by decide +kernel
theorem dX12_depth_15 : decode mX12_depth.2.1 15 = .ok (.aload_n 0, 1) := by decide +kernel
theorem dX12_depth_16 : decode mX12_depth.2.1 16 = .ok (.iload_n 3, 1) := by decide +kernel
theorem dX12_depth_17 : decode mX12_depth.2.1 17 = .ok (.invokevirtual 490, 3) := by decide +kernel
theorem dX12_depth_20 : decode mX12_depth.2.1 20 = .ok (.ifCond .eq 13, 3) := by decide +kernel
theorem dX12_depth_23 : decode mX12_depth.2.1 23 = .ok (.aload_n 0, 1) := by decide +kernel
theorem dX12_depth_24 : decode mX12_depth.2.1 24 = .ok (.iload_n 1, 1) := by decide +kernel
theorem dX12_depth_25 : decode mX12_depth.2.1 25 = .ok (.iload_n 2, 1) := by decide +kernel
theorem dX12_depth_26 : decode mX12_depth.2.1 26 = .ok (.iload_n 3, 1) := by decide +kernel
theorem dX12_depth_27 : decode mX12_depth.2.1 27 = .ok (.invokevirtual 560, 3) := by decide +kernel
theorem dX12_depth_30 : decode mX12_depth.2.1 30 = .ok (.goto 4, 3) := by decide +kernel
theorem dX12_depth_33 : decode mX12_depth.2.1 33 = .ok (.iconst (-1), 1) := by decide +kernel
theorem dX12_depth_34 : decode mX12_depth.2.1 34 = .ok (.ireturn, 1) := by decide +kernel
theorem bX12_depth_0 {SC : Nat → Nat} {X : mh_X} {d : Nat} {Q : Option am_V → am_W → Prop} {bc bs : Nat} {w : am_W} {x1 : Int} {x2 : Int} {x3 : Int}
    (h : ((¬ (¬ x1 < (0 : Int) ∧ (¬ (am_w ((w.1 9 0 42) - 1)) < x1)) → Q (some (.inl (-1))) w) ∧ ((¬ x1 < (0 : Int) ∧ (¬ (am_w ((w.1 9 0 42) - 1)) < x1)) → ((¬ (¬ x2 < ((-36524) : Int) ∧ (¬ (73047 : Int) < x2)) → Q (some (.inl (-1))) w) ∧ ((¬ x2 < ((-36524) : Int) ∧ (¬ (73047 : Int) < x2)) → ((¬ (¬ x3 < ((-36524) : Int) ∧ (¬ (w.1 9 0 33) < x3)) → Q (some (.inl (-1))) w) ∧ ((¬ x3 < ((-36524) : Int) ∧ (¬ (w.1 9 0 33) < x3)) → am_M (mh_G X) SC (d + 11) 0 0 mX12_depthAt [.inr (.inr (some (9, 0))), .inl x1, .inl x2, .inl x3] w (fun r w1 => am_A (mh_G X) SC (d + 12) mX12_depth Q 30 [(0, .inr (.inr (some (9, 0)))), (1, .inl x1), (2, .inl x2), (3, .inl x3)] (r.toList ++ []) w1 bc bs)))))))) :
    am_A (mh_G X) SC (d + 12) mX12_depth Q 0 [(0, .inr (.inr (some (9, 0)))), (1, .inl x1), (2, .inl x2), (3, .inl x3)] [] w bc bs := by
  refine am_aload_n dX12_depth_0 (List.Mem.head _) ?_
  refine am_iload_n dX12_depth_1 (List.Mem.tail _ (List.Mem.head _)) ?_
  refine am_callv (d' := d + 11) (kc := 0) (ks := 0) (as := [.inl x1]) dX12_depth_2 wc_X12_isPerson wd_2018 wd_2020 wd_73 wd_122 ds_X12_isPerson (by decide) (by omega) (Nat.le_of_ble_eq_true rfl) (Nat.zero_le _) (Nat.zero_le _) hc_10 (by decide) rfl rfl (sX12_isPerson (d := d + 9) (x1 := x1)  ?_)
  show am_A (mh_G X) SC (d + 12) mX12_depth Q 5 [(0, .inr (.inr (some (9, 0)))), (1, .inl x1), (2, .inl x2), (3, .inl x3)] [.inl (if (¬ x1 < (0 : Int) ∧ (¬ (am_w ((w.1 9 0 42) - 1)) < x1)) then 1 else 0)] w bc bs
  refine am_ifeq (tgt := 33) dX12_depth_5 (by decide) (fun c1 => ?_) (fun c1 => ?_)
  · replace c1 := am_beq1 c1
    replace h := h.1 c1
    refine am_iconst dX12_depth_33 (by unfold am_rg; omega) ?_
    exact am_ret (r := some (.inl (-1))) dX12_depth_34 (Or.inl rfl) rfl h
  · replace c1 := am_beq2 c1
    replace h := h.2 c1
    refine am_iload_n dX12_depth_8 (List.Mem.tail _ (List.Mem.tail _ (List.Mem.head _))) ?_
    refine am_calls (d' := d + 11) (kc := 0) (ks := 0) (as := [.inl x2]) dX12_depth_9 wc_X12_isDay wd_1854 wd_1855 wd_122 ds_X12_isDay (by decide) (by omega) (Nat.le_of_ble_eq_true rfl) (Nat.zero_le _) (Nat.zero_le _) rfl (sX12_isDay (d := d + 9) (x0 := x2)  ?_)
    show am_A (mh_G X) SC (d + 12) mX12_depth Q 12 [(0, .inr (.inr (some (9, 0)))), (1, .inl x1), (2, .inl x2), (3, .inl x3)] [.inl (if (¬ x2 < ((-36524) : Int) ∧ (¬ (73047 : Int) < x2)) then 1 else 0)] w bc bs
    refine am_ifeq (tgt := 33) dX12_depth_12 (by decide) (fun c2 => ?_) (fun c2 => ?_)
    · replace c2 := am_beq1 c2
      replace h := h.1 c2
      refine am_iconst dX12_depth_33 (by unfold am_rg; omega) ?_
      exact am_ret (r := some (.inl (-1))) dX12_depth_34 (Or.inl rfl) rfl h
    · replace c2 := am_beq2 c2
      replace h := h.2 c2
      refine am_aload_n dX12_depth_15 (List.Mem.head _) ?_
      refine am_iload_n dX12_depth_16 (List.Mem.tail _ (List.Mem.tail _ (List.Mem.tail _ (List.Mem.head _)))) ?_
      refine am_callv (d' := d + 11) (kc := 0) (ks := 0) (as := [.inl x3]) dX12_depth_17 wc_X12_isKnownDay wd_2069 wd_2071 wd_80 wd_122 ds_X12_isKnownDay (by decide) (by omega) (Nat.le_of_ble_eq_true rfl) (Nat.zero_le _) (Nat.zero_le _) hc_10 (by decide) rfl rfl (sX12_isKnownDay (d := d + 9) (x1 := x3)  ?_)
      show am_A (mh_G X) SC (d + 12) mX12_depth Q 20 [(0, .inr (.inr (some (9, 0)))), (1, .inl x1), (2, .inl x2), (3, .inl x3)] [.inl (if (¬ x3 < ((-36524) : Int) ∧ (¬ (w.1 9 0 33) < x3)) then 1 else 0)] w bc bs
      refine am_ifeq (tgt := 33) dX12_depth_20 (by decide) (fun c3 => ?_) (fun c3 => ?_)
      · replace c3 := am_beq1 c3
        replace h := h.1 c3
        refine am_iconst dX12_depth_33 (by unfold am_rg; omega) ?_
        exact am_ret (r := some (.inl (-1))) dX12_depth_34 (Or.inl rfl) rfl h
      · replace c3 := am_beq2 c3
        replace h := h.2 c3
        refine am_aload_n dX12_depth_23 (List.Mem.head _) ?_
        refine am_iload_n dX12_depth_24 (List.Mem.tail _ (List.Mem.head _)) ?_
        refine am_iload_n dX12_depth_25 (List.Mem.tail _ (List.Mem.tail _ (List.Mem.head _))) ?_
        refine am_iload_n dX12_depth_26 (List.Mem.tail _ (List.Mem.tail _ (List.Mem.tail _ (List.Mem.head _)))) ?_
        exact am_callv (d' := d + 11) (kc := 0) (ks := 0) (as := [.inl x1, .inl x2, .inl x3]) dX12_depth_27 wc_X12_depthAt wd_2085 wd_2087 wd_83 wd_122 ds_X12_depthAt (by decide) (by omega) (Nat.le_of_ble_eq_true rfl) (Nat.zero_le _) (Nat.zero_le _) hc_10 (by decide) rfl rfl h
theorem bX12_depth_30 {SC : Nat → Nat} {X : mh_X} {d : Nat} {Q : Option am_V → am_W → Prop} {bc bs : Nat} {w : am_W} {x1 : Int} {x2 : Int} {x3 : Int} {xs0 : Int}
    (h : Q (some (.inl xs0)) w) :
    am_A (mh_G X) SC (d + 12) mX12_depth Q 30 [(0, .inr (.inr (some (9, 0)))), (1, .inl x1), (2, .inl x2), (3, .inl x3)] [.inl xs0] w bc bs := by
  refine am_goto (tgt := 34) dX12_depth_30 (by decide) ?_
  exact am_ret (r := some (.inl xs0)) dX12_depth_34 (Or.inl rfl) rfl h
-- MourningHouseModel.last(II)I
theorem dX12_last_0 : decode mX12_last.2.1 0 = .ok (.aload_n 0, 1) := by decide +kernel
theorem dX12_last_1 : decode mX12_last.2.1 1 = .ok (.iload_n 1, 1) := by decide +kernel
theorem dX12_last_2 : decode mX12_last.2.1 2 = .ok (.invokevirtual 453, 3) := by decide +kernel
theorem dX12_last_5 : decode mX12_last.2.1 5 = .ok (.ifCond .eq 25, 3) := by decide +kernel
theorem dX12_last_8 : decode mX12_last.2.1 8 = .ok (.aload_n 0, 1) := by decide +kernel
theorem dX12_last_9 : decode mX12_last.2.1 9 = .ok (.iload_n 2, 1) := by decide +kernel
theorem dX12_last_10 : decode mX12_last.2.1 10 = .ok (.invokevirtual 453, 3) := by decide +kernel
theorem dX12_last_13 : decode mX12_last.2.1 13 = .ok (.ifCond .eq 17, 3) := by decide +kernel
theorem dX12_last_16 : decode mX12_last.2.1 16 = .ok (.aload_n 0, 1) := by decide +kernel
theorem dX12_last_17 : decode mX12_last.2.1 17 = .ok (.iload_n 1, 1) := by decide +kernel
theorem dX12_last_18 : decode mX12_last.2.1 18 = .ok (.iload_n 2, 1) := by decide +kernel
theorem dX12_last_19 : decode mX12_last.2.1 19 = .ok (.aload_n 0, 1) := by decide +kernel
theorem dX12_last_20 : decode mX12_last.2.1 20 = .ok (.getfield 444, 3) := by decide +kernel
theorem dX12_last_23 : decode mX12_last.2.1 23 = .ok (.invokevirtual 493, 3) := by decide +kernel
theorem dX12_last_26 : decode mX12_last.2.1 26 = .ok (.iconst (-1), 1) := by decide +kernel
theorem dX12_last_27 : decode mX12_last.2.1 27 = .ok (.if_icmp .ne 7, 3) := by decide +kernel
theorem dX12_last_30 : decode mX12_last.2.1 30 = .ok (.ldc_w 325, 3) := by decide +kernel
theorem dX12_last_33 : decode mX12_last.2.1 33 = .ok (.ireturn, 1) := by decide +kernel
theorem dX12_last_34 : decode mX12_last.2.1 34 = .ok (.aload_n 0, 1) := by decide +kernel
theorem dX12_last_35 : decode mX12_last.2.1 35 = .ok (.iload_n 1, 1) := by decide +kernel
theorem dX12_last_36 : decode mX12_last.2.1 36 = .ok (.aload_n 0, 1) := by decide +kernel
theorem dX12_last_37 : decode mX12_last.2.1 37 = .ok (.getfield 444, 3) := by decide +kernel
theorem dX12_last_40 : decode mX12_last.2.1 40 = .ok (.invokevirtual 551, 3) := by decide +kernel
theorem dX12_last_43 : decode mX12_last.2.1 43 = .ok (.iconst 0, 1) := by decide +kernel
theorem dX12_last_44 : decode mX12_last.2.1 44 = .ok (.istore_n 3, 1) := by decide +kernel
theorem dX12_last_45 : decode mX12_last.2.1 45 = .ok (.aload_n 0, 1) := by decide +kernel
theorem dX12_last_46 : decode mX12_last.2.1 46 = .ok (.getfield 204, 3) := by decide +kernel
theorem dX12_last_49 : decode mX12_last.2.1 49 = .ok (.iload_n 3, 1) := by decide +kernel
theorem dX12_last_50 : decode mX12_last.2.1 50 = .ok (.iaload, 1) := by decide +kernel
theorem dX12_last_51 : decode mX12_last.2.1 51 = .ok (.iload_n 2, 1) := by decide +kernel
theorem dX12_last_52 : decode mX12_last.2.1 52 = .ok (.if_icmp .eq 9, 3) := by decide +kernel
theorem dX12_last_55 : decode mX12_last.2.1 55 = .ok (.iinc 3 1, 3) := by decide +kernel
theorem dX12_last_58 : decode mX12_last.2.1 58 = .ok (.goto (-13), 3) := by decide +kernel
theorem dX12_last_61 : decode mX12_last.2.1 61 = .ok (.ldc_w 325, 3) := by decide +kernel
theorem dX12_last_64 : decode mX12_last.2.1 64 = .ok (.istore 4, 2) := by decide +kernel
theorem dX12_last_66 : decode mX12_last.2.1 66 = .ok (.aload_n 0, 1) := by decide +kernel
theorem dX12_last_67 : decode mX12_last.2.1 67 = .ok (.getfield 207, 3) := by decide +kernel
theorem dX12_last_70 : decode mX12_last.2.1 70 = .ok (.iload_n 3, 1) := by decide +kernel
theorem dX12_last_71 : decode mX12_last.2.1 71 = .ok (.iaload, 1) := by decide +kernel
theorem dX12_last_72 : decode mX12_last.2.1 72 = .ok (.istore 5, 2) := by decide +kernel
theorem dX12_last_74 : decode mX12_last.2.1 74 = .ok (.iload 5, 2) := by decide +kernel
theorem dX12_last_76 : decode mX12_last.2.1 76 = .ok (.ldc_w 563, 3) := by decide +kernel
theorem dX12_last_79 : decode mX12_last.2.1 79 = .ok (.if_icmp .gt 32, 3) := by decide +kernel
theorem dX12_last_82 : decode mX12_last.2.1 82 = .ok (.aload_n 0, 1) := by decide +kernel
theorem dX12_last_83 : decode mX12_last.2.1 83 = .ok (.iload 5, 2) := by decide +kernel
theorem dX12_last_85 : decode mX12_last.2.1 85 = .ok (.invokevirtual 554, 3) := by decide +kernel
theorem dX12_last_88 : decode mX12_last.2.1 88 = .ok (.aload_n 0, 1) := by decide +kernel
theorem dX12_last_89 : decode mX12_last.2.1 89 = .ok (.iload_n 3, 1) := by decide +kernel
theorem dX12_last_90 : decode mX12_last.2.1 90 = .ok (.iload 5, 2) := by decide +kernel
theorem dX12_last_92 : decode mX12_last.2.1 92 = .ok (.invokevirtual 519, 3) := by decide +kernel
theorem dX12_last_95 : decode mX12_last.2.1 95 = .ok (.ifCond .ne 6, 3) := by decide +kernel
theorem dX12_last_98 : decode mX12_last.2.1 98 = .ok (.iload 4, 2) := by decide +kernel
theorem dX12_last_100 : decode mX12_last.2.1 100 = .ok (.ireturn, 1) := by decide +kernel
theorem dX12_last_101 : decode mX12_last.2.1 101 = .ok (.iload 5, 2) := by decide +kernel
theorem dX12_last_103 : decode mX12_last.2.1 103 = .ok (.istore 4, 2) := by decide +kernel
theorem dX12_last_105 : decode mX12_last.2.1 105 = .ok (.iinc 5 1, 3) := by decide +kernel
theorem dX12_last_108 : decode mX12_last.2.1 108 = .ok (.goto (-34), 3) := by decide +kernel
theorem dX12_last_111 : decode mX12_last.2.1 111 = .ok (.iload 4, 2) := by decide +kernel
theorem dX12_last_113 : decode mX12_last.2.1 113 = .ok (.ireturn, 1) := by decide +kernel
theorem bX12_last_0 {SC : Nat → Nat} {X : mh_X} {d : Nat} {Q : Option am_V → am_W → Prop} {bc bs : Nat} {w : am_W} {x1 : Int} {x2 : Int}
    (h : ((¬ (¬ x1 < (0 : Int) ∧ (¬ (am_w ((w.1 9 0 42) - 1)) < x1)) → Q (some (.inl (-2147483648))) w) ∧ ((¬ x1 < (0 : Int) ∧ (¬ (am_w ((w.1 9 0 42) - 1)) < x1)) → ((¬ (¬ x2 < (0 : Int) ∧ (¬ (am_w ((w.1 9 0 42) - 1)) < x2)) → Q (some (.inl (-2147483648))) w) ∧ ((¬ x2 < (0 : Int) ∧ (¬ (am_w ((w.1 9 0 42) - 1)) < x2)) → am_M (mh_G X) SC (d + 10) 0 0 mX12_ruleFor [.inr (.inr (some (9, 0))), .inl x1, .inl x2, .inl (w.1 9 0 33)] w (fun r w1 => am_A (mh_G X) SC (d + 11) mX12_last Q 26 [(0, .inr (.inr (some (9, 0)))), (1, .inl x1), (2, .inl x2)] (r.toList ++ []) w1 bc bs)))))) :
    am_A (mh_G X) SC (d + 11) mX12_last Q 0 [(0, .inr (.inr (some (9, 0)))), (1, .inl x1), (2, .inl x2)] [] w bc bs := by
  refine am_aload_n dX12_last_0 (List.Mem.head _) ?_
  refine am_iload_n dX12_last_1 (List.Mem.tail _ (List.Mem.head _)) ?_
  refine am_callv (d' := d + 10) (kc := 0) (ks := 0) (as := [.inl x1]) dX12_last_2 wc_X12_isPerson wd_2018 wd_2020 wd_73 wd_122 ds_X12_isPerson (by decide) (by omega) (Nat.le_of_ble_eq_true rfl) (Nat.zero_le _) (Nat.zero_le _) hc_10 (by decide) rfl rfl (sX12_isPerson (d := d + 8) (x1 := x1)  ?_)
  show am_A (mh_G X) SC (d + 11) mX12_last Q 5 [(0, .inr (.inr (some (9, 0)))), (1, .inl x1), (2, .inl x2)] [.inl (if (¬ x1 < (0 : Int) ∧ (¬ (am_w ((w.1 9 0 42) - 1)) < x1)) then 1 else 0)] w bc bs
  refine am_ifeq (tgt := 30) dX12_last_5 (by decide) (fun c1 => ?_) (fun c1 => ?_)
  · replace c1 := am_beq1 c1
    replace h := h.1 c1
    refine am_ldcwV (n := (-2147483648)) dX12_last_30 (by decide) wd_1887 (by unfold am_rg; omega) ?_
    exact am_ret (r := some (.inl (-2147483648))) dX12_last_33 (Or.inl rfl) rfl h
  · replace c1 := am_beq2 c1
    replace h := h.2 c1
    refine am_aload_n dX12_last_8 (List.Mem.head _) ?_
    refine am_iload_n dX12_last_9 (List.Mem.tail _ (List.Mem.tail _ (List.Mem.head _))) ?_
    refine am_callv (d' := d + 10) (kc := 0) (ks := 0) (as := [.inl x2]) dX12_last_10 wc_X12_isPerson wd_2018 wd_2020 wd_73 wd_122 ds_X12_isPerson (by decide) (by omega) (Nat.le_of_ble_eq_true rfl) (Nat.zero_le _) (Nat.zero_le _) hc_10 (by decide) rfl rfl (sX12_isPerson (d := d + 8) (x1 := x2)  ?_)
    show am_A (mh_G X) SC (d + 11) mX12_last Q 13 [(0, .inr (.inr (some (9, 0)))), (1, .inl x1), (2, .inl x2)] [.inl (if (¬ x2 < (0 : Int) ∧ (¬ (am_w ((w.1 9 0 42) - 1)) < x2)) then 1 else 0)] w bc bs
    refine am_ifeq (tgt := 30) dX12_last_13 (by decide) (fun c2 => ?_) (fun c2 => ?_)
    · replace c2 := am_beq1 c2
      replace h := h.1 c2
      refine am_ldcwV (n := (-2147483648)) dX12_last_30 (by decide) wd_1887 (by unfold am_rg; omega) ?_
      exact am_ret (r := some (.inl (-2147483648))) dX12_last_33 (Or.inl rfl) rfl h
    · replace c2 := am_beq2 c2
      replace h := h.2 c2
      refine am_aload_n dX12_last_16 (List.Mem.head _) ?_
      refine am_iload_n dX12_last_17 (List.Mem.tail _ (List.Mem.head _)) ?_
      refine am_iload_n dX12_last_18 (List.Mem.tail _ (List.Mem.tail _ (List.Mem.head _))) ?_
      refine am_aload_n dX12_last_19 (List.Mem.head _) ?_
      refine am_getf (f := 33) (v := .inl (w.1 9 0 33)) dX12_last_20 hc_10 (by decide) wd_1582 (by decide) rfl rfl ?_
      exact am_callv (d' := d + 10) (kc := 0) (ks := 0) (as := [.inl x1, .inl x2, .inl (w.1 9 0 33)]) dX12_last_23 wc_X12_ruleFor wd_2073 wd_2075 wd_81 wd_122 ds_X12_ruleFor (by decide) (by omega) (Nat.le_of_ble_eq_true rfl) (Nat.zero_le _) (Nat.zero_le _) hc_10 (by decide) rfl rfl h
theorem bX12_last_26 {SC : Nat → Nat} {X : mh_X} {d : Nat} {Q : Option am_V → am_W → Prop} {bc bs : Nat} {w : am_W} {x1 : Int} {x2 : Int} {xs0 : Int}
    (h : ((¬ xs0 = (-1) → am_M (mh_G X) SC (d + 10) 0 0 mX12_prepares [.inr (.inr (some (9, 0))), .inl x1, .inl (w.1 9 0 33)] w (fun r w1 => am_A (mh_G X) SC (d + 11) mX12_last Q 43 [(0, .inr (.inr (some (9, 0)))), (1, .inl x1), (2, .inl x2)] (r.toList ++ []) w1 bc bs)) ∧ (xs0 = (-1) → Q (some (.inl (-2147483648))) w))) :
    am_A (mh_G X) SC (d + 11) mX12_last Q 26 [(0, .inr (.inr (some (9, 0)))), (1, .inl x1), (2, .inl x2)] [.inl xs0] w bc bs := by
  refine am_iconst dX12_last_26 (by unfold am_rg; omega) ?_
  refine am_icmpne (tgt := 34) dX12_last_27 (by decide) (fun c1 => ?_) (fun c1 => ?_)
  · replace h := h.1 c1
    refine am_aload_n dX12_last_34 (List.Mem.head _) ?_
    refine am_iload_n dX12_last_35 (List.Mem.tail _ (List.Mem.head _)) ?_
    refine am_aload_n dX12_last_36 (List.Mem.head _) ?_
    refine am_getf (f := 33) (v := .inl (w.1 9 0 33)) dX12_last_37 hc_10 (by decide) wd_1582 (by decide) rfl rfl ?_
    exact am_callv (d' := d + 10) (kc := 0) (ks := 0) (as := [.inl x1, .inl (w.1 9 0 33)]) dX12_last_40 wc_X12_prepares wd_2093 wd_2095 wd_85 wd_122 ds_X12_prepares (by decide) (by omega) (Nat.le_of_ble_eq_true rfl) (Nat.zero_le _) (Nat.zero_le _) hc_10 (by decide) rfl rfl h
  · replace h := h.2 c1
    refine am_ldcwV (n := (-2147483648)) dX12_last_30 (by decide) wd_1887 (by unfold am_rg; omega) ?_
    exact am_ret (r := some (.inl (-2147483648))) dX12_last_33 (Or.inl rfl) rfl h
theorem bX12_last_43 {SC : Nat → Nat} {X : mh_X} {d : Nat} {Q : Option am_V → am_W → Prop} {bc bs : Nat} {w : am_W} {x1 : Int} {x2 : Int}
    (h : am_A (mh_G X) SC (d + 11) mX12_last Q 45 [(0, .inr (.inr (some (9, 0)))), (2, .inl x2), (3, .inl 0)] [] w bc bs) :
    am_A (mh_G X) SC (d + 11) mX12_last Q 43 [(0, .inr (.inr (some (9, 0)))), (1, .inl x1), (2, .inl x2)] [] w bc bs := by
  refine am_iconst dX12_last_43 (by unfold am_rg; omega) ?_
  refine am_istore_n (ls' := [(3, .inl 0), (0, .inr (.inr (some (9, 0)))), (1, .inl x1), (2, .inl x2)]) dX12_last_44 (by decide) rfl ?_
  exact am_sub [1, 3, 0] rfl h
theorem bX12_last_45 {SC : Nat → Nat} {X : mh_X} {d : Nat} {Q : Option am_V → am_W → Prop} {bc bs : Nat} {w : am_W} {x2 : Int} {x3 : Int}
    (h : (0 ≤ x3 ∧ (x3 < 40 ∧ (((w.1 114 0 x3.toNat) = x2 → am_A (mh_G X) SC (d + 11) mX12_last Q 74 [(0, .inr (.inr (some (9, 0)))), (3, .inl x3), (4, .inl (-2147483648)), (5, .inl (w.1 115 0 x3.toNat))] [] w bc bs) ∧ (¬ (w.1 114 0 x3.toNat) = x2 → am_A (mh_G X) SC (d + 11) mX12_last Q 45 [(0, .inr (.inr (some (9, 0)))), (2, .inl x2), (3, .inl (am_w (x3 + 1)))] [] w bc bs))))) :
    am_A (mh_G X) SC (d + 11) mX12_last Q 45 [(0, .inr (.inr (some (9, 0)))), (2, .inl x2), (3, .inl x3)] [] w bc bs := by
  refine am_aload_n dX12_last_45 (List.Mem.head _) ?_
  refine am_getf (f := 55) (v := .inr (.inr (some (114, 0)))) dX12_last_46 hc_10 (by decide) wd_1604 (by decide) rfl rfl ?_
  refine am_iload_n dX12_last_49 (List.Mem.tail _ (List.Mem.tail _ (List.Mem.head _))) ?_
  have o1 := h.1
  replace h := h.2
  have o2 := h.1
  replace h := h.2
  refine am_iaload (v := (w.1 114 0 x3.toNat)) dX12_last_50 (by decide) rfl o1 o2 rfl ?_
  refine am_iload_n dX12_last_51 (List.Mem.tail _ (List.Mem.head _)) ?_
  refine am_icmpeq (tgt := 61) dX12_last_52 (by decide) (fun c3 => ?_) (fun c3 => ?_)
  · replace h := h.1 c3
    refine am_ldcwV (n := (-2147483648)) dX12_last_61 (by decide) wd_1887 (by unfold am_rg; omega) ?_
    refine am_istore (ls' := [(4, .inl (-2147483648)), (0, .inr (.inr (some (9, 0)))), (2, .inl x2), (3, .inl x3)]) dX12_last_64 (by decide) rfl ?_
    refine am_aload_n dX12_last_66 (List.Mem.tail _ (List.Mem.head _)) ?_
    refine am_getf (f := 56) (v := .inr (.inr (some (115, 0)))) dX12_last_67 hc_10 (by decide) wd_1605 (by decide) rfl rfl ?_
    refine am_iload_n dX12_last_70 (List.Mem.tail _ (List.Mem.tail _ (List.Mem.tail _ (List.Mem.head _)))) ?_
    refine am_iaload (v := (w.1 115 0 x3.toNat)) dX12_last_71 (by decide) rfl o1 o2 rfl ?_
    refine am_istore (ls' := [(5, .inl (w.1 115 0 x3.toNat)), (4, .inl (-2147483648)), (0, .inr (.inr (some (9, 0)))), (2, .inl x2), (3, .inl x3)]) dX12_last_72 (by decide) rfl ?_
    exact am_sub [2, 4, 1, 0] rfl h
  · replace h := h.2 c3
    refine am_iinc (ls' := [(3, .inl (am_w (x3 + 1))), (0, .inr (.inr (some (9, 0)))), (2, .inl x2)]) dX12_last_55 (List.Mem.tail _ (List.Mem.tail _ (List.Mem.head _))) (by decide) rfl ?_
    refine am_goto (tgt := 45) dX12_last_58 (by decide) ?_
    exact am_sub [1, 2, 0] rfl h
theorem bX12_last_74 {SC : Nat → Nat} {X : mh_X} {d : Nat} {Q : Option am_V → am_W → Prop} {bc bs : Nat} {w : am_W} {x3 : Int} {x4 : Int} {x5 : Int}
    (h : ((73048 < x5 → Q (some (.inl x4)) w) ∧ (¬ 73048 < x5 → am_M (mh_G X) SC (d + 10) 0 0 mX12_goesTo [.inr (.inr (some (9, 0))), .inl x5] w (fun r w1 => am_A (mh_G X) SC (d + 11) mX12_last Q 88 [(0, .inr (.inr (some (9, 0)))), (3, .inl x3), (4, .inl x4), (5, .inl x5)] (r.toList ++ []) w1 bc bs)))) :
    am_A (mh_G X) SC (d + 11) mX12_last Q 74 [(0, .inr (.inr (some (9, 0)))), (3, .inl x3), (4, .inl x4), (5, .inl x5)] [] w bc bs := by
  refine am_iload dX12_last_74 (List.Mem.tail _ (List.Mem.tail _ (List.Mem.tail _ (List.Mem.head _)))) ?_
  refine am_ldcwV (n := 73048) dX12_last_76 (by decide) wd_2143 (by unfold am_rg; omega) ?_
  refine am_icmpgt (tgt := 111) dX12_last_79 (by decide) (fun c1 => ?_) (fun c1 => ?_)
  · replace h := h.1 c1
    refine am_iload dX12_last_111 (List.Mem.tail _ (List.Mem.tail _ (List.Mem.head _))) ?_
    exact am_ret (r := some (.inl x4)) dX12_last_113 (Or.inl rfl) rfl h
  · replace h := h.2 c1
    refine am_aload_n dX12_last_82 (List.Mem.head _) ?_
    refine am_iload dX12_last_83 (List.Mem.tail _ (List.Mem.tail _ (List.Mem.tail _ (List.Mem.head _)))) ?_
    exact am_callv (d' := d + 10) (kc := 0) (ks := 0) (as := [.inl x5]) dX12_last_85 wc_X12_goesTo wd_2104 wd_2106 wd_87 wd_122 ds_X12_goesTo (by decide) (by omega) (Nat.le_of_ble_eq_true rfl) (Nat.zero_le _) (Nat.zero_le _) hc_10 (by decide) rfl rfl h
theorem bX12_last_88 {SC : Nat → Nat} {X : mh_X} {d : Nat} {Q : Option am_V → am_W → Prop} {bc bs : Nat} {w : am_W} {x3 : Int} {x4 : Int} {x5 : Int}
    (h : am_M (mh_G X) SC (d + 10) 0 0 mX12_depthOf [.inr (.inr (some (9, 0))), .inl x3, .inl x5] w (fun r w1 => am_A (mh_G X) SC (d + 11) mX12_last Q 95 [(0, .inr (.inr (some (9, 0)))), (3, .inl x3), (4, .inl x4), (5, .inl x5)] (r.toList ++ []) w1 bc bs)) :
    am_A (mh_G X) SC (d + 11) mX12_last Q 88 [(0, .inr (.inr (some (9, 0)))), (3, .inl x3), (4, .inl x4), (5, .inl x5)] [] w bc bs := by
  refine am_aload_n dX12_last_88 (List.Mem.head _) ?_
  refine am_iload_n dX12_last_89 (List.Mem.tail _ (List.Mem.head _)) ?_
  refine am_iload dX12_last_90 (List.Mem.tail _ (List.Mem.tail _ (List.Mem.tail _ (List.Mem.head _)))) ?_
  exact am_callv (d' := d + 10) (kc := 0) (ks := 0) (as := [.inl x3, .inl x5]) dX12_last_92 wc_X12_depthOf wd_2117 wd_2119 wd_90 wd_122 ds_X12_depthOf (by decide) (by omega) (Nat.le_of_ble_eq_true rfl) (Nat.zero_le _) (Nat.zero_le _) hc_10 (by decide) rfl rfl h
theorem bX12_last_95 {SC : Nat → Nat} {X : mh_X} {d : Nat} {Q : Option am_V → am_W → Prop} {bc bs : Nat} {w : am_W} {x3 : Int} {x4 : Int} {x5 : Int} {xs0 : Int}
    (h : ((¬ xs0 = 0 → am_A (mh_G X) SC (d + 11) mX12_last Q 74 [(0, .inr (.inr (some (9, 0)))), (3, .inl x3), (4, .inl x5), (5, .inl (am_w (x5 + 1)))] [] w bc bs) ∧ (xs0 = 0 → Q (some (.inl x4)) w))) :
    am_A (mh_G X) SC (d + 11) mX12_last Q 95 [(0, .inr (.inr (some (9, 0)))), (3, .inl x3), (4, .inl x4), (5, .inl x5)] [.inl xs0] w bc bs := by
  refine am_ifne (tgt := 101) dX12_last_95 (by decide) (fun c1 => ?_) (fun c1 => ?_)
  · replace h := h.1 c1
    refine am_iload dX12_last_101 (List.Mem.tail _ (List.Mem.tail _ (List.Mem.tail _ (List.Mem.head _)))) ?_
    refine am_istore (ls' := [(4, .inl x5), (0, .inr (.inr (some (9, 0)))), (3, .inl x3), (5, .inl x5)]) dX12_last_103 (by decide) rfl ?_
    refine am_iinc (ls' := [(5, .inl (am_w (x5 + 1))), (4, .inl x5), (0, .inr (.inr (some (9, 0)))), (3, .inl x3)]) dX12_last_105 (List.Mem.tail _ (List.Mem.tail _ (List.Mem.tail _ (List.Mem.head _)))) (by decide) rfl ?_
    refine am_goto (tgt := 74) dX12_last_108 (by decide) ?_
    exact am_sub [2, 3, 1, 0] rfl h
  · replace h := h.2 c1
    refine am_iload dX12_last_98 (List.Mem.tail _ (List.Mem.tail _ (List.Mem.head _))) ?_
    exact am_ret (r := some (.inl x4)) dX12_last_100 (Or.inl rfl) rfl h
-- MourningHouseModel.edge(II)I
theorem dX12_edge_0 : decode mX12_edge.2.1 0 = .ok (.aload_n 0, 1) := by decide +kernel
theorem dX12_edge_1 : decode mX12_edge.2.1 1 = .ok (.iload_n 1, 1) := by decide +kernel
theorem dX12_edge_2 : decode mX12_edge.2.1 2 = .ok (.invokevirtual 453, 3) := by decide +kernel
theorem dX12_edge_5 : decode mX12_edge.2.1 5 = .ok (.ifCond .eq 10, 3) := by decide +kernel
theorem dX12_edge_8 : decode mX12_edge.2.1 8 = .ok (.iload_n 2, 1) := by decide +kernel
theorem dX12_edge_9 : decode mX12_edge.2.1 9 = .ok (.invokestatic 322, 3) := by decide +kernel
theorem dX12_edge_12 : decode mX12_edge.2.1 12 = .ok (.ifCond .ne 5, 3) := by decide +kernel
theorem dX12_edge_15 : decode mX12_edge.2.1 15 = .ok (.iconst (-1), 1) := by decide +kernel
theorem dX12_edge_16 : decode mX12_edge.2.1 16 = .ok (.ireturn, 1) := by decide +kernel
theorem dX12_edge_17 : decode mX12_edge.2.1 17 = .ok (.aload_n 0, 1) := by decide +kernel
theorem dX12_edge_18 : decode mX12_edge.2.1 18 = .ok (.iload_n 1, 1) := by decide +kernel
theorem dX12_edge_19 : decode mX12_edge.2.1 19 = .ok (.iload_n 2, 1) := by decide +kernel
theorem dX12_edge_20 : decode mX12_edge.2.1 20 = .ok (.aload_n 0, 1) := by decide +kernel
theorem dX12_edge_21 : decode mX12_edge.2.1 21 = .ok (.getfield 444, 3) := by decide +kernel
theorem dX12_edge_24 : decode mX12_edge.2.1 24 = .ok (.invokevirtual 560, 3) := by decide +kernel
theorem dX12_edge_27 : decode mX12_edge.2.1 27 = .ok (.istore_n 3, 1) := by decide +kernel
theorem dX12_edge_28 : decode mX12_edge.2.1 28 = .ok (.iload_n 3, 1) := by decide +kernel
theorem dX12_edge_29 : decode mX12_edge.2.1 29 = .ok (.ifCond .gt 5, 3) := by decide +kernel
theorem dX12_edge_32 : decode mX12_edge.2.1 32 = .ok (.iload_n 3, 1) := by decide +kernel
theorem dX12_edge_33 : decode mX12_edge.2.1 33 = .ok (.ireturn, 1) := by decide +kernel
theorem dX12_edge_34 : decode mX12_edge.2.1 34 = .ok (.iconst 0, 1) := by decide +kernel
theorem dX12_edge_35 : decode mX12_edge.2.1 35 = .ok (.istore 4, 2) := by decide +kernel
theorem dX12_edge_37 : decode mX12_edge.2.1 37 = .ok (.iconst 0, 1) := by decide +kernel
theorem dX12_edge_38 : decode mX12_edge.2.1 38 = .ok (.istore 5, 2) := by decide +kernel
theorem dX12_edge_40 : decode mX12_edge.2.1 40 = .ok (.iload 5, 2) := by decide +kernel
theorem dX12_edge_42 : decode mX12_edge.2.1 42 = .ok (.aload_n 0, 1) := by decide +kernel
theorem dX12_edge_43 : decode mX12_edge.2.1 43 = .ok (.getfield 496, 3) := by decide +kernel
theorem dX12_edge_46 : decode mX12_edge.2.1 46 = .ok (.if_icmp .ge 46, 3) := by decide +kernel
theorem dX12_edge_49 : decode mX12_edge.2.1 49 = .ok (.iload 4, 2) := by decide +kernel
theorem dX12_edge_51 : decode mX12_edge.2.1 51 = .ok (.ifCond .ne 28, 3) := by decide +kernel
theorem dX12_edge_54 : decode mX12_edge.2.1 54 = .ok (.iload_n 2, 1) := by decide +kernel
theorem dX12_edge_55 : decode mX12_edge.2.1 55 = .ok (.aload_n 0, 1) := by decide +kernel
theorem dX12_edge_56 : decode mX12_edge.2.1 56 = .ok (.getfield 207, 3) := by decide +kernel
theorem dX12_edge_59 : decode mX12_edge.2.1 59 = .ok (.iload 5, 2) := by decide +kernel
theorem dX12_edge_61 : decode mX12_edge.2.1 61 = .ok (.iaload, 1) := by decide +kernel
theorem dX12_edge_62 : decode mX12_edge.2.1 62 = .ok (.if_icmp .lt 21, 3) := by decide +kernel
theorem dX12_edge_65 : decode mX12_edge.2.1 65 = .ok (.iload_n 2, 1) := by decide +kernel
theorem dX12_edge_66 : decode mX12_edge.2.1 66 = .ok (.aload_n 0, 1) := by decide +kernel
theorem dX12_edge_67 : decode mX12_edge.2.1 67 = .ok (.getfield 207, 3) := by decide +kernel
theorem dX12_edge_70 : decode mX12_edge.2.1 70 = .ok (.iload 5, 2) := by decide +kernel
theorem dX12_edge_72 : decode mX12_edge.2.1 72 = .ok (.iaload, 1) := by decide +kernel
theorem dX12_edge_73 : decode mX12_edge.2.1 73 = .ok (.isub, 1) := by decide +kernel
theorem dX12_edge_74 : decode mX12_edge.2.1 74 = .ok (.bipush 30, 2) := by decide +kernel
theorem dX12_edge_76 : decode mX12_edge.2.1 76 = .ok (.if_icmp .ge 7, 3) := by decide +kernel
theorem dX12_edge_79 : decode mX12_edge.2.1 79 = .ok (.iconst 1, 1) := by decide +kernel
theorem dX12_edge_80 : decode mX12_edge.2.1 80 = .ok (.goto 4, 3) := by decide +kernel
theorem dX12_edge_83 : decode mX12_edge.2.1 83 = .ok (.iconst 0, 1) := by decide +kernel
theorem dX12_edge_84 : decode mX12_edge.2.1 84 = .ok (.istore 4, 2) := by decide +kernel
theorem dX12_edge_86 : decode mX12_edge.2.1 86 = .ok (.iinc 5 1, 3) := by decide +kernel
theorem dX12_edge_89 : decode mX12_edge.2.1 89 = .ok (.goto (-49), 3) := by decide +kernel
theorem dX12_edge_92 : decode mX12_edge.2.1 92 = .ok (.iconst 2, 1) := by decide +kernel
theorem dX12_edge_93 : decode mX12_edge.2.1 93 = .ok (.iload_n 3, 1) := by decide +kernel
theorem dX12_edge_94 : decode mX12_edge.2.1 94 = .ok (.imul, 1) := by decide +kernel
theorem dX12_edge_95 : decode mX12_edge.2.1 95 = .ok (.iload 4, 2) := by decide +kernel
theorem dX12_edge_97 : decode mX12_edge.2.1 97 = .ok (.ifCond .eq 7, 3) := by decide +kernel
theorem dX12_edge_100 : decode mX12_edge.2.1 100 = .ok (.iconst 2, 1) := by decide +kernel
theorem dX12_edge_101 : decode mX12_edge.2.1 101 = .ok (.goto 4, 3) := by decide +kernel
theorem dX12_edge_104 : decode mX12_edge.2.1 104 = .ok (.iconst 0, 1) := by decide +kernel
theorem dX12_edge_105 : decode mX12_edge.2.1 105 = .ok (.iadd, 1) := by decide +kernel
theorem dX12_edge_106 : decode mX12_edge.2.1 106 = .ok (.ireturn, 1) := by decide +kernel
theorem bX12_edge_0 {SC : Nat → Nat} {X : mh_X} {d : Nat} {Q : Option am_V → am_W → Prop} {bc bs : Nat} {w : am_W} {x1 : Int} {x2 : Int}
    (h : ((¬ (¬ x1 < (0 : Int) ∧ (¬ (am_w ((w.1 9 0 42) - 1)) < x1)) → Q (some (.inl (-1))) w) ∧ ((¬ x1 < (0 : Int) ∧ (¬ (am_w ((w.1 9 0 42) - 1)) < x1)) → (((¬ x2 < ((-36524) : Int) ∧ (¬ (73047 : Int) < x2)) → am_M (mh_G X) SC (d + 11) 0 0 mX12_depthAt [.inr (.inr (some (9, 0))), .inl x1, .inl x2, .inl (w.1 9 0 33)] w (fun r w1 => am_A (mh_G X) SC (d + 12) mX12_edge Q 27 [(0, .inr (.inr (some (9, 0)))), (1, .inl x1), (2, .inl x2)] (r.toList ++ []) w1 bc bs)) ∧ (¬ (¬ x2 < ((-36524) : Int) ∧ (¬ (73047 : Int) < x2)) → Q (some (.inl (-1))) w))))) :
    am_A (mh_G X) SC (d + 12) mX12_edge Q 0 [(0, .inr (.inr (some (9, 0)))), (1, .inl x1), (2, .inl x2)] [] w bc bs := by
  refine am_aload_n dX12_edge_0 (List.Mem.head _) ?_
  refine am_iload_n dX12_edge_1 (List.Mem.tail _ (List.Mem.head _)) ?_
  refine am_callv (d' := d + 11) (kc := 0) (ks := 0) (as := [.inl x1]) dX12_edge_2 wc_X12_isPerson wd_2018 wd_2020 wd_73 wd_122 ds_X12_isPerson (by decide) (by omega) (Nat.le_of_ble_eq_true rfl) (Nat.zero_le _) (Nat.zero_le _) hc_10 (by decide) rfl rfl (sX12_isPerson (d := d + 9) (x1 := x1)  ?_)
  show am_A (mh_G X) SC (d + 12) mX12_edge Q 5 [(0, .inr (.inr (some (9, 0)))), (1, .inl x1), (2, .inl x2)] [.inl (if (¬ x1 < (0 : Int) ∧ (¬ (am_w ((w.1 9 0 42) - 1)) < x1)) then 1 else 0)] w bc bs
  refine am_ifeq (tgt := 15) dX12_edge_5 (by decide) (fun c1 => ?_) (fun c1 => ?_)
  · replace c1 := am_beq1 c1
    replace h := h.1 c1
    refine am_iconst dX12_edge_15 (by unfold am_rg; omega) ?_
    exact am_ret (r := some (.inl (-1))) dX12_edge_16 (Or.inl rfl) rfl h
  · replace c1 := am_beq2 c1
    replace h := h.2 c1
    refine am_iload_n dX12_edge_8 (List.Mem.tail _ (List.Mem.tail _ (List.Mem.head _))) ?_
    refine am_calls (d' := d + 11) (kc := 0) (ks := 0) (as := [.inl x2]) dX12_edge_9 wc_X12_isDay wd_1854 wd_1855 wd_122 ds_X12_isDay (by decide) (by omega) (Nat.le_of_ble_eq_true rfl) (Nat.zero_le _) (Nat.zero_le _) rfl (sX12_isDay (d := d + 9) (x0 := x2)  ?_)
    show am_A (mh_G X) SC (d + 12) mX12_edge Q 12 [(0, .inr (.inr (some (9, 0)))), (1, .inl x1), (2, .inl x2)] [.inl (if (¬ x2 < ((-36524) : Int) ∧ (¬ (73047 : Int) < x2)) then 1 else 0)] w bc bs
    refine am_ifne (tgt := 17) dX12_edge_12 (by decide) (fun c2 => ?_) (fun c2 => ?_)
    · replace c2 := am_bne1 c2
      replace h := h.1 c2
      refine am_aload_n dX12_edge_17 (List.Mem.head _) ?_
      refine am_iload_n dX12_edge_18 (List.Mem.tail _ (List.Mem.head _)) ?_
      refine am_iload_n dX12_edge_19 (List.Mem.tail _ (List.Mem.tail _ (List.Mem.head _))) ?_
      refine am_aload_n dX12_edge_20 (List.Mem.head _) ?_
      refine am_getf (f := 33) (v := .inl (w.1 9 0 33)) dX12_edge_21 hc_10 (by decide) wd_1582 (by decide) rfl rfl ?_
      exact am_callv (d' := d + 11) (kc := 0) (ks := 0) (as := [.inl x1, .inl x2, .inl (w.1 9 0 33)]) dX12_edge_24 wc_X12_depthAt wd_2085 wd_2087 wd_83 wd_122 ds_X12_depthAt (by decide) (by omega) (Nat.le_of_ble_eq_true rfl) (Nat.zero_le _) (Nat.zero_le _) hc_10 (by decide) rfl rfl h
    · replace c2 := am_bne2 c2
      replace h := h.2 c2
      refine am_iconst dX12_edge_15 (by unfold am_rg; omega) ?_
      exact am_ret (r := some (.inl (-1))) dX12_edge_16 (Or.inl rfl) rfl h
theorem bX12_edge_27 {SC : Nat → Nat} {X : mh_X} {d : Nat} {Q : Option am_V → am_W → Prop} {bc bs : Nat} {w : am_W} {x1 : Int} {x2 : Int} {xs0 : Int}
    (h : ((0 < xs0 → am_A (mh_G X) SC (d + 12) mX12_edge Q 40 [(0, .inr (.inr (some (9, 0)))), (2, .inl x2), (3, .inl xs0), (4, .inl 0), (5, .inl 0)] [] w bc bs) ∧ (¬ 0 < xs0 → Q (some (.inl xs0)) w))) :
    am_A (mh_G X) SC (d + 12) mX12_edge Q 27 [(0, .inr (.inr (some (9, 0)))), (1, .inl x1), (2, .inl x2)] [.inl xs0] w bc bs := by
  refine am_istore_n (ls' := [(3, .inl xs0), (0, .inr (.inr (some (9, 0)))), (1, .inl x1), (2, .inl x2)]) dX12_edge_27 (by decide) rfl ?_
  refine am_iload_n dX12_edge_28 (List.Mem.head _) ?_
  refine am_ifgt (tgt := 34) dX12_edge_29 (by decide) (fun c1 => ?_) (fun c1 => ?_)
  · replace h := h.1 c1
    refine am_iconst dX12_edge_34 (by unfold am_rg; omega) ?_
    refine am_istore (ls' := [(4, .inl 0), (3, .inl xs0), (0, .inr (.inr (some (9, 0)))), (1, .inl x1), (2, .inl x2)]) dX12_edge_35 (by decide) rfl ?_
    refine am_iconst dX12_edge_37 (by unfold am_rg; omega) ?_
    refine am_istore (ls' := [(5, .inl 0), (4, .inl 0), (3, .inl xs0), (0, .inr (.inr (some (9, 0)))), (1, .inl x1), (2, .inl x2)]) dX12_edge_38 (by decide) rfl ?_
    exact am_sub [3, 5, 2, 1, 0] rfl h
  · replace h := h.2 c1
    refine am_iload_n dX12_edge_32 (List.Mem.head _) ?_
    exact am_ret (r := some (.inl xs0)) dX12_edge_33 (Or.inl rfl) rfl h
theorem bX12_edge_40 {SC : Nat → Nat} {X : mh_X} {d : Nat} {Q : Option am_V → am_W → Prop} {bc bs : Nat} {w : am_W} {x2 : Int} {x3 : Int} {x4 : Int} {x5 : Int}
    (h : (((w.1 9 0 62) ≤ x5 → ((x4 = 0 → Q (some (.inl (am_w ((am_w (2 * x3)) + 0)))) w) ∧ (¬ x4 = 0 → Q (some (.inl (am_w ((am_w (2 * x3)) + 2)))) w))) ∧ (¬ (w.1 9 0 62) ≤ x5 → ((¬ x4 = 0 → am_A (mh_G X) SC (d + 12) mX12_edge Q 79 [(0, .inr (.inr (some (9, 0)))), (2, .inl x2), (3, .inl x3), (5, .inl x5)] [] w bc bs) ∧ (x4 = 0 → (0 ≤ x5 ∧ (x5 < 40 ∧ ((x2 < (w.1 115 0 x5.toNat) → am_A (mh_G X) SC (d + 12) mX12_edge Q 83 [(0, .inr (.inr (some (9, 0)))), (2, .inl x2), (3, .inl x3), (5, .inl x5)] [] w bc bs) ∧ (¬ x2 < (w.1 115 0 x5.toNat) → ((30 ≤ (am_w (x2 - (w.1 115 0 x5.toNat))) → am_A (mh_G X) SC (d + 12) mX12_edge Q 83 [(0, .inr (.inr (some (9, 0)))), (2, .inl x2), (3, .inl x3), (5, .inl x5)] [] w bc bs) ∧ (¬ 30 ≤ (am_w (x2 - (w.1 115 0 x5.toNat))) → am_A (mh_G X) SC (d + 12) mX12_edge Q 79 [(0, .inr (.inr (some (9, 0)))), (2, .inl x2), (3, .inl x3), (5, .inl x5)] [] w bc bs))))))))))) :
    am_A (mh_G X) SC (d + 12) mX12_edge Q 40 [(0, .inr (.inr (some (9, 0)))), (2, .inl x2), (3, .inl x3), (4, .inl x4), (5, .inl x5)] [] w bc bs := by
  refine am_iload dX12_edge_40 (List.Mem.tail _ (List.Mem.tail _ (List.Mem.tail _ (List.Mem.tail _ (List.Mem.head _))))) ?_
  refine am_aload_n dX12_edge_42 (List.Mem.head _) ?_
  refine am_getf (f := 62) (v := .inl (w.1 9 0 62)) dX12_edge_43 hc_10 (by decide) wd_1611 (by decide) rfl rfl ?_
  refine am_icmpge (tgt := 92) dX12_edge_46 (by decide) (fun c1 => ?_) (fun c1 => ?_)
  · replace h := h.1 c1
    refine am_iconst dX12_edge_92 (by unfold am_rg; omega) ?_
    refine am_iload_n dX12_edge_93 (List.Mem.tail _ (List.Mem.tail _ (List.Mem.head _))) ?_
    refine am_imul dX12_edge_94 ?_
    refine am_iload dX12_edge_95 (List.Mem.tail _ (List.Mem.tail _ (List.Mem.tail _ (List.Mem.head _)))) ?_
    refine am_ifeq (tgt := 104) dX12_edge_97 (by decide) (fun c2 => ?_) (fun c2 => ?_)
    · replace h := h.1 c2
      refine am_iconst dX12_edge_104 (by unfold am_rg; omega) ?_
      refine am_iadd dX12_edge_105 ?_
      exact am_ret (r := some (.inl (am_w ((am_w (2 * x3)) + 0)))) dX12_edge_106 (Or.inl rfl) rfl h
    · replace h := h.2 c2
      refine am_iconst dX12_edge_100 (by unfold am_rg; omega) ?_
      refine am_goto (tgt := 105) dX12_edge_101 (by decide) ?_
      refine am_iadd dX12_edge_105 ?_
      exact am_ret (r := some (.inl (am_w ((am_w (2 * x3)) + 2)))) dX12_edge_106 (Or.inl rfl) rfl h
  · replace h := h.2 c1
    refine am_iload dX12_edge_49 (List.Mem.tail _ (List.Mem.tail _ (List.Mem.tail _ (List.Mem.head _)))) ?_
    refine am_ifne (tgt := 79) dX12_edge_51 (by decide) (fun c3 => ?_) (fun c3 => ?_)
    · replace h := h.1 c3
      exact am_sub [0, 1, 2, 4] rfl h
    · replace h := h.2 c3
      refine am_iload_n dX12_edge_54 (List.Mem.tail _ (List.Mem.head _)) ?_
      refine am_aload_n dX12_edge_55 (List.Mem.head _) ?_
      refine am_getf (f := 56) (v := .inr (.inr (some (115, 0)))) dX12_edge_56 hc_10 (by decide) wd_1605 (by decide) rfl rfl ?_
      refine am_iload dX12_edge_59 (List.Mem.tail _ (List.Mem.tail _ (List.Mem.tail _ (List.Mem.tail _ (List.Mem.head _))))) ?_
      have o4 := h.1
      replace h := h.2
      have o5 := h.1
      replace h := h.2
      refine am_iaload (v := (w.1 115 0 x5.toNat)) dX12_edge_61 (by decide) rfl o4 o5 rfl ?_
      refine am_icmplt (tgt := 83) dX12_edge_62 (by decide) (fun c6 => ?_) (fun c6 => ?_)
      · replace h := h.1 c6
        exact am_sub [0, 1, 2, 4] rfl h
      · replace h := h.2 c6
        refine am_iload_n dX12_edge_65 (List.Mem.tail _ (List.Mem.head _)) ?_
        refine am_aload_n dX12_edge_66 (List.Mem.head _) ?_
        refine am_getf (f := 56) (v := .inr (.inr (some (115, 0)))) dX12_edge_67 hc_10 (by decide) wd_1605 (by decide) rfl rfl ?_
        refine am_iload dX12_edge_70 (List.Mem.tail _ (List.Mem.tail _ (List.Mem.tail _ (List.Mem.tail _ (List.Mem.head _))))) ?_
        refine am_iaload (v := (w.1 115 0 x5.toNat)) dX12_edge_72 (by decide) rfl o4 o5 rfl ?_
        refine am_isub dX12_edge_73 ?_
        refine am_bipush dX12_edge_74 (by decide) (by unfold am_rg; omega) ?_
        refine am_icmpge (tgt := 83) dX12_edge_76 (by decide) (fun c7 => ?_) (fun c7 => ?_)
        · replace h := h.1 c7
          exact am_sub [0, 1, 2, 4] rfl h
        · replace h := h.2 c7
          exact am_sub [0, 1, 2, 4] rfl h
theorem bX12_edge_79 {SC : Nat → Nat} {X : mh_X} {d : Nat} {Q : Option am_V → am_W → Prop} {bc bs : Nat} {w : am_W} {x2 : Int} {x3 : Int} {x5 : Int}
    (h : am_A (mh_G X) SC (d + 12) mX12_edge Q 84 [(0, .inr (.inr (some (9, 0)))), (2, .inl x2), (3, .inl x3), (5, .inl x5)] [.inl 1] w bc bs) :
    am_A (mh_G X) SC (d + 12) mX12_edge Q 79 [(0, .inr (.inr (some (9, 0)))), (2, .inl x2), (3, .inl x3), (5, .inl x5)] [] w bc bs := by
  refine am_iconst dX12_edge_79 (by unfold am_rg; omega) ?_
  refine am_goto (tgt := 84) dX12_edge_80 (by decide) ?_
  exact h
theorem bX12_edge_83 {SC : Nat → Nat} {X : mh_X} {d : Nat} {Q : Option am_V → am_W → Prop} {bc bs : Nat} {w : am_W} {x2 : Int} {x3 : Int} {x5 : Int}
    (h : am_A (mh_G X) SC (d + 12) mX12_edge Q 84 [(0, .inr (.inr (some (9, 0)))), (2, .inl x2), (3, .inl x3), (5, .inl x5)] [.inl 0] w bc bs) :
    am_A (mh_G X) SC (d + 12) mX12_edge Q 83 [(0, .inr (.inr (some (9, 0)))), (2, .inl x2), (3, .inl x3), (5, .inl x5)] [] w bc bs := by
  refine am_iconst dX12_edge_83 (by unfold am_rg; omega) ?_
  exact h
theorem bX12_edge_84 {SC : Nat → Nat} {X : mh_X} {d : Nat} {Q : Option am_V → am_W → Prop} {bc bs : Nat} {w : am_W} {x2 : Int} {x3 : Int} {x5 : Int} {xs0 : Int}
    (h : am_A (mh_G X) SC (d + 12) mX12_edge Q 40 [(0, .inr (.inr (some (9, 0)))), (2, .inl x2), (3, .inl x3), (4, .inl xs0), (5, .inl (am_w (x5 + 1)))] [] w bc bs) :
    am_A (mh_G X) SC (d + 12) mX12_edge Q 84 [(0, .inr (.inr (some (9, 0)))), (2, .inl x2), (3, .inl x3), (5, .inl x5)] [.inl xs0] w bc bs := by
  refine am_istore (ls' := [(4, .inl xs0), (0, .inr (.inr (some (9, 0)))), (2, .inl x2), (3, .inl x3), (5, .inl x5)]) dX12_edge_84 (by decide) rfl ?_
  refine am_iinc (ls' := [(5, .inl (am_w (x5 + 1))), (4, .inl xs0), (0, .inr (.inr (some (9, 0)))), (2, .inl x2), (3, .inl x3)]) dX12_edge_86 (List.Mem.tail _ (List.Mem.tail _ (List.Mem.tail _ (List.Mem.tail _ (List.Mem.head _))))) (by decide) rfl ?_
  refine am_goto (tgt := 40) dX12_edge_89 (by decide) ?_
  exact am_sub [2, 3, 4, 1, 0] rfl h
-- MourningHouseModel.isAct(I)Z
theorem dX12_isAct_0 : decode mX12_isAct.2.1 0 = .ok (.iload_n 0, 1) := by decide +kernel
theorem dX12_isAct_1 : decode mX12_isAct.2.1 1 = .ok (.iconst 0, 1) := by decide +kernel
theorem dX12_isAct_2 : decode mX12_isAct.2.1 2 = .ok (.iconst 3, 1) := by decide +kernel
theorem dX12_isAct_3 : decode mX12_isAct.2.1 3 = .ok (.invokestatic 318, 3) := by decide +kernel
theorem dX12_isAct_6 : decode mX12_isAct.2.1 6 = .ok (.ireturn, 1) := by decide +kernel
theorem sX12_isAct {SC : Nat → Nat} {X : mh_X} {d kc ks : Nat} {Q : Option am_V → am_W → Prop} {w : am_W} {x0 : Int}
    (h : Q (some (.inl (if (¬ x0 < (0 : Int) ∧ (¬ (3 : Int) < x0)) then 1 else 0))) w) : am_M (mh_G X) SC (d + 2) kc ks mX12_isAct [.inl x0] w Q := by
  refine am_M_of (by decide) (Nat.le_of_ble_eq_true rfl) ?_
  show am_A (mh_G X) SC (d + 2) mX12_isAct Q 0 [(0, .inl x0)] [] w kc ks
  refine am_iload_n dX12_isAct_0 (List.Mem.head _) ?_
  refine am_iconst dX12_isAct_1 (by unfold am_rg; omega) ?_
  refine am_iconst dX12_isAct_2 (by unfold am_rg; omega) ?_
  refine am_calls (d' := d + 1) (kc := 0) (ks := 0) (as := [.inl x0, .inl 0, .inl 3]) dX12_isAct_3 wc_X12_in wd_1859 wd_1860 wd_122 ds_X12_in (by decide) (by omega) (Nat.le_of_ble_eq_true rfl) (Nat.zero_le _) (Nat.zero_le _) rfl (sX12_in (d := d + 0) (x0 := x0) (x1 := 0) (x2 := 3)  ?_)
  show am_A (mh_G X) SC (d + 2) mX12_isAct Q 6 [(0, .inl x0)] [.inl (if (¬ x0 < (0 : Int) ∧ (¬ (3 : Int) < x0)) then 1 else 0)] w kc ks
  exact am_ret (r := some (.inl (if (¬ x0 < (0 : Int) ∧ (¬ (3 : Int) < x0)) then 1 else 0))) dX12_isAct_6 (Or.inr (Or.inl ⟨rfl, am_b01⟩)) rfl h
-- MourningHouseModel.mayBe(II)Z
theorem dX12_mayBe_0 : decode mX12_mayBe.2.1 0 = .ok (.aload_n 0, 1) := by decide +kernel
theorem dX12_mayBe_1 : decode mX12_mayBe.2.1 1 = .ok (.iload_n 2, 1) := by decide +kernel
theorem dX12_mayBe_2 : decode mX12_mayBe.2.1 2 = .ok (.aload_n 0, 1) := by decide +kernel
theorem dX12_mayBe_3 : decode mX12_mayBe.2.1 3 = .ok (.getfield 505, 3) := by decide +kernel
theorem dX12_mayBe_6 : decode mX12_mayBe.2.1 6 = .ok (.invokevirtual 487, 3) := by decide +kernel
theorem dX12_mayBe_9 : decode mX12_mayBe.2.1 9 = .ok (.istore_n 3, 1) := by decide +kernel
theorem dX12_mayBe_10 : decode mX12_mayBe.2.1 10 = .ok (.iload_n 3, 1) := by decide +kernel
theorem dX12_mayBe_11 : decode mX12_mayBe.2.1 11 = .ok (.iconst (-1), 1) := by decide +kernel
theorem dX12_mayBe_12 : decode mX12_mayBe.2.1 12 = .ok (.if_icmp .eq 19, 3) := by decide +kernel
theorem dX12_mayBe_15 : decode mX12_mayBe.2.1 15 = .ok (.aload_n 0, 1) := by decide +kernel
theorem dX12_mayBe_16 : decode mX12_mayBe.2.1 16 = .ok (.iload_n 2, 1) := by decide +kernel
theorem dX12_mayBe_17 : decode mX12_mayBe.2.1 17 = .ok (.invokevirtual 557, 3) := by decide +kernel
theorem dX12_mayBe_20 : decode mX12_mayBe.2.1 20 = .ok (.aload_n 0, 1) := by decide +kernel
theorem dX12_mayBe_21 : decode mX12_mayBe.2.1 21 = .ok (.getfield 42, 3) := by decide +kernel
theorem dX12_mayBe_24 : decode mX12_mayBe.2.1 24 = .ok (.iload_n 3, 1) := by decide +kernel
theorem dX12_mayBe_25 : decode mX12_mayBe.2.1 25 = .ok (.aaload, 1) := by decide +kernel
theorem dX12_mayBe_26 : decode mX12_mayBe.2.1 26 = .ok (.iload_n 1, 1) := by decide +kernel
theorem dX12_mayBe_27 : decode mX12_mayBe.2.1 27 = .ok (.iaload, 1) := by decide +kernel
theorem dX12_mayBe_28 : decode mX12_mayBe.2.1 28 = .ok (.if_icmp .gt 7, 3) := by decide +kernel
theorem dX12_mayBe_31 : decode mX12_mayBe.2.1 31 = .ok (.iconst 1, 1) := by decide +kernel
theorem dX12_mayBe_32 : decode mX12_mayBe.2.1 32 = .ok (.goto 4, 3) := by decide +kernel
theorem dX12_mayBe_35 : decode mX12_mayBe.2.1 35 = .ok (.iconst 0, 1) := by decide +kernel
theorem dX12_mayBe_36 : decode mX12_mayBe.2.1 36 = .ok (.ireturn, 1) := by decide +kernel
theorem bX12_mayBe_0 {SC : Nat → Nat} {X : mh_X} {d : Nat} {Q : Option am_V → am_W → Prop} {bc bs : Nat} {w : am_W} {x1 : Int} {x2 : Int}
    (h : am_M (mh_G X) SC (d + 8) 0 0 mX12_lawOf [.inr (.inr (some (9, 0))), .inl x2, .inl (w.1 9 0 64)] w (fun r w1 => am_A (mh_G X) SC (d + 9) mX12_mayBe Q 9 [(0, .inr (.inr (some (9, 0)))), (1, .inl x1), (2, .inl x2)] (r.toList ++ []) w1 bc bs)) :
    am_A (mh_G X) SC (d + 9) mX12_mayBe Q 0 [(0, .inr (.inr (some (9, 0)))), (1, .inl x1), (2, .inl x2)] [] w bc bs := by
  refine am_aload_n dX12_mayBe_0 (List.Mem.head _) ?_
  refine am_iload_n dX12_mayBe_1 (List.Mem.tail _ (List.Mem.tail _ (List.Mem.head _))) ?_
  refine am_aload_n dX12_mayBe_2 (List.Mem.head _) ?_
  refine am_getf (f := 64) (v := .inl (w.1 9 0 64)) dX12_mayBe_3 hc_10 (by decide) wd_1613 (by decide) rfl rfl ?_
  exact am_callv (d' := d + 8) (kc := 0) (ks := 0) (as := [.inl x2, .inl (w.1 9 0 64)]) dX12_mayBe_6 wc_X12_lawOf wd_2077 wd_2079 wd_82 wd_122 ds_X12_lawOf (by decide) (by omega) (Nat.le_of_ble_eq_true rfl) (Nat.zero_le _) (Nat.zero_le _) hc_10 (by decide) rfl rfl h
theorem bX12_mayBe_9 {SC : Nat → Nat} {X : mh_X} {d : Nat} {Q : Option am_V → am_W → Prop} {bc bs : Nat} {w : am_W} {x1 : Int} {x2 : Int} {xs0 : Int}
    (h : ((xs0 = (-1) → Q (some (.inl 1)) w) ∧ (¬ xs0 = (-1) → am_M (mh_G X) SC (d + 8) 0 0 mX12_depthNow [.inr (.inr (some (9, 0))), .inl x2] w (fun r w1 => am_A (mh_G X) SC (d + 9) mX12_mayBe Q 20 [(3, .inl xs0), (0, .inr (.inr (some (9, 0)))), (1, .inl x1), (2, .inl x2)] (r.toList ++ []) w1 bc bs)))) :
    am_A (mh_G X) SC (d + 9) mX12_mayBe Q 9 [(0, .inr (.inr (some (9, 0)))), (1, .inl x1), (2, .inl x2)] [.inl xs0] w bc bs := by
  refine am_istore_n (ls' := [(3, .inl xs0), (0, .inr (.inr (some (9, 0)))), (1, .inl x1), (2, .inl x2)]) dX12_mayBe_9 (by decide) rfl ?_
  refine am_iload_n dX12_mayBe_10 (List.Mem.head _) ?_
  refine am_iconst dX12_mayBe_11 (by unfold am_rg; omega) ?_
  refine am_icmpeq (tgt := 31) dX12_mayBe_12 (by decide) (fun c1 => ?_) (fun c1 => ?_)
  · replace h := h.1 c1
    refine am_iconst dX12_mayBe_31 (by unfold am_rg; omega) ?_
    refine am_goto (tgt := 36) dX12_mayBe_32 (by decide) ?_
    exact am_ret (r := some (.inl 1)) dX12_mayBe_36 (Or.inr (Or.inl ⟨rfl, (Or.inr rfl)⟩)) rfl h
  · replace h := h.2 c1
    refine am_aload_n dX12_mayBe_15 (List.Mem.tail _ (List.Mem.head _)) ?_
    refine am_iload_n dX12_mayBe_16 (List.Mem.tail _ (List.Mem.tail _ (List.Mem.tail _ (List.Mem.head _)))) ?_
    exact am_callv (d' := d + 8) (kc := 0) (ks := 0) (as := [.inl x2]) dX12_mayBe_17 wc_X12_depthNow wd_2125 wd_2127 wd_92 wd_122 ds_X12_depthNow (by decide) (by omega) (Nat.le_of_ble_eq_true rfl) (Nat.zero_le _) (Nat.zero_le _) hc_10 (by decide) rfl rfl h
theorem bX12_mayBe_20 {SC : Nat → Nat} {X : mh_X} {d : Nat} {Q : Option am_V → am_W → Prop} {bc bs : Nat} {w : am_W} {x3 : Int} {x1 : Int} {x2 : Int} {xs0 : Int}
    (h : (0 ≤ x3 ∧ (x3 < 7 ∧ (0 ≤ x1 ∧ (x1 < 4 ∧ (((w.1 83 x3.toNat x1.toNat) < xs0 → Q (some (.inl 0)) w) ∧ (¬ (w.1 83 x3.toNat x1.toNat) < xs0 → Q (some (.inl 1)) w))))))) :
    am_A (mh_G X) SC (d + 9) mX12_mayBe Q 20 [(3, .inl x3), (0, .inr (.inr (some (9, 0)))), (1, .inl x1), (2, .inl x2)] [.inl xs0] w bc bs := by
  refine am_aload_n dX12_mayBe_20 (List.Mem.tail _ (List.Mem.head _)) ?_
  refine am_getf (f := 13) (v := .inr (.inr (some (82, 0)))) dX12_mayBe_21 hc_10 (by decide) wd_1562 (by decide) rfl rfl ?_
  refine am_iload_n dX12_mayBe_24 (List.Mem.head _) ?_
  have o1 := h.1
  replace h := h.2
  have o2 := h.1
  replace h := h.2
  refine am_aaload (kd := 5) (r := some (83, x3.toNat)) dX12_mayBe_25 (by decide) rfl (by decide) (by decide) o1 o2 rfl ?_
  refine am_iload_n dX12_mayBe_26 (List.Mem.tail _ (List.Mem.tail _ (List.Mem.head _))) ?_
  have o3 := h.1
  replace h := h.2
  have o4 := h.1
  replace h := h.2
  refine am_iaload (v := (w.1 83 x3.toNat x1.toNat)) dX12_mayBe_27 (by decide) rfl o3 o4 rfl ?_
  refine am_icmpgt (tgt := 35) dX12_mayBe_28 (by decide) (fun c5 => ?_) (fun c5 => ?_)
  · replace h := h.1 c5
    refine am_iconst dX12_mayBe_35 (by unfold am_rg; omega) ?_
    exact am_ret (r := some (.inl 0)) dX12_mayBe_36 (Or.inr (Or.inl ⟨rfl, (Or.inl rfl)⟩)) rfl h
  · replace h := h.2 c5
    refine am_iconst dX12_mayBe_31 (by unfold am_rg; omega) ?_
    refine am_goto (tgt := 36) dX12_mayBe_32 (by decide) ?_
    exact am_ret (r := some (.inl 1)) dX12_mayBe_36 (Or.inr (Or.inl ⟨rfl, (Or.inr rfl)⟩)) rfl h
-- MourningHouseModel.mayAt(IIII)Z
theorem dX12_mayAt_0 : decode mX12_mayAt.2.1 0 = .ok (.aload_n 0, 1) := by decide +kernel
theorem dX12_mayAt_1 : decode mX12_mayAt.2.1 1 = .ok (.iload_n 1, 1) := by decide +kernel
theorem dX12_mayAt_2 : decode mX12_mayAt.2.1 2 = .ok (.iload_n 3, 1) := by decide +kernel
theorem dX12_mayAt_3 : decode mX12_mayAt.2.1 3 = .ok (.iload 4, 2) := by decide +kernel
theorem dX12_mayAt_5 : decode mX12_mayAt.2.1 5 = .ok (.invokevirtual 560, 3) := by decide +kernel
theorem dX12_mayAt_8 : decode mX12_mayAt.2.1 8 = .ok (.iconst (-1), 1) := by decide +kernel
theorem dX12_mayAt_9 : decode mX12_mayAt.2.1 9 = .ok (.if_icmp .ne 5, 3) := by decide +kernel
theorem dX12_mayAt_12 : decode mX12_mayAt.2.1 12 = .ok (.iconst 0, 1) := by decide +kernel
theorem dX12_mayAt_13 : decode mX12_mayAt.2.1 13 = .ok (.ireturn, 1) := by decide +kernel
theorem dX12_mayAt_14 : decode mX12_mayAt.2.1 14 = .ok (.aload_n 0, 1) := by decide +kernel
theorem dX12_mayAt_15 : decode mX12_mayAt.2.1 15 = .ok (.iload_n 2, 1) := by decide +kernel
theorem dX12_mayAt_16 : decode mX12_mayAt.2.1 16 = .ok (.iload_n 3, 1) := by decide +kernel
theorem dX12_mayAt_17 : decode mX12_mayAt.2.1 17 = .ok (.invokevirtual 564, 3) := by decide +kernel
theorem dX12_mayAt_20 : decode mX12_mayAt.2.1 20 = .ok (.ireturn, 1) := by decide +kernel
theorem bX12_mayAt_0 {SC : Nat → Nat} {X : mh_X} {d : Nat} {Q : Option am_V → am_W → Prop} {bc bs : Nat} {w : am_W} {x1 : Int} {x2 : Int} {x3 : Int} {x4 : Int}
    (h : am_M (mh_G X) SC (d + 11) 0 0 mX12_depthAt [.inr (.inr (some (9, 0))), .inl x1, .inl x3, .inl x4] w (fun r w1 => am_A (mh_G X) SC (d + 12) mX12_mayAt Q 8 [(0, .inr (.inr (some (9, 0)))), (1, .inl x1), (2, .inl x2), (3, .inl x3), (4, .inl x4)] (r.toList ++ []) w1 bc bs)) :
    am_A (mh_G X) SC (d + 12) mX12_mayAt Q 0 [(0, .inr (.inr (some (9, 0)))), (1, .inl x1), (2, .inl x2), (3, .inl x3), (4, .inl x4)] [] w bc bs := by
  refine am_aload_n dX12_mayAt_0 (List.Mem.head _) ?_
  refine am_iload_n dX12_mayAt_1 (List.Mem.tail _ (List.Mem.head _)) ?_
  refine am_iload_n dX12_mayAt_2 (List.Mem.tail _ (List.Mem.tail _ (List.Mem.tail _ (List.Mem.head _)))) ?_
  refine am_iload dX12_mayAt_3 (List.Mem.tail _ (List.Mem.tail _ (List.Mem.tail _ (List.Mem.tail _ (List.Mem.head _))))) ?_
  exact am_callv (d' := d + 11) (kc := 0) (ks := 0) (as := [.inl x1, .inl x3, .inl x4]) dX12_mayAt_5 wc_X12_depthAt wd_2085 wd_2087 wd_83 wd_122 ds_X12_depthAt (by decide) (by omega) (Nat.le_of_ble_eq_true rfl) (Nat.zero_le _) (Nat.zero_le _) hc_10 (by decide) rfl rfl h
theorem bX12_mayAt_8 {SC : Nat → Nat} {X : mh_X} {d : Nat} {Q : Option am_V → am_W → Prop} {bc bs : Nat} {w : am_W} {x1 : Int} {x2 : Int} {x3 : Int} {x4 : Int} {xs0 : Int}
    (h : ((¬ xs0 = (-1) → am_M (mh_G X) SC (d + 11) 0 0 mX12_mayBe [.inr (.inr (some (9, 0))), .inl x2, .inl x3] w (fun r w1 => am_A (mh_G X) SC (d + 12) mX12_mayAt Q 20 [(0, .inr (.inr (some (9, 0)))), (1, .inl x1), (2, .inl x2), (3, .inl x3), (4, .inl x4)] (r.toList ++ []) w1 bc bs)) ∧ (xs0 = (-1) → Q (some (.inl 0)) w))) :
    am_A (mh_G X) SC (d + 12) mX12_mayAt Q 8 [(0, .inr (.inr (some (9, 0)))), (1, .inl x1), (2, .inl x2), (3, .inl x3), (4, .inl x4)] [.inl xs0] w bc bs := by
  refine am_iconst dX12_mayAt_8 (by unfold am_rg; omega) ?_
  refine am_icmpne (tgt := 14) dX12_mayAt_9 (by decide) (fun c1 => ?_) (fun c1 => ?_)
  · replace h := h.1 c1
    refine am_aload_n dX12_mayAt_14 (List.Mem.head _) ?_
    refine am_iload_n dX12_mayAt_15 (List.Mem.tail _ (List.Mem.tail _ (List.Mem.head _))) ?_
    refine am_iload_n dX12_mayAt_16 (List.Mem.tail _ (List.Mem.tail _ (List.Mem.tail _ (List.Mem.head _)))) ?_
    exact am_callv (d' := d + 11) (kc := 0) (ks := 0) (as := [.inl x2, .inl x3]) dX12_mayAt_17 wc_X12_mayBe wd_2159 wd_2161 wd_96 wd_122 ds_X12_mayBe (by decide) (by omega) (Nat.le_of_ble_eq_true rfl) (Nat.zero_le _) (Nat.zero_le _) hc_10 (by decide) rfl rfl h
  · replace h := h.2 c1
    refine am_iconst dX12_mayAt_12 (by unfold am_rg; omega) ?_
    exact am_ret (r := some (.inl 0)) dX12_mayAt_13 (Or.inr (Or.inl ⟨rfl, (Or.inl rfl)⟩)) rfl h
theorem bX12_mayAt_20 {SC : Nat → Nat} {X : mh_X} {d : Nat} {Q : Option am_V → am_W → Prop} {bc bs : Nat} {w : am_W} {x1 : Int} {x2 : Int} {x3 : Int} {x4 : Int} {xs0 : Int}
    (h : ((xs0 = 0 ∨ xs0 = 1) ∧ Q (some (.inl xs0)) w)) :
    am_A (mh_G X) SC (d + 12) mX12_mayAt Q 20 [(0, .inr (.inr (some (9, 0)))), (1, .inl x1), (2, .inl x2), (3, .inl x3), (4, .inl x4)] [.inl xs0] w bc bs := by
  have o1 := h.1
  replace h := h.2
  exact am_ret (r := some (.inl xs0)) dX12_mayAt_20 (Or.inr (Or.inl ⟨rfl, o1⟩)) rfl h
-- MourningHouseModel.may(IIII)Z
theorem dX12_may_0 : decode mX12_may.2.1 0 = .ok (.aload_n 0, 1) := by decide +kernel
theorem dX12_may_1 : decode mX12_may.2.1 1 = .ok (.iload_n 1, 1) := by decide +kernel
theorem dX12_may_2 : decode mX12_may.2.1 2 = .ok (.invokevirtual 453, 3) := by decide +kernel
theorem dX12_may_5 : decode mX12_may.2.1 5 = .ok (.ifCond .eq 42, 3) := by decide +kernel
theorem dX12_may_8 : decode mX12_may.2.1 8 = .ok (.iload_n 2, 1) := by decide +kernel
theorem dX12_may_9 : decode mX12_may.2.1 9 = .ok (.invokestatic 567, 3) := by decide +kernel
theorem dX12_may_12 : decode mX12_may.2.1 12 = .ok (.ifCond .eq 35, 3) := by decide +kernel
theorem dX12_may_15 : decode mX12_may.2.1 15 = .ok (.iload_n 3, 1) := by decide +kernel
theorem dX12_may_16 : decode mX12_may.2.1 16 = .ok (.invokestatic 322, 3) := by decide +kernel
theorem dX12_may_19 : decode mX12_may.2.1 19 = .ok (.ifCond .eq 28, 3) := by decide +kernel
theorem dX12_may_22 : decode mX12_may.2.1 22 = .ok (.aload_n 0, 1) := by decide +kernel
theorem dX12_may_23 : decode mX12_may.2.1 23 = .ok (.iload 4, 2) := by decide +kernel
theorem dX12_may_25 : decode mX12_may.2.1 25 = .ok (.invokevirtual 490, 3) := by decide +kernel
theorem dX12_may_28 : decode mX12_may.2.1 28 = .ok (.ifCond .eq 19, 3) := by decide +kernel
theorem dX12_may_31 : decode mX12_may.2.1 31 = .ok (.aload_n 0, 1) := by decide +kernel
theorem dX12_may_32 : decode mX12_may.2.1 32 = .ok (.iload_n 1, 1) := by decide +kernel
theorem dX12_may_33 : decode mX12_may.2.1 33 = .ok (.iload_n 2, 1) := by decide +kernel
theorem dX12_may_34 : decode mX12_may.2.1 34 = .ok (.iload_n 3, 1) := by decide +kernel
theorem dX12_may_35 : decode mX12_may.2.1 35 = .ok (.iload 4, 2) := by decide +kernel
theorem dX12_may_37 : decode mX12_may.2.1 37 = .ok (.invokevirtual 570, 3) := by decide +kernel
theorem dX12_may_40 : decode mX12_may.2.1 40 = .ok (.ifCond .eq 7, 3) := by decide +kernel
theorem dX12_may_43 : decode mX12_may.2.1 43 = .ok (.iconst 1, 1) := by decide +kernel
theorem dX12_may_44 : decode mX12_may.2.1 44 = .ok (.goto 4, 3) := by decide +kernel
theorem dX12_may_47 : decode mX12_may.2.1 47 = .ok (.iconst 0, 1) := by decide +kernel
theorem dX12_may_48 : decode mX12_may.2.1 48 = .ok (.ireturn, 1) := by decide +kernel
theorem bX12_may_0 {SC : Nat → Nat} {X : mh_X} {d : Nat} {Q : Option am_V → am_W → Prop} {bc bs : Nat} {w : am_W} {x1 : Int} {x2 : Int} {x3 : Int} {x4 : Int}
    (h : ((¬ (¬ x1 < (0 : Int) ∧ (¬ (am_w ((w.1 9 0 42) - 1)) < x1)) → Q (some (.inl 0)) w) ∧ ((¬ x1 < (0 : Int) ∧ (¬ (am_w ((w.1 9 0 42) - 1)) < x1)) → ((¬ (¬ x2 < (0 : Int) ∧ (¬ (3 : Int) < x2)) → Q (some (.inl 0)) w) ∧ ((¬ x2 < (0 : Int) ∧ (¬ (3 : Int) < x2)) → ((¬ (¬ x3 < ((-36524) : Int) ∧ (¬ (73047 : Int) < x3)) → Q (some (.inl 0)) w) ∧ ((¬ x3 < ((-36524) : Int) ∧ (¬ (73047 : Int) < x3)) → ((¬ (¬ x4 < ((-36524) : Int) ∧ (¬ (w.1 9 0 33) < x4)) → Q (some (.inl 0)) w) ∧ ((¬ x4 < ((-36524) : Int) ∧ (¬ (w.1 9 0 33) < x4)) → am_M (mh_G X) SC (d + 12) 0 0 mX12_mayAt [.inr (.inr (some (9, 0))), .inl x1, .inl x2, .inl x3, .inl x4] w (fun r w1 => am_A (mh_G X) SC (d + 13) mX12_may Q 40 [(0, .inr (.inr (some (9, 0)))), (1, .inl x1), (2, .inl x2), (3, .inl x3), (4, .inl x4)] (r.toList ++ []) w1 bc bs)))))))))) :
    am_A (mh_G X) SC (d + 13) mX12_may Q 0 [(0, .inr (.inr (some (9, 0)))), (1, .inl x1), (2, .inl x2), (3, .inl x3), (4, .inl x4)] [] w bc bs := by
  refine am_aload_n dX12_may_0 (List.Mem.head _) ?_
  refine am_iload_n dX12_may_1 (List.Mem.tail _ (List.Mem.head _)) ?_
  refine am_callv (d' := d + 12) (kc := 0) (ks := 0) (as := [.inl x1]) dX12_may_2 wc_X12_isPerson wd_2018 wd_2020 wd_73 wd_122 ds_X12_isPerson (by decide) (by omega) (Nat.le_of_ble_eq_true rfl) (Nat.zero_le _) (Nat.zero_le _) hc_10 (by decide) rfl rfl (sX12_isPerson (d := d + 10) (x1 := x1)  ?_)
  show am_A (mh_G X) SC (d + 13) mX12_may Q 5 [(0, .inr (.inr (some (9, 0)))), (1, .inl x1), (2, .inl x2), (3, .inl x3), (4, .inl x4)] [.inl (if (¬ x1 < (0 : Int) ∧ (¬ (am_w ((w.1 9 0 42) - 1)) < x1)) then 1 else 0)] w bc bs
  refine am_ifeq (tgt := 47) dX12_may_5 (by decide) (fun c1 => ?_) (fun c1 => ?_)
  · replace c1 := am_beq1 c1
    replace h := h.1 c1
    refine am_iconst dX12_may_47 (by unfold am_rg; omega) ?_
    exact am_ret (r := some (.inl 0)) dX12_may_48 (Or.inr (Or.inl ⟨rfl, (Or.inl rfl)⟩)) rfl h
  · replace c1 := am_beq2 c1
    replace h := h.2 c1
    refine am_iload_n dX12_may_8 (List.Mem.tail _ (List.Mem.tail _ (List.Mem.head _))) ?_
    refine am_calls (d' := d + 12) (kc := 0) (ks := 0) (as := [.inl x2]) dX12_may_9 wc_X12_isAct wd_2152 wd_2153 wd_122 ds_X12_isAct (by decide) (by omega) (Nat.le_of_ble_eq_true rfl) (Nat.zero_le _) (Nat.zero_le _) rfl (sX12_isAct (d := d + 10) (x0 := x2)  ?_)
    show am_A (mh_G X) SC (d + 13) mX12_may Q 12 [(0, .inr (.inr (some (9, 0)))), (1, .inl x1), (2, .inl x2), (3, .inl x3), (4, .inl x4)] [.inl (if (¬ x2 < (0 : Int) ∧ (¬ (3 : Int) < x2)) then 1 else 0)] w bc bs
    refine am_ifeq (tgt := 47) dX12_may_12 (by decide) (fun c2 => ?_) (fun c2 => ?_)
    · replace c2 := am_beq1 c2
      replace h := h.1 c2
      refine am_iconst dX12_may_47 (by unfold am_rg; omega) ?_
      exact am_ret (r := some (.inl 0)) dX12_may_48 (Or.inr (Or.inl ⟨rfl, (Or.inl rfl)⟩)) rfl h
    · replace c2 := am_beq2 c2
      replace h := h.2 c2
      refine am_iload_n dX12_may_15 (List.Mem.tail _ (List.Mem.tail _ (List.Mem.tail _ (List.Mem.head _)))) ?_
      refine am_calls (d' := d + 12) (kc := 0) (ks := 0) (as := [.inl x3]) dX12_may_16 wc_X12_isDay wd_1854 wd_1855 wd_122 ds_X12_isDay (by decide) (by omega) (Nat.le_of_ble_eq_true rfl) (Nat.zero_le _) (Nat.zero_le _) rfl (sX12_isDay (d := d + 10) (x0 := x3)  ?_)
      show am_A (mh_G X) SC (d + 13) mX12_may Q 19 [(0, .inr (.inr (some (9, 0)))), (1, .inl x1), (2, .inl x2), (3, .inl x3), (4, .inl x4)] [.inl (if (¬ x3 < ((-36524) : Int) ∧ (¬ (73047 : Int) < x3)) then 1 else 0)] w bc bs
      refine am_ifeq (tgt := 47) dX12_may_19 (by decide) (fun c3 => ?_) (fun c3 => ?_)
      · replace c3 := am_beq1 c3
        replace h := h.1 c3
        refine am_iconst dX12_may_47 (by unfold am_rg; omega) ?_
        exact am_ret (r := some (.inl 0)) dX12_may_48 (Or.inr (Or.inl ⟨rfl, (Or.inl rfl)⟩)) rfl h
      · replace c3 := am_beq2 c3
        replace h := h.2 c3
        refine am_aload_n dX12_may_22 (List.Mem.head _) ?_
        refine am_iload dX12_may_23 (List.Mem.tail _ (List.Mem.tail _ (List.Mem.tail _ (List.Mem.tail _ (List.Mem.head _))))) ?_
        refine am_callv (d' := d + 12) (kc := 0) (ks := 0) (as := [.inl x4]) dX12_may_25 wc_X12_isKnownDay wd_2069 wd_2071 wd_80 wd_122 ds_X12_isKnownDay (by decide) (by omega) (Nat.le_of_ble_eq_true rfl) (Nat.zero_le _) (Nat.zero_le _) hc_10 (by decide) rfl rfl (sX12_isKnownDay (d := d + 10) (x1 := x4)  ?_)
        show am_A (mh_G X) SC (d + 13) mX12_may Q 28 [(0, .inr (.inr (some (9, 0)))), (1, .inl x1), (2, .inl x2), (3, .inl x3), (4, .inl x4)] [.inl (if (¬ x4 < ((-36524) : Int) ∧ (¬ (w.1 9 0 33) < x4)) then 1 else 0)] w bc bs
        refine am_ifeq (tgt := 47) dX12_may_28 (by decide) (fun c4 => ?_) (fun c4 => ?_)
        · replace c4 := am_beq1 c4
          replace h := h.1 c4
          refine am_iconst dX12_may_47 (by unfold am_rg; omega) ?_
          exact am_ret (r := some (.inl 0)) dX12_may_48 (Or.inr (Or.inl ⟨rfl, (Or.inl rfl)⟩)) rfl h
        · replace c4 := am_beq2 c4
          replace h := h.2 c4
          refine am_aload_n dX12_may_31 (List.Mem.head _) ?_
          refine am_iload_n dX12_may_32 (List.Mem.tail _ (List.Mem.head _)) ?_
          refine am_iload_n dX12_may_33 (List.Mem.tail _ (List.Mem.tail _ (List.Mem.head _))) ?_
          refine am_iload_n dX12_may_34 (List.Mem.tail _ (List.Mem.tail _ (List.Mem.tail _ (List.Mem.head _)))) ?_
          refine am_iload dX12_may_35 (List.Mem.tail _ (List.Mem.tail _ (List.Mem.tail _ (List.Mem.tail _ (List.Mem.head _))))) ?_
          exact am_callv (d' := d + 12) (kc := 0) (ks := 0) (as := [.inl x1, .inl x2, .inl x3, .inl x4]) dX12_may_37 wc_X12_mayAt wd_2155 wd_2157 wd_95 wd_122 ds_X12_mayAt (by decide) (by omega) (Nat.le_of_ble_eq_true rfl) (Nat.zero_le _) (Nat.zero_le _) hc_10 (by decide) rfl rfl h
theorem bX12_may_40 {SC : Nat → Nat} {X : mh_X} {d : Nat} {Q : Option am_V → am_W → Prop} {bc bs : Nat} {w : am_W} {x1 : Int} {x2 : Int} {x3 : Int} {x4 : Int} {xs0 : Int}
    (h : ((xs0 = 0 → Q (some (.inl 0)) w) ∧ (¬ xs0 = 0 → Q (some (.inl 1)) w))) :
    am_A (mh_G X) SC (d + 13) mX12_may Q 40 [(0, .inr (.inr (some (9, 0)))), (1, .inl x1), (2, .inl x2), (3, .inl x3), (4, .inl x4)] [.inl xs0] w bc bs := by
  refine am_ifeq (tgt := 47) dX12_may_40 (by decide) (fun c1 => ?_) (fun c1 => ?_)
  · replace h := h.1 c1
    refine am_iconst dX12_may_47 (by unfold am_rg; omega) ?_
    exact am_ret (r := some (.inl 0)) dX12_may_48 (Or.inr (Or.inl ⟨rfl, (Or.inl rfl)⟩)) rfl h
  · replace h := h.2 c1
    refine am_iconst dX12_may_43 (by unfold am_rg; omega) ?_
    refine am_goto (tgt := 48) dX12_may_44 (by decide) ?_
    exact am_ret (r := some (.inl 1)) dX12_may_48 (Or.inr (Or.inl ⟨rfl, (Or.inr rfl)⟩)) rfl h
-- MourningHouseModel.deed(II)I
theorem dX12_deed_0 : decode mX12_deed.2.1 0 = .ok (.aload_n 0, 1) := by decide +kernel
theorem dX12_deed_1 : decode mX12_deed.2.1 1 = .ok (.iload_n 1, 1) := by decide +kernel
theorem dX12_deed_2 : decode mX12_deed.2.1 2 = .ok (.invokevirtual 453, 3) := by decide +kernel
theorem dX12_deed_5 : decode mX12_deed.2.1 5 = .ok (.ifCond .eq 36, 3) := by decide +kernel
theorem dX12_deed_8 : decode mX12_deed.2.1 8 = .ok (.iload_n 2, 1) := by decide +kernel
theorem dX12_deed_9 : decode mX12_deed.2.1 9 = .ok (.invokestatic 567, 3) := by decide +kernel
theorem dX12_deed_12 : decode mX12_deed.2.1 12 = .ok (.ifCond .eq 29, 3) := by decide +kernel
theorem dX12_deed_15 : decode mX12_deed.2.1 15 = .ok (.aload_n 0, 1) := by decide +kernel
theorem dX12_deed_16 : decode mX12_deed.2.1 16 = .ok (.getfield 573, 3) := by decide +kernel
theorem dX12_deed_19 : decode mX12_deed.2.1 19 = .ok (.bipush 100, 2) := by decide +kernel
theorem dX12_deed_21 : decode mX12_deed.2.1 21 = .ok (.if_icmp .eq 20, 3) := by decide +kernel
theorem dX12_deed_24 : decode mX12_deed.2.1 24 = .ok (.aload_n 0, 1) := by decide +kernel
theorem dX12_deed_25 : decode mX12_deed.2.1 25 = .ok (.iload_n 1, 1) := by decide +kernel
theorem dX12_deed_26 : decode mX12_deed.2.1 26 = .ok (.aload_n 0, 1) := by decide +kernel
theorem dX12_deed_27 : decode mX12_deed.2.1 27 = .ok (.getfield 444, 3) := by decide +kernel
theorem dX12_deed_30 : decode mX12_deed.2.1 30 = .ok (.aload_n 0, 1) := by decide +kernel
theorem dX12_deed_31 : decode mX12_deed.2.1 31 = .ok (.getfield 444, 3) := by decide +kernel
theorem dX12_deed_34 : decode mX12_deed.2.1 34 = .ok (.invokevirtual 560, 3) := by decide +kernel
theorem dX12_deed_37 : decode mX12_deed.2.1 37 = .ok (.iconst (-1), 1) := by decide +kernel
theorem dX12_deed_38 : decode mX12_deed.2.1 38 = .ok (.if_icmp .ne 5, 3) := by decide +kernel
theorem dX12_deed_41 : decode mX12_deed.2.1 41 = .ok (.iconst (-1), 1) := by decide +kernel
theorem dX12_deed_42 : decode mX12_deed.2.1 42 = .ok (.ireturn, 1) := by decide +kernel
theorem dX12_deed_43 : decode mX12_deed.2.1 43 = .ok (.aload_n 0, 1) := by decide +kernel
theorem dX12_deed_44 : decode mX12_deed.2.1 44 = .ok (.getfield 225, 3) := by decide +kernel
theorem dX12_deed_47 : decode mX12_deed.2.1 47 = .ok (.aload_n 0, 1) := by decide +kernel
theorem dX12_deed_48 : decode mX12_deed.2.1 48 = .ok (.getfield 573, 3) := by decide +kernel
theorem dX12_deed_51 : decode mX12_deed.2.1 51 = .ok (.iload_n 1, 1) := by decide +kernel
theorem dX12_deed_52 : decode mX12_deed.2.1 52 = .ok (.iastore, 1) := by decide +kernel
theorem dX12_deed_53 : decode mX12_deed.2.1 53 = .ok (.aload_n 0, 1) := by decide +kernel
theorem dX12_deed_54 : decode mX12_deed.2.1 54 = .ok (.getfield 228, 3) := by decide +kernel
theorem dX12_deed_57 : decode mX12_deed.2.1 57 = .ok (.aload_n 0, 1) := by decide +kernel
theorem dX12_deed_58 : decode mX12_deed.2.1 58 = .ok (.getfield 573, 3) := by decide +kernel
theorem dX12_deed_61 : decode mX12_deed.2.1 61 = .ok (.iload_n 2, 1) := by decide +kernel
theorem dX12_deed_62 : decode mX12_deed.2.1 62 = .ok (.iastore, 1) := by decide +kernel
theorem dX12_deed_63 : decode mX12_deed.2.1 63 = .ok (.aload_n 0, 1) := by decide +kernel
theorem dX12_deed_64 : decode mX12_deed.2.1 64 = .ok (.getfield 231, 3) := by decide +kernel
theorem dX12_deed_67 : decode mX12_deed.2.1 67 = .ok (.aload_n 0, 1) := by decide +kernel
theorem dX12_deed_68 : decode mX12_deed.2.1 68 = .ok (.getfield 573, 3) := by decide +kernel
theorem dX12_deed_71 : decode mX12_deed.2.1 71 = .ok (.aload_n 0, 1) := by decide +kernel
theorem dX12_deed_72 : decode mX12_deed.2.1 72 = .ok (.getfield 444, 3) := by decide +kernel
theorem dX12_deed_75 : decode mX12_deed.2.1 75 = .ok (.iastore, 1) := by decide +kernel
theorem dX12_deed_76 : decode mX12_deed.2.1 76 = .ok (.aload_n 0, 1) := by decide +kernel
theorem dX12_deed_77 : decode mX12_deed.2.1 77 = .ok (.dup, 1) := by decide +kernel
theorem dX12_deed_78 : decode mX12_deed.2.1 78 = .ok (.getfield 573, 3) := by decide +kernel
theorem dX12_deed_81 : decode mX12_deed.2.1 81 = .ok (.iconst 1, 1) := by decide +kernel
theorem dX12_deed_82 : decode mX12_deed.2.1 82 = .ok (.iadd, 1) := by decide +kernel
theorem dX12_deed_83 : decode mX12_deed.2.1 83 = .ok (.putfield 573, 3) := by decide +kernel
theorem dX12_deed_86 : decode mX12_deed.2.1 86 = .ok (.aload_n 0, 1) := by decide +kernel
theorem dX12_deed_87 : decode mX12_deed.2.1 87 = .ok (.getfield 573, 3) := by decide +kernel
theorem dX12_deed_90 : decode mX12_deed.2.1 90 = .ok (.iconst 1, 1) := by decide +kernel
theorem dX12_deed_91 : decode mX12_deed.2.1 91 = .ok (.isub, 1) := by decide +kernel
theorem dX12_deed_92 : decode mX12_deed.2.1 92 = .ok (.ireturn, 1) := by decide +kernel
theorem bX12_deed_0 {SC : Nat → Nat} {X : mh_X} {d : Nat} {Q : Option am_V → am_W → Prop} {bc bs : Nat} {w : am_W} {x1 : Int} {x2 : Int}
    (h : ((¬ (¬ x1 < (0 : Int) ∧ (¬ (am_w ((w.1 9 0 42) - 1)) < x1)) → Q (some (.inl (-1))) w) ∧ ((¬ x1 < (0 : Int) ∧ (¬ (am_w ((w.1 9 0 42) - 1)) < x1)) → ((¬ (¬ x2 < (0 : Int) ∧ (¬ (3 : Int) < x2)) → Q (some (.inl (-1))) w) ∧ ((¬ x2 < (0 : Int) ∧ (¬ (3 : Int) < x2)) → (((w.1 9 0 70) = 100 → Q (some (.inl (-1))) w) ∧ (¬ (w.1 9 0 70) = 100 → am_M (mh_G X) SC (d + 11) 0 0 mX12_depthAt [.inr (.inr (some (9, 0))), .inl x1, .inl (w.1 9 0 33), .inl (w.1 9 0 33)] w (fun r w1 => am_A (mh_G X) SC (d + 12) mX12_deed Q 37 [(0, .inr (.inr (some (9, 0)))), (1, .inl x1), (2, .inl x2)] (r.toList ++ []) w1 bc bs)))))))) :
    am_A (mh_G X) SC (d + 12) mX12_deed Q 0 [(0, .inr (.inr (some (9, 0)))), (1, .inl x1), (2, .inl x2)] [] w bc bs := by
  refine am_aload_n dX12_deed_0 (List.Mem.head _) ?_
  refine am_iload_n dX12_deed_1 (List.Mem.tail _ (List.Mem.head _)) ?_
  refine am_callv (d' := d + 11) (kc := 0) (ks := 0) (as := [.inl x1]) dX12_deed_2 wc_X12_isPerson wd_2018 wd_2020 wd_73 wd_122 ds_X12_isPerson (by decide) (by omega) (Nat.le_of_ble_eq_true rfl) (Nat.zero_le _) (Nat.zero_le _) hc_10 (by decide) rfl rfl (sX12_isPerson (d := d + 9) (x1 := x1)  ?_)
  show am_A (mh_G X) SC (d + 12) mX12_deed Q 5 [(0, .inr (.inr (some (9, 0)))), (1, .inl x1), (2, .inl x2)] [.inl (if (¬ x1 < (0 : Int) ∧ (¬ (am_w ((w.1 9 0 42) - 1)) < x1)) then 1 else 0)] w bc bs
  refine am_ifeq (tgt := 41) dX12_deed_5 (by decide) (fun c1 => ?_) (fun c1 => ?_)
  · replace c1 := am_beq1 c1
    replace h := h.1 c1
    refine am_iconst dX12_deed_41 (by unfold am_rg; omega) ?_
    exact am_ret (r := some (.inl (-1))) dX12_deed_42 (Or.inl rfl) rfl h
  · replace c1 := am_beq2 c1
    replace h := h.2 c1
    refine am_iload_n dX12_deed_8 (List.Mem.tail _ (List.Mem.tail _ (List.Mem.head _))) ?_
    refine am_calls (d' := d + 11) (kc := 0) (ks := 0) (as := [.inl x2]) dX12_deed_9 wc_X12_isAct wd_2152 wd_2153 wd_122 ds_X12_isAct (by decide) (by omega) (Nat.le_of_ble_eq_true rfl) (Nat.zero_le _) (Nat.zero_le _) rfl (sX12_isAct (d := d + 9) (x0 := x2)  ?_)
    show am_A (mh_G X) SC (d + 12) mX12_deed Q 12 [(0, .inr (.inr (some (9, 0)))), (1, .inl x1), (2, .inl x2)] [.inl (if (¬ x2 < (0 : Int) ∧ (¬ (3 : Int) < x2)) then 1 else 0)] w bc bs
    refine am_ifeq (tgt := 41) dX12_deed_12 (by decide) (fun c2 => ?_) (fun c2 => ?_)
    · replace c2 := am_beq1 c2
      replace h := h.1 c2
      refine am_iconst dX12_deed_41 (by unfold am_rg; omega) ?_
      exact am_ret (r := some (.inl (-1))) dX12_deed_42 (Or.inl rfl) rfl h
    · replace c2 := am_beq2 c2
      replace h := h.2 c2
      refine am_aload_n dX12_deed_15 (List.Mem.head _) ?_
      refine am_getf (f := 70) (v := .inl (w.1 9 0 70)) dX12_deed_16 hc_10 (by decide) wd_1619 (by decide) rfl rfl ?_
      refine am_bipush dX12_deed_19 (by decide) (by unfold am_rg; omega) ?_
      refine am_icmpeq (tgt := 41) dX12_deed_21 (by decide) (fun c3 => ?_) (fun c3 => ?_)
      · replace h := h.1 c3
        refine am_iconst dX12_deed_41 (by unfold am_rg; omega) ?_
        exact am_ret (r := some (.inl (-1))) dX12_deed_42 (Or.inl rfl) rfl h
      · replace h := h.2 c3
        refine am_aload_n dX12_deed_24 (List.Mem.head _) ?_
        refine am_iload_n dX12_deed_25 (List.Mem.tail _ (List.Mem.head _)) ?_
        refine am_aload_n dX12_deed_26 (List.Mem.head _) ?_
        refine am_getf (f := 33) (v := .inl (w.1 9 0 33)) dX12_deed_27 hc_10 (by decide) wd_1582 (by decide) rfl rfl ?_
        refine am_aload_n dX12_deed_30 (List.Mem.head _) ?_
        refine am_getf (f := 33) (v := .inl (w.1 9 0 33)) dX12_deed_31 hc_10 (by decide) wd_1582 (by decide) rfl rfl ?_
        exact am_callv (d' := d + 11) (kc := 0) (ks := 0) (as := [.inl x1, .inl (w.1 9 0 33), .inl (w.1 9 0 33)]) dX12_deed_34 wc_X12_depthAt wd_2085 wd_2087 wd_83 wd_122 ds_X12_depthAt (by decide) (by omega) (Nat.le_of_ble_eq_true rfl) (Nat.zero_le _) (Nat.zero_le _) hc_10 (by decide) rfl rfl h
theorem bX12_deed_37 {SC : Nat → Nat} {X : mh_X} {d : Nat} {Q : Option am_V → am_W → Prop} {bc bs : Nat} {w : am_W} {x1 : Int} {x2 : Int} {xs0 : Int}
    (h : ((¬ xs0 = (-1) → (0 ≤ (w.1 9 0 70) ∧ ((w.1 9 0 70) < 100 ∧ Q (some (.inl (am_w (((am_up w.1 9 0 70 (am_w ((w.1 9 0 70) + 1))) 9 0 70) - 1)))) ((am_up (am_up (am_up (am_up w.1 122 0 (w.1 9 0 70).toNat x1) 123 0 (w.1 9 0 70).toNat x2) 124 0 (w.1 9 0 70).toNat (w.1 9 0 33)) 9 0 70 (am_w ((w.1 9 0 70) + 1))), w.2)))) ∧ (xs0 = (-1) → Q (some (.inl (-1))) w))) :
    am_A (mh_G X) SC (d + 12) mX12_deed Q 37 [(0, .inr (.inr (some (9, 0)))), (1, .inl x1), (2, .inl x2)] [.inl xs0] w bc bs := by
  refine am_iconst dX12_deed_37 (by unfold am_rg; omega) ?_
  refine am_icmpne (tgt := 43) dX12_deed_38 (by decide) (fun c1 => ?_) (fun c1 => ?_)
  · replace h := h.1 c1
    refine am_aload_n dX12_deed_43 (List.Mem.head _) ?_
    refine am_getf (f := 67) (v := .inr (.inr (some (122, 0)))) dX12_deed_44 hc_10 (by decide) wd_1616 (by decide) rfl rfl ?_
    refine am_aload_n dX12_deed_47 (List.Mem.head _) ?_
    refine am_getf (f := 70) (v := .inl (w.1 9 0 70)) dX12_deed_48 hc_10 (by decide) wd_1619 (by decide) rfl rfl ?_
    refine am_iload_n dX12_deed_51 (List.Mem.tail _ (List.Mem.head _)) ?_
    have o2 := h.1
    replace h := h.2
    have o3 := h.1
    replace h := h.2
    refine am_iastore dX12_deed_52 (Or.inl (by decide)) rfl o2 o3 ?_
    refine am_aload_n dX12_deed_53 (List.Mem.head _) ?_
    refine am_getf (f := 68) (v := .inr (.inr (some (123, 0)))) dX12_deed_54 hc_10 (by decide) wd_1617 (by decide) rfl rfl ?_
    refine am_aload_n dX12_deed_57 (List.Mem.head _) ?_
    refine am_getf (f := 70) (v := .inl (w.1 9 0 70)) dX12_deed_58 hc_10 (by decide) wd_1619 (by decide) rfl rfl ?_
    refine am_iload_n dX12_deed_61 (List.Mem.tail _ (List.Mem.tail _ (List.Mem.head _))) ?_
    refine am_iastore dX12_deed_62 (Or.inl (by decide)) rfl o2 o3 ?_
    refine am_aload_n dX12_deed_63 (List.Mem.head _) ?_
    refine am_getf (f := 69) (v := .inr (.inr (some (124, 0)))) dX12_deed_64 hc_10 (by decide) wd_1618 (by decide) rfl rfl ?_
    refine am_aload_n dX12_deed_67 (List.Mem.head _) ?_
    refine am_getf (f := 70) (v := .inl (w.1 9 0 70)) dX12_deed_68 hc_10 (by decide) wd_1619 (by decide) rfl rfl ?_
    refine am_aload_n dX12_deed_71 (List.Mem.head _) ?_
    refine am_getf (f := 33) (v := .inl (w.1 9 0 33)) dX12_deed_72 hc_10 (by decide) wd_1582 (by decide) rfl rfl ?_
    refine am_iastore dX12_deed_75 (Or.inl (by decide)) rfl o2 o3 ?_
    refine am_aload_n dX12_deed_76 (List.Mem.head _) ?_
    refine am_dup dX12_deed_77 rfl ?_
    refine am_getf (f := 70) (v := .inl (w.1 9 0 70)) dX12_deed_78 hc_10 (by decide) wd_1619 (by decide) rfl rfl ?_
    refine am_iconst dX12_deed_81 (by unfold am_rg; omega) ?_
    refine am_iadd dX12_deed_82 ?_
    refine am_putf (f := 70) dX12_deed_83 hc_10 (by decide) wd_1619 rfl (Or.inl rfl) (Or.inl (by decide)) rfl ?_
    refine am_aload_n dX12_deed_86 (List.Mem.head _) ?_
    refine am_getf (f := 70) (v := .inl ((am_up w.1 9 0 70 (am_w ((w.1 9 0 70) + 1))) 9 0 70)) dX12_deed_87 hc_10 (by decide) wd_1619 (by decide) rfl rfl ?_
    refine am_iconst dX12_deed_90 (by unfold am_rg; omega) ?_
    refine am_isub dX12_deed_91 ?_
    exact am_ret (r := some (.inl (am_w (((am_up w.1 9 0 70 (am_w ((w.1 9 0 70) + 1))) 9 0 70) - 1)))) dX12_deed_92 (Or.inl rfl) rfl h
  · replace h := h.2 c1
    refine am_iconst dX12_deed_41 (by unfold am_rg; omega) ?_
    exact am_ret (r := some (.inl (-1))) dX12_deed_42 (Or.inl rfl) rfl h
-- MourningHouseModel.stands(II)I
theorem dX12_stands_0 : decode mX12_stands.2.1 0 = .ok (.iload_n 1, 1) := by decide +kernel
theorem dX12_stands_1 : decode mX12_stands.2.1 1 = .ok (.iconst 0, 1) := by decide +kernel
theorem dX12_stands_2 : decode mX12_stands.2.1 2 = .ok (.aload_n 0, 1) := by decide +kernel
theorem dX12_stands_3 : decode mX12_stands.2.1 3 = .ok (.getfield 573, 3) := by decide +kernel
theorem dX12_stands_6 : decode mX12_stands.2.1 6 = .ok (.iconst 1, 1) := by decide +kernel
theorem dX12_stands_7 : decode mX12_stands.2.1 7 = .ok (.isub, 1) := by decide +kernel
theorem dX12_stands_8 : decode mX12_stands.2.1 8 = .ok (.invokestatic 318, 3) := by decide +kernel
theorem dX12_stands_11 : decode mX12_stands.2.1 11 = .ok (.ifCond .ne 5, 3) := by decide +kernel
theorem dX12_stands_14 : decode mX12_stands.2.1 14 = .ok (.iconst (-1), 1) := by decide +kernel
theorem dX12_stands_15 : decode mX12_stands.2.1 15 = .ok (.ireturn, 1) := by decide +kernel
theorem dX12_stands_16 : decode mX12_stands.2.1 16 = .ok (.iload_n 2, 1) := by decide +kernel
theorem dX12_stands_17 : decode mX12_stands.2.1 17 = .ok (.tableswitch 137 0 3 #[31, 38, 45, 52], 31) := by decide +kernel
theorem dX12_stands_48 : decode mX12_stands.2.1 48 = .ok (.aload_n 0, 1) := by decide +kernel
theorem dX12_stands_49 : decode mX12_stands.2.1 49 = .ok (.getfield 225, 3) := by decide +kernel
theorem dX12_stands_52 : decode mX12_stands.2.1 52 = .ok (.iload_n 1, 1) := by decide +kernel
theorem dX12_stands_53 : decode mX12_stands.2.1 53 = .ok (.iaload, 1) := by decide +kernel
theorem dX12_stands_54 : decode mX12_stands.2.1 54 = .ok (.ireturn, 1) := by decide +kernel
theorem dX12_stands_55 : decode mX12_stands.2.1 55 = .ok (.aload_n 0, 1) := by decide +kernel
theorem dX12_stands_56 : decode mX12_stands.2.1 56 = .ok (.getfield 228, 3) := by decide +kernel
theorem dX12_stands_59 : decode mX12_stands.2.1 59 = .ok (.iload_n 1, 1) := by decide +kernel
theorem dX12_stands_60 : decode mX12_stands.2.1 60 = .ok (.iaload, 1) := by decide +kernel
theorem dX12_stands_61 : decode mX12_stands.2.1 61 = .ok (.ireturn, 1) := by decide +kernel
theorem dX12_stands_62 : decode mX12_stands.2.1 62 = .ok (.aload_n 0, 1) := by decide +kernel
theorem dX12_stands_63 : decode mX12_stands.2.1 63 = .ok (.getfield 231, 3) := by decide +kernel
theorem dX12_stands_66 : decode mX12_stands.2.1 66 = .ok (.iload_n 1, 1) := by decide +kernel
theorem dX12_stands_67 : decode mX12_stands.2.1 67 = .ok (.iaload, 1) := by decide +kernel
theorem dX12_stands_68 : decode mX12_stands.2.1 68 = .ok (.ireturn, 1) := by decide +kernel
theorem dX12_stands_69 : decode mX12_stands.2.1 69 = .ok (.aload_n 0, 1) := by decide +kernel
theorem dX12_stands_70 : decode mX12_stands.2.1 70 = .ok (.aload_n 0, 1) := by decide +kernel
theorem dX12_stands_71 : decode mX12_stands.2.1 71 = .ok (.getfield 225, 3) := by decide +kernel
theorem dX12_stands_74 : decode mX12_stands.2.1 74 = .ok (.iload_n 1, 1) := by decide +kernel
theorem dX12_stands_75 : decode mX12_stands.2.1 75 = .ok (.iaload, 1) := by decide +kernel
theorem dX12_stands_76 : decode mX12_stands.2.1 76 = .ok (.aload_n 0, 1) := by decide +kernel
theorem dX12_stands_77 : decode mX12_stands.2.1 77 = .ok (.getfield 228, 3) := by decide +kernel
theorem dX12_stands_80 : decode mX12_stands.2.1 80 = .ok (.iload_n 1, 1) := by decide +kernel
theorem dX12_stands_81 : decode mX12_stands.2.1 81 = .ok (.iaload, 1) := by decide +kernel
theorem dX12_stands_82 : decode mX12_stands.2.1 82 = .ok (.aload_n 0, 1) := by decide +kernel
theorem dX12_stands_83 : decode mX12_stands.2.1 83 = .ok (.getfield 231, 3) := by decide +kernel
theorem dX12_stands_86 : decode mX12_stands.2.1 86 = .ok (.iload_n 1, 1) := by decide +kernel
theorem dX12_stands_87 : decode mX12_stands.2.1 87 = .ok (.iaload, 1) := by decide +kernel
theorem dX12_stands_88 : decode mX12_stands.2.1 88 = .ok (.aload_n 0, 1) := by decide +kernel
theorem dX12_stands_89 : decode mX12_stands.2.1 89 = .ok (.getfield 231, 3) := by decide +kernel
theorem dX12_stands_92 : decode mX12_stands.2.1 92 = .ok (.iload_n 1, 1) := by decide +kernel
theorem dX12_stands_93 : decode mX12_stands.2.1 93 = .ok (.iaload, 1) := by decide +kernel
theorem dX12_stands_94 : decode mX12_stands.2.1 94 = .ok (.invokevirtual 570, 3) := by decide +kernel
theorem dX12_stands_97 : decode mX12_stands.2.1 97 = .ok (.istore_n 3, 1) := by decide +kernel
theorem dX12_stands_98 : decode mX12_stands.2.1 98 = .ok (.aload_n 0, 1) := by decide +kernel
theorem dX12_stands_99 : decode mX12_stands.2.1 99 = .ok (.aload_n 0, 1) := by decide +kernel
theorem dX12_stands_100 : decode mX12_stands.2.1 100 = .ok (.getfield 225, 3) := by decide +kernel
theorem dX12_stands_103 : decode mX12_stands.2.1 103 = .ok (.iload_n 1, 1) := by decide +kernel
theorem dX12_stands_104 : decode mX12_stands.2.1 104 = .ok (.iaload, 1) := by decide +kernel
theorem dX12_stands_105 : decode mX12_stands.2.1 105 = .ok (.aload_n 0, 1) := by decide +kernel
theorem dX12_stands_106 : decode mX12_stands.2.1 106 = .ok (.getfield 228, 3) := by decide +kernel
theorem dX12_stands_109 : decode mX12_stands.2.1 109 = .ok (.iload_n 1, 1) := by decide +kernel
theorem dX12_stands_110 : decode mX12_stands.2.1 110 = .ok (.iaload, 1) := by decide +kernel
theorem dX12_stands_111 : decode mX12_stands.2.1 111 = .ok (.aload_n 0, 1) := by decide +kernel
theorem dX12_stands_112 : decode mX12_stands.2.1 112 = .ok (.getfield 231, 3) := by decide +kernel
theorem dX12_stands_115 : decode mX12_stands.2.1 115 = .ok (.iload_n 1, 1) := by decide +kernel
theorem dX12_stands_116 : decode mX12_stands.2.1 116 = .ok (.iaload, 1) := by decide +kernel
theorem dX12_stands_117 : decode mX12_stands.2.1 117 = .ok (.aload_n 0, 1) := by decide +kernel
theorem dX12_stands_118 : decode mX12_stands.2.1 118 = .ok (.getfield 444, 3) := by decide +kernel
theorem dX12_stands_121 : decode mX12_stands.2.1 121 = .ok (.invokevirtual 570, 3) := by decide +kernel
theorem dX12_stands_124 : decode mX12_stands.2.1 124 = .ok (.istore 4, 2) := by decide +kernel
theorem dX12_stands_126 : decode mX12_stands.2.1 126 = .ok (.iload_n 3, 1) := by decide +kernel
theorem dX12_stands_127 : decode mX12_stands.2.1 127 = .ok (.ifCond .eq 16, 3) := by decide +kernel
theorem dX12_stands_130 : decode mX12_stands.2.1 130 = .ok (.iload 4, 2) := by decide +kernel
theorem dX12_stands_132 : decode mX12_stands.2.1 132 = .ok (.ifCond .eq 7, 3) := by decide +kernel
theorem dX12_stands_135 : decode mX12_stands.2.1 135 = .ok (.iconst 0, 1) := by decide +kernel
theorem dX12_stands_136 : decode mX12_stands.2.1 136 = .ok (.goto 17, 3) := by decide +kernel
theorem dX12_stands_139 : decode mX12_stands.2.1 139 = .ok (.iconst 2, 1) := by decide +kernel
theorem dX12_stands_140 : decode mX12_stands.2.1 140 = .ok (.goto 13, 3) := by decide +kernel
theorem dX12_stands_143 : decode mX12_stands.2.1 143 = .ok (.iload 4, 2) := by decide +kernel
theorem dX12_stands_145 : decode mX12_stands.2.1 145 = .ok (.ifCond .eq 7, 3) := by decide +kernel
theorem dX12_stands_148 : decode mX12_stands.2.1 148 = .ok (.iconst 3, 1) := by decide +kernel
theorem dX12_stands_149 : decode mX12_stands.2.1 149 = .ok (.goto 4, 3) := by decide +kernel
theorem dX12_stands_152 : decode mX12_stands.2.1 152 = .ok (.iconst 1, 1) := by decide +kernel
theorem dX12_stands_153 : decode mX12_stands.2.1 153 = .ok (.ireturn, 1) := by decide +kernel
theorem dX12_stands_154 : decode mX12_stands.2.1 154 = .ok (.iconst (-1), 1) := by decide +kernel
theorem dX12_stands_155 : decode mX12_stands.2.1 155 = .ok (.ireturn, 1) := by decide +kernel
theorem bX12_stands_0 {SC : Nat → Nat} {X : mh_X} {d : Nat} {Q : Option am_V → am_W → Prop} {bc bs : Nat} {w : am_W} {x1 : Int} {x2 : Int}
    (h : (((¬ x1 < (0 : Int) ∧ (¬ (am_w ((w.1 9 0 70) - 1)) < x1)) → (((x2 < 0 ∨ 3 < x2) → Q (some (.inl (-1))) w) ∧ (x2 = 0 → (0 ≤ x1 ∧ (x1 < 100 ∧ Q (some (.inl (w.1 122 0 x1.toNat))) w))) ∧ (x2 = 1 → (0 ≤ x1 ∧ (x1 < 100 ∧ Q (some (.inl (w.1 123 0 x1.toNat))) w))) ∧ (x2 = 2 → (0 ≤ x1 ∧ (x1 < 100 ∧ Q (some (.inl (w.1 124 0 x1.toNat))) w))) ∧ (x2 = 3 → (0 ≤ x1 ∧ (x1 < 100 ∧ am_M (mh_G X) SC (d + 12) 0 0 mX12_mayAt [.inr (.inr (some (9, 0))), .inl (w.1 122 0 x1.toNat), .inl (w.1 123 0 x1.toNat), .inl (w.1 124 0 x1.toNat), .inl (w.1 124 0 x1.toNat)] w (fun r w1 => am_A (mh_G X) SC (d + 13) mX12_stands Q 97 [(0, .inr (.inr (some (9, 0)))), (1, .inl x1), (2, .inl x2)] (r.toList ++ []) w1 bc bs)))))) ∧ (¬ (¬ x1 < (0 : Int) ∧ (¬ (am_w ((w.1 9 0 70) - 1)) < x1)) → Q (some (.inl (-1))) w))) :
    am_A (mh_G X) SC (d + 13) mX12_stands Q 0 [(0, .inr (.inr (some (9, 0)))), (1, .inl x1), (2, .inl x2)] [] w bc bs := by
  refine am_iload_n dX12_stands_0 (List.Mem.tail _ (List.Mem.head _)) ?_
  refine am_iconst dX12_stands_1 (by unfold am_rg; omega) ?_
  refine am_aload_n dX12_stands_2 (List.Mem.head _) ?_
  refine am_getf (f := 70) (v := .inl (w.1 9 0 70)) dX12_stands_3 hc_10 (by decide) wd_1619 (by decide) rfl rfl ?_
  refine am_iconst dX12_stands_6 (by unfold am_rg; omega) ?_
  refine am_isub dX12_stands_7 ?_
  refine am_calls (d' := d + 12) (kc := 0) (ks := 0) (as := [.inl x1, .inl 0, .inl (am_w ((w.1 9 0 70) - 1))]) dX12_stands_8 wc_X12_in wd_1859 wd_1860 wd_122 ds_X12_in (by decide) (by omega) (Nat.le_of_ble_eq_true rfl) (Nat.zero_le _) (Nat.zero_le _) rfl (sX12_in (d := d + 11) (x0 := x1) (x1 := 0) (x2 := (am_w ((w.1 9 0 70) - 1)))  ?_)
  show am_A (mh_G X) SC (d + 13) mX12_stands Q 11 [(0, .inr (.inr (some (9, 0)))), (1, .inl x1), (2, .inl x2)] [.inl (if (¬ x1 < (0 : Int) ∧ (¬ (am_w ((w.1 9 0 70) - 1)) < x1)) then 1 else 0)] w bc bs
  refine am_ifne (tgt := 16) dX12_stands_11 (by decide) (fun c1 => ?_) (fun c1 => ?_)
  · replace c1 := am_bne1 c1
    replace h := h.1 c1
    refine am_iload_n dX12_stands_16 (List.Mem.tail _ (List.Mem.tail _ (List.Mem.head _))) ?_
    by_cases c2 : (x2 < 0 ∨ 3 < x2)
    · replace h := h.1 c2
      refine am_tswOut (tgt := 154) dX12_stands_17 c2 (by decide) ?_
      refine am_iconst dX12_stands_154 (by unfold am_rg; omega) ?_
      exact am_ret (r := some (.inl (-1))) dX12_stands_155 (Or.inl rfl) rfl h
    · rcases (show x2 = 0 ∨ x2 = 1 ∨ x2 = 2 ∨ x2 = 3 by omega) with c2 | c2 | c2 | c2
      · replace h := h.2.1 c2
        refine am_tswIn (off := 31) (tgt := 48) dX12_stands_17 (by omega) (by omega) (by rw [c2]; decide) (by decide) ?_
        refine am_aload_n dX12_stands_48 (List.Mem.head _) ?_
        refine am_getf (f := 67) (v := .inr (.inr (some (122, 0)))) dX12_stands_49 hc_10 (by decide) wd_1616 (by decide) rfl rfl ?_
        refine am_iload_n dX12_stands_52 (List.Mem.tail _ (List.Mem.head _)) ?_
        have o3 := h.1
        replace h := h.2
        have o4 := h.1
        replace h := h.2
        refine am_iaload (v := (w.1 122 0 x1.toNat)) dX12_stands_53 (by decide) rfl o3 o4 rfl ?_
        exact am_ret (r := some (.inl (w.1 122 0 x1.toNat))) dX12_stands_54 (Or.inl rfl) rfl h
      · replace h := h.2.2.1 c2
        refine am_tswIn (off := 38) (tgt := 55) dX12_stands_17 (by omega) (by omega) (by rw [c2]; decide) (by decide) ?_
        refine am_aload_n dX12_stands_55 (List.Mem.head _) ?_
        refine am_getf (f := 68) (v := .inr (.inr (some (123, 0)))) dX12_stands_56 hc_10 (by decide) wd_1617 (by decide) rfl rfl ?_
        refine am_iload_n dX12_stands_59 (List.Mem.tail _ (List.Mem.head _)) ?_
        have o5 := h.1
        replace h := h.2
        have o6 := h.1
        replace h := h.2
        refine am_iaload (v := (w.1 123 0 x1.toNat)) dX12_stands_60 (by decide) rfl o5 o6 rfl ?_
        exact am_ret (r := some (.inl (w.1 123 0 x1.toNat))) dX12_stands_61 (Or.inl rfl) rfl h
      · replace h := h.2.2.2.1 c2
        refine am_tswIn (off := 45) (tgt := 62) dX12_stands_17 (by omega) (by omega) (by rw [c2]; decide) (by decide) ?_
        refine am_aload_n dX12_stands_62 (List.Mem.head _) ?_
        refine am_getf (f := 69) (v := .inr (.inr (some (124, 0)))) dX12_stands_63 hc_10 (by decide) wd_1618 (by decide) rfl rfl ?_
        refine am_iload_n dX12_stands_66 (List.Mem.tail _ (List.Mem.head _)) ?_
        have o7 := h.1
        replace h := h.2
        have o8 := h.1
        replace h := h.2
        refine am_iaload (v := (w.1 124 0 x1.toNat)) dX12_stands_67 (by decide) rfl o7 o8 rfl ?_
        exact am_ret (r := some (.inl (w.1 124 0 x1.toNat))) dX12_stands_68 (Or.inl rfl) rfl h
      · replace h := h.2.2.2.2 c2
        refine am_tswIn (off := 52) (tgt := 69) dX12_stands_17 (by omega) (by omega) (by rw [c2]; decide) (by decide) ?_
        refine am_aload_n dX12_stands_69 (List.Mem.head _) ?_
        refine am_aload_n dX12_stands_70 (List.Mem.head _) ?_
        refine am_getf (f := 67) (v := .inr (.inr (some (122, 0)))) dX12_stands_71 hc_10 (by decide) wd_1616 (by decide) rfl rfl ?_
        refine am_iload_n dX12_stands_74 (List.Mem.tail _ (List.Mem.head _)) ?_
        have o9 := h.1
        replace h := h.2
        have o10 := h.1
        replace h := h.2
        refine am_iaload (v := (w.1 122 0 x1.toNat)) dX12_stands_75 (by decide) rfl o9 o10 rfl ?_
        refine am_aload_n dX12_stands_76 (List.Mem.head _) ?_
        refine am_getf (f := 68) (v := .inr (.inr (some (123, 0)))) dX12_stands_77 hc_10 (by decide) wd_1617 (by decide) rfl rfl ?_
        refine am_iload_n dX12_stands_80 (List.Mem.tail _ (List.Mem.head _)) ?_
        refine am_iaload (v := (w.1 123 0 x1.toNat)) dX12_stands_81 (by decide) rfl o9 o10 rfl ?_
        refine am_aload_n dX12_stands_82 (List.Mem.head _) ?_
        refine am_getf (f := 69) (v := .inr (.inr (some (124, 0)))) dX12_stands_83 hc_10 (by decide) wd_1618 (by decide) rfl rfl ?_
        refine am_iload_n dX12_stands_86 (List.Mem.tail _ (List.Mem.head _)) ?_
        refine am_iaload (v := (w.1 124 0 x1.toNat)) dX12_stands_87 (by decide) rfl o9 o10 rfl ?_
        refine am_aload_n dX12_stands_88 (List.Mem.head _) ?_
        refine am_getf (f := 69) (v := .inr (.inr (some (124, 0)))) dX12_stands_89 hc_10 (by decide) wd_1618 (by decide) rfl rfl ?_
        refine am_iload_n dX12_stands_92 (List.Mem.tail _ (List.Mem.head _)) ?_
        refine am_iaload (v := (w.1 124 0 x1.toNat)) dX12_stands_93 (by decide) rfl o9 o10 rfl ?_
        exact am_callv (d' := d + 12) (kc := 0) (ks := 0) (as := [.inl (w.1 122 0 x1.toNat), .inl (w.1 123 0 x1.toNat), .inl (w.1 124 0 x1.toNat), .inl (w.1 124 0 x1.toNat)]) dX12_stands_94 wc_X12_mayAt wd_2155 wd_2157 wd_95 wd_122 ds_X12_mayAt (by decide) (by omega) (Nat.le_of_ble_eq_true rfl) (Nat.zero_le _) (Nat.zero_le _) hc_10 (by decide) rfl rfl h
  · replace c1 := am_bne2 c1
    replace h := h.2 c1
    refine am_iconst dX12_stands_14 (by unfold am_rg; omega) ?_
    exact am_ret (r := some (.inl (-1))) dX12_stands_15 (Or.inl rfl) rfl h
theorem bX12_stands_97 {SC : Nat → Nat} {X : mh_X} {d : Nat} {Q : Option am_V → am_W → Prop} {bc bs : Nat} {w : am_W} {x1 : Int} {x2 : Int} {xs0 : Int}
    (h : (0 ≤ x1 ∧ (x1 < 100 ∧ am_M (mh_G X) SC (d + 12) 0 0 mX12_mayAt [.inr (.inr (some (9, 0))), .inl (w.1 122 0 x1.toNat), .inl (w.1 123 0 x1.toNat), .inl (w.1 124 0 x1.toNat), .inl (w.1 9 0 33)] w (fun r w1 => am_A (mh_G X) SC (d + 13) mX12_stands Q 124 [(3, .inl xs0), (0, .inr (.inr (some (9, 0)))), (1, .inl x1), (2, .inl x2)] (r.toList ++ []) w1 bc bs)))) :
    am_A (mh_G X) SC (d + 13) mX12_stands Q 97 [(0, .inr (.inr (some (9, 0)))), (1, .inl x1), (2, .inl x2)] [.inl xs0] w bc bs := by
  refine am_istore_n (ls' := [(3, .inl xs0), (0, .inr (.inr (some (9, 0)))), (1, .inl x1), (2, .inl x2)]) dX12_stands_97 (by decide) rfl ?_
  refine am_aload_n dX12_stands_98 (List.Mem.tail _ (List.Mem.head _)) ?_
  refine am_aload_n dX12_stands_99 (List.Mem.tail _ (List.Mem.head _)) ?_
  refine am_getf (f := 67) (v := .inr (.inr (some (122, 0)))) dX12_stands_100 hc_10 (by decide) wd_1616 (by decide) rfl rfl ?_
  refine am_iload_n dX12_stands_103 (List.Mem.tail _ (List.Mem.tail _ (List.Mem.head _))) ?_
  have o1 := h.1
  replace h := h.2
  have o2 := h.1
  replace h := h.2
  refine am_iaload (v := (w.1 122 0 x1.toNat)) dX12_stands_104 (by decide) rfl o1 o2 rfl ?_
  refine am_aload_n dX12_stands_105 (List.Mem.tail _ (List.Mem.head _)) ?_
  refine am_getf (f := 68) (v := .inr (.inr (some (123, 0)))) dX12_stands_106 hc_10 (by decide) wd_1617 (by decide) rfl rfl ?_
  refine am_iload_n dX12_stands_109 (List.Mem.tail _ (List.Mem.tail _ (List.Mem.head _))) ?_
  refine am_iaload (v := (w.1 123 0 x1.toNat)) dX12_stands_110 (by decide) rfl o1 o2 rfl ?_
  refine am_aload_n dX12_stands_111 (List.Mem.tail _ (List.Mem.head _)) ?_
  refine am_getf (f := 69) (v := .inr (.inr (some (124, 0)))) dX12_stands_112 hc_10 (by decide) wd_1618 (by decide) rfl rfl ?_
  refine am_iload_n dX12_stands_115 (List.Mem.tail _ (List.Mem.tail _ (List.Mem.head _))) ?_
  refine am_iaload (v := (w.1 124 0 x1.toNat)) dX12_stands_116 (by decide) rfl o1 o2 rfl ?_
  refine am_aload_n dX12_stands_117 (List.Mem.tail _ (List.Mem.head _)) ?_
  refine am_getf (f := 33) (v := .inl (w.1 9 0 33)) dX12_stands_118 hc_10 (by decide) wd_1582 (by decide) rfl rfl ?_
  exact am_callv (d' := d + 12) (kc := 0) (ks := 0) (as := [.inl (w.1 122 0 x1.toNat), .inl (w.1 123 0 x1.toNat), .inl (w.1 124 0 x1.toNat), .inl (w.1 9 0 33)]) dX12_stands_121 wc_X12_mayAt wd_2155 wd_2157 wd_95 wd_122 ds_X12_mayAt (by decide) (by omega) (Nat.le_of_ble_eq_true rfl) (Nat.zero_le _) (Nat.zero_le _) hc_10 (by decide) rfl rfl h
theorem bX12_stands_124 {SC : Nat → Nat} {X : mh_X} {d : Nat} {Q : Option am_V → am_W → Prop} {bc bs : Nat} {w : am_W} {x3 : Int} {x1 : Int} {x2 : Int} {xs0 : Int}
    (h : ((x3 = 0 → ((xs0 = 0 → Q (some (.inl 1)) w) ∧ (¬ xs0 = 0 → Q (some (.inl 3)) w))) ∧ (¬ x3 = 0 → ((xs0 = 0 → Q (some (.inl 2)) w) ∧ (¬ xs0 = 0 → Q (some (.inl 0)) w))))) :
    am_A (mh_G X) SC (d + 13) mX12_stands Q 124 [(3, .inl x3), (0, .inr (.inr (some (9, 0)))), (1, .inl x1), (2, .inl x2)] [.inl xs0] w bc bs := by
  refine am_istore (ls' := [(4, .inl xs0), (3, .inl x3), (0, .inr (.inr (some (9, 0)))), (1, .inl x1), (2, .inl x2)]) dX12_stands_124 (by decide) rfl ?_
  refine am_iload_n dX12_stands_126 (List.Mem.tail _ (List.Mem.head _)) ?_
  refine am_ifeq (tgt := 143) dX12_stands_127 (by decide) (fun c1 => ?_) (fun c1 => ?_)
  · replace h := h.1 c1
    refine am_iload dX12_stands_143 (List.Mem.head _) ?_
    refine am_ifeq (tgt := 152) dX12_stands_145 (by decide) (fun c2 => ?_) (fun c2 => ?_)
    · replace h := h.1 c2
      refine am_iconst dX12_stands_152 (by unfold am_rg; omega) ?_
      exact am_ret (r := some (.inl 1)) dX12_stands_153 (Or.inl rfl) rfl h
    · replace h := h.2 c2
      refine am_iconst dX12_stands_148 (by unfold am_rg; omega) ?_
      refine am_goto (tgt := 153) dX12_stands_149 (by decide) ?_
      exact am_ret (r := some (.inl 3)) dX12_stands_153 (Or.inl rfl) rfl h
  · replace h := h.2 c1
    refine am_iload dX12_stands_130 (List.Mem.head _) ?_
    refine am_ifeq (tgt := 139) dX12_stands_132 (by decide) (fun c3 => ?_) (fun c3 => ?_)
    · replace h := h.1 c3
      refine am_iconst dX12_stands_139 (by unfold am_rg; omega) ?_
      refine am_goto (tgt := 153) dX12_stands_140 (by decide) ?_
      exact am_ret (r := some (.inl 2)) dX12_stands_153 (Or.inl rfl) rfl h
    · replace h := h.2 c3
      refine am_iconst dX12_stands_135 (by unfold am_rg; omega) ?_
      refine am_goto (tgt := 153) dX12_stands_136 (by decide) ?_
      exact am_ret (r := some (.inl 0)) dX12_stands_153 (Or.inl rfl) rfl h
