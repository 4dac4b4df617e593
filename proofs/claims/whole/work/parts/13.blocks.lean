-- MourningHouse$Law.hasRoomForPart()Z
theorem dX3_hasRoomForPart_0 : decode mX3_hasRoomForPart.2.1 0 = .ok (.aload_n 0, 1) := by decide +kernel
theorem dX3_hasRoomForPart_1 : decode mX3_hasRoomForPart.2.1 1 = .ok (.getfield 18, 3) := by decide +kernel
theorem dX3_hasRoomForPart_4 : decode mX3_hasRoomForPart.2.1 4 = .ok (.aload_n 0, 1) := by decide +kernel
theorem dX3_hasRoomForPart_5 : decode mX3_hasRoomForPart.2.1 5 = .ok (.getfield 42, 3) := by decide +kernel
theorem dX3_hasRoomForPart_8 : decode mX3_hasRoomForPart.2.1 8 = .ok (.iconst 1, 1) := by decide +kernel
theorem dX3_hasRoomForPart_9 : decode mX3_hasRoomForPart.2.1 9 = .ok (.isub, 1) := by decide +kernel
theorem dX3_hasRoomForPart_10 : decode mX3_hasRoomForPart.2.1 10 = .ok (.iaload, 1) := by decide +kernel
theorem dX3_hasRoomForPart_11 : decode mX3_hasRoomForPart.2.1 11 = .ok (.iconst 4, 1) := by decide +kernel
theorem dX3_hasRoomForPart_12 : decode mX3_hasRoomForPart.2.1 12 = .ok (.if_icmp .ge 7, 3) := by decide +kernel
theorem dX3_hasRoomForPart_15 : decode mX3_hasRoomForPart.2.1 15 = .ok (.iconst 1, 1) := by decide +kernel
theorem dX3_hasRoomForPart_16 : decode mX3_hasRoomForPart.2.1 16 = .ok (.goto 4, 3) := by decide +kernel
theorem dX3_hasRoomForPart_19 : decode mX3_hasRoomForPart.2.1 19 = .ok (.iconst 0, 1) := by decide +kernel
theorem dX3_hasRoomForPart_20 : decode mX3_hasRoomForPart.2.1 20 = .ok (.ireturn, 1) := by decide +kernel
theorem sX3_hasRoomForPart {SC : Nat → Nat} {X : mh_X} {d kc ks : Nat} {Q : Option am_V → am_W → Prop} {w : am_W} {j0 : Nat} (Ho1 : 0 ≤ (am_w ((w.1 10 j0 10) - 1))) (Ho2 : (am_w ((w.1 10 j0 10) - 1)) < 30)
    (h : Q (some (.inl (if (¬ 4 ≤ (w.1 146 j0 (am_w ((w.1 10 j0 10) - 1)).toNat)) then 1 else 0))) w) : am_M (mh_G X) SC (d + 1) kc ks mX3_hasRoomForPart [.inr (.inr (some (10, j0)))] w Q := by
  refine am_M_of (by decide) (Nat.le_of_ble_eq_true rfl) ?_
  show am_A (mh_G X) SC (d + 1) mX3_hasRoomForPart Q 0 [(0, .inr (.inr (some (10, j0))))] [] w kc ks
  refine am_aload_n dX3_hasRoomForPart_0 (List.Mem.head _) ?_
  refine am_getf (f := 2) (v := .inr (.inr (some (146, j0)))) dX3_hasRoomForPart_1 hc_4 (by decide) wd_217 (by decide) rfl rfl ?_
  refine am_aload_n dX3_hasRoomForPart_4 (List.Mem.head _) ?_
  refine am_getf (f := 10) (v := .inl (w.1 10 j0 10)) dX3_hasRoomForPart_5 hc_4 (by decide) wd_227 (by decide) rfl rfl ?_
  refine am_iconst dX3_hasRoomForPart_8 (by unfold am_rg; omega) ?_
  refine am_isub dX3_hasRoomForPart_9 ?_
  have o1 := Ho1
  have o2 := Ho2
  refine am_iaload (v := (w.1 146 j0 (am_w ((w.1 10 j0 10) - 1)).toNat)) dX3_hasRoomForPart_10 (by decide) rfl o1 o2 rfl ?_
  refine am_iconst dX3_hasRoomForPart_11 (by unfold am_rg; omega) ?_
  refine am_icmpge (tgt := 19) dX3_hasRoomForPart_12 (by decide) (fun c3 => ?_) (fun c3 => ?_)
  · refine am_iconst dX3_hasRoomForPart_19 (by unfold am_rg; omega) ?_
    rw [if_neg (by omega)] at h
    exact am_ret (r := some (.inl 0)) dX3_hasRoomForPart_20 (Or.inr (Or.inl ⟨rfl, (Or.inl rfl)⟩)) rfl h
  · refine am_iconst dX3_hasRoomForPart_15 (by unfold am_rg; omega) ?_
    refine am_goto (tgt := 20) dX3_hasRoomForPart_16 (by decide) ?_
    rw [if_pos (by omega)] at h
    exact am_ret (r := some (.inl 1)) dX3_hasRoomForPart_20 (Or.inr (Or.inl ⟨rfl, (Or.inr rfl)⟩)) rfl h
-- MourningHouse$Law.isLighter(I)Z
theorem dX3_isLighter_0 : decode mX3_isLighter.2.1 0 = .ok (.aload_n 0, 1) := by decide +kernel
theorem dX3_isLighter_1 : decode mX3_isLighter.2.1 1 = .ok (.getfield 18, 3) := by decide +kernel
theorem dX3_isLighter_4 : decode mX3_isLighter.2.1 4 = .ok (.aload_n 0, 1) := by decide +kernel
theorem dX3_isLighter_5 : decode mX3_isLighter.2.1 5 = .ok (.getfield 42, 3) := by decide +kernel
theorem dX3_isLighter_8 : decode mX3_isLighter.2.1 8 = .ok (.iconst 1, 1) := by decide +kernel
theorem dX3_isLighter_9 : decode mX3_isLighter.2.1 9 = .ok (.isub, 1) := by decide +kernel
theorem dX3_isLighter_10 : decode mX3_isLighter.2.1 10 = .ok (.iaload, 1) := by decide +kernel
theorem dX3_isLighter_11 : decode mX3_isLighter.2.1 11 = .ok (.istore_n 2, 1) := by decide +kernel
theorem dX3_isLighter_12 : decode mX3_isLighter.2.1 12 = .ok (.iload_n 2, 1) := by decide +kernel
theorem dX3_isLighter_13 : decode mX3_isLighter.2.1 13 = .ok (.ifCond .eq 24, 3) := by decide +kernel
theorem dX3_isLighter_16 : decode mX3_isLighter.2.1 16 = .ok (.iload_n 1, 1) := by decide +kernel
theorem dX3_isLighter_17 : decode mX3_isLighter.2.1 17 = .ok (.aload_n 0, 1) := by decide +kernel
theorem dX3_isLighter_18 : decode mX3_isLighter.2.1 18 = .ok (.getfield 21, 3) := by decide +kernel
theorem dX3_isLighter_21 : decode mX3_isLighter.2.1 21 = .ok (.aload_n 0, 1) := by decide +kernel
theorem dX3_isLighter_22 : decode mX3_isLighter.2.1 22 = .ok (.getfield 42, 3) := by decide +kernel
theorem dX3_isLighter_25 : decode mX3_isLighter.2.1 25 = .ok (.iconst 1, 1) := by decide +kernel
theorem dX3_isLighter_26 : decode mX3_isLighter.2.1 26 = .ok (.isub, 1) := by decide +kernel
theorem dX3_isLighter_27 : decode mX3_isLighter.2.1 27 = .ok (.iconst 4, 1) := by decide +kernel
theorem dX3_isLighter_28 : decode mX3_isLighter.2.1 28 = .ok (.imul, 1) := by decide +kernel
theorem dX3_isLighter_29 : decode mX3_isLighter.2.1 29 = .ok (.iload_n 2, 1) := by decide +kernel
theorem dX3_isLighter_30 : decode mX3_isLighter.2.1 30 = .ok (.iadd, 1) := by decide +kernel
theorem dX3_isLighter_31 : decode mX3_isLighter.2.1 31 = .ok (.iconst 1, 1) := by decide +kernel
theorem dX3_isLighter_32 : decode mX3_isLighter.2.1 32 = .ok (.isub, 1) := by decide +kernel
theorem dX3_isLighter_33 : decode mX3_isLighter.2.1 33 = .ok (.iaload, 1) := by decide +kernel
theorem dX3_isLighter_34 : decode mX3_isLighter.2.1 34 = .ok (.if_icmp .ge 7, 3) := by decide +kernel
theorem dX3_isLighter_37 : decode mX3_isLighter.2.1 37 = .ok (.iconst 1, 1) := by decide +kernel
theorem dX3_isLighter_38 : decode mX3_isLighter.2.1 38 = .ok (.goto 4, 3) := by decide +kernel
theorem dX3_isLighter_41 : decode mX3_isLighter.2.1 41 = .ok (.iconst 0, 1) := by decide +kernel
theorem dX3_isLighter_42 : decode mX3_isLighter.2.1 42 = .ok (.ireturn, 1) := by decide +kernel
theorem sX3_isLighter {SC : Nat → Nat} {X : mh_X} {d kc ks : Nat} {Q : Option am_V → am_W → Prop} {w : am_W} {j0 : Nat} {x1 : Int} (Ho1 : 0 ≤ (am_w ((w.1 10 j0 10) - 1))) (Ho2 : (am_w ((w.1 10 j0 10) - 1)) < 30) (Ho4 : ¬ (w.1 146 j0 (am_w ((w.1 10 j0 10) - 1)).toNat) = 0 → 0 ≤ (am_w ((am_w ((am_w ((am_w ((w.1 10 j0 10) - 1)) * 4)) + (w.1 146 j0 (am_w ((w.1 10 j0 10) - 1)).toNat))) - 1))) (Ho5 : ¬ (w.1 146 j0 (am_w ((w.1 10 j0 10) - 1)).toNat) = 0 → (am_w ((am_w ((am_w ((am_w ((w.1 10 j0 10) - 1)) * 4)) + (w.1 146 j0 (am_w ((w.1 10 j0 10) - 1)).toNat))) - 1)) < 120)
    (h : Q (some (.inl (if ((w.1 146 j0 (am_w ((w.1 10 j0 10) - 1)).toNat) = 0 ∨ (¬ (w.1 147 j0 (am_w ((am_w ((am_w ((am_w ((w.1 10 j0 10) - 1)) * 4)) + (w.1 146 j0 (am_w ((w.1 10 j0 10) - 1)).toNat))) - 1)).toNat) ≤ x1)) then 1 else 0))) w) : am_M (mh_G X) SC (d + 1) kc ks mX3_isLighter [.inr (.inr (some (10, j0))), .inl x1] w Q := by
  refine am_M_of (by decide) (Nat.le_of_ble_eq_true rfl) ?_
  show am_A (mh_G X) SC (d + 1) mX3_isLighter Q 0 [(0, .inr (.inr (some (10, j0)))), (1, .inl x1)] [] w kc ks
  refine am_aload_n dX3_isLighter_0 (List.Mem.head _) ?_
  refine am_getf (f := 2) (v := .inr (.inr (some (146, j0)))) dX3_isLighter_1 hc_4 (by decide) wd_217 (by decide) rfl rfl ?_
  refine am_aload_n dX3_isLighter_4 (List.Mem.head _) ?_
  refine am_getf (f := 10) (v := .inl (w.1 10 j0 10)) dX3_isLighter_5 hc_4 (by decide) wd_227 (by decide) rfl rfl ?_
  refine am_iconst dX3_isLighter_8 (by unfold am_rg; omega) ?_
  refine am_isub dX3_isLighter_9 ?_
  have o1 := Ho1
  have o2 := Ho2
  refine am_iaload (v := (w.1 146 j0 (am_w ((w.1 10 j0 10) - 1)).toNat)) dX3_isLighter_10 (by decide) rfl o1 o2 rfl ?_
  refine am_istore_n (ls' := [(2, .inl (w.1 146 j0 (am_w ((w.1 10 j0 10) - 1)).toNat)), (0, .inr (.inr (some (10, j0)))), (1, .inl x1)]) dX3_isLighter_11 (by decide) rfl ?_
  refine am_iload_n dX3_isLighter_12 (List.Mem.head _) ?_
  refine am_ifeq (tgt := 37) dX3_isLighter_13 (by decide) (fun c3 => ?_) (fun c3 => ?_)
  · refine am_iconst dX3_isLighter_37 (by unfold am_rg; omega) ?_
    refine am_goto (tgt := 42) dX3_isLighter_38 (by decide) ?_
    rw [if_pos (by omega)] at h
    exact am_ret (r := some (.inl 1)) dX3_isLighter_42 (Or.inr (Or.inl ⟨rfl, (Or.inr rfl)⟩)) rfl h
  · refine am_iload_n dX3_isLighter_16 (List.Mem.tail _ (List.Mem.tail _ (List.Mem.head _))) ?_
    refine am_aload_n dX3_isLighter_17 (List.Mem.tail _ (List.Mem.head _)) ?_
    refine am_getf (f := 3) (v := .inr (.inr (some (147, j0)))) dX3_isLighter_18 hc_4 (by decide) wd_218 (by decide) rfl rfl ?_
    refine am_aload_n dX3_isLighter_21 (List.Mem.tail _ (List.Mem.head _)) ?_
    refine am_getf (f := 10) (v := .inl (w.1 10 j0 10)) dX3_isLighter_22 hc_4 (by decide) wd_227 (by decide) rfl rfl ?_
    refine am_iconst dX3_isLighter_25 (by unfold am_rg; omega) ?_
    refine am_isub dX3_isLighter_26 ?_
    refine am_iconst dX3_isLighter_27 (by unfold am_rg; omega) ?_
    refine am_imul dX3_isLighter_28 ?_
    refine am_iload_n dX3_isLighter_29 (List.Mem.head _) ?_
    refine am_iadd dX3_isLighter_30 ?_
    refine am_iconst dX3_isLighter_31 (by unfold am_rg; omega) ?_
    refine am_isub dX3_isLighter_32 ?_
    have o4 := Ho4 c3
    have o5 := Ho5 c3
    refine am_iaload (v := (w.1 147 j0 (am_w ((am_w ((am_w ((am_w ((w.1 10 j0 10) - 1)) * 4)) + (w.1 146 j0 (am_w ((w.1 10 j0 10) - 1)).toNat))) - 1)).toNat)) dX3_isLighter_33 (by decide) rfl o4 o5 rfl ?_
    refine am_icmpge (tgt := 41) dX3_isLighter_34 (by decide) (fun c6 => ?_) (fun c6 => ?_)
    · refine am_iconst dX3_isLighter_41 (by unfold am_rg; omega) ?_
      rw [if_neg (by omega)] at h
      exact am_ret (r := some (.inl 0)) dX3_isLighter_42 (Or.inr (Or.inl ⟨rfl, (Or.inl rfl)⟩)) rfl h
    · refine am_iconst dX3_isLighter_37 (by unfold am_rg; omega) ?_
      refine am_goto (tgt := 42) dX3_isLighter_38 (by decide) ?_
      rw [if_pos (by omega)] at h
      exact am_ret (r := some (.inl 1)) dX3_isLighter_42 (Or.inr (Or.inl ⟨rfl, (Or.inr rfl)⟩)) rfl h
-- MourningHouse$Law.addPart(III)V
theorem dX3_addPart_0 : decode mX3_addPart.2.1 0 = .ok (.aload_n 0, 1) := by decide +kernel
theorem dX3_addPart_1 : decode mX3_addPart.2.1 1 = .ok (.getfield 42, 3) := by decide +kernel
theorem dX3_addPart_4 : decode mX3_addPart.2.1 4 = .ok (.iconst 1, 1) := by decide +kernel
theorem dX3_addPart_5 : decode mX3_addPart.2.1 5 = .ok (.isub, 1) := by decide +kernel
theorem dX3_addPart_6 : decode mX3_addPart.2.1 6 = .ok (.iconst 4, 1) := by decide +kernel
theorem dX3_addPart_7 : decode mX3_addPart.2.1 7 = .ok (.imul, 1) := by decide +kernel
theorem dX3_addPart_8 : decode mX3_addPart.2.1 8 = .ok (.aload_n 0, 1) := by decide +kernel
theorem dX3_addPart_9 : decode mX3_addPart.2.1 9 = .ok (.getfield 18, 3) := by decide +kernel
theorem dX3_addPart_12 : decode mX3_addPart.2.1 12 = .ok (.aload_n 0, 1) := by decide +kernel
theorem dX3_addPart_13 : decode mX3_addPart.2.1 13 = .ok (.getfield 42, 3) := by decide +kernel
theorem dX3_addPart_16 : decode mX3_addPart.2.1 16 = .ok (.iconst 1, 1) := by decide +kernel
theorem dX3_addPart_17 : decode mX3_addPart.2.1 17 = .ok (.isub, 1) := by decide +kernel
theorem dX3_addPart_18 : decode mX3_addPart.2.1 18 = .ok (.iaload, 1) := by decide +kernel
theorem dX3_addPart_19 : decode mX3_addPart.2.1 19 = .ok (.iadd, 1) := by decide +kernel
theorem dX3_addPart_20 : decode mX3_addPart.2.1 20 = .ok (.istore 4, 2) := by decide +kernel
theorem dX3_addPart_22 : decode mX3_addPart.2.1 22 = .ok (.aload_n 0, 1) := by decide +kernel
theorem dX3_addPart_23 : decode mX3_addPart.2.1 23 = .ok (.getfield 21, 3) := by decide +kernel
theorem dX3_addPart_26 : decode mX3_addPart.2.1 26 = .ok (.iload 4, 2) := by decide +kernel
theorem dX3_addPart_28 : decode mX3_addPart.2.1 28 = .ok (.iload_n 1, 1) := by decide +kernel
theorem dX3_addPart_29 : decode mX3_addPart.2.1 29 = .ok (.iastore, 1) := by decide +kernel
theorem dX3_addPart_30 : decode mX3_addPart.2.1 30 = .ok (.aload_n 0, 1) := by decide +kernel
theorem dX3_addPart_31 : decode mX3_addPart.2.1 31 = .ok (.getfield 24, 3) := by decide +kernel
theorem dX3_addPart_34 : decode mX3_addPart.2.1 34 = .ok (.iload 4, 2) := by decide +kernel
theorem dX3_addPart_36 : decode mX3_addPart.2.1 36 = .ok (.iload_n 2, 1) := by decide +kernel
theorem dX3_addPart_37 : decode mX3_addPart.2.1 37 = .ok (.iastore, 1) := by decide +kernel
theorem dX3_addPart_38 : decode mX3_addPart.2.1 38 = .ok (.aload_n 0, 1) := by decide +kernel
theorem dX3_addPart_39 : decode mX3_addPart.2.1 39 = .ok (.getfield 27, 3) := by decide +kernel
theorem dX3_addPart_42 : decode mX3_addPart.2.1 42 = .ok (.iload 4, 2) := by decide +kernel
theorem dX3_addPart_44 : decode mX3_addPart.2.1 44 = .ok (.iload_n 3, 1) := by decide +kernel
theorem dX3_addPart_45 : decode mX3_addPart.2.1 45 = .ok (.iastore, 1) := by decide +kernel
theorem dX3_addPart_46 : decode mX3_addPart.2.1 46 = .ok (.aload_n 0, 1) := by decide +kernel
theorem dX3_addPart_47 : decode mX3_addPart.2.1 47 = .ok (.getfield 18, 3) := by decide +kernel
theorem dX3_addPart_50 : decode mX3_addPart.2.1 50 = .ok (.aload_n 0, 1) := by decide +kernel
theorem dX3_addPart_51 : decode mX3_addPart.2.1 51 = .ok (.getfield 42, 3) := by decide +kernel
theorem dX3_addPart_54 : decode mX3_addPart.2.1 54 = .ok (.iconst 1, 1) := by decide +kernel
theorem dX3_addPart_55 : decode mX3_addPart.2.1 55 = .ok (.isub, 1) := by decide +kernel
theorem dX3_addPart_56 : decode mX3_addPart.2.1 56 = .ok (.dup2, 1) := by decide +kernel
theorem dX3_addPart_57 : decode mX3_addPart.2.1 57 = .ok (.iaload, 1) := by decide +kernel
theorem dX3_addPart_58 : decode mX3_addPart.2.1 58 = .ok (.iconst 1, 1) := by decide +kernel
theorem dX3_addPart_59 : decode mX3_addPart.2.1 59 = .ok (.iadd, 1) := by decide +kernel
theorem dX3_addPart_60 : decode mX3_addPart.2.1 60 = .ok (.iastore, 1) := by decide +kernel
theorem dX3_addPart_61 : decode mX3_addPart.2.1 61 = .ok (.return_, 1) := by decide +kernel
theorem sX3_addPart {SC : Nat → Nat} {X : mh_X} {d kc ks : Nat} {Q : Option am_V → am_W → Prop} {w : am_W} {j0 : Nat} {x1 : Int} {x2 : Int} {x3 : Int} (Ho1 : 0 ≤ (am_w ((w.1 10 j0 10) - 1))) (Ho2 : (am_w ((w.1 10 j0 10) - 1)) < 30) (Ho3 : 0 ≤ (am_w ((am_w ((am_w ((w.1 10 j0 10) - 1)) * 4)) + (w.1 146 j0 (am_w ((w.1 10 j0 10) - 1)).toNat)))) (Ho4 : (am_w ((am_w ((am_w ((w.1 10 j0 10) - 1)) * 4)) + (w.1 146 j0 (am_w ((w.1 10 j0 10) - 1)).toNat))) < 120)
    (h : Q none ((am_up (am_up (am_up (am_up w.1 147 j0 (am_w ((am_w ((am_w ((w.1 10 j0 10) - 1)) * 4)) + (w.1 146 j0 (am_w ((w.1 10 j0 10) - 1)).toNat))).toNat x1) 148 j0 (am_w ((am_w ((am_w ((w.1 10 j0 10) - 1)) * 4)) + (w.1 146 j0 (am_w ((w.1 10 j0 10) - 1)).toNat))).toNat x2) 149 j0 (am_w ((am_w ((am_w ((w.1 10 j0 10) - 1)) * 4)) + (w.1 146 j0 (am_w ((w.1 10 j0 10) - 1)).toNat))).toNat x3) 146 j0 (am_w ((w.1 10 j0 10) - 1)).toNat (am_w ((w.1 146 j0 (am_w ((w.1 10 j0 10) - 1)).toNat) + 1))), w.2)) : am_M (mh_G X) SC (d + 1) kc ks mX3_addPart [.inr (.inr (some (10, j0))), .inl x1, .inl x2, .inl x3] w Q := by
  refine am_M_of (by decide) (Nat.le_of_ble_eq_true rfl) ?_
  show am_A (mh_G X) SC (d + 1) mX3_addPart Q 0 [(0, .inr (.inr (some (10, j0)))), (1, .inl x1), (2, .inl x2), (3, .inl x3)] [] w kc ks
  refine am_aload_n dX3_addPart_0 (List.Mem.head _) ?_
  refine am_getf (f := 10) (v := .inl (w.1 10 j0 10)) dX3_addPart_1 hc_4 (by decide) wd_227 (by decide) rfl rfl ?_
  refine am_iconst dX3_addPart_4 (by unfold am_rg; omega) ?_
  refine am_isub dX3_addPart_5 ?_
  refine am_iconst dX3_addPart_6 (by unfold am_rg; omega) ?_
  refine am_imul dX3_addPart_7 ?_
  refine am_aload_n dX3_addPart_8 (List.Mem.head _) ?_
  refine am_getf (f := 2) (v := .inr (.inr (some (146, j0)))) dX3_addPart_9 hc_4 (by decide) wd_217 (by decide) rfl rfl ?_
  refine am_aload_n dX3_addPart_12 (List.Mem.head _) ?_
  refine am_getf (f := 10) (v := .inl (w.1 10 j0 10)) dX3_addPart_13 hc_4 (by decide) wd_227 (by decide) rfl rfl ?_
  refine am_iconst dX3_addPart_16 (by unfold am_rg; omega) ?_
  refine am_isub dX3_addPart_17 ?_
  have o1 := Ho1
  have o2 := Ho2
  refine am_iaload (v := (w.1 146 j0 (am_w ((w.1 10 j0 10) - 1)).toNat)) dX3_addPart_18 (by decide) rfl o1 o2 rfl ?_
  refine am_iadd dX3_addPart_19 ?_
  refine am_istore (ls' := [(4, .inl (am_w ((am_w ((am_w ((w.1 10 j0 10) - 1)) * 4)) + (w.1 146 j0 (am_w ((w.1 10 j0 10) - 1)).toNat)))), (0, .inr (.inr (some (10, j0)))), (1, .inl x1), (2, .inl x2), (3, .inl x3)]) dX3_addPart_20 (by decide) rfl ?_
  refine am_aload_n dX3_addPart_22 (List.Mem.tail _ (List.Mem.head _)) ?_
  refine am_getf (f := 3) (v := .inr (.inr (some (147, j0)))) dX3_addPart_23 hc_4 (by decide) wd_218 (by decide) rfl rfl ?_
  refine am_iload dX3_addPart_26 (List.Mem.head _) ?_
  refine am_iload_n dX3_addPart_28 (List.Mem.tail _ (List.Mem.tail _ (List.Mem.head _))) ?_
  have o3 := Ho3
  have o4 := Ho4
  refine am_iastore dX3_addPart_29 (Or.inl (by decide)) rfl o3 o4 ?_
  refine am_aload_n dX3_addPart_30 (List.Mem.tail _ (List.Mem.head _)) ?_
  refine am_getf (f := 4) (v := .inr (.inr (some (148, j0)))) dX3_addPart_31 hc_4 (by decide) wd_219 (by decide) rfl rfl ?_
  refine am_iload dX3_addPart_34 (List.Mem.head _) ?_
  refine am_iload_n dX3_addPart_36 (List.Mem.tail _ (List.Mem.tail _ (List.Mem.tail _ (List.Mem.head _)))) ?_
  refine am_iastore dX3_addPart_37 (Or.inl (by decide)) rfl o3 o4 ?_
  refine am_aload_n dX3_addPart_38 (List.Mem.tail _ (List.Mem.head _)) ?_
  refine am_getf (f := 5) (v := .inr (.inr (some (149, j0)))) dX3_addPart_39 hc_4 (by decide) wd_220 (by decide) rfl rfl ?_
  refine am_iload dX3_addPart_42 (List.Mem.head _) ?_
  refine am_iload_n dX3_addPart_44 (List.Mem.tail _ (List.Mem.tail _ (List.Mem.tail _ (List.Mem.tail _ (List.Mem.head _))))) ?_
  refine am_iastore dX3_addPart_45 (Or.inl (by decide)) rfl o3 o4 ?_
  refine am_aload_n dX3_addPart_46 (List.Mem.tail _ (List.Mem.head _)) ?_
  refine am_getf (f := 2) (v := .inr (.inr (some (146, j0)))) dX3_addPart_47 hc_4 (by decide) wd_217 (by decide) rfl rfl ?_
  refine am_aload_n dX3_addPart_50 (List.Mem.tail _ (List.Mem.head _)) ?_
  refine am_getf (f := 10) (v := .inl (w.1 10 j0 10)) dX3_addPart_51 hc_4 (by decide) wd_227 (by decide) rfl rfl ?_
  refine am_iconst dX3_addPart_54 (by unfold am_rg; omega) ?_
  refine am_isub dX3_addPart_55 ?_
  refine am_dup2 dX3_addPart_56 rfl rfl ?_
  refine am_iaload (v := (w.1 146 j0 (am_w ((w.1 10 j0 10) - 1)).toNat)) dX3_addPart_57 (by decide) rfl o1 o2 rfl ?_
  refine am_iconst dX3_addPart_58 (by unfold am_rg; omega) ?_
  refine am_iadd dX3_addPart_59 ?_
  refine am_iastore dX3_addPart_60 (Or.inl (by decide)) rfl o1 o2 ?_
  exact am_ret (r := none) dX3_addPart_61 rfl rfl h
-- MourningHouse$Law.addOption(I)Z
theorem dX3_addOption_0 : decode mX3_addOption.2.1 0 = .ok (.iconst 1, 1) := by decide +kernel
theorem dX3_addOption_1 : decode mX3_addOption.2.1 1 = .ok (.iload_n 1, 1) := by decide +kernel
theorem dX3_addOption_2 : decode mX3_addOption.2.1 2 = .ok (.ishl, 1) := by decide +kernel
theorem dX3_addOption_3 : decode mX3_addOption.2.1 3 = .ok (.istore_n 2, 1) := by decide +kernel
theorem dX3_addOption_4 : decode mX3_addOption.2.1 4 = .ok (.aload_n 0, 1) := by decide +kernel
theorem dX3_addOption_5 : decode mX3_addOption.2.1 5 = .ok (.getfield 30, 3) := by decide +kernel
theorem dX3_addOption_8 : decode mX3_addOption.2.1 8 = .ok (.aload_n 0, 1) := by decide +kernel
theorem dX3_addOption_9 : decode mX3_addOption.2.1 9 = .ok (.getfield 42, 3) := by decide +kernel
theorem dX3_addOption_12 : decode mX3_addOption.2.1 12 = .ok (.iconst 1, 1) := by decide +kernel
theorem dX3_addOption_13 : decode mX3_addOption.2.1 13 = .ok (.isub, 1) := by decide +kernel
theorem dX3_addOption_14 : decode mX3_addOption.2.1 14 = .ok (.iaload, 1) := by decide +kernel
theorem dX3_addOption_15 : decode mX3_addOption.2.1 15 = .ok (.iload_n 2, 1) := by decide +kernel
theorem dX3_addOption_16 : decode mX3_addOption.2.1 16 = .ok (.iand, 1) := by decide +kernel
theorem dX3_addOption_17 : decode mX3_addOption.2.1 17 = .ok (.ifCond .eq 5, 3) := by decide +kernel
theorem dX3_addOption_20 : decode mX3_addOption.2.1 20 = .ok (.iconst 0, 1) := by decide +kernel
theorem dX3_addOption_21 : decode mX3_addOption.2.1 21 = .ok (.ireturn, 1) := by decide +kernel
theorem dX3_addOption_22 : decode mX3_addOption.2.1 22 = .ok (.aload_n 0, 1) := by decide +kernel
theorem dX3_addOption_23 : decode mX3_addOption.2.1 23 = .ok (.getfield 30, 3) := by decide +kernel
theorem dX3_addOption_26 : decode mX3_addOption.2.1 26 = .ok (.aload_n 0, 1) := by decide +kernel
theorem dX3_addOption_27 : decode mX3_addOption.2.1 27 = .ok (.getfield 42, 3) := by decide +kernel
theorem dX3_addOption_30 : decode mX3_addOption.2.1 30 = .ok (.iconst 1, 1) := by decide +kernel
theorem dX3_addOption_31 : decode mX3_addOption.2.1 31 = .ok (.isub, 1) := by decide +kernel
theorem dX3_addOption_32 : decode mX3_addOption.2.1 32 = .ok (.dup2, 1) := by decide +kernel
theorem dX3_addOption_33 : decode mX3_addOption.2.1 33 = .ok (.iaload, 1) := by decide +kernel
theorem dX3_addOption_34 : decode mX3_addOption.2.1 34 = .ok (.iload_n 2, 1) := by decide +kernel
theorem dX3_addOption_35 : decode mX3_addOption.2.1 35 = .ok (.ior, 1) := by decide +kernel
theorem dX3_addOption_36 : decode mX3_addOption.2.1 36 = .ok (.iastore, 1) := by decide +kernel
theorem dX3_addOption_37 : decode mX3_addOption.2.1 37 = .ok (.iconst 1, 1) := by decide +kernel
theorem dX3_addOption_38 : decode mX3_addOption.2.1 38 = .ok (.ireturn, 1) := by decide +kernel
theorem bX3_addOption_0 {SC : Nat → Nat} {X : mh_X} {d : Nat} {Q : Option am_V → am_W → Prop} {bc bs : Nat} {w : am_W} {j0 : Nat} {x1 : Int}
    (h : (0 ≤ (am_w ((w.1 10 j0 10) - 1)) ∧ ((am_w ((w.1 10 j0 10) - 1)) < 30 ∧ (((am_and (w.1 150 j0 (am_w ((w.1 10 j0 10) - 1)).toNat) (am_shl 1 x1)) = 0 → Q (some (.inl 1)) ((am_up w.1 150 j0 (am_w ((w.1 10 j0 10) - 1)).toNat (am_or (w.1 150 j0 (am_w ((w.1 10 j0 10) - 1)).toNat) (am_shl 1 x1))), w.2)) ∧ (¬ (am_and (w.1 150 j0 (am_w ((w.1 10 j0 10) - 1)).toNat) (am_shl 1 x1)) = 0 → Q (some (.inl 0)) w))))) :
    am_A (mh_G X) SC (d + 1) mX3_addOption Q 0 [(0, .inr (.inr (some (10, j0)))), (1, .inl x1)] [] w bc bs := by
  refine am_iconst dX3_addOption_0 (by unfold am_rg; omega) ?_
  refine am_iload_n dX3_addOption_1 (List.Mem.tail _ (List.Mem.head _)) ?_
  refine am_ishl dX3_addOption_2 ?_
  refine am_istore_n (ls' := [(2, .inl (am_shl 1 x1)), (0, .inr (.inr (some (10, j0)))), (1, .inl x1)]) dX3_addOption_3 (by decide) rfl ?_
  refine am_aload_n dX3_addOption_4 (List.Mem.tail _ (List.Mem.head _)) ?_
  refine am_getf (f := 6) (v := .inr (.inr (some (150, j0)))) dX3_addOption_5 hc_4 (by decide) wd_221 (by decide) rfl rfl ?_
  refine am_aload_n dX3_addOption_8 (List.Mem.tail _ (List.Mem.head _)) ?_
  refine am_getf (f := 10) (v := .inl (w.1 10 j0 10)) dX3_addOption_9 hc_4 (by decide) wd_227 (by decide) rfl rfl ?_
  refine am_iconst dX3_addOption_12 (by unfold am_rg; omega) ?_
  refine am_isub dX3_addOption_13 ?_
  have o1 := h.1
  replace h := h.2
  have o2 := h.1
  replace h := h.2
  refine am_iaload (v := (w.1 150 j0 (am_w ((w.1 10 j0 10) - 1)).toNat)) dX3_addOption_14 (by decide) rfl o1 o2 rfl ?_
  refine am_iload_n dX3_addOption_15 (List.Mem.head _) ?_
  refine am_iand dX3_addOption_16 ?_
  refine am_ifeq (tgt := 22) dX3_addOption_17 (by decide) (fun c3 => ?_) (fun c3 => ?_)
  · replace h := h.1 c3
    refine am_aload_n dX3_addOption_22 (List.Mem.tail _ (List.Mem.head _)) ?_
    refine am_getf (f := 6) (v := .inr (.inr (some (150, j0)))) dX3_addOption_23 hc_4 (by decide) wd_221 (by decide) rfl rfl ?_
    refine am_aload_n dX3_addOption_26 (List.Mem.tail _ (List.Mem.head _)) ?_
    refine am_getf (f := 10) (v := .inl (w.1 10 j0 10)) dX3_addOption_27 hc_4 (by decide) wd_227 (by decide) rfl rfl ?_
    refine am_iconst dX3_addOption_30 (by unfold am_rg; omega) ?_
    refine am_isub dX3_addOption_31 ?_
    refine am_dup2 dX3_addOption_32 rfl rfl ?_
    refine am_iaload (v := (w.1 150 j0 (am_w ((w.1 10 j0 10) - 1)).toNat)) dX3_addOption_33 (by decide) rfl o1 o2 rfl ?_
    refine am_iload_n dX3_addOption_34 (List.Mem.head _) ?_
    refine am_ior dX3_addOption_35 ?_
    refine am_iastore dX3_addOption_36 (Or.inl (by decide)) rfl o1 o2 ?_
    refine am_iconst dX3_addOption_37 (by unfold am_rg; omega) ?_
    exact am_ret (r := some (.inl 1)) dX3_addOption_38 (Or.inr (Or.inl ⟨rfl, (Or.inr rfl)⟩)) rfl h
  · replace h := h.2 c3
    refine am_iconst dX3_addOption_20 (by unfold am_rg; omega) ?_
    exact am_ret (r := some (.inl 0)) dX3_addOption_21 (Or.inr (Or.inl ⟨rfl, (Or.inl rfl)⟩)) rfl h
-- MourningHouse$Law.hasRoomForFeast()Z
theorem dX3_hasRoomForFeast_0 : decode mX3_hasRoomForFeast.2.1 0 = .ok (.aload_n 0, 1) := by decide +kernel
theorem dX3_hasRoomForFeast_1 : decode mX3_hasRoomForFeast.2.1 1 = .ok (.getfield 46, 3) := by decide +kernel
theorem dX3_hasRoomForFeast_4 : decode mX3_hasRoomForFeast.2.1 4 = .ok (.bipush 8, 2) := by decide +kernel
theorem dX3_hasRoomForFeast_6 : decode mX3_hasRoomForFeast.2.1 6 = .ok (.if_icmp .ge 7, 3) := by decide +kernel
theorem dX3_hasRoomForFeast_9 : decode mX3_hasRoomForFeast.2.1 9 = .ok (.iconst 1, 1) := by decide +kernel
theorem dX3_hasRoomForFeast_10 : decode mX3_hasRoomForFeast.2.1 10 = .ok (.goto 4, 3) := by decide +kernel
theorem dX3_hasRoomForFeast_13 : decode mX3_hasRoomForFeast.2.1 13 = .ok (.iconst 0, 1) := by decide +kernel
theorem dX3_hasRoomForFeast_14 : decode mX3_hasRoomForFeast.2.1 14 = .ok (.ireturn, 1) := by decide +kernel
theorem sX3_hasRoomForFeast {SC : Nat → Nat} {X : mh_X} {d kc ks : Nat} {Q : Option am_V → am_W → Prop} {w : am_W} {j0 : Nat}
    (h : Q (some (.inl (if (¬ 8 ≤ (w.1 10 j0 11)) then 1 else 0))) w) : am_M (mh_G X) SC (d + 1) kc ks mX3_hasRoomForFeast [.inr (.inr (some (10, j0)))] w Q := by
  refine am_M_of (by decide) (Nat.le_of_ble_eq_true rfl) ?_
  show am_A (mh_G X) SC (d + 1) mX3_hasRoomForFeast Q 0 [(0, .inr (.inr (some (10, j0))))] [] w kc ks
  refine am_aload_n dX3_hasRoomForFeast_0 (List.Mem.head _) ?_
  refine am_getf (f := 11) (v := .inl (w.1 10 j0 11)) dX3_hasRoomForFeast_1 hc_4 (by decide) wd_230 (by decide) rfl rfl ?_
  refine am_bipush dX3_hasRoomForFeast_4 (by decide) (by unfold am_rg; omega) ?_
  refine am_icmpge (tgt := 13) dX3_hasRoomForFeast_6 (by decide) (fun c1 => ?_) (fun c1 => ?_)
  · refine am_iconst dX3_hasRoomForFeast_13 (by unfold am_rg; omega) ?_
    rw [if_neg (by omega)] at h
    exact am_ret (r := some (.inl 0)) dX3_hasRoomForFeast_14 (Or.inr (Or.inl ⟨rfl, (Or.inl rfl)⟩)) rfl h
  · refine am_iconst dX3_hasRoomForFeast_9 (by unfold am_rg; omega) ?_
    refine am_goto (tgt := 14) dX3_hasRoomForFeast_10 (by decide) ?_
    rw [if_pos (by omega)] at h
    exact am_ret (r := some (.inl 1)) dX3_hasRoomForFeast_14 (Or.inr (Or.inl ⟨rfl, (Or.inr rfl)⟩)) rfl h
-- MourningHouse$Law.addFeast(II)V
theorem dX3_addFeast_0 : decode mX3_addFeast.2.1 0 = .ok (.aload_n 0, 1) := by decide +kernel
theorem dX3_addFeast_1 : decode mX3_addFeast.2.1 1 = .ok (.getfield 33, 3) := by decide +kernel
theorem dX3_addFeast_4 : decode mX3_addFeast.2.1 4 = .ok (.aload_n 0, 1) := by decide +kernel
theorem dX3_addFeast_5 : decode mX3_addFeast.2.1 5 = .ok (.getfield 46, 3) := by decide +kernel
theorem dX3_addFeast_8 : decode mX3_addFeast.2.1 8 = .ok (.iload_n 1, 1) := by decide +kernel
theorem dX3_addFeast_9 : decode mX3_addFeast.2.1 9 = .ok (.iastore, 1) := by decide +kernel
theorem dX3_addFeast_10 : decode mX3_addFeast.2.1 10 = .ok (.aload_n 0, 1) := by decide +kernel
theorem dX3_addFeast_11 : decode mX3_addFeast.2.1 11 = .ok (.getfield 36, 3) := by decide +kernel
theorem dX3_addFeast_14 : decode mX3_addFeast.2.1 14 = .ok (.aload_n 0, 1) := by decide +kernel
theorem dX3_addFeast_15 : decode mX3_addFeast.2.1 15 = .ok (.getfield 46, 3) := by decide +kernel
theorem dX3_addFeast_18 : decode mX3_addFeast.2.1 18 = .ok (.iload_n 2, 1) := by decide +kernel
theorem dX3_addFeast_19 : decode mX3_addFeast.2.1 19 = .ok (.iastore, 1) := by decide +kernel
theorem dX3_addFeast_20 : decode mX3_addFeast.2.1 20 = .ok (.aload_n 0, 1) := by decide +kernel
theorem dX3_addFeast_21 : decode mX3_addFeast.2.1 21 = .ok (.dup, 1) := by decide +kernel
theorem dX3_addFeast_22 : decode mX3_addFeast.2.1 22 = .ok (.getfield 46, 3) := by decide +kernel
theorem dX3_addFeast_25 : decode mX3_addFeast.2.1 25 = .ok (.iconst 1, 1) := by decide +kernel
theorem dX3_addFeast_26 : decode mX3_addFeast.2.1 26 = .ok (.iadd, 1) := by decide +kernel
theorem dX3_addFeast_27 : decode mX3_addFeast.2.1 27 = .ok (.putfield 46, 3) := by decide +kernel
theorem dX3_addFeast_30 : decode mX3_addFeast.2.1 30 = .ok (.return_, 1) := by decide +kernel
theorem sX3_addFeast {SC : Nat → Nat} {X : mh_X} {d kc ks : Nat} {Q : Option am_V → am_W → Prop} {w : am_W} {j0 : Nat} {x1 : Int} {x2 : Int} (Ho1 : 0 ≤ (w.1 10 j0 11)) (Ho2 : (w.1 10 j0 11) < 8)
    (h : Q none ((am_up (am_up (am_up w.1 151 j0 (w.1 10 j0 11).toNat x1) 152 j0 (w.1 10 j0 11).toNat x2) 10 j0 11 (am_w ((w.1 10 j0 11) + 1))), w.2)) : am_M (mh_G X) SC (d + 1) kc ks mX3_addFeast [.inr (.inr (some (10, j0))), .inl x1, .inl x2] w Q := by
  refine am_M_of (by decide) (Nat.le_of_ble_eq_true rfl) ?_
  show am_A (mh_G X) SC (d + 1) mX3_addFeast Q 0 [(0, .inr (.inr (some (10, j0)))), (1, .inl x1), (2, .inl x2)] [] w kc ks
  refine am_aload_n dX3_addFeast_0 (List.Mem.head _) ?_
  refine am_getf (f := 7) (v := .inr (.inr (some (151, j0)))) dX3_addFeast_1 hc_4 (by decide) wd_222 (by decide) rfl rfl ?_
  refine am_aload_n dX3_addFeast_4 (List.Mem.head _) ?_
  refine am_getf (f := 11) (v := .inl (w.1 10 j0 11)) dX3_addFeast_5 hc_4 (by decide) wd_230 (by decide) rfl rfl ?_
  refine am_iload_n dX3_addFeast_8 (List.Mem.tail _ (List.Mem.head _)) ?_
  have o1 := Ho1
  have o2 := Ho2
  refine am_iastore dX3_addFeast_9 (Or.inl (by decide)) rfl o1 o2 ?_
  refine am_aload_n dX3_addFeast_10 (List.Mem.head _) ?_
  refine am_getf (f := 8) (v := .inr (.inr (some (152, j0)))) dX3_addFeast_11 hc_4 (by decide) wd_223 (by decide) rfl rfl ?_
  refine am_aload_n dX3_addFeast_14 (List.Mem.head _) ?_
  refine am_getf (f := 11) (v := .inl (w.1 10 j0 11)) dX3_addFeast_15 hc_4 (by decide) wd_230 (by decide) rfl rfl ?_
  refine am_iload_n dX3_addFeast_18 (List.Mem.tail _ (List.Mem.tail _ (List.Mem.head _))) ?_
  refine am_iastore dX3_addFeast_19 (Or.inl (by decide)) rfl o1 o2 ?_
  refine am_aload_n dX3_addFeast_20 (List.Mem.head _) ?_
  refine am_dup dX3_addFeast_21 rfl ?_
  refine am_getf (f := 11) (v := .inl (w.1 10 j0 11)) dX3_addFeast_22 hc_4 (by decide) wd_230 (by decide) rfl rfl ?_
  refine am_iconst dX3_addFeast_25 (by unfold am_rg; omega) ?_
  refine am_iadd dX3_addFeast_26 ?_
  refine am_putf (f := 11) dX3_addFeast_27 hc_4 (by decide) wd_230 rfl (Or.inl rfl) (Or.inl (by decide)) rfl ?_
  exact am_ret (r := none) dX3_addFeast_30 rfl rfl h
-- MourningHouse$Law.hasRule(I)Z
theorem dX3_hasRule_0 : decode mX3_hasRule.2.1 0 = .ok (.iload_n 1, 1) := by decide +kernel
theorem dX3_hasRule_1 : decode mX3_hasRule.2.1 1 = .ok (.ifCond .lt 15, 3) := by decide +kernel
theorem dX3_hasRule_4 : decode mX3_hasRule.2.1 4 = .ok (.iload_n 1, 1) := by decide +kernel
theorem dX3_hasRule_5 : decode mX3_hasRule.2.1 5 = .ok (.aload_n 0, 1) := by decide +kernel
theorem dX3_hasRule_6 : decode mX3_hasRule.2.1 6 = .ok (.getfield 42, 3) := by decide +kernel
theorem dX3_hasRule_9 : decode mX3_hasRule.2.1 9 = .ok (.if_icmp .ge 7, 3) := by decide +kernel
theorem dX3_hasRule_12 : decode mX3_hasRule.2.1 12 = .ok (.iconst 1, 1) := by decide +kernel
theorem dX3_hasRule_13 : decode mX3_hasRule.2.1 13 = .ok (.goto 4, 3) := by decide +kernel
theorem dX3_hasRule_16 : decode mX3_hasRule.2.1 16 = .ok (.iconst 0, 1) := by decide +kernel
theorem dX3_hasRule_17 : decode mX3_hasRule.2.1 17 = .ok (.ireturn, 1) := by decide +kernel
theorem sX3_hasRule {SC : Nat → Nat} {X : mh_X} {d kc ks : Nat} {Q : Option am_V → am_W → Prop} {w : am_W} {j0 : Nat} {x1 : Int}
    (h : Q (some (.inl (if (¬ x1 < 0 ∧ (¬ (w.1 10 j0 10) ≤ x1)) then 1 else 0))) w) : am_M (mh_G X) SC (d + 1) kc ks mX3_hasRule [.inr (.inr (some (10, j0))), .inl x1] w Q := by
  refine am_M_of (by decide) (Nat.le_of_ble_eq_true rfl) ?_
  show am_A (mh_G X) SC (d + 1) mX3_hasRule Q 0 [(0, .inr (.inr (some (10, j0)))), (1, .inl x1)] [] w kc ks
  refine am_iload_n dX3_hasRule_0 (List.Mem.tail _ (List.Mem.head _)) ?_
  refine am_iflt (tgt := 16) dX3_hasRule_1 (by decide) (fun c1 => ?_) (fun c1 => ?_)
  · refine am_iconst dX3_hasRule_16 (by unfold am_rg; omega) ?_
    rw [if_neg (by omega)] at h
    exact am_ret (r := some (.inl 0)) dX3_hasRule_17 (Or.inr (Or.inl ⟨rfl, (Or.inl rfl)⟩)) rfl h
  · refine am_iload_n dX3_hasRule_4 (List.Mem.tail _ (List.Mem.head _)) ?_
    refine am_aload_n dX3_hasRule_5 (List.Mem.head _) ?_
    refine am_getf (f := 10) (v := .inl (w.1 10 j0 10)) dX3_hasRule_6 hc_4 (by decide) wd_227 (by decide) rfl rfl ?_
    refine am_icmpge (tgt := 16) dX3_hasRule_9 (by decide) (fun c2 => ?_) (fun c2 => ?_)
    · refine am_iconst dX3_hasRule_16 (by unfold am_rg; omega) ?_
      rw [if_neg (by omega)] at h
      exact am_ret (r := some (.inl 0)) dX3_hasRule_17 (Or.inr (Or.inl ⟨rfl, (Or.inl rfl)⟩)) rfl h
    · refine am_iconst dX3_hasRule_12 (by unfold am_rg; omega) ?_
      refine am_goto (tgt := 17) dX3_hasRule_13 (by decide) ?_
      rw [if_pos (by omega)] at h
      exact am_ret (r := some (.inl 1)) dX3_hasRule_17 (Or.inr (Or.inl ⟨rfl, (Or.inr rfl)⟩)) rfl h
-- MourningHouse$Law.partCount(I)I
theorem dX3_partCount_0 : decode mX3_partCount.2.1 0 = .ok (.aload_n 0, 1) := by decide +kernel
theorem dX3_partCount_1 : decode mX3_partCount.2.1 1 = .ok (.getfield 18, 3) := by decide +kernel
theorem dX3_partCount_4 : decode mX3_partCount.2.1 4 = .ok (.iload_n 1, 1) := by decide +kernel
theorem dX3_partCount_5 : decode mX3_partCount.2.1 5 = .ok (.iaload, 1) := by decide +kernel
theorem dX3_partCount_6 : decode mX3_partCount.2.1 6 = .ok (.ireturn, 1) := by decide +kernel
theorem sX3_partCount {SC : Nat → Nat} {X : mh_X} {d kc ks : Nat} {Q : Option am_V → am_W → Prop} {w : am_W} {j0 : Nat} {x1 : Int} (Ho1 : 0 ≤ x1) (Ho2 : x1 < 30)
    (h : Q (some (.inl (w.1 146 j0 x1.toNat))) w) : am_M (mh_G X) SC (d + 1) kc ks mX3_partCount [.inr (.inr (some (10, j0))), .inl x1] w Q := by
  refine am_M_of (by decide) (Nat.le_of_ble_eq_true rfl) ?_
  show am_A (mh_G X) SC (d + 1) mX3_partCount Q 0 [(0, .inr (.inr (some (10, j0)))), (1, .inl x1)] [] w kc ks
  refine am_aload_n dX3_partCount_0 (List.Mem.head _) ?_
  refine am_getf (f := 2) (v := .inr (.inr (some (146, j0)))) dX3_partCount_1 hc_4 (by decide) wd_217 (by decide) rfl rfl ?_
  refine am_iload_n dX3_partCount_4 (List.Mem.tail _ (List.Mem.head _)) ?_
  have o1 := Ho1
  have o2 := Ho2
  refine am_iaload (v := (w.1 146 j0 x1.toNat)) dX3_partCount_5 (by decide) rfl o1 o2 rfl ?_
  exact am_ret (r := some (.inl (w.1 146 j0 x1.toNat))) dX3_partCount_6 (Or.inl rfl) rfl h
-- MourningHouse$Law.partDepth(II)I
theorem dX3_partDepth_0 : decode mX3_partDepth.2.1 0 = .ok (.aload_n 0, 1) := by decide +kernel
theorem dX3_partDepth_1 : decode mX3_partDepth.2.1 1 = .ok (.getfield 21, 3) := by decide +kernel
theorem dX3_partDepth_4 : decode mX3_partDepth.2.1 4 = .ok (.iload_n 1, 1) := by decide +kernel
theorem dX3_partDepth_5 : decode mX3_partDepth.2.1 5 = .ok (.iconst 4, 1) := by decide +kernel
theorem dX3_partDepth_6 : decode mX3_partDepth.2.1 6 = .ok (.imul, 1) := by decide +kernel
theorem dX3_partDepth_7 : decode mX3_partDepth.2.1 7 = .ok (.iload_n 2, 1) := by decide +kernel
theorem dX3_partDepth_8 : decode mX3_partDepth.2.1 8 = .ok (.iadd, 1) := by decide +kernel
theorem dX3_partDepth_9 : decode mX3_partDepth.2.1 9 = .ok (.iaload, 1) := by decide +kernel
theorem dX3_partDepth_10 : decode mX3_partDepth.2.1 10 = .ok (.ireturn, 1) := by decide +kernel
theorem sX3_partDepth {SC : Nat → Nat} {X : mh_X} {d kc ks : Nat} {Q : Option am_V → am_W → Prop} {w : am_W} {j0 : Nat} {x1 : Int} {x2 : Int} (Ho1 : 0 ≤ (am_w ((am_w (x1 * 4)) + x2))) (Ho2 : (am_w ((am_w (x1 * 4)) + x2)) < 120)
    (h : Q (some (.inl (w.1 147 j0 (am_w ((am_w (x1 * 4)) + x2)).toNat))) w) : am_M (mh_G X) SC (d + 1) kc ks mX3_partDepth [.inr (.inr (some (10, j0))), .inl x1, .inl x2] w Q := by
  refine am_M_of (by decide) (Nat.le_of_ble_eq_true rfl) ?_
  show am_A (mh_G X) SC (d + 1) mX3_partDepth Q 0 [(0, .inr (.inr (some (10, j0)))), (1, .inl x1), (2, .inl x2)] [] w kc ks
  refine am_aload_n dX3_partDepth_0 (List.Mem.head _) ?_
  refine am_getf (f := 3) (v := .inr (.inr (some (147, j0)))) dX3_partDepth_1 hc_4 (by decide) wd_218 (by decide) rfl rfl ?_
  refine am_iload_n dX3_partDepth_4 (List.Mem.tail _ (List.Mem.head _)) ?_
  refine am_iconst dX3_partDepth_5 (by unfold am_rg; omega) ?_
  refine am_imul dX3_partDepth_6 ?_
  refine am_iload_n dX3_partDepth_7 (List.Mem.tail _ (List.Mem.tail _ (List.Mem.head _))) ?_
  refine am_iadd dX3_partDepth_8 ?_
  have o1 := Ho1
  have o2 := Ho2
  refine am_iaload (v := (w.1 147 j0 (am_w ((am_w (x1 * 4)) + x2)).toNat)) dX3_partDepth_9 (by decide) rfl o1 o2 rfl ?_
  exact am_ret (r := some (.inl (w.1 147 j0 (am_w ((am_w (x1 * 4)) + x2)).toNat))) dX3_partDepth_10 (Or.inl rfl) rfl h
-- MourningHouse$Law.hasOption(II)Z
theorem dX3_hasOption_0 : decode mX3_hasOption.2.1 0 = .ok (.aload_n 0, 1) := by decide +kernel
theorem dX3_hasOption_1 : decode mX3_hasOption.2.1 1 = .ok (.getfield 30, 3) := by decide +kernel
theorem dX3_hasOption_4 : decode mX3_hasOption.2.1 4 = .ok (.iload_n 1, 1) := by decide +kernel
theorem dX3_hasOption_5 : decode mX3_hasOption.2.1 5 = .ok (.iaload, 1) := by decide +kernel
theorem dX3_hasOption_6 : decode mX3_hasOption.2.1 6 = .ok (.iload_n 2, 1) := by decide +kernel
theorem dX3_hasOption_7 : decode mX3_hasOption.2.1 7 = .ok (.ishr, 1) := by decide +kernel
theorem dX3_hasOption_8 : decode mX3_hasOption.2.1 8 = .ok (.iconst 1, 1) := by decide +kernel
theorem dX3_hasOption_9 : decode mX3_hasOption.2.1 9 = .ok (.iand, 1) := by decide +kernel
theorem dX3_hasOption_10 : decode mX3_hasOption.2.1 10 = .ok (.ifCond .eq 7, 3) := by decide +kernel
theorem dX3_hasOption_13 : decode mX3_hasOption.2.1 13 = .ok (.iconst 1, 1) := by decide +kernel
theorem dX3_hasOption_14 : decode mX3_hasOption.2.1 14 = .ok (.goto 4, 3) := by decide +kernel
theorem dX3_hasOption_17 : decode mX3_hasOption.2.1 17 = .ok (.iconst 0, 1) := by decide +kernel
theorem dX3_hasOption_18 : decode mX3_hasOption.2.1 18 = .ok (.ireturn, 1) := by decide +kernel
theorem sX3_hasOption {SC : Nat → Nat} {X : mh_X} {d kc ks : Nat} {Q : Option am_V → am_W → Prop} {w : am_W} {j0 : Nat} {x1 : Int} {x2 : Int} (Ho1 : 0 ≤ x1) (Ho2 : x1 < 30)
    (h : Q (some (.inl (if (¬ (am_and (am_shr (w.1 150 j0 x1.toNat) x2) 1) = 0) then 1 else 0))) w) : am_M (mh_G X) SC (d + 1) kc ks mX3_hasOption [.inr (.inr (some (10, j0))), .inl x1, .inl x2] w Q := by
  refine am_M_of (by decide) (Nat.le_of_ble_eq_true rfl) ?_
  show am_A (mh_G X) SC (d + 1) mX3_hasOption Q 0 [(0, .inr (.inr (some (10, j0)))), (1, .inl x1), (2, .inl x2)] [] w kc ks
  refine am_aload_n dX3_hasOption_0 (List.Mem.head _) ?_
  refine am_getf (f := 6) (v := .inr (.inr (some (150, j0)))) dX3_hasOption_1 hc_4 (by decide) wd_221 (by decide) rfl rfl ?_
  refine am_iload_n dX3_hasOption_4 (List.Mem.tail _ (List.Mem.head _)) ?_
  have o1 := Ho1
  have o2 := Ho2
  refine am_iaload (v := (w.1 150 j0 x1.toNat)) dX3_hasOption_5 (by decide) rfl o1 o2 rfl ?_
  refine am_iload_n dX3_hasOption_6 (List.Mem.tail _ (List.Mem.tail _ (List.Mem.head _))) ?_
  refine am_ishr dX3_hasOption_7 ?_
  refine am_iconst dX3_hasOption_8 (by unfold am_rg; omega) ?_
  refine am_iand dX3_hasOption_9 ?_
  refine am_ifeq (tgt := 17) dX3_hasOption_10 (by decide) (fun c3 => ?_) (fun c3 => ?_)
  · refine am_iconst dX3_hasOption_17 (by unfold am_rg; omega) ?_
    rw [if_neg (by omega)] at h
    exact am_ret (r := some (.inl 0)) dX3_hasOption_18 (Or.inr (Or.inl ⟨rfl, (Or.inl rfl)⟩)) rfl h
  · refine am_iconst dX3_hasOption_13 (by unfold am_rg; omega) ?_
    refine am_goto (tgt := 18) dX3_hasOption_14 (by decide) ?_
    rw [if_pos (by omega)] at h
    exact am_ret (r := some (.inl 1)) dX3_hasOption_18 (Or.inr (Or.inl ⟨rfl, (Or.inr rfl)⟩)) rfl h
-- MourningHouse$Law.endOfPart(III)I
theorem dX3_endOfPart_0 : decode mX3_endOfPart.2.1 0 = .ok (.aload_n 0, 1) := by decide +kernel
theorem dX3_endOfPart_1 : decode mX3_endOfPart.2.1 1 = .ok (.getfield 24, 3) := by decide +kernel
theorem dX3_endOfPart_4 : decode mX3_endOfPart.2.1 4 = .ok (.iload_n 1, 1) := by decide +kernel
theorem dX3_endOfPart_5 : decode mX3_endOfPart.2.1 5 = .ok (.iconst 4, 1) := by decide +kernel
theorem dX3_endOfPart_6 : decode mX3_endOfPart.2.1 6 = .ok (.imul, 1) := by decide +kernel
theorem dX3_endOfPart_7 : decode mX3_endOfPart.2.1 7 = .ok (.iload_n 2, 1) := by decide +kernel
theorem dX3_endOfPart_8 : decode mX3_endOfPart.2.1 8 = .ok (.iadd, 1) := by decide +kernel
theorem dX3_endOfPart_9 : decode mX3_endOfPart.2.1 9 = .ok (.iaload, 1) := by decide +kernel
theorem dX3_endOfPart_10 : decode mX3_endOfPart.2.1 10 = .ok (.istore 4, 2) := by decide +kernel
theorem dX3_endOfPart_12 : decode mX3_endOfPart.2.1 12 = .ok (.aload_n 0, 1) := by decide +kernel
theorem dX3_endOfPart_13 : decode mX3_endOfPart.2.1 13 = .ok (.getfield 27, 3) := by decide +kernel
theorem dX3_endOfPart_16 : decode mX3_endOfPart.2.1 16 = .ok (.iload_n 1, 1) := by decide +kernel
theorem dX3_endOfPart_17 : decode mX3_endOfPart.2.1 17 = .ok (.iconst 4, 1) := by decide +kernel
theorem dX3_endOfPart_18 : decode mX3_endOfPart.2.1 18 = .ok (.imul, 1) := by decide +kernel
theorem dX3_endOfPart_19 : decode mX3_endOfPart.2.1 19 = .ok (.iload_n 2, 1) := by decide +kernel
theorem dX3_endOfPart_20 : decode mX3_endOfPart.2.1 20 = .ok (.iadd, 1) := by decide +kernel
theorem dX3_endOfPart_21 : decode mX3_endOfPart.2.1 21 = .ok (.iaload, 1) := by decide +kernel
theorem dX3_endOfPart_22 : decode mX3_endOfPart.2.1 22 = .ok (.tableswitch 46 17 19 #[26, 31, 39], 26) := by decide +kernel
theorem dX3_endOfPart_48 : decode mX3_endOfPart.2.1 48 = .ok (.iload_n 3, 1) := by decide +kernel
theorem dX3_endOfPart_49 : decode mX3_endOfPart.2.1 49 = .ok (.iload 4, 2) := by decide +kernel
theorem dX3_endOfPart_51 : decode mX3_endOfPart.2.1 51 = .ok (.iadd, 1) := by decide +kernel
theorem dX3_endOfPart_52 : decode mX3_endOfPart.2.1 52 = .ok (.ireturn, 1) := by decide +kernel
theorem dX3_endOfPart_53 : decode mX3_endOfPart.2.1 53 = .ok (.iload_n 3, 1) := by decide +kernel
theorem dX3_endOfPart_54 : decode mX3_endOfPart.2.1 54 = .ok (.iload 4, 2) := by decide +kernel
theorem dX3_endOfPart_56 : decode mX3_endOfPart.2.1 56 = .ok (.bipush 7, 2) := by decide +kernel
theorem dX3_endOfPart_58 : decode mX3_endOfPart.2.1 58 = .ok (.imul, 1) := by decide +kernel
theorem dX3_endOfPart_59 : decode mX3_endOfPart.2.1 59 = .ok (.iadd, 1) := by decide +kernel
theorem dX3_endOfPart_60 : decode mX3_endOfPart.2.1 60 = .ok (.ireturn, 1) := by decide +kernel
theorem dX3_endOfPart_61 : decode mX3_endOfPart.2.1 61 = .ok (.iload_n 3, 1) := by decide +kernel
theorem dX3_endOfPart_62 : decode mX3_endOfPart.2.1 62 = .ok (.iload 4, 2) := by decide +kernel
theorem dX3_endOfPart_64 : decode mX3_endOfPart.2.1 64 = .ok (.invokestatic 67, 3) := by decide +kernel
theorem dX3_endOfPart_67 : decode mX3_endOfPart.2.1 67 = .ok (.ireturn, 1) := by decide +kernel
theorem dX3_endOfPart_68 : decode mX3_endOfPart.2.1 68 = .ok (.iload_n 3, 1) := by decide +kernel
theorem dX3_endOfPart_69 : decode mX3_endOfPart.2.1 69 = .ok (.iload 4, 2) := by decide +kernel
theorem dX3_endOfPart_71 : decode mX3_endOfPart.2.1 71 = .ok (.bipush 12, 2) := by decide +kernel
theorem dX3_endOfPart_73 : decode mX3_endOfPart.2.1 73 = .ok (.imul, 1) := by decide +kernel
theorem dX3_endOfPart_74 : decode mX3_endOfPart.2.1 74 = .ok (.invokestatic 67, 3) := by decide +kernel
theorem dX3_endOfPart_77 : decode mX3_endOfPart.2.1 77 = .ok (.ireturn, 1) := by decide +kernel
theorem bX3_endOfPart_0 {SC : Nat → Nat} {X : mh_X} {d : Nat} {Q : Option am_V → am_W → Prop} {bc bs : Nat} {w : am_W} {j0 : Nat} {x1 : Int} {x2 : Int} {x3 : Int}
    (h : (0 ≤ (am_w ((am_w (x1 * 4)) + x2)) ∧ ((am_w ((am_w (x1 * 4)) + x2)) < 120 ∧ ((((w.1 149 j0 (am_w ((am_w (x1 * 4)) + x2)).toNat) < 17 ∨ 19 < (w.1 149 j0 (am_w ((am_w (x1 * 4)) + x2)).toNat)) → am_M (mh_G X) SC (d + 2) 0 0 mX0_later [.inl x3, .inl (am_w ((w.1 148 j0 (am_w ((am_w (x1 * 4)) + x2)).toNat) * 12))] w (fun r w1 => am_A (mh_G X) SC (d + 3) mX3_endOfPart Q 77 [(4, .inl (w.1 148 j0 (am_w ((am_w (x1 * 4)) + x2)).toNat)), (0, .inr (.inr (some (10, j0)))), (1, .inl x1), (2, .inl x2), (3, .inl x3)] (r.toList ++ []) w1 bc bs)) ∧ ((w.1 149 j0 (am_w ((am_w (x1 * 4)) + x2)).toNat) = 17 → Q (some (.inl (am_w (x3 + (w.1 148 j0 (am_w ((am_w (x1 * 4)) + x2)).toNat))))) w) ∧ ((w.1 149 j0 (am_w ((am_w (x1 * 4)) + x2)).toNat) = 18 → Q (some (.inl (am_w (x3 + (am_w ((w.1 148 j0 (am_w ((am_w (x1 * 4)) + x2)).toNat) * 7)))))) w) ∧ ((w.1 149 j0 (am_w ((am_w (x1 * 4)) + x2)).toNat) = 19 → am_M (mh_G X) SC (d + 2) 0 0 mX0_later [.inl x3, .inl (w.1 148 j0 (am_w ((am_w (x1 * 4)) + x2)).toNat)] w (fun r w1 => am_A (mh_G X) SC (d + 3) mX3_endOfPart Q 67 [(4, .inl (w.1 148 j0 (am_w ((am_w (x1 * 4)) + x2)).toNat)), (0, .inr (.inr (some (10, j0)))), (1, .inl x1), (2, .inl x2), (3, .inl x3)] (r.toList ++ []) w1 bc bs)))))) :
    am_A (mh_G X) SC (d + 3) mX3_endOfPart Q 0 [(0, .inr (.inr (some (10, j0)))), (1, .inl x1), (2, .inl x2), (3, .inl x3)] [] w bc bs := by
  refine am_aload_n dX3_endOfPart_0 (List.Mem.head _) ?_
  refine am_getf (f := 4) (v := .inr (.inr (some (148, j0)))) dX3_endOfPart_1 hc_4 (by decide) wd_219 (by decide) rfl rfl ?_
  refine am_iload_n dX3_endOfPart_4 (List.Mem.tail _ (List.Mem.head _)) ?_
  refine am_iconst dX3_endOfPart_5 (by unfold am_rg; omega) ?_
  refine am_imul dX3_endOfPart_6 ?_
  refine am_iload_n dX3_endOfPart_7 (List.Mem.tail _ (List.Mem.tail _ (List.Mem.head _))) ?_
  refine am_iadd dX3_endOfPart_8 ?_
  have o1 := h.1
  replace h := h.2
  have o2 := h.1
  replace h := h.2
  refine am_iaload (v := (w.1 148 j0 (am_w ((am_w (x1 * 4)) + x2)).toNat)) dX3_endOfPart_9 (by decide) rfl o1 o2 rfl ?_
  refine am_istore (ls' := [(4, .inl (w.1 148 j0 (am_w ((am_w (x1 * 4)) + x2)).toNat)), (0, .inr (.inr (some (10, j0)))), (1, .inl x1), (2, .inl x2), (3, .inl x3)]) dX3_endOfPart_10 (by decide) rfl ?_
  refine am_aload_n dX3_endOfPart_12 (List.Mem.tail _ (List.Mem.head _)) ?_
  refine am_getf (f := 5) (v := .inr (.inr (some (149, j0)))) dX3_endOfPart_13 hc_4 (by decide) wd_220 (by decide) rfl rfl ?_
  refine am_iload_n dX3_endOfPart_16 (List.Mem.tail _ (List.Mem.tail _ (List.Mem.head _))) ?_
  refine am_iconst dX3_endOfPart_17 (by unfold am_rg; omega) ?_
  refine am_imul dX3_endOfPart_18 ?_
  refine am_iload_n dX3_endOfPart_19 (List.Mem.tail _ (List.Mem.tail _ (List.Mem.tail _ (List.Mem.head _)))) ?_
  refine am_iadd dX3_endOfPart_20 ?_
  refine am_iaload (v := (w.1 149 j0 (am_w ((am_w (x1 * 4)) + x2)).toNat)) dX3_endOfPart_21 (by decide) rfl o1 o2 rfl ?_
  by_cases c3 : ((w.1 149 j0 (am_w ((am_w (x1 * 4)) + x2)).toNat) < 17 ∨ 19 < (w.1 149 j0 (am_w ((am_w (x1 * 4)) + x2)).toNat))
  · replace h := h.1 c3
    refine am_tswOut (tgt := 68) dX3_endOfPart_22 c3 (by decide) ?_
    refine am_iload_n dX3_endOfPart_68 (List.Mem.tail _ (List.Mem.tail _ (List.Mem.tail _ (List.Mem.tail _ (List.Mem.head _))))) ?_
    refine am_iload dX3_endOfPart_69 (List.Mem.head _) ?_
    refine am_bipush dX3_endOfPart_71 (by decide) (by unfold am_rg; omega) ?_
    refine am_imul dX3_endOfPart_73 ?_
    exact am_calls (d' := d + 2) (kc := 0) (ks := 0) (as := [.inl x3, .inl (am_w ((w.1 148 j0 (am_w ((am_w (x1 * 4)) + x2)).toNat) * 12))]) dX3_endOfPart_74 wc_X0_later wd_1206 wd_1034 wd_129 ds_X0_later (by decide) (by omega) (Nat.le_of_ble_eq_true rfl) (Nat.zero_le _) (Nat.zero_le _) rfl h
  · rcases (show (w.1 149 j0 (am_w ((am_w (x1 * 4)) + x2)).toNat) = 17 ∨ (w.1 149 j0 (am_w ((am_w (x1 * 4)) + x2)).toNat) = 18 ∨ (w.1 149 j0 (am_w ((am_w (x1 * 4)) + x2)).toNat) = 19 by omega) with c3 | c3 | c3
    · replace h := h.2.1 c3
      refine am_tswIn (off := 26) (tgt := 48) dX3_endOfPart_22 (by omega) (by omega) (by rw [c3]; decide) (by decide) ?_
      refine am_iload_n dX3_endOfPart_48 (List.Mem.tail _ (List.Mem.tail _ (List.Mem.tail _ (List.Mem.tail _ (List.Mem.head _))))) ?_
      refine am_iload dX3_endOfPart_49 (List.Mem.head _) ?_
      refine am_iadd dX3_endOfPart_51 ?_
      exact am_ret (r := some (.inl (am_w (x3 + (w.1 148 j0 (am_w ((am_w (x1 * 4)) + x2)).toNat))))) dX3_endOfPart_52 (Or.inl rfl) rfl h
    · replace h := h.2.2.1 c3
      refine am_tswIn (off := 31) (tgt := 53) dX3_endOfPart_22 (by omega) (by omega) (by rw [c3]; decide) (by decide) ?_
      refine am_iload_n dX3_endOfPart_53 (List.Mem.tail _ (List.Mem.tail _ (List.Mem.tail _ (List.Mem.tail _ (List.Mem.head _))))) ?_
      refine am_iload dX3_endOfPart_54 (List.Mem.head _) ?_
      refine am_bipush dX3_endOfPart_56 (by decide) (by unfold am_rg; omega) ?_
      refine am_imul dX3_endOfPart_58 ?_
      refine am_iadd dX3_endOfPart_59 ?_
      exact am_ret (r := some (.inl (am_w (x3 + (am_w ((w.1 148 j0 (am_w ((am_w (x1 * 4)) + x2)).toNat) * 7)))))) dX3_endOfPart_60 (Or.inl rfl) rfl h
    · replace h := h.2.2.2 c3
      refine am_tswIn (off := 39) (tgt := 61) dX3_endOfPart_22 (by omega) (by omega) (by rw [c3]; decide) (by decide) ?_
      refine am_iload_n dX3_endOfPart_61 (List.Mem.tail _ (List.Mem.tail _ (List.Mem.tail _ (List.Mem.tail _ (List.Mem.head _))))) ?_
      refine am_iload dX3_endOfPart_62 (List.Mem.head _) ?_
      exact am_calls (d' := d + 2) (kc := 0) (ks := 0) (as := [.inl x3, .inl (w.1 148 j0 (am_w ((am_w (x1 * 4)) + x2)).toNat)]) dX3_endOfPart_64 wc_X0_later wd_1206 wd_1034 wd_129 ds_X0_later (by decide) (by omega) (Nat.le_of_ble_eq_true rfl) (Nat.zero_le _) (Nat.zero_le _) rfl h
theorem bX3_endOfPart_77 {SC : Nat → Nat} {X : mh_X} {d : Nat} {Q : Option am_V → am_W → Prop} {bc bs : Nat} {w : am_W} {x4 : Int} {j0 : Nat} {x1 : Int} {x2 : Int} {x3 : Int} {xs0 : Int}
    (h : Q (some (.inl xs0)) w) :
    am_A (mh_G X) SC (d + 3) mX3_endOfPart Q 77 [(4, .inl x4), (0, .inr (.inr (some (10, j0)))), (1, .inl x1), (2, .inl x2), (3, .inl x3)] [.inl xs0] w bc bs := by
  exact am_ret (r := some (.inl xs0)) dX3_endOfPart_77 (Or.inl rfl) rfl h
theorem bX3_endOfPart_67 {SC : Nat → Nat} {X : mh_X} {d : Nat} {Q : Option am_V → am_W → Prop} {bc bs : Nat} {w : am_W} {x4 : Int} {j0 : Nat} {x1 : Int} {x2 : Int} {x3 : Int} {xs0 : Int}
    (h : Q (some (.inl xs0)) w) :
    am_A (mh_G X) SC (d + 3) mX3_endOfPart Q 67 [(4, .inl x4), (0, .inr (.inr (some (10, j0)))), (1, .inl x1), (2, .inl x2), (3, .inl x3)] [.inl xs0] w bc bs := by
  exact am_ret (r := some (.inl xs0)) dX3_endOfPart_67 (Or.inl rfl) rfl h
-- MourningHouse$Law.onFeasts(II)I
theorem dX3_onFeasts_0 : decode mX3_onFeasts.2.1 0 = .ok (.iload_n 1, 1) := by decide +kernel
theorem dX3_onFeasts_1 : decode mX3_onFeasts.2.1 1 = .ok (.istore_n 3, 1) := by decide +kernel
theorem dX3_onFeasts_2 : decode mX3_onFeasts.2.1 2 = .ok (.iconst 0, 1) := by decide +kernel
theorem dX3_onFeasts_3 : decode mX3_onFeasts.2.1 3 = .ok (.istore 4, 2) := by decide +kernel
theorem dX3_onFeasts_5 : decode mX3_onFeasts.2.1 5 = .ok (.iload 4, 2) := by decide +kernel
theorem dX3_onFeasts_7 : decode mX3_onFeasts.2.1 7 = .ok (.aload_n 0, 1) := by decide +kernel
theorem dX3_onFeasts_8 : decode mX3_onFeasts.2.1 8 = .ok (.getfield 46, 3) := by decide +kernel
theorem dX3_onFeasts_11 : decode mX3_onFeasts.2.1 11 = .ok (.if_icmp .ge 36, 3) := by decide +kernel
theorem dX3_onFeasts_14 : decode mX3_onFeasts.2.1 14 = .ok (.aload_n 0, 1) := by decide +kernel
theorem dX3_onFeasts_15 : decode mX3_onFeasts.2.1 15 = .ok (.getfield 33, 3) := by decide +kernel
theorem dX3_onFeasts_18 : decode mX3_onFeasts.2.1 18 = .ok (.iload 4, 2) := by decide +kernel
theorem dX3_onFeasts_20 : decode mX3_onFeasts.2.1 20 = .ok (.iaload, 1) := by decide +kernel
theorem dX3_onFeasts_21 : decode mX3_onFeasts.2.1 21 = .ok (.iload_n 2, 1) := by decide +kernel
theorem dX3_onFeasts_22 : decode mX3_onFeasts.2.1 22 = .ok (.sipush 10000, 3) := by decide +kernel
theorem dX3_onFeasts_25 : decode mX3_onFeasts.2.1 25 = .ok (.irem, 1) := by decide +kernel
theorem dX3_onFeasts_26 : decode mX3_onFeasts.2.1 26 = .ok (.if_icmp .ne 15, 3) := by decide +kernel
theorem dX3_onFeasts_29 : decode mX3_onFeasts.2.1 29 = .ok (.iload_n 3, 1) := by decide +kernel
theorem dX3_onFeasts_30 : decode mX3_onFeasts.2.1 30 = .ok (.aload_n 0, 1) := by decide +kernel
theorem dX3_onFeasts_31 : decode mX3_onFeasts.2.1 31 = .ok (.getfield 36, 3) := by decide +kernel
theorem dX3_onFeasts_34 : decode mX3_onFeasts.2.1 34 = .ok (.iload 4, 2) := by decide +kernel
theorem dX3_onFeasts_36 : decode mX3_onFeasts.2.1 36 = .ok (.iaload, 1) := by decide +kernel
theorem dX3_onFeasts_37 : decode mX3_onFeasts.2.1 37 = .ok (.invokestatic 73, 3) := by decide +kernel
theorem dX3_onFeasts_40 : decode mX3_onFeasts.2.1 40 = .ok (.istore_n 3, 1) := by decide +kernel
theorem dX3_onFeasts_41 : decode mX3_onFeasts.2.1 41 = .ok (.iinc 4 1, 3) := by decide +kernel
theorem dX3_onFeasts_44 : decode mX3_onFeasts.2.1 44 = .ok (.goto (-39), 3) := by decide +kernel
theorem dX3_onFeasts_47 : decode mX3_onFeasts.2.1 47 = .ok (.iload_n 3, 1) := by decide +kernel
theorem dX3_onFeasts_48 : decode mX3_onFeasts.2.1 48 = .ok (.ireturn, 1) := by decide +kernel
theorem bX3_onFeasts_0 {SC : Nat → Nat} {X : mh_X} {d : Nat} {Q : Option am_V → am_W → Prop} {bc bs : Nat} {w : am_W} {j0 : Nat} {x1 : Int} {x2 : Int}
    (h : am_A (mh_G X) SC (d + 2) mX3_onFeasts Q 5 [(0, .inr (.inr (some (10, j0)))), (2, .inl x2), (3, .inl x1), (4, .inl 0)] [] w bc bs) :
    am_A (mh_G X) SC (d + 2) mX3_onFeasts Q 0 [(0, .inr (.inr (some (10, j0)))), (1, .inl x1), (2, .inl x2)] [] w bc bs := by
  refine am_iload_n dX3_onFeasts_0 (List.Mem.tail _ (List.Mem.head _)) ?_
  refine am_istore_n (ls' := [(3, .inl x1), (0, .inr (.inr (some (10, j0)))), (1, .inl x1), (2, .inl x2)]) dX3_onFeasts_1 (by decide) rfl ?_
  refine am_iconst dX3_onFeasts_2 (by unfold am_rg; omega) ?_
  refine am_istore (ls' := [(4, .inl 0), (3, .inl x1), (0, .inr (.inr (some (10, j0)))), (1, .inl x1), (2, .inl x2)]) dX3_onFeasts_3 (by decide) rfl ?_
  exact am_sub [2, 4, 1, 0] rfl h
theorem bX3_onFeasts_5 {SC : Nat → Nat} {X : mh_X} {d : Nat} {Q : Option am_V → am_W → Prop} {bc bs : Nat} {w : am_W} {j0 : Nat} {x2 : Int} {x3 : Int} {x4 : Int}
    (h : (((w.1 10 j0 11) ≤ x4 → Q (some (.inl x3)) w) ∧ (¬ (w.1 10 j0 11) ≤ x4 → (0 ≤ x4 ∧ (x4 < 8 ∧ ((¬ (w.1 151 j0 x4.toNat) = (am_w (Int.tmod x2 10000)) → am_A (mh_G X) SC (d + 2) mX3_onFeasts Q 41 [(0, .inr (.inr (some (10, j0)))), (2, .inl x2), (3, .inl x3), (4, .inl x4)] [] w bc bs) ∧ ((w.1 151 j0 x4.toNat) = (am_w (Int.tmod x2 10000)) → am_A (mh_G X) SC (d + 2) mX3_onFeasts Q 41 [(0, .inr (.inr (some (10, j0)))), (2, .inl x2), (3, .inl (min x3 (w.1 152 j0 x4.toNat))), (4, .inl x4)] [] w bc bs))))))) :
    am_A (mh_G X) SC (d + 2) mX3_onFeasts Q 5 [(0, .inr (.inr (some (10, j0)))), (2, .inl x2), (3, .inl x3), (4, .inl x4)] [] w bc bs := by
  refine am_iload dX3_onFeasts_5 (List.Mem.tail _ (List.Mem.tail _ (List.Mem.tail _ (List.Mem.head _)))) ?_
  refine am_aload_n dX3_onFeasts_7 (List.Mem.head _) ?_
  refine am_getf (f := 11) (v := .inl (w.1 10 j0 11)) dX3_onFeasts_8 hc_4 (by decide) wd_230 (by decide) rfl rfl ?_
  refine am_icmpge (tgt := 47) dX3_onFeasts_11 (by decide) (fun c1 => ?_) (fun c1 => ?_)
  · replace h := h.1 c1
    refine am_iload_n dX3_onFeasts_47 (List.Mem.tail _ (List.Mem.tail _ (List.Mem.head _))) ?_
    exact am_ret (r := some (.inl x3)) dX3_onFeasts_48 (Or.inl rfl) rfl h
  · replace h := h.2 c1
    refine am_aload_n dX3_onFeasts_14 (List.Mem.head _) ?_
    refine am_getf (f := 7) (v := .inr (.inr (some (151, j0)))) dX3_onFeasts_15 hc_4 (by decide) wd_222 (by decide) rfl rfl ?_
    refine am_iload dX3_onFeasts_18 (List.Mem.tail _ (List.Mem.tail _ (List.Mem.tail _ (List.Mem.head _)))) ?_
    have o2 := h.1
    replace h := h.2
    have o3 := h.1
    replace h := h.2
    refine am_iaload (v := (w.1 151 j0 x4.toNat)) dX3_onFeasts_20 (by decide) rfl o2 o3 rfl ?_
    refine am_iload_n dX3_onFeasts_21 (List.Mem.tail _ (List.Mem.head _)) ?_
    refine am_sipush dX3_onFeasts_22 (by decide) (by unfold am_rg; omega) ?_
    refine am_irem dX3_onFeasts_25 (by decide) ?_
    refine am_icmpne (tgt := 41) dX3_onFeasts_26 (by decide) (fun c4 => ?_) (fun c4 => ?_)
    · replace h := h.1 c4
      exact h
    · replace h := h.2 c4
      refine am_iload_n dX3_onFeasts_29 (List.Mem.tail _ (List.Mem.tail _ (List.Mem.head _))) ?_
      refine am_aload_n dX3_onFeasts_30 (List.Mem.head _) ?_
      refine am_getf (f := 8) (v := .inr (.inr (some (152, j0)))) dX3_onFeasts_31 hc_4 (by decide) wd_223 (by decide) rfl rfl ?_
      refine am_iload dX3_onFeasts_34 (List.Mem.tail _ (List.Mem.tail _ (List.Mem.tail _ (List.Mem.head _)))) ?_
      refine am_iaload (v := (w.1 152 j0 x4.toNat)) dX3_onFeasts_36 (by decide) rfl o2 o3 rfl ?_
      refine am_mmin dX3_onFeasts_37 wd_1273 (by omega) (Nat.le_of_ble_eq_true rfl) ?_
      refine am_istore_n (ls' := [(3, .inl (min x3 (w.1 152 j0 x4.toNat))), (0, .inr (.inr (some (10, j0)))), (2, .inl x2), (4, .inl x4)]) dX3_onFeasts_40 (by decide) rfl ?_
      exact am_sub [1, 2, 0, 3] rfl h
theorem bX3_onFeasts_41 {SC : Nat → Nat} {X : mh_X} {d : Nat} {Q : Option am_V → am_W → Prop} {bc bs : Nat} {w : am_W} {j0 : Nat} {x2 : Int} {x3 : Int} {x4 : Int}
    (h : am_A (mh_G X) SC (d + 2) mX3_onFeasts Q 5 [(0, .inr (.inr (some (10, j0)))), (2, .inl x2), (3, .inl x3), (4, .inl (am_w (x4 + 1)))] [] w bc bs) :
    am_A (mh_G X) SC (d + 2) mX3_onFeasts Q 41 [(0, .inr (.inr (some (10, j0)))), (2, .inl x2), (3, .inl x3), (4, .inl x4)] [] w bc bs := by
  refine am_iinc (ls' := [(4, .inl (am_w (x4 + 1))), (0, .inr (.inr (some (10, j0)))), (2, .inl x2), (3, .inl x3)]) dX3_onFeasts_41 (List.Mem.tail _ (List.Mem.tail _ (List.Mem.tail _ (List.Mem.head _)))) (by decide) rfl ?_
  refine am_goto (tgt := 5) dX3_onFeasts_44 (by decide) ?_
  exact am_sub [1, 2, 3, 0] rfl h
-- MourningHouse$Page.addByte(C)V
theorem dX6_addByte_0 : decode mX6_addByte.2.1 0 = .ok (.aload_n 0, 1) := by decide +kernel
theorem dX6_addByte_1 : decode mX6_addByte.2.1 1 = .ok (.getfield 13, 3) := by decide +kernel
theorem dX6_addByte_4 : decode mX6_addByte.2.1 4 = .ok (.sipush 256, 3) := by decide +kernel
theorem dX6_addByte_7 : decode mX6_addByte.2.1 7 = .ok (.if_icmp .ge 23, 3) := by decide +kernel
theorem dX6_addByte_10 : decode mX6_addByte.2.1 10 = .ok (.aload_n 0, 1) := by decide +kernel
theorem dX6_addByte_11 : decode mX6_addByte.2.1 11 = .ok (.getfield 9, 3) := by decide +kernel
theorem dX6_addByte_14 : decode mX6_addByte.2.1 14 = .ok (.aload_n 0, 1) := by decide +kernel
theorem dX6_addByte_15 : decode mX6_addByte.2.1 15 = .ok (.getfield 13, 3) := by decide +kernel
theorem dX6_addByte_18 : decode mX6_addByte.2.1 18 = .ok (.iload_n 1, 1) := by decide +kernel
theorem dX6_addByte_19 : decode mX6_addByte.2.1 19 = .ok (.castore, 1) := by decide +kernel
theorem dX6_addByte_20 : decode mX6_addByte.2.1 20 = .ok (.aload_n 0, 1) := by decide +kernel
theorem dX6_addByte_21 : decode mX6_addByte.2.1 21 = .ok (.dup, 1) := by decide +kernel
theorem dX6_addByte_22 : decode mX6_addByte.2.1 22 = .ok (.getfield 13, 3) := by decide +kernel
theorem dX6_addByte_25 : decode mX6_addByte.2.1 25 = .ok (.iconst 1, 1) := by decide +kernel
theorem dX6_addByte_26 : decode mX6_addByte.2.1 26 = .ok (.iadd, 1) := by decide +kernel
theorem dX6_addByte_27 : decode mX6_addByte.2.1 27 = .ok (.putfield 13, 3) := by decide +kernel
theorem dX6_addByte_30 : decode mX6_addByte.2.1 30 = .ok (.return_, 1) := by decide +kernel
theorem bX6_addByte_0 {SC : Nat → Nat} {X : mh_X} {d : Nat} {Q : Option am_V → am_W → Prop} {bc bs : Nat} {w : am_W} {x1 : Int}
    (h : ((256 ≤ (w.1 3 0 1) → Q none w) ∧ (¬ 256 ≤ (w.1 3 0 1) → (0 ≤ (w.1 3 0 1) ∧ ((w.1 3 0 1) < 256 ∧ ((0 ≤ (x1 : Int) ∧ (x1 : Int) < 65536) ∧ Q none ((am_up (am_up w.1 27 0 (w.1 3 0 1).toNat x1) 3 0 1 (am_w ((w.1 3 0 1) + 1))), w.2))))))) :
    am_A (mh_G X) SC (d + 1) mX6_addByte Q 0 [(0, .inr (.inr (some (3, 0)))), (1, .inl x1)] [] w bc bs := by
  refine am_aload_n dX6_addByte_0 (List.Mem.head _) ?_
  refine am_getf (f := 1) (v := .inl (w.1 3 0 1)) dX6_addByte_1 hc_2 (by decide) wd_195 (by decide) rfl rfl ?_
  refine am_sipush dX6_addByte_4 (by decide) (by unfold am_rg; omega) ?_
  refine am_icmpge (tgt := 30) dX6_addByte_7 (by decide) (fun c1 => ?_) (fun c1 => ?_)
  · replace h := h.1 c1
    exact am_ret (r := none) dX6_addByte_30 rfl rfl h
  · replace h := h.2 c1
    refine am_aload_n dX6_addByte_10 (List.Mem.head _) ?_
    refine am_getf (f := 0) (v := .inr (.inr (some (27, 0)))) dX6_addByte_11 hc_2 (by decide) wd_193 (by decide) rfl rfl ?_
    refine am_aload_n dX6_addByte_14 (List.Mem.head _) ?_
    refine am_getf (f := 1) (v := .inl (w.1 3 0 1)) dX6_addByte_15 hc_2 (by decide) wd_195 (by decide) rfl rfl ?_
    refine am_iload_n dX6_addByte_18 (List.Mem.tail _ (List.Mem.head _)) ?_
    have o2 := h.1
    replace h := h.2
    have o3 := h.1
    replace h := h.2
    have o4 := h.1
    replace h := h.2
    refine am_castore o4 dX6_addByte_19 (Or.inl (by decide)) rfl o2 o3 ?_
    refine am_aload_n dX6_addByte_20 (List.Mem.head _) ?_
    refine am_dup dX6_addByte_21 rfl ?_
    refine am_getf (f := 1) (v := .inl (w.1 3 0 1)) dX6_addByte_22 hc_2 (by decide) wd_195 (by decide) rfl rfl ?_
    refine am_iconst dX6_addByte_25 (by unfold am_rg; omega) ?_
    refine am_iadd dX6_addByte_26 ?_
    refine am_putf (f := 1) dX6_addByte_27 hc_2 (by decide) wd_195 rfl (Or.inl rfl) (Or.inl (by decide)) rfl ?_
    exact am_ret (r := none) dX6_addByte_30 rfl rfl h
-- MourningHouse$Page.add(Ljava/lang/String;)V
theorem dX6_add_0 : decode mX6_add.2.1 0 = .ok (.iconst 0, 1) := by decide +kernel
theorem dX6_add_1 : decode mX6_add.2.1 1 = .ok (.istore_n 2, 1) := by decide +kernel
theorem dX6_add_2 : decode mX6_add.2.1 2 = .ok (.iload_n 2, 1) := by decide +kernel
theorem dX6_add_3 : decode mX6_add.2.1 3 = .ok (.aload_n 1, 1) := by decide +kernel
theorem dX6_add_4 : decode mX6_add.2.1 4 = .ok (.invokevirtual 17, 3) := by decide +kernel
theorem dX6_add_7 : decode mX6_add.2.1 7 = .ok (.if_icmp .ge 18, 3) := by decide +kernel
theorem dX6_add_10 : decode mX6_add.2.1 10 = .ok (.aload_n 0, 1) := by decide +kernel
theorem dX6_add_11 : decode mX6_add.2.1 11 = .ok (.aload_n 1, 1) := by decide +kernel
theorem dX6_add_12 : decode mX6_add.2.1 12 = .ok (.iload_n 2, 1) := by decide +kernel
theorem dX6_add_13 : decode mX6_add.2.1 13 = .ok (.invokevirtual 23, 3) := by decide +kernel
theorem dX6_add_16 : decode mX6_add.2.1 16 = .ok (.invokevirtual 27, 3) := by decide +kernel
theorem dX6_add_19 : decode mX6_add.2.1 19 = .ok (.iinc 2 1, 3) := by decide +kernel
theorem dX6_add_22 : decode mX6_add.2.1 22 = .ok (.goto (-20), 3) := by decide +kernel
theorem dX6_add_25 : decode mX6_add.2.1 25 = .ok (.return_, 1) := by decide +kernel
theorem bX6_add_0 {SC : Nat → Nat} {X : mh_X} {d : Nat} {Q : Option am_V → am_W → Prop} {bc bs : Nat} {w : am_W} {t1 : Nat} {j1 : Nat}
    (h : am_A (mh_G X) SC (d + 6) mX6_add Q 2 [(0, .inr (.inr (some (3, 0)))), (1, .inr (.inr (some (t1, j1)))), (2, .inl 0)] [] w bc bs) :
    am_A (mh_G X) SC (d + 6) mX6_add Q 0 [(0, .inr (.inr (some (3, 0)))), (1, .inr (.inr (some (t1, j1))))] [] w bc bs := by
  refine am_iconst dX6_add_0 (by unfold am_rg; omega) ?_
  refine am_istore_n (ls' := [(2, .inl 0), (0, .inr (.inr (some (3, 0)))), (1, .inr (.inr (some (t1, j1))))]) dX6_add_1 (by decide) rfl ?_
  exact am_sub [1, 2, 0] rfl h
theorem bX6_add_2 {SC : Nat → Nat} {X : mh_X} {d : Nat} {Q : Option am_V → am_W → Prop} {bc bs : Nat} {w : am_W} {t1 : Nat} {j1 : Nat} {x2 : Int}
    (h : (t1 < 1100 ∧ (am_kd (mh_G X) w t1 j1 = 111 ∧ am_M (mh_G X) SC (d + 5) 0 0 mJ0_length_8abf5 [.inr (.inr (some (t1, j1)))] w (fun r w1 => am_A (mh_G X) SC (d + 6) mX6_add Q 7 [(0, .inr (.inr (some (3, 0)))), (1, .inr (.inr (some (t1, j1)))), (2, .inl x2)] (r.toList ++ [.inl x2]) w1 bc bs)))) :
    am_A (mh_G X) SC (d + 6) mX6_add Q 2 [(0, .inr (.inr (some (3, 0)))), (1, .inr (.inr (some (t1, j1)))), (2, .inl x2)] [] w bc bs := by
  refine am_iload_n dX6_add_2 (List.Mem.tail _ (List.Mem.tail _ (List.Mem.head _))) ?_
  refine am_aload_n dX6_add_3 (List.Mem.tail _ (List.Mem.head _)) ?_
  have o1 := h.1
  replace h := h.2
  have o2 := h.1
  replace h := h.2
  exact am_callv (d' := d + 5) (kc := 0) (ks := 0) (as := []) dX6_add_4 wc_J0_length_8abf5 wd_950 wd_722 wd_723 wd_124 ds_J0_length_8abf5 (by decide) (by omega) (Nat.le_of_ble_eq_true rfl) (Nat.zero_le _) (Nat.zero_le _) hc_11 o1 o2 rfl h
theorem bX6_add_7 {SC : Nat → Nat} {X : mh_X} {d : Nat} {Q : Option am_V → am_W → Prop} {bc bs : Nat} {w : am_W} {t1 : Nat} {j1 : Nat} {x2 : Int} {xs0 : Int} {xs1 : Int}
    (h : ((xs0 ≤ xs1 → Q none w) ∧ (¬ xs0 ≤ xs1 → (t1 < 1100 ∧ (am_kd (mh_G X) w t1 j1 = 111 ∧ am_M (mh_G X) SC (d + 5) 0 0 mJ0_charAt_5068e [.inr (.inr (some (t1, j1))), .inl x2] w (fun r w1 => am_A (mh_G X) SC (d + 6) mX6_add Q 16 [(0, .inr (.inr (some (3, 0)))), (1, .inr (.inr (some (t1, j1)))), (2, .inl x2)] (r.toList ++ [.inr (.inr (some (3, 0)))]) w1 bc bs)))))) :
    am_A (mh_G X) SC (d + 6) mX6_add Q 7 [(0, .inr (.inr (some (3, 0)))), (1, .inr (.inr (some (t1, j1)))), (2, .inl x2)] [.inl xs0, .inl xs1] w bc bs := by
  refine am_icmpge (tgt := 25) dX6_add_7 (by decide) (fun c1 => ?_) (fun c1 => ?_)
  · replace h := h.1 c1
    exact am_ret (r := none) dX6_add_25 rfl rfl h
  · replace h := h.2 c1
    refine am_aload_n dX6_add_10 (List.Mem.head _) ?_
    refine am_aload_n dX6_add_11 (List.Mem.tail _ (List.Mem.head _)) ?_
    refine am_iload_n dX6_add_12 (List.Mem.tail _ (List.Mem.tail _ (List.Mem.head _))) ?_
    have o2 := h.1
    replace h := h.2
    have o3 := h.1
    replace h := h.2
    exact am_callv (d' := d + 5) (kc := 0) (ks := 0) (as := [.inl x2]) dX6_add_13 wc_J0_charAt_5068e wd_951 wd_732 wd_733 wd_124 ds_J0_charAt_5068e (by decide) (by omega) (Nat.le_of_ble_eq_true rfl) (Nat.zero_le _) (Nat.zero_le _) hc_11 o2 o3 rfl h
theorem bX6_add_16 {SC : Nat → Nat} {X : mh_X} {d : Nat} {Q : Option am_V → am_W → Prop} {bc bs : Nat} {w : am_W} {t1 : Nat} {j1 : Nat} {x2 : Int} {xs0 : Int}
    (h : am_M (mh_G X) SC (d + 5) 0 0 mX6_addByte [.inr (.inr (some (3, 0))), .inl xs0] w (fun r w1 => am_A (mh_G X) SC (d + 6) mX6_add Q 19 [(0, .inr (.inr (some (3, 0)))), (1, .inr (.inr (some (t1, j1)))), (2, .inl x2)] (r.toList ++ []) w1 bc bs)) :
    am_A (mh_G X) SC (d + 6) mX6_add Q 16 [(0, .inr (.inr (some (3, 0)))), (1, .inr (.inr (some (t1, j1)))), (2, .inl x2)] [.inl xs0, .inr (.inr (some (3, 0)))] w bc bs := by
  exact am_callv (d' := d + 5) (kc := 0) (ks := 0) (as := [.inl xs0]) dX6_add_16 wc_X6_addByte wd_952 wd_954 wd_23 wd_114 ds_X6_addByte (by decide) (by omega) (Nat.le_of_ble_eq_true rfl) (Nat.zero_le _) (Nat.zero_le _) hc_2 (by decide) rfl rfl h
theorem bX6_add_19 {SC : Nat → Nat} {X : mh_X} {d : Nat} {Q : Option am_V → am_W → Prop} {bc bs : Nat} {w : am_W} {t1 : Nat} {j1 : Nat} {x2 : Int}
    (h : am_A (mh_G X) SC (d + 6) mX6_add Q 2 [(0, .inr (.inr (some (3, 0)))), (1, .inr (.inr (some (t1, j1)))), (2, .inl (am_w (x2 + 1)))] [] w bc bs) :
    am_A (mh_G X) SC (d + 6) mX6_add Q 19 [(0, .inr (.inr (some (3, 0)))), (1, .inr (.inr (some (t1, j1)))), (2, .inl x2)] [] w bc bs := by
  refine am_iinc (ls' := [(2, .inl (am_w (x2 + 1))), (0, .inr (.inr (some (3, 0)))), (1, .inr (.inr (some (t1, j1))))]) dX6_add_19 (List.Mem.tail _ (List.Mem.tail _ (List.Mem.head _))) (by decide) rfl ?_
  refine am_goto (tgt := 2) dX6_add_22 (by decide) ?_
  exact am_sub [1, 2, 0] rfl h
-- MourningHouse$Page.addNumber(I)V
theorem dX6_addNumber_0 : decode mX6_addNumber.2.1 0 = .ok (.iload_n 1, 1) := by decide +kernel
theorem dX6_addNumber_1 : decode mX6_addNumber.2.1 1 = .ok (.bipush 100, 2) := by decide +kernel
theorem dX6_addNumber_3 : decode mX6_addNumber.2.1 3 = .ok (.if_icmp .lt 15, 3) := by decide +kernel
theorem dX6_addNumber_6 : decode mX6_addNumber.2.1 6 = .ok (.aload_n 0, 1) := by decide +kernel
theorem dX6_addNumber_7 : decode mX6_addNumber.2.1 7 = .ok (.bipush 48, 2) := by decide +kernel
theorem dX6_addNumber_9 : decode mX6_addNumber.2.1 9 = .ok (.iload_n 1, 1) := by decide +kernel
theorem dX6_addNumber_10 : decode mX6_addNumber.2.1 10 = .ok (.bipush 100, 2) := by decide +kernel
theorem dX6_addNumber_12 : decode mX6_addNumber.2.1 12 = .ok (.idiv, 1) := by decide +kernel
theorem dX6_addNumber_13 : decode mX6_addNumber.2.1 13 = .ok (.iadd, 1) := by decide +kernel
theorem dX6_addNumber_14 : decode mX6_addNumber.2.1 14 = .ok (.i2c, 1) := by decide +kernel
theorem dX6_addNumber_15 : decode mX6_addNumber.2.1 15 = .ok (.invokevirtual 27, 3) := by decide +kernel
theorem dX6_addNumber_18 : decode mX6_addNumber.2.1 18 = .ok (.iload_n 1, 1) := by decide +kernel
theorem dX6_addNumber_19 : decode mX6_addNumber.2.1 19 = .ok (.bipush 10, 2) := by decide +kernel
theorem dX6_addNumber_21 : decode mX6_addNumber.2.1 21 = .ok (.if_icmp .lt 18, 3) := by decide +kernel
theorem dX6_addNumber_24 : decode mX6_addNumber.2.1 24 = .ok (.aload_n 0, 1) := by decide +kernel
theorem dX6_addNumber_25 : decode mX6_addNumber.2.1 25 = .ok (.bipush 48, 2) := by decide +kernel
theorem dX6_addNumber_27 : decode mX6_addNumber.2.1 27 = .ok (.iload_n 1, 1) := by decide +kernel
theorem dX6_addNumber_28 : decode mX6_addNumber.2.1 28 = .ok (.bipush 10, 2) := by decide +kernel
theorem dX6_addNumber_30 : decode mX6_addNumber.2.1 30 = .ok (.idiv, 1) := by decide +kernel
theorem dX6_addNumber_31 : decode mX6_addNumber.2.1 31 = .ok (.bipush 10, 2) := by decide +kernel
theorem dX6_addNumber_33 : decode mX6_addNumber.2.1 33 = .ok (.irem, 1) := by decide +kernel
theorem dX6_addNumber_34 : decode mX6_addNumber.2.1 34 = .ok (.iadd, 1) := by decide +kernel
theorem dX6_addNumber_35 : decode mX6_addNumber.2.1 35 = .ok (.i2c, 1) := by decide +kernel
theorem dX6_addNumber_36 : decode mX6_addNumber.2.1 36 = .ok (.invokevirtual 27, 3) := by decide +kernel
theorem dX6_addNumber_39 : decode mX6_addNumber.2.1 39 = .ok (.aload_n 0, 1) := by decide +kernel
theorem dX6_addNumber_40 : decode mX6_addNumber.2.1 40 = .ok (.bipush 48, 2) := by decide +kernel
theorem dX6_addNumber_42 : decode mX6_addNumber.2.1 42 = .ok (.iload_n 1, 1) := by decide +kernel
theorem dX6_addNumber_43 : decode mX6_addNumber.2.1 43 = .ok (.bipush 10, 2) := by decide +kernel
theorem dX6_addNumber_45 : decode mX6_addNumber.2.1 45 = .ok (.irem, 1) := by decide +kernel
theorem dX6_addNumber_46 : decode mX6_addNumber.2.1 46 = .ok (.iadd, 1) := by decide +kernel
theorem dX6_addNumber_47 : decode mX6_addNumber.2.1 47 = .ok (.i2c, 1) := by decide +kernel
theorem dX6_addNumber_48 : decode mX6_addNumber.2.1 48 = .ok (.invokevirtual 27, 3) := by decide +kernel
theorem dX6_addNumber_51 : decode mX6_addNumber.2.1 51 = .ok (.return_, 1) := by decide +kernel
theorem bX6_addNumber_0 {SC : Nat → Nat} {X : mh_X} {d : Nat} {Q : Option am_V → am_W → Prop} {bc bs : Nat} {w : am_W} {x1 : Int}
    (h : ((x1 < 100 → am_A (mh_G X) SC (d + 2) mX6_addNumber Q 18 [(0, .inr (.inr (some (3, 0)))), (1, .inl x1)] [] w bc bs) ∧ (¬ x1 < 100 → am_M (mh_G X) SC (d + 1) 0 0 mX6_addByte [.inr (.inr (some (3, 0))), .inl (am_i2c (am_w (48 + (am_w (Int.tdiv x1 100)))))] w (fun r w1 => am_A (mh_G X) SC (d + 2) mX6_addNumber Q 18 [(0, .inr (.inr (some (3, 0)))), (1, .inl x1)] (r.toList ++ []) w1 bc bs)))) :
    am_A (mh_G X) SC (d + 2) mX6_addNumber Q 0 [(0, .inr (.inr (some (3, 0)))), (1, .inl x1)] [] w bc bs := by
  refine am_iload_n dX6_addNumber_0 (List.Mem.tail _ (List.Mem.head _)) ?_
  refine am_bipush dX6_addNumber_1 (by decide) (by unfold am_rg; omega) ?_
  refine am_icmplt (tgt := 18) dX6_addNumber_3 (by decide) (fun c1 => ?_) (fun c1 => ?_)
  · replace h := h.1 c1
    exact h
  · replace h := h.2 c1
    refine am_aload_n dX6_addNumber_6 (List.Mem.head _) ?_
    refine am_bipush dX6_addNumber_7 (by decide) (by unfold am_rg; omega) ?_
    refine am_iload_n dX6_addNumber_9 (List.Mem.tail _ (List.Mem.head _)) ?_
    refine am_bipush dX6_addNumber_10 (by decide) (by unfold am_rg; omega) ?_
    refine am_idiv dX6_addNumber_12 (by decide) ?_
    refine am_iadd dX6_addNumber_13 ?_
    refine am_i2cR dX6_addNumber_14 ?_
    exact am_callv (d' := d + 1) (kc := 0) (ks := 0) (as := [.inl (am_i2c (am_w (48 + (am_w (Int.tdiv x1 100)))))]) dX6_addNumber_15 wc_X6_addByte wd_952 wd_954 wd_23 wd_114 ds_X6_addByte (by decide) (by omega) (Nat.le_of_ble_eq_true rfl) (Nat.zero_le _) (Nat.zero_le _) hc_2 (by decide) rfl rfl h
theorem bX6_addNumber_18 {SC : Nat → Nat} {X : mh_X} {d : Nat} {Q : Option am_V → am_W → Prop} {bc bs : Nat} {w : am_W} {x1 : Int}
    (h : ((x1 < 10 → am_A (mh_G X) SC (d + 2) mX6_addNumber Q 39 [(0, .inr (.inr (some (3, 0)))), (1, .inl x1)] [] w bc bs) ∧ (¬ x1 < 10 → am_M (mh_G X) SC (d + 1) 0 0 mX6_addByte [.inr (.inr (some (3, 0))), .inl (am_i2c (am_w (48 + (am_w (Int.tmod (am_w (Int.tdiv x1 10)) 10)))))] w (fun r w1 => am_A (mh_G X) SC (d + 2) mX6_addNumber Q 39 [(0, .inr (.inr (some (3, 0)))), (1, .inl x1)] (r.toList ++ []) w1 bc bs)))) :
    am_A (mh_G X) SC (d + 2) mX6_addNumber Q 18 [(0, .inr (.inr (some (3, 0)))), (1, .inl x1)] [] w bc bs := by
  refine am_iload_n dX6_addNumber_18 (List.Mem.tail _ (List.Mem.head _)) ?_
  refine am_bipush dX6_addNumber_19 (by decide) (by unfold am_rg; omega) ?_
  refine am_icmplt (tgt := 39) dX6_addNumber_21 (by decide) (fun c1 => ?_) (fun c1 => ?_)
  · replace h := h.1 c1
    exact h
  · replace h := h.2 c1
    refine am_aload_n dX6_addNumber_24 (List.Mem.head _) ?_
    refine am_bipush dX6_addNumber_25 (by decide) (by unfold am_rg; omega) ?_
    refine am_iload_n dX6_addNumber_27 (List.Mem.tail _ (List.Mem.head _)) ?_
    refine am_bipush dX6_addNumber_28 (by decide) (by unfold am_rg; omega) ?_
    refine am_idiv dX6_addNumber_30 (by decide) ?_
    refine am_bipush dX6_addNumber_31 (by decide) (by unfold am_rg; omega) ?_
    refine am_irem dX6_addNumber_33 (by decide) ?_
    refine am_iadd dX6_addNumber_34 ?_
    refine am_i2cR dX6_addNumber_35 ?_
    exact am_callv (d' := d + 1) (kc := 0) (ks := 0) (as := [.inl (am_i2c (am_w (48 + (am_w (Int.tmod (am_w (Int.tdiv x1 10)) 10)))))]) dX6_addNumber_36 wc_X6_addByte wd_952 wd_954 wd_23 wd_114 ds_X6_addByte (by decide) (by omega) (Nat.le_of_ble_eq_true rfl) (Nat.zero_le _) (Nat.zero_le _) hc_2 (by decide) rfl rfl h
theorem bX6_addNumber_39 {SC : Nat → Nat} {X : mh_X} {d : Nat} {Q : Option am_V → am_W → Prop} {bc bs : Nat} {w : am_W} {x1 : Int}
    (h : am_M (mh_G X) SC (d + 1) 0 0 mX6_addByte [.inr (.inr (some (3, 0))), .inl (am_i2c (am_w (48 + (am_w (Int.tmod x1 10)))))] w (fun r w1 => am_A (mh_G X) SC (d + 2) mX6_addNumber Q 51 [(0, .inr (.inr (some (3, 0)))), (1, .inl x1)] (r.toList ++ []) w1 bc bs)) :
    am_A (mh_G X) SC (d + 2) mX6_addNumber Q 39 [(0, .inr (.inr (some (3, 0)))), (1, .inl x1)] [] w bc bs := by
  refine am_aload_n dX6_addNumber_39 (List.Mem.head _) ?_
  refine am_bipush dX6_addNumber_40 (by decide) (by unfold am_rg; omega) ?_
  refine am_iload_n dX6_addNumber_42 (List.Mem.tail _ (List.Mem.head _)) ?_
  refine am_bipush dX6_addNumber_43 (by decide) (by unfold am_rg; omega) ?_
  refine am_irem dX6_addNumber_45 (by decide) ?_
  refine am_iadd dX6_addNumber_46 ?_
  refine am_i2cR dX6_addNumber_47 ?_
  exact am_callv (d' := d + 1) (kc := 0) (ks := 0) (as := [.inl (am_i2c (am_w (48 + (am_w (Int.tmod x1 10)))))]) dX6_addNumber_48 wc_X6_addByte wd_952 wd_954 wd_23 wd_114 ds_X6_addByte (by decide) (by omega) (Nat.le_of_ble_eq_true rfl) (Nat.zero_le _) (Nat.zero_le _) hc_2 (by decide) rfl rfl h
theorem bX6_addNumber_51 {SC : Nat → Nat} {X : mh_X} {d : Nat} {Q : Option am_V → am_W → Prop} {bc bs : Nat} {w : am_W} {x1 : Int}
    (h : Q none w) :
    am_A (mh_G X) SC (d + 2) mX6_addNumber Q 51 [(0, .inr (.inr (some (3, 0)))), (1, .inl x1)] [] w bc bs := by
  exact am_ret (r := none) dX6_addNumber_51 rfl rfl h
-- MourningHouse$Words.kinOrColour(I)Ljava/lang/String;
theorem dX10_kinOrColour_0 : decode mX10_kinOrColour.2.1 0 = .ok (.iload_n 0, 1) := by decide +kernel
theorem dX10_kinOrColour_1 : decode mX10_kinOrColour.2.1 1 = .ok (.tableswitch 127 0 15 #[79, 82, 85, 88, 91, 94, 97, 100, 103, 106, 109, 112, 115, 118, 121, 124], 79) := by decide +kernel
theorem dX10_kinOrColour_80 : decode mX10_kinOrColour.2.1 80 = .ok (.ldc 19, 2) := by decide +kernel
theorem dX10_kinOrColour_82 : decode mX10_kinOrColour.2.1 82 = .ok (.areturn, 1) := by decide +kernel
theorem dX10_kinOrColour_83 : decode mX10_kinOrColour.2.1 83 = .ok (.ldc 21, 2) := by decide +kernel
theorem dX10_kinOrColour_85 : decode mX10_kinOrColour.2.1 85 = .ok (.areturn, 1) := by decide +kernel
theorem dX10_kinOrColour_86 : decode mX10_kinOrColour.2.1 86 = .ok (.ldc 23, 2) := by decide +kernel
theorem dX10_kinOrColour_88 : decode mX10_kinOrColour.2.1 88 = .ok (.areturn, 1) := by decide +kernel
theorem dX10_kinOrColour_89 : decode mX10_kinOrColour.2.1 89 = .ok (.ldc 25, 2) := by decide +kernel
theorem dX10_kinOrColour_91 : decode mX10_kinOrColour.2.1 91 = .ok (.areturn, 1) := by decide +kernel
theorem dX10_kinOrColour_92 : decode mX10_kinOrColour.2.1 92 = .ok (.ldc 27, 2) := by decide +kernel
theorem dX10_kinOrColour_94 : decode mX10_kinOrColour.2.1 94 = .ok (.areturn, 1) := by decide +kernel
theorem dX10_kinOrColour_95 : decode mX10_kinOrColour.2.1 95 = .ok (.ldc 29, 2) := by decide +kernel
theorem dX10_kinOrColour_97 : decode mX10_kinOrColour.2.1 97 = .ok (.areturn, 1) := by decide +kernel
theorem dX10_kinOrColour_98 : decode mX10_kinOrColour.2.1 98 = .ok (.ldc 31, 2) := by decide +kernel
theorem dX10_kinOrColour_100 : decode mX10_kinOrColour.2.1 100 = .ok (.areturn, 1) := by decide +kernel
theorem dX10_kinOrColour_101 : decode mX10_kinOrColour.2.1 101 = .ok (.ldc 33, 2) := by decide +kernel
theorem dX10_kinOrColour_103 : decode mX10_kinOrColour.2.1 103 = .ok (.areturn, 1) := by decide +kernel
theorem dX10_kinOrColour_104 : decode mX10_kinOrColour.2.1 104 = .ok (.ldc 35, 2) := by decide +kernel
theorem dX10_kinOrColour_106 : decode mX10_kinOrColour.2.1 106 = .ok (.areturn, 1) := by decide +kernel
theorem dX10_kinOrColour_107 : decode mX10_kinOrColour.2.1 107 = .ok (.ldc 37, 2) := by decide +kernel
theorem dX10_kinOrColour_109 : decode mX10_kinOrColour.2.1 109 = .ok (.areturn, 1) := by decide +kernel
theorem dX10_kinOrColour_110 : decode mX10_kinOrColour.2.1 110 = .ok (.ldc 39, 2) := by decide +kernel
theorem dX10_kinOrColour_112 : decode mX10_kinOrColour.2.1 112 = .ok (.areturn, 1) := by decide +kernel
theorem dX10_kinOrColour_113 : decode mX10_kinOrColour.2.1 113 = .ok (.ldc 41, 2) := by decide +kernel
theorem dX10_kinOrColour_115 : decode mX10_kinOrColour.2.1 115 = .ok (.areturn, 1) := by decide +kernel
theorem dX10_kinOrColour_116 : decode mX10_kinOrColour.2.1 116 = .ok (.ldc 43, 2) := by decide +kernel
theorem dX10_kinOrColour_118 : decode mX10_kinOrColour.2.1 118 = .ok (.areturn, 1) := by decide +kernel
theorem dX10_kinOrColour_119 : decode mX10_kinOrColour.2.1 119 = .ok (.ldc 45, 2) := by decide +kernel
theorem dX10_kinOrColour_121 : decode mX10_kinOrColour.2.1 121 = .ok (.areturn, 1) := by decide +kernel
theorem dX10_kinOrColour_122 : decode mX10_kinOrColour.2.1 122 = .ok (.ldc 47, 2) := by decide +kernel
theorem dX10_kinOrColour_124 : decode mX10_kinOrColour.2.1 124 = .ok (.areturn, 1) := by decide +kernel
theorem dX10_kinOrColour_125 : decode mX10_kinOrColour.2.1 125 = .ok (.ldc 49, 2) := by decide +kernel
theorem dX10_kinOrColour_127 : decode mX10_kinOrColour.2.1 127 = .ok (.areturn, 1) := by decide +kernel
theorem dX10_kinOrColour_128 : decode mX10_kinOrColour.2.1 128 = .ok (.ldc 51, 2) := by decide +kernel
theorem dX10_kinOrColour_130 : decode mX10_kinOrColour.2.1 130 = .ok (.areturn, 1) := by decide +kernel
theorem bX10_kinOrColour_0 {SC : Nat → Nat} {X : mh_X} {d : Nat} {Q : Option am_V → am_W → Prop} {bc bs : Nat} {w : am_W} {x0 : Int}
    (h : (((x0 < 0 ∨ 15 < x0) → Q (some (.inr (.inr (some (1000, 16))))) w) ∧ (x0 = 0 → Q (some (.inr (.inr (some (1000, 0))))) w) ∧ (x0 = 1 → Q (some (.inr (.inr (some (1000, 1))))) w) ∧ (x0 = 2 → Q (some (.inr (.inr (some (1000, 2))))) w) ∧ (x0 = 3 → Q (some (.inr (.inr (some (1000, 3))))) w) ∧ (x0 = 4 → Q (some (.inr (.inr (some (1000, 4))))) w) ∧ (x0 = 5 → Q (some (.inr (.inr (some (1000, 5))))) w) ∧ (x0 = 6 → Q (some (.inr (.inr (some (1000, 6))))) w) ∧ (x0 = 7 → Q (some (.inr (.inr (some (1000, 7))))) w) ∧ (x0 = 8 → Q (some (.inr (.inr (some (1000, 8))))) w) ∧ (x0 = 9 → Q (some (.inr (.inr (some (1000, 9))))) w) ∧ (x0 = 10 → Q (some (.inr (.inr (some (1000, 10))))) w) ∧ (x0 = 11 → Q (some (.inr (.inr (some (1000, 11))))) w) ∧ (x0 = 12 → Q (some (.inr (.inr (some (1000, 12))))) w) ∧ (x0 = 13 → Q (some (.inr (.inr (some (1000, 13))))) w) ∧ (x0 = 14 → Q (some (.inr (.inr (some (1000, 14))))) w) ∧ (x0 = 15 → Q (some (.inr (.inr (some (1000, 15))))) w))) :
    am_A (mh_G X) SC (d + 1) mX10_kinOrColour Q 0 [(0, .inl x0)] [] w bc bs := by
  refine am_iload_n dX10_kinOrColour_0 (List.Mem.head _) ?_
  by_cases c1 : (x0 < 0 ∨ 15 < x0)
  · replace h := h.1 c1
    refine am_tswOut (tgt := 128) dX10_kinOrColour_1 c1 (by decide) ?_
    refine am_ldcS (sid := 16) dX10_kinOrColour_128 rfl ?_
    exact am_ret (r := some (.inr (.inr (some (1000, 16))))) dX10_kinOrColour_130 ⟨_, rfl, Or.inl ⟨_, rfl⟩⟩ rfl h
  · rcases (show x0 = 0 ∨ x0 = 1 ∨ x0 = 2 ∨ x0 = 3 ∨ x0 = 4 ∨ x0 = 5 ∨ x0 = 6 ∨ x0 = 7 ∨ x0 = 8 ∨ x0 = 9 ∨ x0 = 10 ∨ x0 = 11 ∨ x0 = 12 ∨ x0 = 13 ∨ x0 = 14 ∨ x0 = 15 by omega) with c1 | c1 | c1 | c1 | c1 | c1 | c1 | c1 | c1 | c1 | c1 | c1 | c1 | c1 | c1 | c1
    · replace h := h.2.1 c1
      refine am_tswIn (off := 79) (tgt := 80) dX10_kinOrColour_1 (by omega) (by omega) (by rw [c1]; decide) (by decide) ?_
      refine am_ldcS (sid := 0) dX10_kinOrColour_80 rfl ?_
      exact am_ret (r := some (.inr (.inr (some (1000, 0))))) dX10_kinOrColour_82 ⟨_, rfl, Or.inl ⟨_, rfl⟩⟩ rfl h
    · replace h := h.2.2.1 c1
      refine am_tswIn (off := 82) (tgt := 83) dX10_kinOrColour_1 (by omega) (by omega) (by rw [c1]; decide) (by decide) ?_
      refine am_ldcS (sid := 1) dX10_kinOrColour_83 rfl ?_
      exact am_ret (r := some (.inr (.inr (some (1000, 1))))) dX10_kinOrColour_85 ⟨_, rfl, Or.inl ⟨_, rfl⟩⟩ rfl h
    · replace h := h.2.2.2.1 c1
      refine am_tswIn (off := 85) (tgt := 86) dX10_kinOrColour_1 (by omega) (by omega) (by rw [c1]; decide) (by decide) ?_
      refine am_ldcS (sid := 2) dX10_kinOrColour_86 rfl ?_
      exact am_ret (r := some (.inr (.inr (some (1000, 2))))) dX10_kinOrColour_88 ⟨_, rfl, Or.inl ⟨_, rfl⟩⟩ rfl h
    · replace h := h.2.2.2.2.1 c1
      refine am_tswIn (off := 88) (tgt := 89) dX10_kinOrColour_1 (by omega) (by omega) (by rw [c1]; decide) (by decide) ?_
      refine am_ldcS (sid := 3) dX10_kinOrColour_89 rfl ?_
      exact am_ret (r := some (.inr (.inr (some (1000, 3))))) dX10_kinOrColour_91 ⟨_, rfl, Or.inl ⟨_, rfl⟩⟩ rfl h
    · replace h := h.2.2.2.2.2.1 c1
      refine am_tswIn (off := 91) (tgt := 92) dX10_kinOrColour_1 (by omega) (by omega) (by rw [c1]; decide) (by decide) ?_
      refine am_ldcS (sid := 4) dX10_kinOrColour_92 rfl ?_
      exact am_ret (r := some (.inr (.inr (some (1000, 4))))) dX10_kinOrColour_94 ⟨_, rfl, Or.inl ⟨_, rfl⟩⟩ rfl h
    · replace h := h.2.2.2.2.2.2.1 c1
      refine am_tswIn (off := 94) (tgt := 95) dX10_kinOrColour_1 (by omega) (by omega) (by rw [c1]; decide) (by decide) ?_
      refine am_ldcS (sid := 5) dX10_kinOrColour_95 rfl ?_
      exact am_ret (r := some (.inr (.inr (some (1000, 5))))) dX10_kinOrColour_97 ⟨_, rfl, Or.inl ⟨_, rfl⟩⟩ rfl h
    · replace h := h.2.2.2.2.2.2.2.1 c1
      refine am_tswIn (off := 97) (tgt := 98) dX10_kinOrColour_1 (by omega) (by omega) (by rw [c1]; decide) (by decide) ?_
      refine am_ldcS (sid := 6) dX10_kinOrColour_98 rfl ?_
      exact am_ret (r := some (.inr (.inr (some (1000, 6))))) dX10_kinOrColour_100 ⟨_, rfl, Or.inl ⟨_, rfl⟩⟩ rfl h
    · replace h := h.2.2.2.2.2.2.2.2.1 c1
      refine am_tswIn (off := 100) (tgt := 101) dX10_kinOrColour_1 (by omega) (by omega) (by rw [c1]; decide) (by decide) ?_
      refine am_ldcS (sid := 7) dX10_kinOrColour_101 rfl ?_
      exact am_ret (r := some (.inr (.inr (some (1000, 7))))) dX10_kinOrColour_103 ⟨_, rfl, Or.inl ⟨_, rfl⟩⟩ rfl h
    · replace h := h.2.2.2.2.2.2.2.2.2.1 c1
      refine am_tswIn (off := 103) (tgt := 104) dX10_kinOrColour_1 (by omega) (by omega) (by rw [c1]; decide) (by decide) ?_
      refine am_ldcS (sid := 8) dX10_kinOrColour_104 rfl ?_
      exact am_ret (r := some (.inr (.inr (some (1000, 8))))) dX10_kinOrColour_106 ⟨_, rfl, Or.inl ⟨_, rfl⟩⟩ rfl h
    · replace h := h.2.2.2.2.2.2.2.2.2.2.1 c1
      refine am_tswIn (off := 106) (tgt := 107) dX10_kinOrColour_1 (by omega) (by omega) (by rw [c1]; decide) (by decide) ?_
      refine am_ldcS (sid := 9) dX10_kinOrColour_107 rfl ?_
      exact am_ret (r := some (.inr (.inr (some (1000, 9))))) dX10_kinOrColour_109 ⟨_, rfl, Or.inl ⟨_, rfl⟩⟩ rfl h
    · replace h := h.2.2.2.2.2.2.2.2.2.2.2.1 c1
      refine am_tswIn (off := 109) (tgt := 110) dX10_kinOrColour_1 (by omega) (by omega) (by rw [c1]; decide) (by decide) ?_
      refine am_ldcS (sid := 10) dX10_kinOrColour_110 rfl ?_
      exact am_ret (r := some (.inr (.inr (some (1000, 10))))) dX10_kinOrColour_112 ⟨_, rfl, Or.inl ⟨_, rfl⟩⟩ rfl h
    · replace h := h.2.2.2.2.2.2.2.2.2.2.2.2.1 c1
      refine am_tswIn (off := 112) (tgt := 113) dX10_kinOrColour_1 (by omega) (by omega) (by rw [c1]; decide) (by decide) ?_
      refine am_ldcS (sid := 11) dX10_kinOrColour_113 rfl ?_
      exact am_ret (r := some (.inr (.inr (some (1000, 11))))) dX10_kinOrColour_115 ⟨_, rfl, Or.inl ⟨_, rfl⟩⟩ rfl h
    · replace h := h.2.2.2.2.2.2.2.2.2.2.2.2.2.1 c1
      refine am_tswIn (off := 115) (tgt := 116) dX10_kinOrColour_1 (by omega) (by omega) (by rw [c1]; decide) (by decide) ?_
      refine am_ldcS (sid := 12) dX10_kinOrColour_116 rfl ?_
      exact am_ret (r := some (.inr (.inr (some (1000, 12))))) dX10_kinOrColour_118 ⟨_, rfl, Or.inl ⟨_, rfl⟩⟩ rfl h
    · replace h := h.2.2.2.2.2.2.2.2.2.2.2.2.2.2.1 c1
      refine am_tswIn (off := 118) (tgt := 119) dX10_kinOrColour_1 (by omega) (by omega) (by rw [c1]; decide) (by decide) ?_
      refine am_ldcS (sid := 13) dX10_kinOrColour_119 rfl ?_
      exact am_ret (r := some (.inr (.inr (some (1000, 13))))) dX10_kinOrColour_121 ⟨_, rfl, Or.inl ⟨_, rfl⟩⟩ rfl h
    · replace h := h.2.2.2.2.2.2.2.2.2.2.2.2.2.2.2.1 c1
      refine am_tswIn (off := 121) (tgt := 122) dX10_kinOrColour_1 (by omega) (by omega) (by rw [c1]; decide) (by decide) ?_
      refine am_ldcS (sid := 14) dX10_kinOrColour_122 rfl ?_
      exact am_ret (r := some (.inr (.inr (some (1000, 14))))) dX10_kinOrColour_124 ⟨_, rfl, Or.inl ⟨_, rfl⟩⟩ rfl h
    · replace h := h.2.2.2.2.2.2.2.2.2.2.2.2.2.2.2.2 c1
      refine am_tswIn (off := 124) (tgt := 125) dX10_kinOrColour_1 (by omega) (by omega) (by rw [c1]; decide) (by decide) ?_
      refine am_ldcS (sid := 15) dX10_kinOrColour_125 rfl ?_
      exact am_ret (r := some (.inr (.inr (some (1000, 15))))) dX10_kinOrColour_127 ⟨_, rfl, Or.inl ⟨_, rfl⟩⟩ rfl h
-- MourningHouse$Words.lineWord(I)Ljava/lang/String;
theorem dX10_lineWord_0 : decode mX10_lineWord.2.1 0 = .ok (.iload_n 0, 1) := by decide +kernel
theorem dX10_lineWord_1 : decode mX10_lineWord.2.1 1 = .ok (.tableswitch 85 29 38 #[55, 58, 61, 64, 67, 70, 73, 76, 79, 82], 55) := by decide +kernel
theorem dX10_lineWord_56 : decode mX10_lineWord.2.1 56 = .ok (.ldc 77, 2) := by decide +kernel
theorem dX10_lineWord_58 : decode mX10_lineWord.2.1 58 = .ok (.areturn, 1) := by decide +kernel
theorem dX10_lineWord_59 : decode mX10_lineWord.2.1 59 = .ok (.ldc 79, 2) := by decide +kernel
theorem dX10_lineWord_61 : decode mX10_lineWord.2.1 61 = .ok (.areturn, 1) := by decide +kernel
theorem dX10_lineWord_62 : decode mX10_lineWord.2.1 62 = .ok (.ldc 81, 2) := by decide +kernel
theorem dX10_lineWord_64 : decode mX10_lineWord.2.1 64 = .ok (.areturn, 1) := by decide +kernel
theorem dX10_lineWord_65 : decode mX10_lineWord.2.1 65 = .ok (.ldc 83, 2) := by decide +kernel
theorem dX10_lineWord_67 : decode mX10_lineWord.2.1 67 = .ok (.areturn, 1) := by decide +kernel
theorem dX10_lineWord_68 : decode mX10_lineWord.2.1 68 = .ok (.ldc 85, 2) := by decide +kernel
theorem dX10_lineWord_70 : decode mX10_lineWord.2.1 70 = .ok (.areturn, 1) := by decide +kernel
theorem dX10_lineWord_71 : decode mX10_lineWord.2.1 71 = .ok (.ldc 87, 2) := by decide +kernel
theorem dX10_lineWord_73 : decode mX10_lineWord.2.1 73 = .ok (.areturn, 1) := by decide +kernel
theorem dX10_lineWord_74 : decode mX10_lineWord.2.1 74 = .ok (.ldc 89, 2) := by decide +kernel
theorem dX10_lineWord_76 : decode mX10_lineWord.2.1 76 = .ok (.areturn, 1) := by decide +kernel
theorem dX10_lineWord_77 : decode mX10_lineWord.2.1 77 = .ok (.ldc 91, 2) := by decide +kernel
theorem dX10_lineWord_79 : decode mX10_lineWord.2.1 79 = .ok (.areturn, 1) := by decide +kernel
theorem dX10_lineWord_80 : decode mX10_lineWord.2.1 80 = .ok (.ldc 93, 2) := by decide +kernel
theorem dX10_lineWord_82 : decode mX10_lineWord.2.1 82 = .ok (.areturn, 1) := by decide +kernel
theorem dX10_lineWord_83 : decode mX10_lineWord.2.1 83 = .ok (.ldc 95, 2) := by decide +kernel
theorem dX10_lineWord_85 : decode mX10_lineWord.2.1 85 = .ok (.areturn, 1) := by decide +kernel
theorem dX10_lineWord_86 : decode mX10_lineWord.2.1 86 = .ok (.ldc 97, 2) := by decide +kernel
theorem dX10_lineWord_88 : decode mX10_lineWord.2.1 88 = .ok (.areturn, 1) := by decide +kernel
theorem bX10_lineWord_0 {SC : Nat → Nat} {X : mh_X} {d : Nat} {Q : Option am_V → am_W → Prop} {bc bs : Nat} {w : am_W} {x0 : Int}
    (h : (((x0 < 29 ∨ 38 < x0) → Q (some (.inr (.inr (some (1000, 39))))) w) ∧ (x0 = 29 → Q (some (.inr (.inr (some (1000, 29))))) w) ∧ (x0 = 30 → Q (some (.inr (.inr (some (1000, 30))))) w) ∧ (x0 = 31 → Q (some (.inr (.inr (some (1000, 31))))) w) ∧ (x0 = 32 → Q (some (.inr (.inr (some (1000, 32))))) w) ∧ (x0 = 33 → Q (some (.inr (.inr (some (1000, 33))))) w) ∧ (x0 = 34 → Q (some (.inr (.inr (some (1000, 34))))) w) ∧ (x0 = 35 → Q (some (.inr (.inr (some (1000, 35))))) w) ∧ (x0 = 36 → Q (some (.inr (.inr (some (1000, 36))))) w) ∧ (x0 = 37 → Q (some (.inr (.inr (some (1000, 37))))) w) ∧ (x0 = 38 → Q (some (.inr (.inr (some (1000, 38))))) w))) :
    am_A (mh_G X) SC (d + 1) mX10_lineWord Q 0 [(0, .inl x0)] [] w bc bs := by
  refine am_iload_n dX10_lineWord_0 (List.Mem.head _) ?_
  by_cases c1 : (x0 < 29 ∨ 38 < x0)
  · replace h := h.1 c1
    refine am_tswOut (tgt := 86) dX10_lineWord_1 c1 (by decide) ?_
    refine am_ldcS (sid := 39) dX10_lineWord_86 rfl ?_
    exact am_ret (r := some (.inr (.inr (some (1000, 39))))) dX10_lineWord_88 ⟨_, rfl, Or.inl ⟨_, rfl⟩⟩ rfl h
  · rcases (show x0 = 29 ∨ x0 = 30 ∨ x0 = 31 ∨ x0 = 32 ∨ x0 = 33 ∨ x0 = 34 ∨ x0 = 35 ∨ x0 = 36 ∨ x0 = 37 ∨ x0 = 38 by omega) with c1 | c1 | c1 | c1 | c1 | c1 | c1 | c1 | c1 | c1
    · replace h := h.2.1 c1
      refine am_tswIn (off := 55) (tgt := 56) dX10_lineWord_1 (by omega) (by omega) (by rw [c1]; decide) (by decide) ?_
      refine am_ldcS (sid := 29) dX10_lineWord_56 rfl ?_
      exact am_ret (r := some (.inr (.inr (some (1000, 29))))) dX10_lineWord_58 ⟨_, rfl, Or.inl ⟨_, rfl⟩⟩ rfl h
    · replace h := h.2.2.1 c1
      refine am_tswIn (off := 58) (tgt := 59) dX10_lineWord_1 (by omega) (by omega) (by rw [c1]; decide) (by decide) ?_
      refine am_ldcS (sid := 30) dX10_lineWord_59 rfl ?_
      exact am_ret (r := some (.inr (.inr (some (1000, 30))))) dX10_lineWord_61 ⟨_, rfl, Or.inl ⟨_, rfl⟩⟩ rfl h
    · replace h := h.2.2.2.1 c1
      refine am_tswIn (off := 61) (tgt := 62) dX10_lineWord_1 (by omega) (by omega) (by rw [c1]; decide) (by decide) ?_
      refine am_ldcS (sid := 31) dX10_lineWord_62 rfl ?_
      exact am_ret (r := some (.inr (.inr (some (1000, 31))))) dX10_lineWord_64 ⟨_, rfl, Or.inl ⟨_, rfl⟩⟩ rfl h
    · replace h := h.2.2.2.2.1 c1
      refine am_tswIn (off := 64) (tgt := 65) dX10_lineWord_1 (by omega) (by omega) (by rw [c1]; decide) (by decide) ?_
      refine am_ldcS (sid := 32) dX10_lineWord_65 rfl ?_
      exact am_ret (r := some (.inr (.inr (some (1000, 32))))) dX10_lineWord_67 ⟨_, rfl, Or.inl ⟨_, rfl⟩⟩ rfl h
    · replace h := h.2.2.2.2.2.1 c1
      refine am_tswIn (off := 67) (tgt := 68) dX10_lineWord_1 (by omega) (by omega) (by rw [c1]; decide) (by decide) ?_
      refine am_ldcS (sid := 33) dX10_lineWord_68 rfl ?_
      exact am_ret (r := some (.inr (.inr (some (1000, 33))))) dX10_lineWord_70 ⟨_, rfl, Or.inl ⟨_, rfl⟩⟩ rfl h
    · replace h := h.2.2.2.2.2.2.1 c1
      refine am_tswIn (off := 70) (tgt := 71) dX10_lineWord_1 (by omega) (by omega) (by rw [c1]; decide) (by decide) ?_
      refine am_ldcS (sid := 34) dX10_lineWord_71 rfl ?_
      exact am_ret (r := some (.inr (.inr (some (1000, 34))))) dX10_lineWord_73 ⟨_, rfl, Or.inl ⟨_, rfl⟩⟩ rfl h
    · replace h := h.2.2.2.2.2.2.2.1 c1
      refine am_tswIn (off := 73) (tgt := 74) dX10_lineWord_1 (by omega) (by omega) (by rw [c1]; decide) (by decide) ?_
      refine am_ldcS (sid := 35) dX10_lineWord_74 rfl ?_
      exact am_ret (r := some (.inr (.inr (some (1000, 35))))) dX10_lineWord_76 ⟨_, rfl, Or.inl ⟨_, rfl⟩⟩ rfl h
    · replace h := h.2.2.2.2.2.2.2.2.1 c1
      refine am_tswIn (off := 76) (tgt := 77) dX10_lineWord_1 (by omega) (by omega) (by rw [c1]; decide) (by decide) ?_
      refine am_ldcS (sid := 36) dX10_lineWord_77 rfl ?_
      exact am_ret (r := some (.inr (.inr (some (1000, 36))))) dX10_lineWord_79 ⟨_, rfl, Or.inl ⟨_, rfl⟩⟩ rfl h
    · replace h := h.2.2.2.2.2.2.2.2.2.1 c1
      refine am_tswIn (off := 79) (tgt := 80) dX10_lineWord_1 (by omega) (by omega) (by rw [c1]; decide) (by decide) ?_
      refine am_ldcS (sid := 37) dX10_lineWord_80 rfl ?_
      exact am_ret (r := some (.inr (.inr (some (1000, 37))))) dX10_lineWord_82 ⟨_, rfl, Or.inl ⟨_, rfl⟩⟩ rfl h
    · replace h := h.2.2.2.2.2.2.2.2.2.2 c1
      refine am_tswIn (off := 82) (tgt := 83) dX10_lineWord_1 (by omega) (by omega) (by rw [c1]; decide) (by decide) ?_
      refine am_ldcS (sid := 38) dX10_lineWord_83 rfl ?_
      exact am_ret (r := some (.inr (.inr (some (1000, 38))))) dX10_lineWord_85 ⟨_, rfl, Or.inl ⟨_, rfl⟩⟩ rfl h
-- MourningHouse$Words.termOrOption(I)Ljava/lang/String;
theorem dX10_termOrOption_0 : decode mX10_termOrOption.2.1 0 = .ok (.iload_n 0, 1) := by decide +kernel
theorem dX10_termOrOption_1 : decode mX10_termOrOption.2.1 1 = .ok (.tableswitch 92 17 27 #[59, 62, 65, 68, 71, 74, 77, 80, 83, 86, 89], 59) := by decide +kernel
theorem dX10_termOrOption_60 : decode mX10_termOrOption.2.1 60 = .ok (.ldc 53, 2) := by decide +kernel
theorem dX10_termOrOption_62 : decode mX10_termOrOption.2.1 62 = .ok (.areturn, 1) := by decide +kernel
theorem dX10_termOrOption_63 : decode mX10_termOrOption.2.1 63 = .ok (.ldc 55, 2) := by decide +kernel
theorem dX10_termOrOption_65 : decode mX10_termOrOption.2.1 65 = .ok (.areturn, 1) := by decide +kernel
theorem dX10_termOrOption_66 : decode mX10_termOrOption.2.1 66 = .ok (.ldc 57, 2) := by decide +kernel
theorem dX10_termOrOption_68 : decode mX10_termOrOption.2.1 68 = .ok (.areturn, 1) := by decide +kernel
theorem dX10_termOrOption_69 : decode mX10_termOrOption.2.1 69 = .ok (.ldc 59, 2) := by decide +kernel
theorem dX10_termOrOption_71 : decode mX10_termOrOption.2.1 71 = .ok (.areturn, 1) := by decide +kernel
theorem dX10_termOrOption_72 : decode mX10_termOrOption.2.1 72 = .ok (.ldc 61, 2) := by decide +kernel
theorem dX10_termOrOption_74 : decode mX10_termOrOption.2.1 74 = .ok (.areturn, 1) := by decide +kernel
theorem dX10_termOrOption_75 : decode mX10_termOrOption.2.1 75 = .ok (.ldc 63, 2) := by decide +kernel
theorem dX10_termOrOption_77 : decode mX10_termOrOption.2.1 77 = .ok (.areturn, 1) := by decide +kernel
theorem dX10_termOrOption_78 : decode mX10_termOrOption.2.1 78 = .ok (.ldc 65, 2) := by decide +kernel
theorem dX10_termOrOption_80 : decode mX10_termOrOption.2.1 80 = .ok (.areturn, 1) := by decide +kernel
theorem dX10_termOrOption_81 : decode mX10_termOrOption.2.1 81 = .ok (.ldc 67, 2) := by decide +kernel
theorem dX10_termOrOption_83 : decode mX10_termOrOption.2.1 83 = .ok (.areturn, 1) := by decide +kernel
theorem dX10_termOrOption_84 : decode mX10_termOrOption.2.1 84 = .ok (.ldc 69, 2) := by decide +kernel
theorem dX10_termOrOption_86 : decode mX10_termOrOption.2.1 86 = .ok (.areturn, 1) := by decide +kernel
theorem dX10_termOrOption_87 : decode mX10_termOrOption.2.1 87 = .ok (.ldc 71, 2) := by decide +kernel
theorem dX10_termOrOption_89 : decode mX10_termOrOption.2.1 89 = .ok (.areturn, 1) := by decide +kernel
theorem dX10_termOrOption_90 : decode mX10_termOrOption.2.1 90 = .ok (.ldc 73, 2) := by decide +kernel
theorem dX10_termOrOption_92 : decode mX10_termOrOption.2.1 92 = .ok (.areturn, 1) := by decide +kernel
theorem dX10_termOrOption_93 : decode mX10_termOrOption.2.1 93 = .ok (.ldc 75, 2) := by decide +kernel
theorem dX10_termOrOption_95 : decode mX10_termOrOption.2.1 95 = .ok (.areturn, 1) := by decide +kernel
theorem bX10_termOrOption_0 {SC : Nat → Nat} {X : mh_X} {d : Nat} {Q : Option am_V → am_W → Prop} {bc bs : Nat} {w : am_W} {x0 : Int}
    (h : (((x0 < 17 ∨ 27 < x0) → Q (some (.inr (.inr (some (1000, 28))))) w) ∧ (x0 = 17 → Q (some (.inr (.inr (some (1000, 17))))) w) ∧ (x0 = 18 → Q (some (.inr (.inr (some (1000, 18))))) w) ∧ (x0 = 19 → Q (some (.inr (.inr (some (1000, 19))))) w) ∧ (x0 = 20 → Q (some (.inr (.inr (some (1000, 20))))) w) ∧ (x0 = 21 → Q (some (.inr (.inr (some (1000, 21))))) w) ∧ (x0 = 22 → Q (some (.inr (.inr (some (1000, 22))))) w) ∧ (x0 = 23 → Q (some (.inr (.inr (some (1000, 23))))) w) ∧ (x0 = 24 → Q (some (.inr (.inr (some (1000, 24))))) w) ∧ (x0 = 25 → Q (some (.inr (.inr (some (1000, 25))))) w) ∧ (x0 = 26 → Q (some (.inr (.inr (some (1000, 26))))) w) ∧ (x0 = 27 → Q (some (.inr (.inr (some (1000, 27))))) w))) :
    am_A (mh_G X) SC (d + 1) mX10_termOrOption Q 0 [(0, .inl x0)] [] w bc bs := by
  refine am_iload_n dX10_termOrOption_0 (List.Mem.head _) ?_
  by_cases c1 : (x0 < 17 ∨ 27 < x0)
  · replace h := h.1 c1
    refine am_tswOut (tgt := 93) dX10_termOrOption_1 c1 (by decide) ?_
    refine am_ldcS (sid := 28) dX10_termOrOption_93 rfl ?_
    exact am_ret (r := some (.inr (.inr (some (1000, 28))))) dX10_termOrOption_95 ⟨_, rfl, Or.inl ⟨_, rfl⟩⟩ rfl h
  · rcases (show x0 = 17 ∨ x0 = 18 ∨ x0 = 19 ∨ x0 = 20 ∨ x0 = 21 ∨ x0 = 22 ∨ x0 = 23 ∨ x0 = 24 ∨ x0 = 25 ∨ x0 = 26 ∨ x0 = 27 by omega) with c1 | c1 | c1 | c1 | c1 | c1 | c1 | c1 | c1 | c1 | c1
    · replace h := h.2.1 c1
      refine am_tswIn (off := 59) (tgt := 60) dX10_termOrOption_1 (by omega) (by omega) (by rw [c1]; decide) (by decide) ?_
      refine am_ldcS (sid := 17) dX10_termOrOption_60 rfl ?_
      exact am_ret (r := some (.inr (.inr (some (1000, 17))))) dX10_termOrOption_62 ⟨_, rfl, Or.inl ⟨_, rfl⟩⟩ rfl h
    · replace h := h.2.2.1 c1
      refine am_tswIn (off := 62) (tgt := 63) dX10_termOrOption_1 (by omega) (by omega) (by rw [c1]; decide) (by decide) ?_
      refine am_ldcS (sid := 18) dX10_termOrOption_63 rfl ?_
      exact am_ret (r := some (.inr (.inr (some (1000, 18))))) dX10_termOrOption_65 ⟨_, rfl, Or.inl ⟨_, rfl⟩⟩ rfl h
    · replace h := h.2.2.2.1 c1
      refine am_tswIn (off := 65) (tgt := 66) dX10_termOrOption_1 (by omega) (by omega) (by rw [c1]; decide) (by decide) ?_
      refine am_ldcS (sid := 19) dX10_termOrOption_66 rfl ?_
      exact am_ret (r := some (.inr (.inr (some (1000, 19))))) dX10_termOrOption_68 ⟨_, rfl, Or.inl ⟨_, rfl⟩⟩ rfl h
    · replace h := h.2.2.2.2.1 c1
      refine am_tswIn (off := 68) (tgt := 69) dX10_termOrOption_1 (by omega) (by omega) (by rw [c1]; decide) (by decide) ?_
      refine am_ldcS (sid := 20) dX10_termOrOption_69 rfl ?_
      exact am_ret (r := some (.inr (.inr (some (1000, 20))))) dX10_termOrOption_71 ⟨_, rfl, Or.inl ⟨_, rfl⟩⟩ rfl h
    · replace h := h.2.2.2.2.2.1 c1
      refine am_tswIn (off := 71) (tgt := 72) dX10_termOrOption_1 (by omega) (by omega) (by rw [c1]; decide) (by decide) ?_
      refine am_ldcS (sid := 21) dX10_termOrOption_72 rfl ?_
      exact am_ret (r := some (.inr (.inr (some (1000, 21))))) dX10_termOrOption_74 ⟨_, rfl, Or.inl ⟨_, rfl⟩⟩ rfl h
    · replace h := h.2.2.2.2.2.2.1 c1
      refine am_tswIn (off := 74) (tgt := 75) dX10_termOrOption_1 (by omega) (by omega) (by rw [c1]; decide) (by decide) ?_
      refine am_ldcS (sid := 22) dX10_termOrOption_75 rfl ?_
      exact am_ret (r := some (.inr (.inr (some (1000, 22))))) dX10_termOrOption_77 ⟨_, rfl, Or.inl ⟨_, rfl⟩⟩ rfl h
    · replace h := h.2.2.2.2.2.2.2.1 c1
      refine am_tswIn (off := 77) (tgt := 78) dX10_termOrOption_1 (by omega) (by omega) (by rw [c1]; decide) (by decide) ?_
      refine am_ldcS (sid := 23) dX10_termOrOption_78 rfl ?_
      exact am_ret (r := some (.inr (.inr (some (1000, 23))))) dX10_termOrOption_80 ⟨_, rfl, Or.inl ⟨_, rfl⟩⟩ rfl h
    · replace h := h.2.2.2.2.2.2.2.2.1 c1
      refine am_tswIn (off := 80) (tgt := 81) dX10_termOrOption_1 (by omega) (by omega) (by rw [c1]; decide) (by decide) ?_
      refine am_ldcS (sid := 24) dX10_termOrOption_81 rfl ?_
      exact am_ret (r := some (.inr (.inr (some (1000, 24))))) dX10_termOrOption_83 ⟨_, rfl, Or.inl ⟨_, rfl⟩⟩ rfl h
    · replace h := h.2.2.2.2.2.2.2.2.2.1 c1
      refine am_tswIn (off := 83) (tgt := 84) dX10_termOrOption_1 (by omega) (by omega) (by rw [c1]; decide) (by decide) ?_
      refine am_ldcS (sid := 25) dX10_termOrOption_84 rfl ?_
      exact am_ret (r := some (.inr (.inr (some (1000, 25))))) dX10_termOrOption_86 ⟨_, rfl, Or.inl ⟨_, rfl⟩⟩ rfl h
    · replace h := h.2.2.2.2.2.2.2.2.2.2.1 c1
      refine am_tswIn (off := 86) (tgt := 87) dX10_termOrOption_1 (by omega) (by omega) (by rw [c1]; decide) (by decide) ?_
      refine am_ldcS (sid := 26) dX10_termOrOption_87 rfl ?_
      exact am_ret (r := some (.inr (.inr (some (1000, 26))))) dX10_termOrOption_89 ⟨_, rfl, Or.inl ⟨_, rfl⟩⟩ rfl h
    · replace h := h.2.2.2.2.2.2.2.2.2.2.2 c1
      refine am_tswIn (off := 89) (tgt := 90) dX10_termOrOption_1 (by omega) (by omega) (by rw [c1]; decide) (by decide) ?_
      refine am_ldcS (sid := 27) dX10_termOrOption_90 rfl ?_
      exact am_ret (r := some (.inr (.inr (some (1000, 27))))) dX10_termOrOption_92 ⟨_, rfl, Or.inl ⟨_, rfl⟩⟩ rfl h
-- MourningHouse$Words.nameOf(I)Ljava/lang/String;
theorem dX10_nameOf_0 : decode mX10_nameOf.2.1 0 = .ok (.iload_n 0, 1) := by decide +kernel
theorem dX10_nameOf_1 : decode mX10_nameOf.2.1 1 = .ok (.bipush 16, 2) := by decide +kernel
theorem dX10_nameOf_3 : decode mX10_nameOf.2.1 3 = .ok (.if_icmp .gt 10, 3) := by decide +kernel
theorem dX10_nameOf_6 : decode mX10_nameOf.2.1 6 = .ok (.iload_n 0, 1) := by decide +kernel
theorem dX10_nameOf_7 : decode mX10_nameOf.2.1 7 = .ok (.invokestatic 9, 3) := by decide +kernel
theorem dX10_nameOf_10 : decode mX10_nameOf.2.1 10 = .ok (.goto 20, 3) := by decide +kernel
theorem dX10_nameOf_13 : decode mX10_nameOf.2.1 13 = .ok (.iload_n 0, 1) := by decide +kernel
theorem dX10_nameOf_14 : decode mX10_nameOf.2.1 14 = .ok (.bipush 28, 2) := by decide +kernel
theorem dX10_nameOf_16 : decode mX10_nameOf.2.1 16 = .ok (.if_icmp .gt 10, 3) := by decide +kernel
theorem dX10_nameOf_19 : decode mX10_nameOf.2.1 19 = .ok (.iload_n 0, 1) := by decide +kernel
theorem dX10_nameOf_20 : decode mX10_nameOf.2.1 20 = .ok (.invokestatic 13, 3) := by decide +kernel
theorem dX10_nameOf_23 : decode mX10_nameOf.2.1 23 = .ok (.goto 7, 3) := by decide +kernel
theorem dX10_nameOf_26 : decode mX10_nameOf.2.1 26 = .ok (.iload_n 0, 1) := by decide +kernel
theorem dX10_nameOf_27 : decode mX10_nameOf.2.1 27 = .ok (.invokestatic 16, 3) := by decide +kernel
theorem dX10_nameOf_30 : decode mX10_nameOf.2.1 30 = .ok (.areturn, 1) := by decide +kernel
theorem bX10_nameOf_0 {SC : Nat → Nat} {X : mh_X} {d : Nat} {Q : Option am_V → am_W → Prop} {bc bs : Nat} {w : am_W} {x0 : Int}
    (h : ((16 < x0 → ((28 < x0 → am_M (mh_G X) SC (d + 1) 0 0 mX10_lineWord [.inl x0] w (fun r w1 => am_A (mh_G X) SC (d + 2) mX10_nameOf Q 30 [(0, .inl x0)] (r.toList ++ []) w1 bc bs)) ∧ (¬ 28 < x0 → am_M (mh_G X) SC (d + 1) 0 0 mX10_termOrOption [.inl x0] w (fun r w1 => am_A (mh_G X) SC (d + 2) mX10_nameOf Q 23 [(0, .inl x0)] (r.toList ++ []) w1 bc bs)))) ∧ (¬ 16 < x0 → am_M (mh_G X) SC (d + 1) 0 0 mX10_kinOrColour [.inl x0] w (fun r w1 => am_A (mh_G X) SC (d + 2) mX10_nameOf Q 10 [(0, .inl x0)] (r.toList ++ []) w1 bc bs)))) :
    am_A (mh_G X) SC (d + 2) mX10_nameOf Q 0 [(0, .inl x0)] [] w bc bs := by
  refine am_iload_n dX10_nameOf_0 (List.Mem.head _) ?_
  refine am_bipush dX10_nameOf_1 (by decide) (by unfold am_rg; omega) ?_
  refine am_icmpgt (tgt := 13) dX10_nameOf_3 (by decide) (fun c1 => ?_) (fun c1 => ?_)
  · replace h := h.1 c1
    refine am_iload_n dX10_nameOf_13 (List.Mem.head _) ?_
    refine am_bipush dX10_nameOf_14 (by decide) (by unfold am_rg; omega) ?_
    refine am_icmpgt (tgt := 26) dX10_nameOf_16 (by decide) (fun c2 => ?_) (fun c2 => ?_)
    · replace h := h.1 c2
      refine am_iload_n dX10_nameOf_26 (List.Mem.head _) ?_
      exact am_calls (d' := d + 1) (kc := 0) (ks := 0) (as := [.inl x0]) dX10_nameOf_27 wc_X10_lineWord wd_704 wd_705 wd_123 ds_X10_lineWord (by decide) (by omega) (Nat.le_of_ble_eq_true rfl) (Nat.zero_le _) (Nat.zero_le _) rfl h
    · replace h := h.2 c2
      refine am_iload_n dX10_nameOf_19 (List.Mem.head _) ?_
      exact am_calls (d' := d + 1) (kc := 0) (ks := 0) (as := [.inl x0]) dX10_nameOf_20 wc_X10_termOrOption wd_689 wd_690 wd_123 ds_X10_termOrOption (by decide) (by omega) (Nat.le_of_ble_eq_true rfl) (Nat.zero_le _) (Nat.zero_le _) rfl h
  · replace h := h.2 c1
    refine am_iload_n dX10_nameOf_6 (List.Mem.head _) ?_
    exact am_calls (d' := d + 1) (kc := 0) (ks := 0) (as := [.inl x0]) dX10_nameOf_7 wc_X10_kinOrColour wd_669 wd_670 wd_123 ds_X10_kinOrColour (by decide) (by omega) (Nat.le_of_ble_eq_true rfl) (Nat.zero_le _) (Nat.zero_le _) rfl h
theorem bX10_nameOf_30 {SC : Nat → Nat} {X : mh_X} {d : Nat} {Q : Option am_V → am_W → Prop} {bc bs : Nat} {w : am_W} {x0 : Int} {ts0 : Nat} {js0 : Nat}
    (h : Q (some (.inr (.inr (some (ts0, js0))))) w) :
    am_A (mh_G X) SC (d + 2) mX10_nameOf Q 30 [(0, .inl x0)] [.inr (.inr (some (ts0, js0)))] w bc bs := by
  exact am_ret (r := some (.inr (.inr (some (ts0, js0))))) dX10_nameOf_30 ⟨_, rfl, Or.inl ⟨_, rfl⟩⟩ rfl h
theorem bX10_nameOf_23 {SC : Nat → Nat} {X : mh_X} {d : Nat} {Q : Option am_V → am_W → Prop} {bc bs : Nat} {w : am_W} {x0 : Int} {ts0 : Nat} {js0 : Nat}
    (h : Q (some (.inr (.inr (some (ts0, js0))))) w) :
    am_A (mh_G X) SC (d + 2) mX10_nameOf Q 23 [(0, .inl x0)] [.inr (.inr (some (ts0, js0)))] w bc bs := by
  refine am_goto (tgt := 30) dX10_nameOf_23 (by decide) ?_
  exact am_ret (r := some (.inr (.inr (some (ts0, js0))))) dX10_nameOf_30 ⟨_, rfl, Or.inl ⟨_, rfl⟩⟩ rfl h
theorem bX10_nameOf_10 {SC : Nat → Nat} {X : mh_X} {d : Nat} {Q : Option am_V → am_W → Prop} {bc bs : Nat} {w : am_W} {x0 : Int} {ts0 : Nat} {js0 : Nat}
    (h : Q (some (.inr (.inr (some (ts0, js0))))) w) :
    am_A (mh_G X) SC (d + 2) mX10_nameOf Q 10 [(0, .inl x0)] [.inr (.inr (some (ts0, js0)))] w bc bs := by
  refine am_goto (tgt := 30) dX10_nameOf_10 (by decide) ?_
  exact am_ret (r := some (.inr (.inr (some (ts0, js0))))) dX10_nameOf_30 ⟨_, rfl, Or.inl ⟨_, rfl⟩⟩ rfl h
-- MourningHouse$Page.addWord(I)V
theorem dX6_addWord_0 : decode mX6_addWord.2.1 0 = .ok (.aload_n 0, 1) := by decide +kernel
theorem dX6_addWord_1 : decode mX6_addWord.2.1 1 = .ok (.iload_n 1, 1) := by decide +kernel
theorem dX6_addWord_2 : decode mX6_addWord.2.1 2 = .ok (.invokestatic 31, 3) := by decide +kernel
theorem dX6_addWord_5 : decode mX6_addWord.2.1 5 = .ok (.invokevirtual 37, 3) := by decide +kernel
theorem dX6_addWord_8 : decode mX6_addWord.2.1 8 = .ok (.return_, 1) := by decide +kernel
theorem bX6_addWord_0 {SC : Nat → Nat} {X : mh_X} {d : Nat} {Q : Option am_V → am_W → Prop} {bc bs : Nat} {w : am_W} {x1 : Int}
    (h : am_M (mh_G X) SC (d + 6) 0 0 mX10_nameOf [.inl x1] w (fun r w1 => am_A (mh_G X) SC (d + 7) mX6_addWord Q 5 [(0, .inr (.inr (some (3, 0)))), (1, .inl x1)] (r.toList ++ [.inr (.inr (some (3, 0)))]) w1 bc bs)) :
    am_A (mh_G X) SC (d + 7) mX6_addWord Q 0 [(0, .inr (.inr (some (3, 0)))), (1, .inl x1)] [] w bc bs := by
  refine am_aload_n dX6_addWord_0 (List.Mem.head _) ?_
  refine am_iload_n dX6_addWord_1 (List.Mem.tail _ (List.Mem.head _)) ?_
  exact am_calls (d' := d + 6) (kc := 0) (ks := 0) (as := [.inl x1]) dX6_addWord_2 wc_X10_nameOf wd_945 wd_667 wd_123 ds_X10_nameOf (by decide) (by omega) (Nat.le_of_ble_eq_true rfl) (Nat.zero_le _) (Nat.zero_le _) rfl h
theorem bX6_addWord_5 {SC : Nat → Nat} {X : mh_X} {d : Nat} {Q : Option am_V → am_W → Prop} {bc bs : Nat} {w : am_W} {x1 : Int} {ts0 : Nat} {js0 : Nat}
    (h : am_M (mh_G X) SC (d + 6) 0 0 mX6_add [.inr (.inr (some (3, 0))), .inr (.inr (some (ts0, js0)))] w (fun r w1 => am_A (mh_G X) SC (d + 7) mX6_addWord Q 8 [(0, .inr (.inr (some (3, 0)))), (1, .inl x1)] (r.toList ++ []) w1 bc bs)) :
    am_A (mh_G X) SC (d + 7) mX6_addWord Q 5 [(0, .inr (.inr (some (3, 0)))), (1, .inl x1)] [.inr (.inr (some (ts0, js0))), .inr (.inr (some (3, 0)))] w bc bs := by
  exact am_callv (d' := d + 6) (kc := 0) (ks := 0) (as := [.inr (.inr (some (ts0, js0)))]) dX6_addWord_5 wc_X6_add wd_946 wd_947 wd_948 wd_114 ds_X6_add (by decide) (by omega) (Nat.le_of_ble_eq_true rfl) (Nat.zero_le _) (Nat.zero_le _) hc_2 (by decide) rfl rfl h
theorem bX6_addWord_8 {SC : Nat → Nat} {X : mh_X} {d : Nat} {Q : Option am_V → am_W → Prop} {bc bs : Nat} {w : am_W} {x1 : Int}
    (h : Q none w) :
    am_A (mh_G X) SC (d + 7) mX6_addWord Q 8 [(0, .inr (.inr (some (3, 0)))), (1, .inl x1)] [] w bc bs := by
  exact am_ret (r := none) dX6_addWord_8 rfl rfl h
-- MourningHouse$Page.clear()V
theorem dX6_clear_0 : decode mX6_clear.2.1 0 = .ok (.aload_n 0, 1) := by decide +kernel
theorem dX6_clear_1 : decode mX6_clear.2.1 1 = .ok (.iconst 0, 1) := by decide +kernel
theorem dX6_clear_2 : decode mX6_clear.2.1 2 = .ok (.putfield 13, 3) := by decide +kernel
theorem dX6_clear_5 : decode mX6_clear.2.1 5 = .ok (.return_, 1) := by decide +kernel
theorem sX6_clear {SC : Nat → Nat} {X : mh_X} {d kc ks : Nat} {Q : Option am_V → am_W → Prop} {w : am_W} 
    (h : Q none ((am_up w.1 3 0 1 0), w.2)) : am_M (mh_G X) SC (d + 1) kc ks mX6_clear [.inr (.inr (some (3, 0)))] w Q := by
  refine am_M_of (by decide) (Nat.le_of_ble_eq_true rfl) ?_
  show am_A (mh_G X) SC (d + 1) mX6_clear Q 0 [(0, .inr (.inr (some (3, 0))))] [] w kc ks
  refine am_aload_n dX6_clear_0 (List.Mem.head _) ?_
  refine am_iconst dX6_clear_1 (by unfold am_rg; omega) ?_
  refine am_putf (f := 1) dX6_clear_2 hc_2 (by decide) wd_195 rfl (Or.inl rfl) (Or.inl (by decide)) rfl ?_
  exact am_ret (r := none) dX6_clear_5 rfl rfl h
-- MourningHouse$Law.spell(ILMourningHouse$Page;)V
theorem dX3_spell_0 : decode mX3_spell.2.1 0 = .ok (.aload_n 2, 1) := by decide +kernel
theorem dX3_spell_1 : decode mX3_spell.2.1 1 = .ok (.invokevirtual 78, 3) := by decide +kernel
theorem dX3_spell_4 : decode mX3_spell.2.1 4 = .ok (.aload_n 2, 1) := by decide +kernel
theorem dX3_spell_5 : decode mX3_spell.2.1 5 = .ok (.bipush 30, 2) := by decide +kernel
theorem dX3_spell_7 : decode mX3_spell.2.1 7 = .ok (.invokevirtual 85, 3) := by decide +kernel
theorem dX3_spell_10 : decode mX3_spell.2.1 10 = .ok (.iconst 0, 1) := by decide +kernel
theorem dX3_spell_11 : decode mX3_spell.2.1 11 = .ok (.istore_n 3, 1) := by decide +kernel
theorem dX3_spell_12 : decode mX3_spell.2.1 12 = .ok (.iload_n 3, 1) := by decide +kernel
theorem dX3_spell_13 : decode mX3_spell.2.1 13 = .ok (.aload_n 0, 1) := by decide +kernel
theorem dX3_spell_14 : decode mX3_spell.2.1 14 = .ok (.getfield 11, 3) := by decide +kernel
theorem dX3_spell_17 : decode mX3_spell.2.1 17 = .ok (.iload_n 1, 1) := by decide +kernel
theorem dX3_spell_18 : decode mX3_spell.2.1 18 = .ok (.iaload, 1) := by decide +kernel
theorem dX3_spell_19 : decode mX3_spell.2.1 19 = .ok (.if_icmp .ge 34, 3) := by decide +kernel
theorem dX3_spell_22 : decode mX3_spell.2.1 22 = .ok (.aload_n 2, 1) := by decide +kernel
theorem dX3_spell_23 : decode mX3_spell.2.1 23 = .ok (.iload_n 3, 1) := by decide +kernel
theorem dX3_spell_24 : decode mX3_spell.2.1 24 = .ok (.ifCond .ne 8, 3) := by decide +kernel
theorem dX3_spell_27 : decode mX3_spell.2.1 27 = .ok (.ldc 89, 2) := by decide +kernel
theorem dX3_spell_29 : decode mX3_spell.2.1 29 = .ok (.goto 5, 3) := by decide +kernel
theorem dX3_spell_32 : decode mX3_spell.2.1 32 = .ok (.ldc 91, 2) := by decide +kernel
theorem dX3_spell_34 : decode mX3_spell.2.1 34 = .ok (.invokevirtual 93, 3) := by decide +kernel
theorem dX3_spell_37 : decode mX3_spell.2.1 37 = .ok (.aload_n 2, 1) := by decide +kernel
theorem dX3_spell_38 : decode mX3_spell.2.1 38 = .ok (.aload_n 0, 1) := by decide +kernel
theorem dX3_spell_39 : decode mX3_spell.2.1 39 = .ok (.iload_n 1, 1) := by decide +kernel
theorem dX3_spell_40 : decode mX3_spell.2.1 40 = .ok (.iload_n 3, 1) := by decide +kernel
theorem dX3_spell_41 : decode mX3_spell.2.1 41 = .ok (.invokevirtual 97, 3) := by decide +kernel
theorem dX3_spell_44 : decode mX3_spell.2.1 44 = .ok (.invokevirtual 85, 3) := by decide +kernel
theorem dX3_spell_47 : decode mX3_spell.2.1 47 = .ok (.iinc 3 1, 3) := by decide +kernel
theorem dX3_spell_50 : decode mX3_spell.2.1 50 = .ok (.goto (-38), 3) := by decide +kernel
theorem dX3_spell_53 : decode mX3_spell.2.1 53 = .ok (.iconst 0, 1) := by decide +kernel
theorem dX3_spell_54 : decode mX3_spell.2.1 54 = .ok (.istore_n 3, 1) := by decide +kernel
theorem dX3_spell_55 : decode mX3_spell.2.1 55 = .ok (.iload_n 3, 1) := by decide +kernel
theorem dX3_spell_56 : decode mX3_spell.2.1 56 = .ok (.aload_n 0, 1) := by decide +kernel
theorem dX3_spell_57 : decode mX3_spell.2.1 57 = .ok (.getfield 18, 3) := by decide +kernel
theorem dX3_spell_60 : decode mX3_spell.2.1 60 = .ok (.iload_n 1, 1) := by decide +kernel
theorem dX3_spell_61 : decode mX3_spell.2.1 61 = .ok (.iaload, 1) := by decide +kernel
theorem dX3_spell_62 : decode mX3_spell.2.1 62 = .ok (.if_icmp .ge 79, 3) := by decide +kernel
theorem dX3_spell_65 : decode mX3_spell.2.1 65 = .ok (.iload_n 1, 1) := by decide +kernel
theorem dX3_spell_66 : decode mX3_spell.2.1 66 = .ok (.iconst 4, 1) := by decide +kernel
theorem dX3_spell_67 : decode mX3_spell.2.1 67 = .ok (.imul, 1) := by decide +kernel
theorem dX3_spell_68 : decode mX3_spell.2.1 68 = .ok (.iload_n 3, 1) := by decide +kernel
theorem dX3_spell_69 : decode mX3_spell.2.1 69 = .ok (.iadd, 1) := by decide +kernel
theorem dX3_spell_70 : decode mX3_spell.2.1 70 = .ok (.istore 4, 2) := by decide +kernel
theorem dX3_spell_72 : decode mX3_spell.2.1 72 = .ok (.aload_n 2, 1) := by decide +kernel
theorem dX3_spell_73 : decode mX3_spell.2.1 73 = .ok (.iload_n 3, 1) := by decide +kernel
theorem dX3_spell_74 : decode mX3_spell.2.1 74 = .ok (.ifCond .ne 8, 3) := by decide +kernel
theorem dX3_spell_77 : decode mX3_spell.2.1 77 = .ok (.ldc 100, 2) := by decide +kernel
theorem dX3_spell_79 : decode mX3_spell.2.1 79 = .ok (.goto 5, 3) := by decide +kernel
theorem dX3_spell_82 : decode mX3_spell.2.1 82 = .ok (.ldc 102, 2) := by decide +kernel
theorem dX3_spell_84 : decode mX3_spell.2.1 84 = .ok (.invokevirtual 93, 3) := by decide +kernel
theorem dX3_spell_87 : decode mX3_spell.2.1 87 = .ok (.aload_n 2, 1) := by decide +kernel
theorem dX3_spell_88 : decode mX3_spell.2.1 88 = .ok (.bipush 12, 2) := by decide +kernel
theorem dX3_spell_90 : decode mX3_spell.2.1 90 = .ok (.aload_n 0, 1) := by decide +kernel
theorem dX3_spell_91 : decode mX3_spell.2.1 91 = .ok (.getfield 21, 3) := by decide +kernel
theorem dX3_spell_94 : decode mX3_spell.2.1 94 = .ok (.iload 4, 2) := by decide +kernel
theorem dX3_spell_96 : decode mX3_spell.2.1 96 = .ok (.iaload, 1) := by decide +kernel
theorem dX3_spell_97 : decode mX3_spell.2.1 97 = .ok (.iadd, 1) := by decide +kernel
theorem dX3_spell_98 : decode mX3_spell.2.1 98 = .ok (.invokevirtual 85, 3) := by decide +kernel
theorem dX3_spell_101 : decode mX3_spell.2.1 101 = .ok (.aload_n 2, 1) := by decide +kernel
theorem dX3_spell_102 : decode mX3_spell.2.1 102 = .ok (.ldc 89, 2) := by decide +kernel
theorem dX3_spell_104 : decode mX3_spell.2.1 104 = .ok (.invokevirtual 93, 3) := by decide +kernel
theorem dX3_spell_107 : decode mX3_spell.2.1 107 = .ok (.aload_n 2, 1) := by decide +kernel
theorem dX3_spell_108 : decode mX3_spell.2.1 108 = .ok (.aload_n 0, 1) := by decide +kernel
theorem dX3_spell_109 : decode mX3_spell.2.1 109 = .ok (.getfield 24, 3) := by decide +kernel
theorem dX3_spell_112 : decode mX3_spell.2.1 112 = .ok (.iload 4, 2) := by decide +kernel
theorem dX3_spell_114 : decode mX3_spell.2.1 114 = .ok (.iaload, 1) := by decide +kernel
theorem dX3_spell_115 : decode mX3_spell.2.1 115 = .ok (.invokevirtual 104, 3) := by decide +kernel
theorem dX3_spell_118 : decode mX3_spell.2.1 118 = .ok (.aload_n 2, 1) := by decide +kernel
theorem dX3_spell_119 : decode mX3_spell.2.1 119 = .ok (.ldc 89, 2) := by decide +kernel
theorem dX3_spell_121 : decode mX3_spell.2.1 121 = .ok (.invokevirtual 93, 3) := by decide +kernel
theorem dX3_spell_124 : decode mX3_spell.2.1 124 = .ok (.aload_n 2, 1) := by decide +kernel
theorem dX3_spell_125 : decode mX3_spell.2.1 125 = .ok (.aload_n 0, 1) := by decide +kernel
theorem dX3_spell_126 : decode mX3_spell.2.1 126 = .ok (.getfield 27, 3) := by decide +kernel
theorem dX3_spell_129 : decode mX3_spell.2.1 129 = .ok (.iload 4, 2) := by decide +kernel
theorem dX3_spell_131 : decode mX3_spell.2.1 131 = .ok (.iaload, 1) := by decide +kernel
theorem dX3_spell_132 : decode mX3_spell.2.1 132 = .ok (.invokevirtual 85, 3) := by decide +kernel
theorem dX3_spell_135 : decode mX3_spell.2.1 135 = .ok (.iinc 3 1, 3) := by decide +kernel
theorem dX3_spell_138 : decode mX3_spell.2.1 138 = .ok (.goto (-83), 3) := by decide +kernel
theorem dX3_spell_141 : decode mX3_spell.2.1 141 = .ok (.iconst 0, 1) := by decide +kernel
theorem dX3_spell_142 : decode mX3_spell.2.1 142 = .ok (.istore_n 3, 1) := by decide +kernel
theorem dX3_spell_143 : decode mX3_spell.2.1 143 = .ok (.iload_n 3, 1) := by decide +kernel
theorem dX3_spell_144 : decode mX3_spell.2.1 144 = .ok (.iconst 3, 1) := by decide +kernel
theorem dX3_spell_145 : decode mX3_spell.2.1 145 = .ok (.if_icmp .gt 47, 3) := by decide +kernel
theorem dX3_spell_148 : decode mX3_spell.2.1 148 = .ok (.aload_n 0, 1) := by decide +kernel
theorem dX3_spell_149 : decode mX3_spell.2.1 149 = .ok (.iload_n 1, 1) := by decide +kernel
theorem dX3_spell_150 : decode mX3_spell.2.1 150 = .ok (.iload_n 3, 1) := by decide +kernel
theorem dX3_spell_151 : decode mX3_spell.2.1 151 = .ok (.invokevirtual 107, 3) := by decide +kernel
theorem dX3_spell_154 : decode mX3_spell.2.1 154 = .ok (.ifCond .eq 32, 3) := by decide +kernel
theorem dX3_spell_157 : decode mX3_spell.2.1 157 = .ok (.aload_n 2, 1) := by decide +kernel
theorem dX3_spell_158 : decode mX3_spell.2.1 158 = .ok (.ldc 111, 2) := by decide +kernel
theorem dX3_spell_160 : decode mX3_spell.2.1 160 = .ok (.invokevirtual 93, 3) := by decide +kernel
theorem dX3_spell_163 : decode mX3_spell.2.1 163 = .ok (.aload_n 2, 1) := by decide +kernel
theorem dX3_spell_164 : decode mX3_spell.2.1 164 = .ok (.bipush 25, 2) := by decide +kernel
theorem dX3_spell_166 : decode mX3_spell.2.1 166 = .ok (.iload_n 3, 1) := by decide +kernel
theorem dX3_spell_167 : decode mX3_spell.2.1 167 = .ok (.iadd, 1) := by decide +kernel
theorem dX3_spell_168 : decode mX3_spell.2.1 168 = .ok (.invokevirtual 85, 3) := by decide +kernel
theorem dX3_spell_171 : decode mX3_spell.2.1 171 = .ok (.aload_n 2, 1) := by decide +kernel
theorem dX3_spell_172 : decode mX3_spell.2.1 172 = .ok (.iload_n 3, 1) := by decide +kernel
theorem dX3_spell_173 : decode mX3_spell.2.1 173 = .ok (.ifCond .ne 8, 3) := by decide +kernel
theorem dX3_spell_176 : decode mX3_spell.2.1 176 = .ok (.ldc 113, 2) := by decide +kernel
theorem dX3_spell_178 : decode mX3_spell.2.1 178 = .ok (.goto 5, 3) := by decide +kernel
theorem dX3_spell_181 : decode mX3_spell.2.1 181 = .ok (.ldc 115, 2) := by decide +kernel
theorem dX3_spell_183 : decode mX3_spell.2.1 183 = .ok (.invokevirtual 93, 3) := by decide +kernel
theorem dX3_spell_186 : decode mX3_spell.2.1 186 = .ok (.iinc 3 1, 3) := by decide +kernel
theorem dX3_spell_189 : decode mX3_spell.2.1 189 = .ok (.goto (-46), 3) := by decide +kernel
theorem dX3_spell_192 : decode mX3_spell.2.1 192 = .ok (.return_, 1) := by decide +kernel
theorem bX3_spell_0 {SC : Nat → Nat} {X : mh_X} {d : Nat} {Q : Option am_V → am_W → Prop} {bc bs : Nat} {w : am_W} {j0 : Nat} {x1 : Int}
    (h : am_M (mh_G X) SC (d + 7) 0 0 mX6_addWord [.inr (.inr (some (3, 0))), .inl 30] ((am_up w.1 3 0 1 0), w.2) (fun r w1 => am_A (mh_G X) SC (d + 8) mX3_spell Q 10 [(0, .inr (.inr (some (10, j0)))), (1, .inl x1), (2, .inr (.inr (some (3, 0))))] (r.toList ++ []) w1 bc bs)) :
    am_A (mh_G X) SC (d + 8) mX3_spell Q 0 [(0, .inr (.inr (some (10, j0)))), (1, .inl x1), (2, .inr (.inr (some (3, 0))))] [] w bc bs := by
  refine am_aload_n dX3_spell_0 (List.Mem.tail _ (List.Mem.tail _ (List.Mem.head _))) ?_
  refine am_callv (d' := d + 7) (kc := 0) (ks := 0) (as := []) dX3_spell_1 wc_X6_clear wd_937 wd_938 wd_939 wd_114 ds_X6_clear (by decide) (by omega) (Nat.le_of_ble_eq_true rfl) (Nat.zero_le _) (Nat.zero_le _) hc_2 (by decide) rfl rfl (sX6_clear (d := d + 6)   ?_)
  show am_A (mh_G X) SC (d + 8) mX3_spell Q 4 [(0, .inr (.inr (some (10, j0)))), (1, .inl x1), (2, .inr (.inr (some (3, 0))))] [] ((am_up w.1 3 0 1 0), w.2) bc bs
  refine am_aload_n dX3_spell_4 (List.Mem.tail _ (List.Mem.tail _ (List.Mem.head _))) ?_
  refine am_bipush dX3_spell_5 (by decide) (by unfold am_rg; omega) ?_
  exact am_callv (d' := d + 7) (kc := 0) (ks := 0) (as := [.inl 30]) dX3_spell_7 wc_X6_addWord wd_941 wd_942 wd_943 wd_114 ds_X6_addWord (by decide) (by omega) (Nat.le_of_ble_eq_true rfl) (Nat.zero_le _) (Nat.zero_le _) hc_2 (by decide) rfl rfl h
theorem bX3_spell_10 {SC : Nat → Nat} {X : mh_X} {d : Nat} {Q : Option am_V → am_W → Prop} {bc bs : Nat} {w : am_W} {j0 : Nat} {x1 : Int}
    (h : am_A (mh_G X) SC (d + 8) mX3_spell Q 12 [(0, .inr (.inr (some (10, j0)))), (1, .inl x1), (2, .inr (.inr (some (3, 0)))), (3, .inl 0)] [] w bc bs) :
    am_A (mh_G X) SC (d + 8) mX3_spell Q 10 [(0, .inr (.inr (some (10, j0)))), (1, .inl x1), (2, .inr (.inr (some (3, 0))))] [] w bc bs := by
  refine am_iconst dX3_spell_10 (by unfold am_rg; omega) ?_
  refine am_istore_n (ls' := [(3, .inl 0), (0, .inr (.inr (some (10, j0)))), (1, .inl x1), (2, .inr (.inr (some (3, 0))))]) dX3_spell_11 (by decide) rfl ?_
  exact am_sub [1, 2, 3, 0] rfl h
theorem bX3_spell_12 {SC : Nat → Nat} {X : mh_X} {d : Nat} {Q : Option am_V → am_W → Prop} {bc bs : Nat} {w : am_W} {j0 : Nat} {x1 : Int} {x3 : Int}
    (h : (0 ≤ x1 ∧ (x1 < 30 ∧ (((w.1 144 j0 x1.toNat) ≤ x3 → am_A (mh_G X) SC (d + 8) mX3_spell Q 55 [(0, .inr (.inr (some (10, j0)))), (1, .inl x1), (2, .inr (.inr (some (3, 0)))), (3, .inl 0)] [] w bc bs) ∧ (¬ (w.1 144 j0 x1.toNat) ≤ x3 → ((¬ x3 = 0 → am_A (mh_G X) SC (d + 8) mX3_spell Q 34 [(0, .inr (.inr (some (10, j0)))), (1, .inl x1), (2, .inr (.inr (some (3, 0)))), (3, .inl x3)] [.inr (.inr (some (1000, 41))), .inr (.inr (some (3, 0)))] w bc bs) ∧ (x3 = 0 → am_A (mh_G X) SC (d + 8) mX3_spell Q 34 [(0, .inr (.inr (some (10, j0)))), (1, .inl x1), (2, .inr (.inr (some (3, 0)))), (3, .inl x3)] [.inr (.inr (some (1000, 40))), .inr (.inr (some (3, 0)))] w bc bs))))))) :
    am_A (mh_G X) SC (d + 8) mX3_spell Q 12 [(0, .inr (.inr (some (10, j0)))), (1, .inl x1), (2, .inr (.inr (some (3, 0)))), (3, .inl x3)] [] w bc bs := by
  refine am_iload_n dX3_spell_12 (List.Mem.tail _ (List.Mem.tail _ (List.Mem.tail _ (List.Mem.head _)))) ?_
  refine am_aload_n dX3_spell_13 (List.Mem.head _) ?_
  refine am_getf (f := 0) (v := .inr (.inr (some (144, j0)))) dX3_spell_14 hc_4 (by decide) wd_215 (by decide) rfl rfl ?_
  refine am_iload_n dX3_spell_17 (List.Mem.tail _ (List.Mem.head _)) ?_
  have o1 := h.1
  replace h := h.2
  have o2 := h.1
  replace h := h.2
  refine am_iaload (v := (w.1 144 j0 x1.toNat)) dX3_spell_18 (by decide) rfl o1 o2 rfl ?_
  refine am_icmpge (tgt := 53) dX3_spell_19 (by decide) (fun c3 => ?_) (fun c3 => ?_)
  · replace h := h.1 c3
    refine am_iconst dX3_spell_53 (by unfold am_rg; omega) ?_
    refine am_istore_n (ls' := [(3, .inl 0), (0, .inr (.inr (some (10, j0)))), (1, .inl x1), (2, .inr (.inr (some (3, 0))))]) dX3_spell_54 (by decide) rfl ?_
    exact am_sub [1, 2, 3, 0] rfl h
  · replace h := h.2 c3
    refine am_aload_n dX3_spell_22 (List.Mem.tail _ (List.Mem.tail _ (List.Mem.head _))) ?_
    refine am_iload_n dX3_spell_23 (List.Mem.tail _ (List.Mem.tail _ (List.Mem.tail _ (List.Mem.head _)))) ?_
    refine am_ifne (tgt := 32) dX3_spell_24 (by decide) (fun c4 => ?_) (fun c4 => ?_)
    · replace h := h.1 c4
      refine am_ldcS (sid := 41) dX3_spell_32 rfl ?_
      exact h
    · replace h := h.2 c4
      refine am_ldcS (sid := 40) dX3_spell_27 rfl ?_
      refine am_goto (tgt := 34) dX3_spell_29 (by decide) ?_
      exact h
theorem bX3_spell_55 {SC : Nat → Nat} {X : mh_X} {d : Nat} {Q : Option am_V → am_W → Prop} {bc bs : Nat} {w : am_W} {j0 : Nat} {x1 : Int} {x3 : Int}
    (h : (0 ≤ x1 ∧ (x1 < 30 ∧ (((w.1 146 j0 x1.toNat) ≤ x3 → am_A (mh_G X) SC (d + 8) mX3_spell Q 143 [(0, .inr (.inr (some (10, j0)))), (1, .inl x1), (2, .inr (.inr (some (3, 0)))), (3, .inl 0)] [] w bc bs) ∧ (¬ (w.1 146 j0 x1.toNat) ≤ x3 → ((¬ x3 = 0 → am_A (mh_G X) SC (d + 8) mX3_spell Q 84 [(0, .inr (.inr (some (10, j0)))), (1, .inl x1), (2, .inr (.inr (some (3, 0)))), (3, .inl x3), (4, .inl (am_w ((am_w (x1 * 4)) + x3)))] [.inr (.inr (some (1000, 43))), .inr (.inr (some (3, 0)))] w bc bs) ∧ (x3 = 0 → am_A (mh_G X) SC (d + 8) mX3_spell Q 84 [(0, .inr (.inr (some (10, j0)))), (1, .inl x1), (2, .inr (.inr (some (3, 0)))), (3, .inl x3), (4, .inl (am_w ((am_w (x1 * 4)) + x3)))] [.inr (.inr (some (1000, 42))), .inr (.inr (some (3, 0)))] w bc bs))))))) :
    am_A (mh_G X) SC (d + 8) mX3_spell Q 55 [(0, .inr (.inr (some (10, j0)))), (1, .inl x1), (2, .inr (.inr (some (3, 0)))), (3, .inl x3)] [] w bc bs := by
  refine am_iload_n dX3_spell_55 (List.Mem.tail _ (List.Mem.tail _ (List.Mem.tail _ (List.Mem.head _)))) ?_
  refine am_aload_n dX3_spell_56 (List.Mem.head _) ?_
  refine am_getf (f := 2) (v := .inr (.inr (some (146, j0)))) dX3_spell_57 hc_4 (by decide) wd_217 (by decide) rfl rfl ?_
  refine am_iload_n dX3_spell_60 (List.Mem.tail _ (List.Mem.head _)) ?_
  have o1 := h.1
  replace h := h.2
  have o2 := h.1
  replace h := h.2
  refine am_iaload (v := (w.1 146 j0 x1.toNat)) dX3_spell_61 (by decide) rfl o1 o2 rfl ?_
  refine am_icmpge (tgt := 141) dX3_spell_62 (by decide) (fun c3 => ?_) (fun c3 => ?_)
  · replace h := h.1 c3
    refine am_iconst dX3_spell_141 (by unfold am_rg; omega) ?_
    refine am_istore_n (ls' := [(3, .inl 0), (0, .inr (.inr (some (10, j0)))), (1, .inl x1), (2, .inr (.inr (some (3, 0))))]) dX3_spell_142 (by decide) rfl ?_
    exact am_sub [1, 2, 3, 0] rfl h
  · replace h := h.2 c3
    refine am_iload_n dX3_spell_65 (List.Mem.tail _ (List.Mem.head _)) ?_
    refine am_iconst dX3_spell_66 (by unfold am_rg; omega) ?_
    refine am_imul dX3_spell_67 ?_
    refine am_iload_n dX3_spell_68 (List.Mem.tail _ (List.Mem.tail _ (List.Mem.tail _ (List.Mem.head _)))) ?_
    refine am_iadd dX3_spell_69 ?_
    refine am_istore (ls' := [(4, .inl (am_w ((am_w (x1 * 4)) + x3))), (0, .inr (.inr (some (10, j0)))), (1, .inl x1), (2, .inr (.inr (some (3, 0)))), (3, .inl x3)]) dX3_spell_70 (by decide) rfl ?_
    refine am_aload_n dX3_spell_72 (List.Mem.tail _ (List.Mem.tail _ (List.Mem.tail _ (List.Mem.head _)))) ?_
    refine am_iload_n dX3_spell_73 (List.Mem.tail _ (List.Mem.tail _ (List.Mem.tail _ (List.Mem.tail _ (List.Mem.head _))))) ?_
    refine am_ifne (tgt := 82) dX3_spell_74 (by decide) (fun c4 => ?_) (fun c4 => ?_)
    · replace h := h.1 c4
      refine am_ldcS (sid := 43) dX3_spell_82 rfl ?_
      exact am_sub [1, 2, 3, 4, 0] rfl h
    · replace h := h.2 c4
      refine am_ldcS (sid := 42) dX3_spell_77 rfl ?_
      refine am_goto (tgt := 84) dX3_spell_79 (by decide) ?_
      exact am_sub [1, 2, 3, 4, 0] rfl h
theorem bX3_spell_34 {SC : Nat → Nat} {X : mh_X} {d : Nat} {Q : Option am_V → am_W → Prop} {bc bs : Nat} {w : am_W} {j0 : Nat} {x1 : Int} {x3 : Int} {js0 : Nat}
    (h : am_M (mh_G X) SC (d + 7) 0 0 mX6_add [.inr (.inr (some (3, 0))), .inr (.inr (some (1000, js0)))] w (fun r w1 => am_A (mh_G X) SC (d + 8) mX3_spell Q 37 [(0, .inr (.inr (some (10, j0)))), (1, .inl x1), (2, .inr (.inr (some (3, 0)))), (3, .inl x3)] (r.toList ++ []) w1 bc bs)) :
    am_A (mh_G X) SC (d + 8) mX3_spell Q 34 [(0, .inr (.inr (some (10, j0)))), (1, .inl x1), (2, .inr (.inr (some (3, 0)))), (3, .inl x3)] [.inr (.inr (some (1000, js0))), .inr (.inr (some (3, 0)))] w bc bs := by
  exact am_callv (d' := d + 7) (kc := 0) (ks := 0) (as := [.inr (.inr (some (1000, js0)))]) dX3_spell_34 wc_X6_add wd_958 wd_947 wd_948 wd_114 ds_X6_add (by decide) (by omega) (Nat.le_of_ble_eq_true rfl) (Nat.zero_le _) (Nat.zero_le _) hc_2 (by decide) rfl rfl h
theorem bX3_spell_143 {SC : Nat → Nat} {X : mh_X} {d : Nat} {Q : Option am_V → am_W → Prop} {bc bs : Nat} {w : am_W} {j0 : Nat} {x1 : Int} {x3 : Int}
    (h : ((3 < x3 → Q none w) ∧ (¬ 3 < x3 → (0 ≤ x1 ∧ (x1 < 30 ∧ ((¬ (¬ (am_and (am_shr (w.1 150 j0 x1.toNat) x3) 1) = 0) → am_A (mh_G X) SC (d + 8) mX3_spell Q 186 [(0, .inr (.inr (some (10, j0)))), (1, .inl x1), (2, .inr (.inr (some (3, 0)))), (3, .inl x3)] [] w bc bs) ∧ ((¬ (am_and (am_shr (w.1 150 j0 x1.toNat) x3) 1) = 0) → am_M (mh_G X) SC (d + 7) 0 0 mX6_add [.inr (.inr (some (3, 0))), .inr (.inr (some (1000, 44)))] w (fun r w1 => am_A (mh_G X) SC (d + 8) mX3_spell Q 163 [(0, .inr (.inr (some (10, j0)))), (1, .inl x1), (2, .inr (.inr (some (3, 0)))), (3, .inl x3)] (r.toList ++ []) w1 bc bs)))))))) :
    am_A (mh_G X) SC (d + 8) mX3_spell Q 143 [(0, .inr (.inr (some (10, j0)))), (1, .inl x1), (2, .inr (.inr (some (3, 0)))), (3, .inl x3)] [] w bc bs := by
  refine am_iload_n dX3_spell_143 (List.Mem.tail _ (List.Mem.tail _ (List.Mem.tail _ (List.Mem.head _)))) ?_
  refine am_iconst dX3_spell_144 (by unfold am_rg; omega) ?_
  refine am_icmpgt (tgt := 192) dX3_spell_145 (by decide) (fun c1 => ?_) (fun c1 => ?_)
  · replace h := h.1 c1
    exact am_ret (r := none) dX3_spell_192 rfl rfl h
  · replace h := h.2 c1
    refine am_aload_n dX3_spell_148 (List.Mem.head _) ?_
    refine am_iload_n dX3_spell_149 (List.Mem.tail _ (List.Mem.head _)) ?_
    refine am_iload_n dX3_spell_150 (List.Mem.tail _ (List.Mem.tail _ (List.Mem.tail _ (List.Mem.head _)))) ?_
    have o2 := h.1
    replace h := h.2
    have o3 := h.1
    replace h := h.2
    refine am_callv (d' := d + 7) (kc := 0) (ks := 0) (as := [.inl x1, .inl x3]) dX3_spell_151 wc_X3_hasOption wd_969 wd_970 wd_971 wd_116 ds_X3_hasOption (by decide) (by omega) (Nat.le_of_ble_eq_true rfl) (Nat.zero_le _) (Nat.zero_le _) hc_4 (by decide) rfl rfl (sX3_hasOption (d := d + 6) (j0 := j0) (x1 := x1) (x2 := x3) o2 o3 ?_)
    show am_A (mh_G X) SC (d + 8) mX3_spell Q 154 [(0, .inr (.inr (some (10, j0)))), (1, .inl x1), (2, .inr (.inr (some (3, 0)))), (3, .inl x3)] [.inl (if (¬ (am_and (am_shr (w.1 150 j0 x1.toNat) x3) 1) = 0) then 1 else 0)] w bc bs
    refine am_ifeq (tgt := 186) dX3_spell_154 (by decide) (fun c4 => ?_) (fun c4 => ?_)
    · replace c4 := am_beq1 c4
      replace h := h.1 c4
      exact h
    · replace c4 := am_beq2 c4
      replace h := h.2 c4
      refine am_aload_n dX3_spell_157 (List.Mem.tail _ (List.Mem.tail _ (List.Mem.head _))) ?_
      refine am_ldcS (sid := 44) dX3_spell_158 rfl ?_
      exact am_callv (d' := d + 7) (kc := 0) (ks := 0) (as := [.inr (.inr (some (1000, 44)))]) dX3_spell_160 wc_X6_add wd_958 wd_947 wd_948 wd_114 ds_X6_add (by decide) (by omega) (Nat.le_of_ble_eq_true rfl) (Nat.zero_le _) (Nat.zero_le _) hc_2 (by decide) rfl rfl h
theorem bX3_spell_84 {SC : Nat → Nat} {X : mh_X} {d : Nat} {Q : Option am_V → am_W → Prop} {bc bs : Nat} {w : am_W} {j0 : Nat} {x1 : Int} {x3 : Int} {x4 : Int} {js0 : Nat}
    (h : am_M (mh_G X) SC (d + 7) 0 0 mX6_add [.inr (.inr (some (3, 0))), .inr (.inr (some (1000, js0)))] w (fun r w1 => am_A (mh_G X) SC (d + 8) mX3_spell Q 87 [(0, .inr (.inr (some (10, j0)))), (1, .inl x1), (2, .inr (.inr (some (3, 0)))), (3, .inl x3), (4, .inl x4)] (r.toList ++ []) w1 bc bs)) :
    am_A (mh_G X) SC (d + 8) mX3_spell Q 84 [(0, .inr (.inr (some (10, j0)))), (1, .inl x1), (2, .inr (.inr (some (3, 0)))), (3, .inl x3), (4, .inl x4)] [.inr (.inr (some (1000, js0))), .inr (.inr (some (3, 0)))] w bc bs := by
  exact am_callv (d' := d + 7) (kc := 0) (ks := 0) (as := [.inr (.inr (some (1000, js0)))]) dX3_spell_84 wc_X6_add wd_958 wd_947 wd_948 wd_114 ds_X6_add (by decide) (by omega) (Nat.le_of_ble_eq_true rfl) (Nat.zero_le _) (Nat.zero_le _) hc_2 (by decide) rfl rfl h
theorem bX3_spell_37 {SC : Nat → Nat} {X : mh_X} {d : Nat} {Q : Option am_V → am_W → Prop} {bc bs : Nat} {w : am_W} {j0 : Nat} {x1 : Int} {x3 : Int}
    (h : (0 ≤ (am_w ((am_w (x1 * 4)) + x3)) ∧ ((am_w ((am_w (x1 * 4)) + x3)) < 120 ∧ am_M (mh_G X) SC (d + 7) 0 0 mX6_addWord [.inr (.inr (some (3, 0))), .inl (w.1 145 j0 (am_w ((am_w (x1 * 4)) + x3)).toNat)] w (fun r w1 => am_A (mh_G X) SC (d + 8) mX3_spell Q 47 [(0, .inr (.inr (some (10, j0)))), (1, .inl x1), (2, .inr (.inr (some (3, 0)))), (3, .inl x3)] (r.toList ++ []) w1 bc bs)))) :
    am_A (mh_G X) SC (d + 8) mX3_spell Q 37 [(0, .inr (.inr (some (10, j0)))), (1, .inl x1), (2, .inr (.inr (some (3, 0)))), (3, .inl x3)] [] w bc bs := by
  refine am_aload_n dX3_spell_37 (List.Mem.tail _ (List.Mem.tail _ (List.Mem.head _))) ?_
  refine am_aload_n dX3_spell_38 (List.Mem.head _) ?_
  refine am_iload_n dX3_spell_39 (List.Mem.tail _ (List.Mem.head _)) ?_
  refine am_iload_n dX3_spell_40 (List.Mem.tail _ (List.Mem.tail _ (List.Mem.tail _ (List.Mem.head _)))) ?_
  have o1 := h.1
  replace h := h.2
  have o2 := h.1
  replace h := h.2
  refine am_callv (d' := d + 7) (kc := 0) (ks := 0) (as := [.inl x1, .inl x3]) dX3_spell_41 wc_X3_kinWord wd_959 wd_960 wd_961 wd_116 ds_X3_kinWord (by decide) (by omega) (Nat.le_of_ble_eq_true rfl) (Nat.zero_le _) (Nat.zero_le _) hc_4 (by decide) rfl rfl (sX3_kinWord (d := d + 6) (j0 := j0) (x1 := x1) (x2 := x3) o1 o2 ?_)
  show am_A (mh_G X) SC (d + 8) mX3_spell Q 44 [(0, .inr (.inr (some (10, j0)))), (1, .inl x1), (2, .inr (.inr (some (3, 0)))), (3, .inl x3)] [.inl (w.1 145 j0 (am_w ((am_w (x1 * 4)) + x3)).toNat), .inr (.inr (some (3, 0)))] w bc bs
  exact am_callv (d' := d + 7) (kc := 0) (ks := 0) (as := [.inl (w.1 145 j0 (am_w ((am_w (x1 * 4)) + x3)).toNat)]) dX3_spell_44 wc_X6_addWord wd_941 wd_942 wd_943 wd_114 ds_X6_addWord (by decide) (by omega) (Nat.le_of_ble_eq_true rfl) (Nat.zero_le _) (Nat.zero_le _) hc_2 (by decide) rfl rfl h
theorem bX3_spell_186 {SC : Nat → Nat} {X : mh_X} {d : Nat} {Q : Option am_V → am_W → Prop} {bc bs : Nat} {w : am_W} {j0 : Nat} {x1 : Int} {x3 : Int}
    (h : am_A (mh_G X) SC (d + 8) mX3_spell Q 143 [(0, .inr (.inr (some (10, j0)))), (1, .inl x1), (2, .inr (.inr (some (3, 0)))), (3, .inl (am_w (x3 + 1)))] [] w bc bs) :
    am_A (mh_G X) SC (d + 8) mX3_spell Q 186 [(0, .inr (.inr (some (10, j0)))), (1, .inl x1), (2, .inr (.inr (some (3, 0)))), (3, .inl x3)] [] w bc bs := by
  refine am_iinc (ls' := [(3, .inl (am_w (x3 + 1))), (0, .inr (.inr (some (10, j0)))), (1, .inl x1), (2, .inr (.inr (some (3, 0))))]) dX3_spell_186 (List.Mem.tail _ (List.Mem.tail _ (List.Mem.tail _ (List.Mem.head _)))) (by decide) rfl ?_
  refine am_goto (tgt := 143) dX3_spell_189 (by decide) ?_
  exact am_sub [1, 2, 3, 0] rfl h
theorem bX3_spell_163 {SC : Nat → Nat} {X : mh_X} {d : Nat} {Q : Option am_V → am_W → Prop} {bc bs : Nat} {w : am_W} {j0 : Nat} {x1 : Int} {x3 : Int}
    (h : am_M (mh_G X) SC (d + 7) 0 0 mX6_addWord [.inr (.inr (some (3, 0))), .inl (am_w (25 + x3))] w (fun r w1 => am_A (mh_G X) SC (d + 8) mX3_spell Q 171 [(0, .inr (.inr (some (10, j0)))), (1, .inl x1), (2, .inr (.inr (some (3, 0)))), (3, .inl x3)] (r.toList ++ []) w1 bc bs)) :
    am_A (mh_G X) SC (d + 8) mX3_spell Q 163 [(0, .inr (.inr (some (10, j0)))), (1, .inl x1), (2, .inr (.inr (some (3, 0)))), (3, .inl x3)] [] w bc bs := by
  refine am_aload_n dX3_spell_163 (List.Mem.tail _ (List.Mem.tail _ (List.Mem.head _))) ?_
  refine am_bipush dX3_spell_164 (by decide) (by unfold am_rg; omega) ?_
  refine am_iload_n dX3_spell_166 (List.Mem.tail _ (List.Mem.tail _ (List.Mem.tail _ (List.Mem.head _)))) ?_
  refine am_iadd dX3_spell_167 ?_
  exact am_callv (d' := d + 7) (kc := 0) (ks := 0) (as := [.inl (am_w (25 + x3))]) dX3_spell_168 wc_X6_addWord wd_941 wd_942 wd_943 wd_114 ds_X6_addWord (by decide) (by omega) (Nat.le_of_ble_eq_true rfl) (Nat.zero_le _) (Nat.zero_le _) hc_2 (by decide) rfl rfl h
theorem bX3_spell_87 {SC : Nat → Nat} {X : mh_X} {d : Nat} {Q : Option am_V → am_W → Prop} {bc bs : Nat} {w : am_W} {j0 : Nat} {x1 : Int} {x3 : Int} {x4 : Int}
    (h : (0 ≤ x4 ∧ (x4 < 120 ∧ am_M (mh_G X) SC (d + 7) 0 0 mX6_addWord [.inr (.inr (some (3, 0))), .inl (am_w (12 + (w.1 147 j0 x4.toNat)))] w (fun r w1 => am_A (mh_G X) SC (d + 8) mX3_spell Q 101 [(0, .inr (.inr (some (10, j0)))), (1, .inl x1), (2, .inr (.inr (some (3, 0)))), (3, .inl x3), (4, .inl x4)] (r.toList ++ []) w1 bc bs)))) :
    am_A (mh_G X) SC (d + 8) mX3_spell Q 87 [(0, .inr (.inr (some (10, j0)))), (1, .inl x1), (2, .inr (.inr (some (3, 0)))), (3, .inl x3), (4, .inl x4)] [] w bc bs := by
  refine am_aload_n dX3_spell_87 (List.Mem.tail _ (List.Mem.tail _ (List.Mem.head _))) ?_
  refine am_bipush dX3_spell_88 (by decide) (by unfold am_rg; omega) ?_
  refine am_aload_n dX3_spell_90 (List.Mem.head _) ?_
  refine am_getf (f := 3) (v := .inr (.inr (some (147, j0)))) dX3_spell_91 hc_4 (by decide) wd_218 (by decide) rfl rfl ?_
  refine am_iload dX3_spell_94 (List.Mem.tail _ (List.Mem.tail _ (List.Mem.tail _ (List.Mem.tail _ (List.Mem.head _))))) ?_
  have o1 := h.1
  replace h := h.2
  have o2 := h.1
  replace h := h.2
  refine am_iaload (v := (w.1 147 j0 x4.toNat)) dX3_spell_96 (by decide) rfl o1 o2 rfl ?_
  refine am_iadd dX3_spell_97 ?_
  exact am_callv (d' := d + 7) (kc := 0) (ks := 0) (as := [.inl (am_w (12 + (w.1 147 j0 x4.toNat)))]) dX3_spell_98 wc_X6_addWord wd_941 wd_942 wd_943 wd_114 ds_X6_addWord (by decide) (by omega) (Nat.le_of_ble_eq_true rfl) (Nat.zero_le _) (Nat.zero_le _) hc_2 (by decide) rfl rfl h
theorem bX3_spell_47 {SC : Nat → Nat} {X : mh_X} {d : Nat} {Q : Option am_V → am_W → Prop} {bc bs : Nat} {w : am_W} {j0 : Nat} {x1 : Int} {x3 : Int}
    (h : am_A (mh_G X) SC (d + 8) mX3_spell Q 12 [(0, .inr (.inr (some (10, j0)))), (1, .inl x1), (2, .inr (.inr (some (3, 0)))), (3, .inl (am_w (x3 + 1)))] [] w bc bs) :
    am_A (mh_G X) SC (d + 8) mX3_spell Q 47 [(0, .inr (.inr (some (10, j0)))), (1, .inl x1), (2, .inr (.inr (some (3, 0)))), (3, .inl x3)] [] w bc bs := by
  refine am_iinc (ls' := [(3, .inl (am_w (x3 + 1))), (0, .inr (.inr (some (10, j0)))), (1, .inl x1), (2, .inr (.inr (some (3, 0))))]) dX3_spell_47 (List.Mem.tail _ (List.Mem.tail _ (List.Mem.tail _ (List.Mem.head _)))) (by decide) rfl ?_
  refine am_goto (tgt := 12) dX3_spell_50 (by decide) ?_
  exact am_sub [1, 2, 3, 0] rfl h
theorem bX3_spell_171 {SC : Nat → Nat} {X : mh_X} {d : Nat} {Q : Option am_V → am_W → Prop} {bc bs : Nat} {w : am_W} {j0 : Nat} {x1 : Int} {x3 : Int}
    (h : ((¬ x3 = 0 → am_A (mh_G X) SC (d + 8) mX3_spell Q 183 [(0, .inr (.inr (some (10, j0)))), (1, .inl x1), (2, .inr (.inr (some (3, 0)))), (3, .inl x3)] [.inr (.inr (some (1000, 46))), .inr (.inr (some (3, 0)))] w bc bs) ∧ (x3 = 0 → am_A (mh_G X) SC (d + 8) mX3_spell Q 183 [(0, .inr (.inr (some (10, j0)))), (1, .inl x1), (2, .inr (.inr (some (3, 0)))), (3, .inl x3)] [.inr (.inr (some (1000, 45))), .inr (.inr (some (3, 0)))] w bc bs))) :
    am_A (mh_G X) SC (d + 8) mX3_spell Q 171 [(0, .inr (.inr (some (10, j0)))), (1, .inl x1), (2, .inr (.inr (some (3, 0)))), (3, .inl x3)] [] w bc bs := by
  refine am_aload_n dX3_spell_171 (List.Mem.tail _ (List.Mem.tail _ (List.Mem.head _))) ?_
  refine am_iload_n dX3_spell_172 (List.Mem.tail _ (List.Mem.tail _ (List.Mem.tail _ (List.Mem.head _)))) ?_
  refine am_ifne (tgt := 181) dX3_spell_173 (by decide) (fun c1 => ?_) (fun c1 => ?_)
  · replace h := h.1 c1
    refine am_ldcS (sid := 46) dX3_spell_181 rfl ?_
    exact h
  · replace h := h.2 c1
    refine am_ldcS (sid := 45) dX3_spell_176 rfl ?_
    refine am_goto (tgt := 183) dX3_spell_178 (by decide) ?_
    exact h
theorem bX3_spell_101 {SC : Nat → Nat} {X : mh_X} {d : Nat} {Q : Option am_V → am_W → Prop} {bc bs : Nat} {w : am_W} {j0 : Nat} {x1 : Int} {x3 : Int} {x4 : Int}
    (h : am_M (mh_G X) SC (d + 7) 0 0 mX6_add [.inr (.inr (some (3, 0))), .inr (.inr (some (1000, 40)))] w (fun r w1 => am_A (mh_G X) SC (d + 8) mX3_spell Q 107 [(0, .inr (.inr (some (10, j0)))), (1, .inl x1), (2, .inr (.inr (some (3, 0)))), (3, .inl x3), (4, .inl x4)] (r.toList ++ []) w1 bc bs)) :
    am_A (mh_G X) SC (d + 8) mX3_spell Q 101 [(0, .inr (.inr (some (10, j0)))), (1, .inl x1), (2, .inr (.inr (some (3, 0)))), (3, .inl x3), (4, .inl x4)] [] w bc bs := by
  refine am_aload_n dX3_spell_101 (List.Mem.tail _ (List.Mem.tail _ (List.Mem.head _))) ?_
  refine am_ldcS (sid := 40) dX3_spell_102 rfl ?_
  exact am_callv (d' := d + 7) (kc := 0) (ks := 0) (as := [.inr (.inr (some (1000, 40)))]) dX3_spell_104 wc_X6_add wd_958 wd_947 wd_948 wd_114 ds_X6_add (by decide) (by omega) (Nat.le_of_ble_eq_true rfl) (Nat.zero_le _) (Nat.zero_le _) hc_2 (by decide) rfl rfl h
theorem bX3_spell_183 {SC : Nat → Nat} {X : mh_X} {d : Nat} {Q : Option am_V → am_W → Prop} {bc bs : Nat} {w : am_W} {j0 : Nat} {x1 : Int} {x3 : Int} {js0 : Nat}
    (h : am_M (mh_G X) SC (d + 7) 0 0 mX6_add [.inr (.inr (some (3, 0))), .inr (.inr (some (1000, js0)))] w (fun r w1 => am_A (mh_G X) SC (d + 8) mX3_spell Q 186 [(0, .inr (.inr (some (10, j0)))), (1, .inl x1), (2, .inr (.inr (some (3, 0)))), (3, .inl x3)] (r.toList ++ []) w1 bc bs)) :
    am_A (mh_G X) SC (d + 8) mX3_spell Q 183 [(0, .inr (.inr (some (10, j0)))), (1, .inl x1), (2, .inr (.inr (some (3, 0)))), (3, .inl x3)] [.inr (.inr (some (1000, js0))), .inr (.inr (some (3, 0)))] w bc bs := by
  exact am_callv (d' := d + 7) (kc := 0) (ks := 0) (as := [.inr (.inr (some (1000, js0)))]) dX3_spell_183 wc_X6_add wd_958 wd_947 wd_948 wd_114 ds_X6_add (by decide) (by omega) (Nat.le_of_ble_eq_true rfl) (Nat.zero_le _) (Nat.zero_le _) hc_2 (by decide) rfl rfl h
theorem bX3_spell_107 {SC : Nat → Nat} {X : mh_X} {d : Nat} {Q : Option am_V → am_W → Prop} {bc bs : Nat} {w : am_W} {j0 : Nat} {x1 : Int} {x3 : Int} {x4 : Int}
    (h : (0 ≤ x4 ∧ (x4 < 120 ∧ am_M (mh_G X) SC (d + 7) 0 0 mX6_addNumber [.inr (.inr (some (3, 0))), .inl (w.1 148 j0 x4.toNat)] w (fun r w1 => am_A (mh_G X) SC (d + 8) mX3_spell Q 118 [(0, .inr (.inr (some (10, j0)))), (1, .inl x1), (2, .inr (.inr (some (3, 0)))), (3, .inl x3), (4, .inl x4)] (r.toList ++ []) w1 bc bs)))) :
    am_A (mh_G X) SC (d + 8) mX3_spell Q 107 [(0, .inr (.inr (some (10, j0)))), (1, .inl x1), (2, .inr (.inr (some (3, 0)))), (3, .inl x3), (4, .inl x4)] [] w bc bs := by
  refine am_aload_n dX3_spell_107 (List.Mem.tail _ (List.Mem.tail _ (List.Mem.head _))) ?_
  refine am_aload_n dX3_spell_108 (List.Mem.head _) ?_
  refine am_getf (f := 4) (v := .inr (.inr (some (148, j0)))) dX3_spell_109 hc_4 (by decide) wd_219 (by decide) rfl rfl ?_
  refine am_iload dX3_spell_112 (List.Mem.tail _ (List.Mem.tail _ (List.Mem.tail _ (List.Mem.tail _ (List.Mem.head _))))) ?_
  have o1 := h.1
  replace h := h.2
  have o2 := h.1
  replace h := h.2
  refine am_iaload (v := (w.1 148 j0 x4.toNat)) dX3_spell_114 (by decide) rfl o1 o2 rfl ?_
  exact am_callv (d' := d + 7) (kc := 0) (ks := 0) (as := [.inl (w.1 148 j0 x4.toNat)]) dX3_spell_115 wc_X6_addNumber wd_965 wd_966 wd_967 wd_114 ds_X6_addNumber (by decide) (by omega) (Nat.le_of_ble_eq_true rfl) (Nat.zero_le _) (Nat.zero_le _) hc_2 (by decide) rfl rfl h
theorem bX3_spell_118 {SC : Nat → Nat} {X : mh_X} {d : Nat} {Q : Option am_V → am_W → Prop} {bc bs : Nat} {w : am_W} {j0 : Nat} {x1 : Int} {x3 : Int} {x4 : Int}
    (h : am_M (mh_G X) SC (d + 7) 0 0 mX6_add [.inr (.inr (some (3, 0))), .inr (.inr (some (1000, 40)))] w (fun r w1 => am_A (mh_G X) SC (d + 8) mX3_spell Q 124 [(0, .inr (.inr (some (10, j0)))), (1, .inl x1), (2, .inr (.inr (some (3, 0)))), (3, .inl x3), (4, .inl x4)] (r.toList ++ []) w1 bc bs)) :
    am_A (mh_G X) SC (d + 8) mX3_spell Q 118 [(0, .inr (.inr (some (10, j0)))), (1, .inl x1), (2, .inr (.inr (some (3, 0)))), (3, .inl x3), (4, .inl x4)] [] w bc bs := by
  refine am_aload_n dX3_spell_118 (List.Mem.tail _ (List.Mem.tail _ (List.Mem.head _))) ?_
  refine am_ldcS (sid := 40) dX3_spell_119 rfl ?_
  exact am_callv (d' := d + 7) (kc := 0) (ks := 0) (as := [.inr (.inr (some (1000, 40)))]) dX3_spell_121 wc_X6_add wd_958 wd_947 wd_948 wd_114 ds_X6_add (by decide) (by omega) (Nat.le_of_ble_eq_true rfl) (Nat.zero_le _) (Nat.zero_le _) hc_2 (by decide) rfl rfl h
theorem bX3_spell_124 {SC : Nat → Nat} {X : mh_X} {d : Nat} {Q : Option am_V → am_W → Prop} {bc bs : Nat} {w : am_W} {j0 : Nat} {x1 : Int} {x3 : Int} {x4 : Int}
    (h : (0 ≤ x4 ∧ (x4 < 120 ∧ am_M (mh_G X) SC (d + 7) 0 0 mX6_addWord [.inr (.inr (some (3, 0))), .inl (w.1 149 j0 x4.toNat)] w (fun r w1 => am_A (mh_G X) SC (d + 8) mX3_spell Q 135 [(0, .inr (.inr (some (10, j0)))), (1, .inl x1), (2, .inr (.inr (some (3, 0)))), (3, .inl x3), (4, .inl x4)] (r.toList ++ []) w1 bc bs)))) :
    am_A (mh_G X) SC (d + 8) mX3_spell Q 124 [(0, .inr (.inr (some (10, j0)))), (1, .inl x1), (2, .inr (.inr (some (3, 0)))), (3, .inl x3), (4, .inl x4)] [] w bc bs := by
  refine am_aload_n dX3_spell_124 (List.Mem.tail _ (List.Mem.tail _ (List.Mem.head _))) ?_
  refine am_aload_n dX3_spell_125 (List.Mem.head _) ?_
  refine am_getf (f := 5) (v := .inr (.inr (some (149, j0)))) dX3_spell_126 hc_4 (by decide) wd_220 (by decide) rfl rfl ?_
  refine am_iload dX3_spell_129 (List.Mem.tail _ (List.Mem.tail _ (List.Mem.tail _ (List.Mem.tail _ (List.Mem.head _))))) ?_
  have o1 := h.1
  replace h := h.2
  have o2 := h.1
  replace h := h.2
  refine am_iaload (v := (w.1 149 j0 x4.toNat)) dX3_spell_131 (by decide) rfl o1 o2 rfl ?_
  exact am_callv (d' := d + 7) (kc := 0) (ks := 0) (as := [.inl (w.1 149 j0 x4.toNat)]) dX3_spell_132 wc_X6_addWord wd_941 wd_942 wd_943 wd_114 ds_X6_addWord (by decide) (by omega) (Nat.le_of_ble_eq_true rfl) (Nat.zero_le _) (Nat.zero_le _) hc_2 (by decide) rfl rfl h
theorem bX3_spell_135 {SC : Nat → Nat} {X : mh_X} {d : Nat} {Q : Option am_V → am_W → Prop} {bc bs : Nat} {w : am_W} {j0 : Nat} {x1 : Int} {x3 : Int} {x4 : Int}
    (h : am_A (mh_G X) SC (d + 8) mX3_spell Q 55 [(0, .inr (.inr (some (10, j0)))), (1, .inl x1), (2, .inr (.inr (some (3, 0)))), (3, .inl (am_w (x3 + 1)))] [] w bc bs) :
    am_A (mh_G X) SC (d + 8) mX3_spell Q 135 [(0, .inr (.inr (some (10, j0)))), (1, .inl x1), (2, .inr (.inr (some (3, 0)))), (3, .inl x3), (4, .inl x4)] [] w bc bs := by
  refine am_iinc (ls' := [(3, .inl (am_w (x3 + 1))), (0, .inr (.inr (some (10, j0)))), (1, .inl x1), (2, .inr (.inr (some (3, 0)))), (4, .inl x4)]) dX3_spell_135 (List.Mem.tail _ (List.Mem.tail _ (List.Mem.tail _ (List.Mem.head _)))) (by decide) rfl ?_
  refine am_goto (tgt := 55) dX3_spell_138 (by decide) ?_
  exact am_sub [1, 2, 3, 0] rfl h
-- MourningHouse$Law.isSameKin(II)Z
theorem dX3_isSameKin_0 : decode mX3_isSameKin.2.1 0 = .ok (.aload_n 0, 1) := by decide +kernel
theorem dX3_isSameKin_1 : decode mX3_isSameKin.2.1 1 = .ok (.getfield 11, 3) := by decide +kernel
theorem dX3_isSameKin_4 : decode mX3_isSameKin.2.1 4 = .ok (.iload_n 1, 1) := by decide +kernel
theorem dX3_isSameKin_5 : decode mX3_isSameKin.2.1 5 = .ok (.iaload, 1) := by decide +kernel
theorem dX3_isSameKin_6 : decode mX3_isSameKin.2.1 6 = .ok (.aload_n 0, 1) := by decide +kernel
theorem dX3_isSameKin_7 : decode mX3_isSameKin.2.1 7 = .ok (.getfield 11, 3) := by decide +kernel
theorem dX3_isSameKin_10 : decode mX3_isSameKin.2.1 10 = .ok (.iload_n 2, 1) := by decide +kernel
theorem dX3_isSameKin_11 : decode mX3_isSameKin.2.1 11 = .ok (.iaload, 1) := by decide +kernel
theorem dX3_isSameKin_12 : decode mX3_isSameKin.2.1 12 = .ok (.if_icmp .ne 7, 3) := by decide +kernel
theorem dX3_isSameKin_15 : decode mX3_isSameKin.2.1 15 = .ok (.iconst 1, 1) := by decide +kernel
theorem dX3_isSameKin_16 : decode mX3_isSameKin.2.1 16 = .ok (.goto 4, 3) := by decide +kernel
theorem dX3_isSameKin_19 : decode mX3_isSameKin.2.1 19 = .ok (.iconst 0, 1) := by decide +kernel
theorem dX3_isSameKin_20 : decode mX3_isSameKin.2.1 20 = .ok (.istore_n 3, 1) := by decide +kernel
theorem dX3_isSameKin_21 : decode mX3_isSameKin.2.1 21 = .ok (.iconst 0, 1) := by decide +kernel
theorem dX3_isSameKin_22 : decode mX3_isSameKin.2.1 22 = .ok (.istore 4, 2) := by decide +kernel
theorem dX3_isSameKin_24 : decode mX3_isSameKin.2.1 24 = .ok (.iload_n 3, 1) := by decide +kernel
theorem dX3_isSameKin_25 : decode mX3_isSameKin.2.1 25 = .ok (.ifCond .eq 43, 3) := by decide +kernel
theorem dX3_isSameKin_28 : decode mX3_isSameKin.2.1 28 = .ok (.iload 4, 2) := by decide +kernel
theorem dX3_isSameKin_30 : decode mX3_isSameKin.2.1 30 = .ok (.aload_n 0, 1) := by decide +kernel
theorem dX3_isSameKin_31 : decode mX3_isSameKin.2.1 31 = .ok (.getfield 11, 3) := by decide +kernel
theorem dX3_isSameKin_34 : decode mX3_isSameKin.2.1 34 = .ok (.iload_n 1, 1) := by decide +kernel
theorem dX3_isSameKin_35 : decode mX3_isSameKin.2.1 35 = .ok (.iaload, 1) := by decide +kernel
theorem dX3_isSameKin_36 : decode mX3_isSameKin.2.1 36 = .ok (.if_icmp .ge 32, 3) := by decide +kernel
theorem dX3_isSameKin_39 : decode mX3_isSameKin.2.1 39 = .ok (.aload_n 0, 1) := by decide +kernel
theorem dX3_isSameKin_40 : decode mX3_isSameKin.2.1 40 = .ok (.iload_n 1, 1) := by decide +kernel
theorem dX3_isSameKin_41 : decode mX3_isSameKin.2.1 41 = .ok (.iload 4, 2) := by decide +kernel
theorem dX3_isSameKin_43 : decode mX3_isSameKin.2.1 43 = .ok (.invokevirtual 97, 3) := by decide +kernel
theorem dX3_isSameKin_46 : decode mX3_isSameKin.2.1 46 = .ok (.aload_n 0, 1) := by decide +kernel
theorem dX3_isSameKin_47 : decode mX3_isSameKin.2.1 47 = .ok (.iload_n 2, 1) := by decide +kernel
theorem dX3_isSameKin_48 : decode mX3_isSameKin.2.1 48 = .ok (.iload 4, 2) := by decide +kernel
theorem dX3_isSameKin_50 : decode mX3_isSameKin.2.1 50 = .ok (.invokevirtual 97, 3) := by decide +kernel
theorem dX3_isSameKin_53 : decode mX3_isSameKin.2.1 53 = .ok (.if_icmp .ne 7, 3) := by decide +kernel
theorem dX3_isSameKin_56 : decode mX3_isSameKin.2.1 56 = .ok (.iconst 1, 1) := by decide +kernel
theorem dX3_isSameKin_57 : decode mX3_isSameKin.2.1 57 = .ok (.goto 4, 3) := by decide +kernel
theorem dX3_isSameKin_60 : decode mX3_isSameKin.2.1 60 = .ok (.iconst 0, 1) := by decide +kernel
theorem dX3_isSameKin_61 : decode mX3_isSameKin.2.1 61 = .ok (.istore_n 3, 1) := by decide +kernel
theorem dX3_isSameKin_62 : decode mX3_isSameKin.2.1 62 = .ok (.iinc 4 1, 3) := by decide +kernel
theorem dX3_isSameKin_65 : decode mX3_isSameKin.2.1 65 = .ok (.goto (-41), 3) := by decide +kernel
theorem dX3_isSameKin_68 : decode mX3_isSameKin.2.1 68 = .ok (.iload_n 3, 1) := by decide +kernel
theorem dX3_isSameKin_69 : decode mX3_isSameKin.2.1 69 = .ok (.ireturn, 1) := by decide +kernel
theorem bX3_isSameKin_0 {SC : Nat → Nat} {X : mh_X} {d : Nat} {Q : Option am_V → am_W → Prop} {bc bs : Nat} {w : am_W} {j0 : Nat} {x1 : Int} {x2 : Int}
    (h : (0 ≤ x1 ∧ (x1 < 30 ∧ (0 ≤ x2 ∧ (x2 < 30 ∧ ((¬ (w.1 144 j0 x1.toNat) = (w.1 144 j0 x2.toNat) → am_A (mh_G X) SC (d + 2) mX3_isSameKin Q 20 [(0, .inr (.inr (some (10, j0)))), (1, .inl x1), (2, .inl x2)] [.inl 0] w bc bs) ∧ ((w.1 144 j0 x1.toNat) = (w.1 144 j0 x2.toNat) → am_A (mh_G X) SC (d + 2) mX3_isSameKin Q 20 [(0, .inr (.inr (some (10, j0)))), (1, .inl x1), (2, .inl x2)] [.inl 1] w bc bs))))))) :
    am_A (mh_G X) SC (d + 2) mX3_isSameKin Q 0 [(0, .inr (.inr (some (10, j0)))), (1, .inl x1), (2, .inl x2)] [] w bc bs := by
  refine am_aload_n dX3_isSameKin_0 (List.Mem.head _) ?_
  refine am_getf (f := 0) (v := .inr (.inr (some (144, j0)))) dX3_isSameKin_1 hc_4 (by decide) wd_215 (by decide) rfl rfl ?_
  refine am_iload_n dX3_isSameKin_4 (List.Mem.tail _ (List.Mem.head _)) ?_
  have o1 := h.1
  replace h := h.2
  have o2 := h.1
  replace h := h.2
  refine am_iaload (v := (w.1 144 j0 x1.toNat)) dX3_isSameKin_5 (by decide) rfl o1 o2 rfl ?_
  refine am_aload_n dX3_isSameKin_6 (List.Mem.head _) ?_
  refine am_getf (f := 0) (v := .inr (.inr (some (144, j0)))) dX3_isSameKin_7 hc_4 (by decide) wd_215 (by decide) rfl rfl ?_
  refine am_iload_n dX3_isSameKin_10 (List.Mem.tail _ (List.Mem.tail _ (List.Mem.head _))) ?_
  have o3 := h.1
  replace h := h.2
  have o4 := h.1
  replace h := h.2
  refine am_iaload (v := (w.1 144 j0 x2.toNat)) dX3_isSameKin_11 (by decide) rfl o3 o4 rfl ?_
  refine am_icmpne (tgt := 19) dX3_isSameKin_12 (by decide) (fun c5 => ?_) (fun c5 => ?_)
  · replace h := h.1 c5
    refine am_iconst dX3_isSameKin_19 (by unfold am_rg; omega) ?_
    exact h
  · replace h := h.2 c5
    refine am_iconst dX3_isSameKin_15 (by unfold am_rg; omega) ?_
    refine am_goto (tgt := 20) dX3_isSameKin_16 (by decide) ?_
    exact h
theorem bX3_isSameKin_20 {SC : Nat → Nat} {X : mh_X} {d : Nat} {Q : Option am_V → am_W → Prop} {bc bs : Nat} {w : am_W} {j0 : Nat} {x1 : Int} {x2 : Int} {xs0 : Int}
    (h : am_A (mh_G X) SC (d + 2) mX3_isSameKin Q 24 [(0, .inr (.inr (some (10, j0)))), (1, .inl x1), (2, .inl x2), (3, .inl xs0), (4, .inl 0)] [] w bc bs) :
    am_A (mh_G X) SC (d + 2) mX3_isSameKin Q 20 [(0, .inr (.inr (some (10, j0)))), (1, .inl x1), (2, .inl x2)] [.inl xs0] w bc bs := by
  refine am_istore_n (ls' := [(3, .inl xs0), (0, .inr (.inr (some (10, j0)))), (1, .inl x1), (2, .inl x2)]) dX3_isSameKin_20 (by decide) rfl ?_
  refine am_iconst dX3_isSameKin_21 (by unfold am_rg; omega) ?_
  refine am_istore (ls' := [(4, .inl 0), (3, .inl xs0), (0, .inr (.inr (some (10, j0)))), (1, .inl x1), (2, .inl x2)]) dX3_isSameKin_22 (by decide) rfl ?_
  exact am_sub [2, 3, 4, 1, 0] rfl h
theorem bX3_isSameKin_24 {SC : Nat → Nat} {X : mh_X} {d : Nat} {Q : Option am_V → am_W → Prop} {bc bs : Nat} {w : am_W} {j0 : Nat} {x1 : Int} {x2 : Int} {x3 : Int} {x4 : Int}
    (h : ((x3 = 0 → ((x3 = 0 ∨ x3 = 1) ∧ Q (some (.inl x3)) w)) ∧ (¬ x3 = 0 → (0 ≤ x1 ∧ (x1 < 30 ∧ (((w.1 144 j0 x1.toNat) ≤ x4 → ((x3 = 0 ∨ x3 = 1) ∧ Q (some (.inl x3)) w)) ∧ (¬ (w.1 144 j0 x1.toNat) ≤ x4 → (0 ≤ (am_w ((am_w (x1 * 4)) + x4)) ∧ ((am_w ((am_w (x1 * 4)) + x4)) < 120 ∧ (0 ≤ (am_w ((am_w (x2 * 4)) + x4)) ∧ ((am_w ((am_w (x2 * 4)) + x4)) < 120 ∧ ((¬ (w.1 145 j0 (am_w ((am_w (x1 * 4)) + x4)).toNat) = (w.1 145 j0 (am_w ((am_w (x2 * 4)) + x4)).toNat) → am_A (mh_G X) SC (d + 2) mX3_isSameKin Q 61 [(0, .inr (.inr (some (10, j0)))), (1, .inl x1), (2, .inl x2), (4, .inl x4)] [.inl 0] w bc bs) ∧ ((w.1 145 j0 (am_w ((am_w (x1 * 4)) + x4)).toNat) = (w.1 145 j0 (am_w ((am_w (x2 * 4)) + x4)).toNat) → am_A (mh_G X) SC (d + 2) mX3_isSameKin Q 61 [(0, .inr (.inr (some (10, j0)))), (1, .inl x1), (2, .inl x2), (4, .inl x4)] [.inl 1] w bc bs))))))))))))) :
    am_A (mh_G X) SC (d + 2) mX3_isSameKin Q 24 [(0, .inr (.inr (some (10, j0)))), (1, .inl x1), (2, .inl x2), (3, .inl x3), (4, .inl x4)] [] w bc bs := by
  refine am_iload_n dX3_isSameKin_24 (List.Mem.tail _ (List.Mem.tail _ (List.Mem.tail _ (List.Mem.head _)))) ?_
  refine am_ifeq (tgt := 68) dX3_isSameKin_25 (by decide) (fun c1 => ?_) (fun c1 => ?_)
  · replace h := h.1 c1
    refine am_iload_n dX3_isSameKin_68 (List.Mem.tail _ (List.Mem.tail _ (List.Mem.tail _ (List.Mem.head _)))) ?_
    have o2 := h.1
    replace h := h.2
    exact am_ret (r := some (.inl x3)) dX3_isSameKin_69 (Or.inr (Or.inl ⟨rfl, o2⟩)) rfl h
  · replace h := h.2 c1
    refine am_iload dX3_isSameKin_28 (List.Mem.tail _ (List.Mem.tail _ (List.Mem.tail _ (List.Mem.tail _ (List.Mem.head _))))) ?_
    refine am_aload_n dX3_isSameKin_30 (List.Mem.head _) ?_
    refine am_getf (f := 0) (v := .inr (.inr (some (144, j0)))) dX3_isSameKin_31 hc_4 (by decide) wd_215 (by decide) rfl rfl ?_
    refine am_iload_n dX3_isSameKin_34 (List.Mem.tail _ (List.Mem.head _)) ?_
    have o3 := h.1
    replace h := h.2
    have o4 := h.1
    replace h := h.2
    refine am_iaload (v := (w.1 144 j0 x1.toNat)) dX3_isSameKin_35 (by decide) rfl o3 o4 rfl ?_
    refine am_icmpge (tgt := 68) dX3_isSameKin_36 (by decide) (fun c5 => ?_) (fun c5 => ?_)
    · replace h := h.1 c5
      refine am_iload_n dX3_isSameKin_68 (List.Mem.tail _ (List.Mem.tail _ (List.Mem.tail _ (List.Mem.head _)))) ?_
      have o6 := h.1
      replace h := h.2
      exact am_ret (r := some (.inl x3)) dX3_isSameKin_69 (Or.inr (Or.inl ⟨rfl, o6⟩)) rfl h
    · replace h := h.2 c5
      refine am_aload_n dX3_isSameKin_39 (List.Mem.head _) ?_
      refine am_iload_n dX3_isSameKin_40 (List.Mem.tail _ (List.Mem.head _)) ?_
      refine am_iload dX3_isSameKin_41 (List.Mem.tail _ (List.Mem.tail _ (List.Mem.tail _ (List.Mem.tail _ (List.Mem.head _))))) ?_
      have o7 := h.1
      replace h := h.2
      have o8 := h.1
      replace h := h.2
      refine am_callv (d' := d + 1) (kc := 0) (ks := 0) (as := [.inl x1, .inl x4]) dX3_isSameKin_43 wc_X3_kinWord wd_959 wd_960 wd_961 wd_116 ds_X3_kinWord (by decide) (by omega) (Nat.le_of_ble_eq_true rfl) (Nat.zero_le _) (Nat.zero_le _) hc_4 (by decide) rfl rfl (sX3_kinWord (d := d + 0) (j0 := j0) (x1 := x1) (x2 := x4) o7 o8 ?_)
      show am_A (mh_G X) SC (d + 2) mX3_isSameKin Q 46 [(0, .inr (.inr (some (10, j0)))), (1, .inl x1), (2, .inl x2), (3, .inl x3), (4, .inl x4)] [.inl (w.1 145 j0 (am_w ((am_w (x1 * 4)) + x4)).toNat)] w bc bs
      refine am_aload_n dX3_isSameKin_46 (List.Mem.head _) ?_
      refine am_iload_n dX3_isSameKin_47 (List.Mem.tail _ (List.Mem.tail _ (List.Mem.head _))) ?_
      refine am_iload dX3_isSameKin_48 (List.Mem.tail _ (List.Mem.tail _ (List.Mem.tail _ (List.Mem.tail _ (List.Mem.head _))))) ?_
      have o9 := h.1
      replace h := h.2
      have o10 := h.1
      replace h := h.2
      refine am_callv (d' := d + 1) (kc := 0) (ks := 0) (as := [.inl x2, .inl x4]) dX3_isSameKin_50 wc_X3_kinWord wd_959 wd_960 wd_961 wd_116 ds_X3_kinWord (by decide) (by omega) (Nat.le_of_ble_eq_true rfl) (Nat.zero_le _) (Nat.zero_le _) hc_4 (by decide) rfl rfl (sX3_kinWord (d := d + 0) (j0 := j0) (x1 := x2) (x2 := x4) o9 o10 ?_)
      show am_A (mh_G X) SC (d + 2) mX3_isSameKin Q 53 [(0, .inr (.inr (some (10, j0)))), (1, .inl x1), (2, .inl x2), (3, .inl x3), (4, .inl x4)] [.inl (w.1 145 j0 (am_w ((am_w (x2 * 4)) + x4)).toNat), .inl (w.1 145 j0 (am_w ((am_w (x1 * 4)) + x4)).toNat)] w bc bs
      refine am_icmpne (tgt := 60) dX3_isSameKin_53 (by decide) (fun c11 => ?_) (fun c11 => ?_)
      · replace h := h.1 c11
        refine am_iconst dX3_isSameKin_60 (by unfold am_rg; omega) ?_
        exact am_sub [0, 1, 2, 4] rfl h
      · replace h := h.2 c11
        refine am_iconst dX3_isSameKin_56 (by unfold am_rg; omega) ?_
        refine am_goto (tgt := 61) dX3_isSameKin_57 (by decide) ?_
        exact am_sub [0, 1, 2, 4] rfl h
theorem bX3_isSameKin_61 {SC : Nat → Nat} {X : mh_X} {d : Nat} {Q : Option am_V → am_W → Prop} {bc bs : Nat} {w : am_W} {j0 : Nat} {x1 : Int} {x2 : Int} {x4 : Int} {xs0 : Int}
    (h : am_A (mh_G X) SC (d + 2) mX3_isSameKin Q 24 [(0, .inr (.inr (some (10, j0)))), (1, .inl x1), (2, .inl x2), (3, .inl xs0), (4, .inl (am_w (x4 + 1)))] [] w bc bs) :
    am_A (mh_G X) SC (d + 2) mX3_isSameKin Q 61 [(0, .inr (.inr (some (10, j0)))), (1, .inl x1), (2, .inl x2), (4, .inl x4)] [.inl xs0] w bc bs := by
  refine am_istore_n (ls' := [(3, .inl xs0), (0, .inr (.inr (some (10, j0)))), (1, .inl x1), (2, .inl x2), (4, .inl x4)]) dX3_isSameKin_61 (by decide) rfl ?_
  refine am_iinc (ls' := [(4, .inl (am_w (x4 + 1))), (3, .inl xs0), (0, .inr (.inr (some (10, j0)))), (1, .inl x1), (2, .inl x2)]) dX3_isSameKin_62 (List.Mem.tail _ (List.Mem.tail _ (List.Mem.tail _ (List.Mem.tail _ (List.Mem.head _))))) (by decide) rfl ?_
  refine am_goto (tgt := 24) dX3_isSameKin_65 (by decide) ?_
  exact am_sub [2, 3, 4, 1, 0] rfl h
-- MourningHouse$Law.isSameOtherwise(II)Z
theorem dX3_isSameOtherwise_0 : decode mX3_isSameOtherwise.2.1 0 = .ok (.aload_n 0, 1) := by decide +kernel
theorem dX3_isSameOtherwise_1 : decode mX3_isSameOtherwise.2.1 1 = .ok (.getfield 18, 3) := by decide +kernel
theorem dX3_isSameOtherwise_4 : decode mX3_isSameOtherwise.2.1 4 = .ok (.iload_n 1, 1) := by decide +kernel
theorem dX3_isSameOtherwise_5 : decode mX3_isSameOtherwise.2.1 5 = .ok (.iaload, 1) := by decide +kernel
theorem dX3_isSameOtherwise_6 : decode mX3_isSameOtherwise.2.1 6 = .ok (.aload_n 0, 1) := by decide +kernel
theorem dX3_isSameOtherwise_7 : decode mX3_isSameOtherwise.2.1 7 = .ok (.getfield 18, 3) := by decide +kernel
theorem dX3_isSameOtherwise_10 : decode mX3_isSameOtherwise.2.1 10 = .ok (.iload_n 2, 1) := by decide +kernel
theorem dX3_isSameOtherwise_11 : decode mX3_isSameOtherwise.2.1 11 = .ok (.iaload, 1) := by decide +kernel
theorem dX3_isSameOtherwise_12 : decode mX3_isSameOtherwise.2.1 12 = .ok (.if_icmp .ne 22, 3) := by decide +kernel
theorem dX3_isSameOtherwise_15 : decode mX3_isSameOtherwise.2.1 15 = .ok (.aload_n 0, 1) := by decide +kernel
theorem dX3_isSameOtherwise_16 : decode mX3_isSameOtherwise.2.1 16 = .ok (.getfield 30, 3) := by decide +kernel
theorem dX3_isSameOtherwise_19 : decode mX3_isSameOtherwise.2.1 19 = .ok (.iload_n 1, 1) := by decide +kernel
theorem dX3_isSameOtherwise_20 : decode mX3_isSameOtherwise.2.1 20 = .ok (.iaload, 1) := by decide +kernel
theorem dX3_isSameOtherwise_21 : decode mX3_isSameOtherwise.2.1 21 = .ok (.aload_n 0, 1) := by decide +kernel
theorem dX3_isSameOtherwise_22 : decode mX3_isSameOtherwise.2.1 22 = .ok (.getfield 30, 3) := by decide +kernel
theorem dX3_isSameOtherwise_25 : decode mX3_isSameOtherwise.2.1 25 = .ok (.iload_n 2, 1) := by decide +kernel
theorem dX3_isSameOtherwise_26 : decode mX3_isSameOtherwise.2.1 26 = .ok (.iaload, 1) := by decide +kernel
theorem dX3_isSameOtherwise_27 : decode mX3_isSameOtherwise.2.1 27 = .ok (.if_icmp .ne 7, 3) := by decide +kernel
theorem dX3_isSameOtherwise_30 : decode mX3_isSameOtherwise.2.1 30 = .ok (.iconst 1, 1) := by decide +kernel
theorem dX3_isSameOtherwise_31 : decode mX3_isSameOtherwise.2.1 31 = .ok (.goto 4, 3) := by decide +kernel
theorem dX3_isSameOtherwise_34 : decode mX3_isSameOtherwise.2.1 34 = .ok (.iconst 0, 1) := by decide +kernel
theorem dX3_isSameOtherwise_35 : decode mX3_isSameOtherwise.2.1 35 = .ok (.istore_n 3, 1) := by decide +kernel
theorem dX3_isSameOtherwise_36 : decode mX3_isSameOtherwise.2.1 36 = .ok (.iconst 0, 1) := by decide +kernel
theorem dX3_isSameOtherwise_37 : decode mX3_isSameOtherwise.2.1 37 = .ok (.istore 4, 2) := by decide +kernel
theorem dX3_isSameOtherwise_39 : decode mX3_isSameOtherwise.2.1 39 = .ok (.iload_n 3, 1) := by decide +kernel
theorem dX3_isSameOtherwise_40 : decode mX3_isSameOtherwise.2.1 40 = .ok (.ifCond .eq 93, 3) := by decide +kernel
theorem dX3_isSameOtherwise_43 : decode mX3_isSameOtherwise.2.1 43 = .ok (.iload 4, 2) := by decide +kernel
theorem dX3_isSameOtherwise_45 : decode mX3_isSameOtherwise.2.1 45 = .ok (.aload_n 0, 1) := by decide +kernel
theorem dX3_isSameOtherwise_46 : decode mX3_isSameOtherwise.2.1 46 = .ok (.getfield 18, 3) := by decide +kernel
theorem dX3_isSameOtherwise_49 : decode mX3_isSameOtherwise.2.1 49 = .ok (.iload_n 1, 1) := by decide +kernel
theorem dX3_isSameOtherwise_50 : decode mX3_isSameOtherwise.2.1 50 = .ok (.iaload, 1) := by decide +kernel
theorem dX3_isSameOtherwise_51 : decode mX3_isSameOtherwise.2.1 51 = .ok (.if_icmp .ge 82, 3) := by decide +kernel
theorem dX3_isSameOtherwise_54 : decode mX3_isSameOtherwise.2.1 54 = .ok (.iload_n 1, 1) := by decide +kernel
theorem dX3_isSameOtherwise_55 : decode mX3_isSameOtherwise.2.1 55 = .ok (.iconst 4, 1) := by decide +kernel
theorem dX3_isSameOtherwise_56 : decode mX3_isSameOtherwise.2.1 56 = .ok (.imul, 1) := by decide +kernel
theorem dX3_isSameOtherwise_57 : decode mX3_isSameOtherwise.2.1 57 = .ok (.iload 4, 2) := by decide +kernel
theorem dX3_isSameOtherwise_59 : decode mX3_isSameOtherwise.2.1 59 = .ok (.iadd, 1) := by decide +kernel
theorem dX3_isSameOtherwise_60 : decode mX3_isSameOtherwise.2.1 60 = .ok (.istore 5, 2) := by decide +kernel
theorem dX3_isSameOtherwise_62 : decode mX3_isSameOtherwise.2.1 62 = .ok (.iload_n 2, 1) := by decide +kernel
theorem dX3_isSameOtherwise_63 : decode mX3_isSameOtherwise.2.1 63 = .ok (.iconst 4, 1) := by decide +kernel
theorem dX3_isSameOtherwise_64 : decode mX3_isSameOtherwise.2.1 64 = .ok (.imul, 1) := by decide +kernel
theorem dX3_isSameOtherwise_65 : decode mX3_isSameOtherwise.2.1 65 = .ok (.iload 4, 2) := by decide +kernel
theorem dX3_isSameOtherwise_67 : decode mX3_isSameOtherwise.2.1 67 = .ok (.iadd, 1) := by decide +kernel
theorem dX3_isSameOtherwise_68 : decode mX3_isSameOtherwise.2.1 68 = .ok (.istore 6, 2) := by decide +kernel
theorem dX3_isSameOtherwise_70 : decode mX3_isSameOtherwise.2.1 70 = .ok (.aload_n 0, 1) := by decide +kernel
theorem dX3_isSameOtherwise_71 : decode mX3_isSameOtherwise.2.1 71 = .ok (.getfield 21, 3) := by decide +kernel
theorem dX3_isSameOtherwise_74 : decode mX3_isSameOtherwise.2.1 74 = .ok (.iload 5, 2) := by decide +kernel
theorem dX3_isSameOtherwise_76 : decode mX3_isSameOtherwise.2.1 76 = .ok (.iaload, 1) := by decide +kernel
theorem dX3_isSameOtherwise_77 : decode mX3_isSameOtherwise.2.1 77 = .ok (.aload_n 0, 1) := by decide +kernel
theorem dX3_isSameOtherwise_78 : decode mX3_isSameOtherwise.2.1 78 = .ok (.getfield 21, 3) := by decide +kernel
theorem dX3_isSameOtherwise_81 : decode mX3_isSameOtherwise.2.1 81 = .ok (.iload 6, 2) := by decide +kernel
theorem dX3_isSameOtherwise_83 : decode mX3_isSameOtherwise.2.1 83 = .ok (.iaload, 1) := by decide +kernel
theorem dX3_isSameOtherwise_84 : decode mX3_isSameOtherwise.2.1 84 = .ok (.if_icmp .ne 41, 3) := by decide +kernel
theorem dX3_isSameOtherwise_87 : decode mX3_isSameOtherwise.2.1 87 = .ok (.aload_n 0, 1) := by decide +kernel
theorem dX3_isSameOtherwise_88 : decode mX3_isSameOtherwise.2.1 88 = .ok (.getfield 24, 3) := by decide +kernel
theorem dX3_isSameOtherwise_91 : decode mX3_isSameOtherwise.2.1 91 = .ok (.iload 5, 2) := by decide +kernel
theorem dX3_isSameOtherwise_93 : decode mX3_isSameOtherwise.2.1 93 = .ok (.iaload, 1) := by decide +kernel
theorem dX3_isSameOtherwise_94 : decode mX3_isSameOtherwise.2.1 94 = .ok (.aload_n 0, 1) := by decide +kernel
theorem dX3_isSameOtherwise_95 : decode mX3_isSameOtherwise.2.1 95 = .ok (.getfield 24, 3) := by decide +kernel
theorem dX3_isSameOtherwise_98 : decode mX3_isSameOtherwise.2.1 98 = .ok (.iload 6, 2) := by decide +kernel
theorem dX3_isSameOtherwise_100 : decode mX3_isSameOtherwise.2.1 100 = .ok (.iaload, 1) := by decide +kernel
theorem dX3_isSameOtherwise_101 : decode mX3_isSameOtherwise.2.1 101 = .ok (.if_icmp .ne 24, 3) := by decide +kernel
theorem dX3_isSameOtherwise_104 : decode mX3_isSameOtherwise.2.1 104 = .ok (.aload_n 0, 1) := by decide +kernel
theorem dX3_isSameOtherwise_105 : decode mX3_isSameOtherwise.2.1 105 = .ok (.getfield 27, 3) := by decide +kernel
theorem dX3_isSameOtherwise_108 : decode mX3_isSameOtherwise.2.1 108 = .ok (.iload 5, 2) := by decide +kernel
theorem dX3_isSameOtherwise_110 : decode mX3_isSameOtherwise.2.1 110 = .ok (.iaload, 1) := by decide +kernel
theorem dX3_isSameOtherwise_111 : decode mX3_isSameOtherwise.2.1 111 = .ok (.aload_n 0, 1) := by decide +kernel
theorem dX3_isSameOtherwise_112 : decode mX3_isSameOtherwise.2.1 112 = .ok (.getfield 27, 3) := by decide +kernel
theorem dX3_isSameOtherwise_115 : decode mX3_isSameOtherwise.2.1 115 = .ok (.iload 6, 2) := by decide +kernel
theorem dX3_isSameOtherwise_117 : decode mX3_isSameOtherwise.2.1 117 = .ok (.iaload, 1) := by decide +kernel
theorem dX3_isSameOtherwise_118 : decode mX3_isSameOtherwise.2.1 118 = .ok (.if_icmp .ne 7, 3) := by decide +kernel
theorem dX3_isSameOtherwise_121 : decode mX3_isSameOtherwise.2.1 121 = .ok (.iconst 1, 1) := by decide +kernel
theorem dX3_isSameOtherwise_122 : decode mX3_isSameOtherwise.2.1 122 = .ok (.goto 4, 3) := by decide +kernel
theorem dX3_isSameOtherwise_125 : decode mX3_isSameOtherwise.2.1 125 = .ok (.iconst 0, 1) := by decide +kernel
theorem dX3_isSameOtherwise_126 : decode mX3_isSameOtherwise.2.1 126 = .ok (.istore_n 3, 1) := by decide +kernel
theorem dX3_isSameOtherwise_127 : decode mX3_isSameOtherwise.2.1 127 = .ok (.iinc 4 1, 3) := by decide +kernel
theorem dX3_isSameOtherwise_130 : decode mX3_isSameOtherwise.2.1 130 = .ok (.goto (-91), 3) := by decide +kernel
theorem dX3_isSameOtherwise_133 : decode mX3_isSameOtherwise.2.1 133 = .ok (.iload_n 3, 1) := by decide +kernel
theorem dX3_isSameOtherwise_134 : decode mX3_isSameOtherwise.2.1 134 = .ok (.ireturn, 1) := by decide +kernel
theorem bX3_isSameOtherwise_0 {SC : Nat → Nat} {X : mh_X} {d : Nat} {Q : Option am_V → am_W → Prop} {bc bs : Nat} {w : am_W} {j0 : Nat} {x1 : Int} {x2 : Int}
    (h : (0 ≤ x1 ∧ (x1 < 30 ∧ (0 ≤ x2 ∧ (x2 < 30 ∧ ((¬ (w.1 146 j0 x1.toNat) = (w.1 146 j0 x2.toNat) → am_A (mh_G X) SC (d + 1) mX3_isSameOtherwise Q 34 [(0, .inr (.inr (some (10, j0)))), (1, .inl x1), (2, .inl x2)] [] w bc bs) ∧ ((w.1 146 j0 x1.toNat) = (w.1 146 j0 x2.toNat) → ((¬ (w.1 150 j0 x1.toNat) = (w.1 150 j0 x2.toNat) → am_A (mh_G X) SC (d + 1) mX3_isSameOtherwise Q 34 [(0, .inr (.inr (some (10, j0)))), (1, .inl x1), (2, .inl x2)] [] w bc bs) ∧ ((w.1 150 j0 x1.toNat) = (w.1 150 j0 x2.toNat) → am_A (mh_G X) SC (d + 1) mX3_isSameOtherwise Q 35 [(0, .inr (.inr (some (10, j0)))), (1, .inl x1), (2, .inl x2)] [.inl 1] w bc bs))))))))) :
    am_A (mh_G X) SC (d + 1) mX3_isSameOtherwise Q 0 [(0, .inr (.inr (some (10, j0)))), (1, .inl x1), (2, .inl x2)] [] w bc bs := by
  refine am_aload_n dX3_isSameOtherwise_0 (List.Mem.head _) ?_
  refine am_getf (f := 2) (v := .inr (.inr (some (146, j0)))) dX3_isSameOtherwise_1 hc_4 (by decide) wd_217 (by decide) rfl rfl ?_
  refine am_iload_n dX3_isSameOtherwise_4 (List.Mem.tail _ (List.Mem.head _)) ?_
  have o1 := h.1
  replace h := h.2
  have o2 := h.1
  replace h := h.2
  refine am_iaload (v := (w.1 146 j0 x1.toNat)) dX3_isSameOtherwise_5 (by decide) rfl o1 o2 rfl ?_
  refine am_aload_n dX3_isSameOtherwise_6 (List.Mem.head _) ?_
  refine am_getf (f := 2) (v := .inr (.inr (some (146, j0)))) dX3_isSameOtherwise_7 hc_4 (by decide) wd_217 (by decide) rfl rfl ?_
  refine am_iload_n dX3_isSameOtherwise_10 (List.Mem.tail _ (List.Mem.tail _ (List.Mem.head _))) ?_
  have o3 := h.1
  replace h := h.2
  have o4 := h.1
  replace h := h.2
  refine am_iaload (v := (w.1 146 j0 x2.toNat)) dX3_isSameOtherwise_11 (by decide) rfl o3 o4 rfl ?_
  refine am_icmpne (tgt := 34) dX3_isSameOtherwise_12 (by decide) (fun c5 => ?_) (fun c5 => ?_)
  · replace h := h.1 c5
    exact h
  · replace h := h.2 c5
    refine am_aload_n dX3_isSameOtherwise_15 (List.Mem.head _) ?_
    refine am_getf (f := 6) (v := .inr (.inr (some (150, j0)))) dX3_isSameOtherwise_16 hc_4 (by decide) wd_221 (by decide) rfl rfl ?_
    refine am_iload_n dX3_isSameOtherwise_19 (List.Mem.tail _ (List.Mem.head _)) ?_
    refine am_iaload (v := (w.1 150 j0 x1.toNat)) dX3_isSameOtherwise_20 (by decide) rfl o1 o2 rfl ?_
    refine am_aload_n dX3_isSameOtherwise_21 (List.Mem.head _) ?_
    refine am_getf (f := 6) (v := .inr (.inr (some (150, j0)))) dX3_isSameOtherwise_22 hc_4 (by decide) wd_221 (by decide) rfl rfl ?_
    refine am_iload_n dX3_isSameOtherwise_25 (List.Mem.tail _ (List.Mem.tail _ (List.Mem.head _))) ?_
    refine am_iaload (v := (w.1 150 j0 x2.toNat)) dX3_isSameOtherwise_26 (by decide) rfl o3 o4 rfl ?_
    refine am_icmpne (tgt := 34) dX3_isSameOtherwise_27 (by decide) (fun c6 => ?_) (fun c6 => ?_)
    · replace h := h.1 c6
      exact h
    · replace h := h.2 c6
      refine am_iconst dX3_isSameOtherwise_30 (by unfold am_rg; omega) ?_
      refine am_goto (tgt := 35) dX3_isSameOtherwise_31 (by decide) ?_
      exact h
theorem bX3_isSameOtherwise_34 {SC : Nat → Nat} {X : mh_X} {d : Nat} {Q : Option am_V → am_W → Prop} {bc bs : Nat} {w : am_W} {j0 : Nat} {x1 : Int} {x2 : Int}
    (h : am_A (mh_G X) SC (d + 1) mX3_isSameOtherwise Q 35 [(0, .inr (.inr (some (10, j0)))), (1, .inl x1), (2, .inl x2)] [.inl 0] w bc bs) :
    am_A (mh_G X) SC (d + 1) mX3_isSameOtherwise Q 34 [(0, .inr (.inr (some (10, j0)))), (1, .inl x1), (2, .inl x2)] [] w bc bs := by
  refine am_iconst dX3_isSameOtherwise_34 (by unfold am_rg; omega) ?_
  exact h
theorem bX3_isSameOtherwise_35 {SC : Nat → Nat} {X : mh_X} {d : Nat} {Q : Option am_V → am_W → Prop} {bc bs : Nat} {w : am_W} {j0 : Nat} {x1 : Int} {x2 : Int} {xs0 : Int}
    (h : am_A (mh_G X) SC (d + 1) mX3_isSameOtherwise Q 39 [(0, .inr (.inr (some (10, j0)))), (1, .inl x1), (2, .inl x2), (3, .inl xs0), (4, .inl 0)] [] w bc bs) :
    am_A (mh_G X) SC (d + 1) mX3_isSameOtherwise Q 35 [(0, .inr (.inr (some (10, j0)))), (1, .inl x1), (2, .inl x2)] [.inl xs0] w bc bs := by
  refine am_istore_n (ls' := [(3, .inl xs0), (0, .inr (.inr (some (10, j0)))), (1, .inl x1), (2, .inl x2)]) dX3_isSameOtherwise_35 (by decide) rfl ?_
  refine am_iconst dX3_isSameOtherwise_36 (by unfold am_rg; omega) ?_
  refine am_istore (ls' := [(4, .inl 0), (3, .inl xs0), (0, .inr (.inr (some (10, j0)))), (1, .inl x1), (2, .inl x2)]) dX3_isSameOtherwise_37 (by decide) rfl ?_
  exact am_sub [2, 3, 4, 1, 0] rfl h
theorem bX3_isSameOtherwise_39 {SC : Nat → Nat} {X : mh_X} {d : Nat} {Q : Option am_V → am_W → Prop} {bc bs : Nat} {w : am_W} {j0 : Nat} {x1 : Int} {x2 : Int} {x3 : Int} {x4 : Int}
    (h : ((x3 = 0 → ((x3 = 0 ∨ x3 = 1) ∧ Q (some (.inl x3)) w)) ∧ (¬ x3 = 0 → (0 ≤ x1 ∧ (x1 < 30 ∧ (((w.1 146 j0 x1.toNat) ≤ x4 → ((x3 = 0 ∨ x3 = 1) ∧ Q (some (.inl x3)) w)) ∧ (¬ (w.1 146 j0 x1.toNat) ≤ x4 → (0 ≤ (am_w ((am_w (x1 * 4)) + x4)) ∧ ((am_w ((am_w (x1 * 4)) + x4)) < 120 ∧ (0 ≤ (am_w ((am_w (x2 * 4)) + x4)) ∧ ((am_w ((am_w (x2 * 4)) + x4)) < 120 ∧ ((¬ (w.1 147 j0 (am_w ((am_w (x1 * 4)) + x4)).toNat) = (w.1 147 j0 (am_w ((am_w (x2 * 4)) + x4)).toNat) → am_A (mh_G X) SC (d + 1) mX3_isSameOtherwise Q 125 [(0, .inr (.inr (some (10, j0)))), (1, .inl x1), (2, .inl x2), (4, .inl x4)] [] w bc bs) ∧ ((w.1 147 j0 (am_w ((am_w (x1 * 4)) + x4)).toNat) = (w.1 147 j0 (am_w ((am_w (x2 * 4)) + x4)).toNat) → ((¬ (w.1 148 j0 (am_w ((am_w (x1 * 4)) + x4)).toNat) = (w.1 148 j0 (am_w ((am_w (x2 * 4)) + x4)).toNat) → am_A (mh_G X) SC (d + 1) mX3_isSameOtherwise Q 125 [(0, .inr (.inr (some (10, j0)))), (1, .inl x1), (2, .inl x2), (4, .inl x4)] [] w bc bs) ∧ ((w.1 148 j0 (am_w ((am_w (x1 * 4)) + x4)).toNat) = (w.1 148 j0 (am_w ((am_w (x2 * 4)) + x4)).toNat) → ((¬ (w.1 149 j0 (am_w ((am_w (x1 * 4)) + x4)).toNat) = (w.1 149 j0 (am_w ((am_w (x2 * 4)) + x4)).toNat) → am_A (mh_G X) SC (d + 1) mX3_isSameOtherwise Q 125 [(0, .inr (.inr (some (10, j0)))), (1, .inl x1), (2, .inl x2), (4, .inl x4)] [] w bc bs) ∧ ((w.1 149 j0 (am_w ((am_w (x1 * 4)) + x4)).toNat) = (w.1 149 j0 (am_w ((am_w (x2 * 4)) + x4)).toNat) → am_A (mh_G X) SC (d + 1) mX3_isSameOtherwise Q 126 [(0, .inr (.inr (some (10, j0)))), (1, .inl x1), (2, .inl x2), (4, .inl x4)] [.inl 1] w bc bs))))))))))))))))) :
    am_A (mh_G X) SC (d + 1) mX3_isSameOtherwise Q 39 [(0, .inr (.inr (some (10, j0)))), (1, .inl x1), (2, .inl x2), (3, .inl x3), (4, .inl x4)] [] w bc bs := by
  refine am_iload_n dX3_isSameOtherwise_39 (List.Mem.tail _ (List.Mem.tail _ (List.Mem.tail _ (List.Mem.head _)))) ?_
  refine am_ifeq (tgt := 133) dX3_isSameOtherwise_40 (by decide) (fun c1 => ?_) (fun c1 => ?_)
  · replace h := h.1 c1
    refine am_iload_n dX3_isSameOtherwise_133 (List.Mem.tail _ (List.Mem.tail _ (List.Mem.tail _ (List.Mem.head _)))) ?_
    have o2 := h.1
    replace h := h.2
    exact am_ret (r := some (.inl x3)) dX3_isSameOtherwise_134 (Or.inr (Or.inl ⟨rfl, o2⟩)) rfl h
  · replace h := h.2 c1
    refine am_iload dX3_isSameOtherwise_43 (List.Mem.tail _ (List.Mem.tail _ (List.Mem.tail _ (List.Mem.tail _ (List.Mem.head _))))) ?_
    refine am_aload_n dX3_isSameOtherwise_45 (List.Mem.head _) ?_
    refine am_getf (f := 2) (v := .inr (.inr (some (146, j0)))) dX3_isSameOtherwise_46 hc_4 (by decide) wd_217 (by decide) rfl rfl ?_
    refine am_iload_n dX3_isSameOtherwise_49 (List.Mem.tail _ (List.Mem.head _)) ?_
    have o3 := h.1
    replace h := h.2
    have o4 := h.1
    replace h := h.2
    refine am_iaload (v := (w.1 146 j0 x1.toNat)) dX3_isSameOtherwise_50 (by decide) rfl o3 o4 rfl ?_
    refine am_icmpge (tgt := 133) dX3_isSameOtherwise_51 (by decide) (fun c5 => ?_) (fun c5 => ?_)
    · replace h := h.1 c5
      refine am_iload_n dX3_isSameOtherwise_133 (List.Mem.tail _ (List.Mem.tail _ (List.Mem.tail _ (List.Mem.head _)))) ?_
      have o6 := h.1
      replace h := h.2
      exact am_ret (r := some (.inl x3)) dX3_isSameOtherwise_134 (Or.inr (Or.inl ⟨rfl, o6⟩)) rfl h
    · replace h := h.2 c5
      refine am_iload_n dX3_isSameOtherwise_54 (List.Mem.tail _ (List.Mem.head _)) ?_
      refine am_iconst dX3_isSameOtherwise_55 (by unfold am_rg; omega) ?_
      refine am_imul dX3_isSameOtherwise_56 ?_
      refine am_iload dX3_isSameOtherwise_57 (List.Mem.tail _ (List.Mem.tail _ (List.Mem.tail _ (List.Mem.tail _ (List.Mem.head _))))) ?_
      refine am_iadd dX3_isSameOtherwise_59 ?_
      refine am_istore (ls' := [(5, .inl (am_w ((am_w (x1 * 4)) + x4))), (0, .inr (.inr (some (10, j0)))), (1, .inl x1), (2, .inl x2), (3, .inl x3), (4, .inl x4)]) dX3_isSameOtherwise_60 (by decide) rfl ?_
      refine am_iload_n dX3_isSameOtherwise_62 (List.Mem.tail _ (List.Mem.tail _ (List.Mem.tail _ (List.Mem.head _)))) ?_
      refine am_iconst dX3_isSameOtherwise_63 (by unfold am_rg; omega) ?_
      refine am_imul dX3_isSameOtherwise_64 ?_
      refine am_iload dX3_isSameOtherwise_65 (List.Mem.tail _ (List.Mem.tail _ (List.Mem.tail _ (List.Mem.tail _ (List.Mem.tail _ (List.Mem.head _)))))) ?_
      refine am_iadd dX3_isSameOtherwise_67 ?_
      refine am_istore (ls' := [(6, .inl (am_w ((am_w (x2 * 4)) + x4))), (5, .inl (am_w ((am_w (x1 * 4)) + x4))), (0, .inr (.inr (some (10, j0)))), (1, .inl x1), (2, .inl x2), (3, .inl x3), (4, .inl x4)]) dX3_isSameOtherwise_68 (by decide) rfl ?_
      refine am_aload_n dX3_isSameOtherwise_70 (List.Mem.tail _ (List.Mem.tail _ (List.Mem.head _))) ?_
      refine am_getf (f := 3) (v := .inr (.inr (some (147, j0)))) dX3_isSameOtherwise_71 hc_4 (by decide) wd_218 (by decide) rfl rfl ?_
      refine am_iload dX3_isSameOtherwise_74 (List.Mem.tail _ (List.Mem.head _)) ?_
      have o7 := h.1
      replace h := h.2
      have o8 := h.1
      replace h := h.2
      refine am_iaload (v := (w.1 147 j0 (am_w ((am_w (x1 * 4)) + x4)).toNat)) dX3_isSameOtherwise_76 (by decide) rfl o7 o8 rfl ?_
      refine am_aload_n dX3_isSameOtherwise_77 (List.Mem.tail _ (List.Mem.tail _ (List.Mem.head _))) ?_
      refine am_getf (f := 3) (v := .inr (.inr (some (147, j0)))) dX3_isSameOtherwise_78 hc_4 (by decide) wd_218 (by decide) rfl rfl ?_
      refine am_iload dX3_isSameOtherwise_81 (List.Mem.head _) ?_
      have o9 := h.1
      replace h := h.2
      have o10 := h.1
      replace h := h.2
      refine am_iaload (v := (w.1 147 j0 (am_w ((am_w (x2 * 4)) + x4)).toNat)) dX3_isSameOtherwise_83 (by decide) rfl o9 o10 rfl ?_
      refine am_icmpne (tgt := 125) dX3_isSameOtherwise_84 (by decide) (fun c11 => ?_) (fun c11 => ?_)
      · replace h := h.1 c11
        exact am_sub [2, 3, 4, 6] rfl h
      · replace h := h.2 c11
        refine am_aload_n dX3_isSameOtherwise_87 (List.Mem.tail _ (List.Mem.tail _ (List.Mem.head _))) ?_
        refine am_getf (f := 4) (v := .inr (.inr (some (148, j0)))) dX3_isSameOtherwise_88 hc_4 (by decide) wd_219 (by decide) rfl rfl ?_
        refine am_iload dX3_isSameOtherwise_91 (List.Mem.tail _ (List.Mem.head _)) ?_
        refine am_iaload (v := (w.1 148 j0 (am_w ((am_w (x1 * 4)) + x4)).toNat)) dX3_isSameOtherwise_93 (by decide) rfl o7 o8 rfl ?_
        refine am_aload_n dX3_isSameOtherwise_94 (List.Mem.tail _ (List.Mem.tail _ (List.Mem.head _))) ?_
        refine am_getf (f := 4) (v := .inr (.inr (some (148, j0)))) dX3_isSameOtherwise_95 hc_4 (by decide) wd_219 (by decide) rfl rfl ?_
        refine am_iload dX3_isSameOtherwise_98 (List.Mem.head _) ?_
        refine am_iaload (v := (w.1 148 j0 (am_w ((am_w (x2 * 4)) + x4)).toNat)) dX3_isSameOtherwise_100 (by decide) rfl o9 o10 rfl ?_
        refine am_icmpne (tgt := 125) dX3_isSameOtherwise_101 (by decide) (fun c12 => ?_) (fun c12 => ?_)
        · replace h := h.1 c12
          exact am_sub [2, 3, 4, 6] rfl h
        · replace h := h.2 c12
          refine am_aload_n dX3_isSameOtherwise_104 (List.Mem.tail _ (List.Mem.tail _ (List.Mem.head _))) ?_
          refine am_getf (f := 5) (v := .inr (.inr (some (149, j0)))) dX3_isSameOtherwise_105 hc_4 (by decide) wd_220 (by decide) rfl rfl ?_
          refine am_iload dX3_isSameOtherwise_108 (List.Mem.tail _ (List.Mem.head _)) ?_
          refine am_iaload (v := (w.1 149 j0 (am_w ((am_w (x1 * 4)) + x4)).toNat)) dX3_isSameOtherwise_110 (by decide) rfl o7 o8 rfl ?_
          refine am_aload_n dX3_isSameOtherwise_111 (List.Mem.tail _ (List.Mem.tail _ (List.Mem.head _))) ?_
          refine am_getf (f := 5) (v := .inr (.inr (some (149, j0)))) dX3_isSameOtherwise_112 hc_4 (by decide) wd_220 (by decide) rfl rfl ?_
          refine am_iload dX3_isSameOtherwise_115 (List.Mem.head _) ?_
          refine am_iaload (v := (w.1 149 j0 (am_w ((am_w (x2 * 4)) + x4)).toNat)) dX3_isSameOtherwise_117 (by decide) rfl o9 o10 rfl ?_
          refine am_icmpne (tgt := 125) dX3_isSameOtherwise_118 (by decide) (fun c13 => ?_) (fun c13 => ?_)
          · replace h := h.1 c13
            exact am_sub [2, 3, 4, 6] rfl h
          · replace h := h.2 c13
            refine am_iconst dX3_isSameOtherwise_121 (by unfold am_rg; omega) ?_
            refine am_goto (tgt := 126) dX3_isSameOtherwise_122 (by decide) ?_
            exact am_sub [2, 3, 4, 6] rfl h
theorem bX3_isSameOtherwise_125 {SC : Nat → Nat} {X : mh_X} {d : Nat} {Q : Option am_V → am_W → Prop} {bc bs : Nat} {w : am_W} {j0 : Nat} {x1 : Int} {x2 : Int} {x4 : Int}
    (h : am_A (mh_G X) SC (d + 1) mX3_isSameOtherwise Q 126 [(0, .inr (.inr (some (10, j0)))), (1, .inl x1), (2, .inl x2), (4, .inl x4)] [.inl 0] w bc bs) :
    am_A (mh_G X) SC (d + 1) mX3_isSameOtherwise Q 125 [(0, .inr (.inr (some (10, j0)))), (1, .inl x1), (2, .inl x2), (4, .inl x4)] [] w bc bs := by
  refine am_iconst dX3_isSameOtherwise_125 (by unfold am_rg; omega) ?_
  exact h
theorem bX3_isSameOtherwise_126 {SC : Nat → Nat} {X : mh_X} {d : Nat} {Q : Option am_V → am_W → Prop} {bc bs : Nat} {w : am_W} {j0 : Nat} {x1 : Int} {x2 : Int} {x4 : Int} {xs0 : Int}
    (h : am_A (mh_G X) SC (d + 1) mX3_isSameOtherwise Q 39 [(0, .inr (.inr (some (10, j0)))), (1, .inl x1), (2, .inl x2), (3, .inl xs0), (4, .inl (am_w (x4 + 1)))] [] w bc bs) :
    am_A (mh_G X) SC (d + 1) mX3_isSameOtherwise Q 126 [(0, .inr (.inr (some (10, j0)))), (1, .inl x1), (2, .inl x2), (4, .inl x4)] [.inl xs0] w bc bs := by
  refine am_istore_n (ls' := [(3, .inl xs0), (0, .inr (.inr (some (10, j0)))), (1, .inl x1), (2, .inl x2), (4, .inl x4)]) dX3_isSameOtherwise_126 (by decide) rfl ?_
  refine am_iinc (ls' := [(4, .inl (am_w (x4 + 1))), (3, .inl xs0), (0, .inr (.inr (some (10, j0)))), (1, .inl x1), (2, .inl x2)]) dX3_isSameOtherwise_127 (List.Mem.tail _ (List.Mem.tail _ (List.Mem.tail _ (List.Mem.tail _ (List.Mem.head _))))) (by decide) rfl ?_
  refine am_goto (tgt := 39) dX3_isSameOtherwise_130 (by decide) ?_
  exact am_sub [2, 3, 4, 1, 0] rfl h
-- MourningHouse$Law.quarrelNumbered(I)I
theorem dX3_quarrelNumbered_0 : decode mX3_quarrelNumbered.2.1 0 = .ok (.iload_n 1, 1) := by decide +kernel
theorem dX3_quarrelNumbered_1 : decode mX3_quarrelNumbered.2.1 1 = .ok (.istore_n 2, 1) := by decide +kernel
theorem dX3_quarrelNumbered_2 : decode mX3_quarrelNumbered.2.1 2 = .ok (.iconst 0, 1) := by decide +kernel
theorem dX3_quarrelNumbered_3 : decode mX3_quarrelNumbered.2.1 3 = .ok (.istore_n 3, 1) := by decide +kernel
theorem dX3_quarrelNumbered_4 : decode mX3_quarrelNumbered.2.1 4 = .ok (.iload_n 3, 1) := by decide +kernel
theorem dX3_quarrelNumbered_5 : decode mX3_quarrelNumbered.2.1 5 = .ok (.aload_n 0, 1) := by decide +kernel
theorem dX3_quarrelNumbered_6 : decode mX3_quarrelNumbered.2.1 6 = .ok (.getfield 42, 3) := by decide +kernel
theorem dX3_quarrelNumbered_9 : decode mX3_quarrelNumbered.2.1 9 = .ok (.if_icmp .ge 64, 3) := by decide +kernel
theorem dX3_quarrelNumbered_12 : decode mX3_quarrelNumbered.2.1 12 = .ok (.iload_n 3, 1) := by decide +kernel
theorem dX3_quarrelNumbered_13 : decode mX3_quarrelNumbered.2.1 13 = .ok (.iconst 1, 1) := by decide +kernel
theorem dX3_quarrelNumbered_14 : decode mX3_quarrelNumbered.2.1 14 = .ok (.iadd, 1) := by decide +kernel
theorem dX3_quarrelNumbered_15 : decode mX3_quarrelNumbered.2.1 15 = .ok (.istore 4, 2) := by decide +kernel
theorem dX3_quarrelNumbered_17 : decode mX3_quarrelNumbered.2.1 17 = .ok (.iload 4, 2) := by decide +kernel
theorem dX3_quarrelNumbered_19 : decode mX3_quarrelNumbered.2.1 19 = .ok (.aload_n 0, 1) := by decide +kernel
theorem dX3_quarrelNumbered_20 : decode mX3_quarrelNumbered.2.1 20 = .ok (.getfield 42, 3) := by decide +kernel
theorem dX3_quarrelNumbered_23 : decode mX3_quarrelNumbered.2.1 23 = .ok (.if_icmp .ge 44, 3) := by decide +kernel
theorem dX3_quarrelNumbered_26 : decode mX3_quarrelNumbered.2.1 26 = .ok (.aload_n 0, 1) := by decide +kernel
theorem dX3_quarrelNumbered_27 : decode mX3_quarrelNumbered.2.1 27 = .ok (.iload_n 3, 1) := by decide +kernel
theorem dX3_quarrelNumbered_28 : decode mX3_quarrelNumbered.2.1 28 = .ok (.iload 4, 2) := by decide +kernel
theorem dX3_quarrelNumbered_30 : decode mX3_quarrelNumbered.2.1 30 = .ok (.invokevirtual 117, 3) := by decide +kernel
theorem dX3_quarrelNumbered_33 : decode mX3_quarrelNumbered.2.1 33 = .ok (.ifCond .eq 28, 3) := by decide +kernel
theorem dX3_quarrelNumbered_36 : decode mX3_quarrelNumbered.2.1 36 = .ok (.aload_n 0, 1) := by decide +kernel
theorem dX3_quarrelNumbered_37 : decode mX3_quarrelNumbered.2.1 37 = .ok (.iload_n 3, 1) := by decide +kernel
theorem dX3_quarrelNumbered_38 : decode mX3_quarrelNumbered.2.1 38 = .ok (.iload 4, 2) := by decide +kernel
theorem dX3_quarrelNumbered_40 : decode mX3_quarrelNumbered.2.1 40 = .ok (.invokevirtual 120, 3) := by decide +kernel
theorem dX3_quarrelNumbered_43 : decode mX3_quarrelNumbered.2.1 43 = .ok (.ifCond .ne 18, 3) := by decide +kernel
theorem dX3_quarrelNumbered_46 : decode mX3_quarrelNumbered.2.1 46 = .ok (.iload_n 2, 1) := by decide +kernel
theorem dX3_quarrelNumbered_47 : decode mX3_quarrelNumbered.2.1 47 = .ok (.ifCond .ne 11, 3) := by decide +kernel
theorem dX3_quarrelNumbered_50 : decode mX3_quarrelNumbered.2.1 50 = .ok (.iload_n 3, 1) := by decide +kernel
theorem dX3_quarrelNumbered_51 : decode mX3_quarrelNumbered.2.1 51 = .ok (.bipush 100, 2) := by decide +kernel
theorem dX3_quarrelNumbered_53 : decode mX3_quarrelNumbered.2.1 53 = .ok (.imul, 1) := by decide +kernel
theorem dX3_quarrelNumbered_54 : decode mX3_quarrelNumbered.2.1 54 = .ok (.iload 4, 2) := by decide +kernel
theorem dX3_quarrelNumbered_56 : decode mX3_quarrelNumbered.2.1 56 = .ok (.iadd, 1) := by decide +kernel
theorem dX3_quarrelNumbered_57 : decode mX3_quarrelNumbered.2.1 57 = .ok (.ireturn, 1) := by decide +kernel
theorem dX3_quarrelNumbered_58 : decode mX3_quarrelNumbered.2.1 58 = .ok (.iinc 2 (-1), 3) := by decide +kernel
theorem dX3_quarrelNumbered_61 : decode mX3_quarrelNumbered.2.1 61 = .ok (.iinc 4 1, 3) := by decide +kernel
theorem dX3_quarrelNumbered_64 : decode mX3_quarrelNumbered.2.1 64 = .ok (.goto (-47), 3) := by decide +kernel
theorem dX3_quarrelNumbered_67 : decode mX3_quarrelNumbered.2.1 67 = .ok (.iinc 3 1, 3) := by decide +kernel
theorem dX3_quarrelNumbered_70 : decode mX3_quarrelNumbered.2.1 70 = .ok (.goto (-66), 3) := by decide +kernel
theorem dX3_quarrelNumbered_73 : decode mX3_quarrelNumbered.2.1 73 = .ok (.iconst (-1), 1) := by decide +kernel
theorem dX3_quarrelNumbered_74 : decode mX3_quarrelNumbered.2.1 74 = .ok (.ireturn, 1) := by decide +kernel
theorem bX3_quarrelNumbered_0 {SC : Nat → Nat} {X : mh_X} {d : Nat} {Q : Option am_V → am_W → Prop} {bc bs : Nat} {w : am_W} {j0 : Nat} {x1 : Int}
    (h : am_A (mh_G X) SC (d + 3) mX3_quarrelNumbered Q 4 [(0, .inr (.inr (some (10, j0)))), (2, .inl x1), (3, .inl 0)] [] w bc bs) :
    am_A (mh_G X) SC (d + 3) mX3_quarrelNumbered Q 0 [(0, .inr (.inr (some (10, j0)))), (1, .inl x1)] [] w bc bs := by
  refine am_iload_n dX3_quarrelNumbered_0 (List.Mem.tail _ (List.Mem.head _)) ?_
  refine am_istore_n (ls' := [(2, .inl x1), (0, .inr (.inr (some (10, j0)))), (1, .inl x1)]) dX3_quarrelNumbered_1 (by decide) rfl ?_
  refine am_iconst dX3_quarrelNumbered_2 (by unfold am_rg; omega) ?_
  refine am_istore_n (ls' := [(3, .inl 0), (2, .inl x1), (0, .inr (.inr (some (10, j0)))), (1, .inl x1)]) dX3_quarrelNumbered_3 (by decide) rfl ?_
  exact am_sub [2, 1, 0] rfl h
theorem bX3_quarrelNumbered_4 {SC : Nat → Nat} {X : mh_X} {d : Nat} {Q : Option am_V → am_W → Prop} {bc bs : Nat} {w : am_W} {j0 : Nat} {x2 : Int} {x3 : Int}
    (h : (((w.1 10 j0 10) ≤ x3 → Q (some (.inl (-1))) w) ∧ (¬ (w.1 10 j0 10) ≤ x3 → am_A (mh_G X) SC (d + 3) mX3_quarrelNumbered Q 17 [(0, .inr (.inr (some (10, j0)))), (2, .inl x2), (3, .inl x3), (4, .inl (am_w (x3 + 1)))] [] w bc bs))) :
    am_A (mh_G X) SC (d + 3) mX3_quarrelNumbered Q 4 [(0, .inr (.inr (some (10, j0)))), (2, .inl x2), (3, .inl x3)] [] w bc bs := by
  refine am_iload_n dX3_quarrelNumbered_4 (List.Mem.tail _ (List.Mem.tail _ (List.Mem.head _))) ?_
  refine am_aload_n dX3_quarrelNumbered_5 (List.Mem.head _) ?_
  refine am_getf (f := 10) (v := .inl (w.1 10 j0 10)) dX3_quarrelNumbered_6 hc_4 (by decide) wd_227 (by decide) rfl rfl ?_
  refine am_icmpge (tgt := 73) dX3_quarrelNumbered_9 (by decide) (fun c1 => ?_) (fun c1 => ?_)
  · replace h := h.1 c1
    refine am_iconst dX3_quarrelNumbered_73 (by unfold am_rg; omega) ?_
    exact am_ret (r := some (.inl (-1))) dX3_quarrelNumbered_74 (Or.inl rfl) rfl h
  · replace h := h.2 c1
    refine am_iload_n dX3_quarrelNumbered_12 (List.Mem.tail _ (List.Mem.tail _ (List.Mem.head _))) ?_
    refine am_iconst dX3_quarrelNumbered_13 (by unfold am_rg; omega) ?_
    refine am_iadd dX3_quarrelNumbered_14 ?_
    refine am_istore (ls' := [(4, .inl (am_w (x3 + 1))), (0, .inr (.inr (some (10, j0)))), (2, .inl x2), (3, .inl x3)]) dX3_quarrelNumbered_15 (by decide) rfl ?_
    exact am_sub [1, 2, 3, 0] rfl h
theorem bX3_quarrelNumbered_17 {SC : Nat → Nat} {X : mh_X} {d : Nat} {Q : Option am_V → am_W → Prop} {bc bs : Nat} {w : am_W} {j0 : Nat} {x2 : Int} {x3 : Int} {x4 : Int}
    (h : (((w.1 10 j0 10) ≤ x4 → am_A (mh_G X) SC (d + 3) mX3_quarrelNumbered Q 4 [(0, .inr (.inr (some (10, j0)))), (2, .inl x2), (3, .inl (am_w (x3 + 1)))] [] w bc bs) ∧ (¬ (w.1 10 j0 10) ≤ x4 → am_M (mh_G X) SC (d + 2) 0 0 mX3_isSameKin [.inr (.inr (some (10, j0))), .inl x3, .inl x4] w (fun r w1 => am_A (mh_G X) SC (d + 3) mX3_quarrelNumbered Q 33 [(0, .inr (.inr (some (10, j0)))), (2, .inl x2), (3, .inl x3), (4, .inl x4)] (r.toList ++ []) w1 bc bs)))) :
    am_A (mh_G X) SC (d + 3) mX3_quarrelNumbered Q 17 [(0, .inr (.inr (some (10, j0)))), (2, .inl x2), (3, .inl x3), (4, .inl x4)] [] w bc bs := by
  refine am_iload dX3_quarrelNumbered_17 (List.Mem.tail _ (List.Mem.tail _ (List.Mem.tail _ (List.Mem.head _)))) ?_
  refine am_aload_n dX3_quarrelNumbered_19 (List.Mem.head _) ?_
  refine am_getf (f := 10) (v := .inl (w.1 10 j0 10)) dX3_quarrelNumbered_20 hc_4 (by decide) wd_227 (by decide) rfl rfl ?_
  refine am_icmpge (tgt := 67) dX3_quarrelNumbered_23 (by decide) (fun c1 => ?_) (fun c1 => ?_)
  · replace h := h.1 c1
    refine am_iinc (ls' := [(3, .inl (am_w (x3 + 1))), (0, .inr (.inr (some (10, j0)))), (2, .inl x2), (4, .inl x4)]) dX3_quarrelNumbered_67 (List.Mem.tail _ (List.Mem.tail _ (List.Mem.head _))) (by decide) rfl ?_
    refine am_goto (tgt := 4) dX3_quarrelNumbered_70 (by decide) ?_
    exact am_sub [1, 2, 0] rfl h
  · replace h := h.2 c1
    refine am_aload_n dX3_quarrelNumbered_26 (List.Mem.head _) ?_
    refine am_iload_n dX3_quarrelNumbered_27 (List.Mem.tail _ (List.Mem.tail _ (List.Mem.head _))) ?_
    refine am_iload dX3_quarrelNumbered_28 (List.Mem.tail _ (List.Mem.tail _ (List.Mem.tail _ (List.Mem.head _)))) ?_
    exact am_callv (d' := d + 2) (kc := 0) (ks := 0) (as := [.inl x3, .inl x4]) dX3_quarrelNumbered_30 wc_X3_isSameKin wd_992 wd_994 wd_24 wd_116 ds_X3_isSameKin (by decide) (by omega) (Nat.le_of_ble_eq_true rfl) (Nat.zero_le _) (Nat.zero_le _) hc_4 (by decide) rfl rfl h
theorem bX3_quarrelNumbered_33 {SC : Nat → Nat} {X : mh_X} {d : Nat} {Q : Option am_V → am_W → Prop} {bc bs : Nat} {w : am_W} {j0 : Nat} {x2 : Int} {x3 : Int} {x4 : Int} {xs0 : Int}
    (h : ((xs0 = 0 → am_A (mh_G X) SC (d + 3) mX3_quarrelNumbered Q 61 [(0, .inr (.inr (some (10, j0)))), (2, .inl x2), (3, .inl x3), (4, .inl x4)] [] w bc bs) ∧ (¬ xs0 = 0 → am_M (mh_G X) SC (d + 2) 0 0 mX3_isSameOtherwise [.inr (.inr (some (10, j0))), .inl x3, .inl x4] w (fun r w1 => am_A (mh_G X) SC (d + 3) mX3_quarrelNumbered Q 43 [(0, .inr (.inr (some (10, j0)))), (2, .inl x2), (3, .inl x3), (4, .inl x4)] (r.toList ++ []) w1 bc bs)))) :
    am_A (mh_G X) SC (d + 3) mX3_quarrelNumbered Q 33 [(0, .inr (.inr (some (10, j0)))), (2, .inl x2), (3, .inl x3), (4, .inl x4)] [.inl xs0] w bc bs := by
  refine am_ifeq (tgt := 61) dX3_quarrelNumbered_33 (by decide) (fun c1 => ?_) (fun c1 => ?_)
  · replace h := h.1 c1
    exact h
  · replace h := h.2 c1
    refine am_aload_n dX3_quarrelNumbered_36 (List.Mem.head _) ?_
    refine am_iload_n dX3_quarrelNumbered_37 (List.Mem.tail _ (List.Mem.tail _ (List.Mem.head _))) ?_
    refine am_iload dX3_quarrelNumbered_38 (List.Mem.tail _ (List.Mem.tail _ (List.Mem.tail _ (List.Mem.head _)))) ?_
    exact am_callv (d' := d + 2) (kc := 0) (ks := 0) (as := [.inl x3, .inl x4]) dX3_quarrelNumbered_40 wc_X3_isSameOtherwise wd_996 wd_998 wd_25 wd_116 ds_X3_isSameOtherwise (by decide) (by omega) (Nat.le_of_ble_eq_true rfl) (Nat.zero_le _) (Nat.zero_le _) hc_4 (by decide) rfl rfl h
theorem bX3_quarrelNumbered_61 {SC : Nat → Nat} {X : mh_X} {d : Nat} {Q : Option am_V → am_W → Prop} {bc bs : Nat} {w : am_W} {j0 : Nat} {x2 : Int} {x3 : Int} {x4 : Int}
    (h : am_A (mh_G X) SC (d + 3) mX3_quarrelNumbered Q 17 [(0, .inr (.inr (some (10, j0)))), (2, .inl x2), (3, .inl x3), (4, .inl (am_w (x4 + 1)))] [] w bc bs) :
    am_A (mh_G X) SC (d + 3) mX3_quarrelNumbered Q 61 [(0, .inr (.inr (some (10, j0)))), (2, .inl x2), (3, .inl x3), (4, .inl x4)] [] w bc bs := by
  refine am_iinc (ls' := [(4, .inl (am_w (x4 + 1))), (0, .inr (.inr (some (10, j0)))), (2, .inl x2), (3, .inl x3)]) dX3_quarrelNumbered_61 (List.Mem.tail _ (List.Mem.tail _ (List.Mem.tail _ (List.Mem.head _)))) (by decide) rfl ?_
  refine am_goto (tgt := 17) dX3_quarrelNumbered_64 (by decide) ?_
  exact am_sub [1, 2, 3, 0] rfl h
theorem bX3_quarrelNumbered_43 {SC : Nat → Nat} {X : mh_X} {d : Nat} {Q : Option am_V → am_W → Prop} {bc bs : Nat} {w : am_W} {j0 : Nat} {x2 : Int} {x3 : Int} {x4 : Int} {xs0 : Int}
    (h : ((¬ xs0 = 0 → am_A (mh_G X) SC (d + 3) mX3_quarrelNumbered Q 61 [(0, .inr (.inr (some (10, j0)))), (2, .inl x2), (3, .inl x3), (4, .inl x4)] [] w bc bs) ∧ (xs0 = 0 → ((¬ x2 = 0 → am_A (mh_G X) SC (d + 3) mX3_quarrelNumbered Q 61 [(0, .inr (.inr (some (10, j0)))), (2, .inl (am_w (x2 + (-1)))), (3, .inl x3), (4, .inl x4)] [] w bc bs) ∧ (x2 = 0 → Q (some (.inl (am_w ((am_w (x3 * 100)) + x4)))) w))))) :
    am_A (mh_G X) SC (d + 3) mX3_quarrelNumbered Q 43 [(0, .inr (.inr (some (10, j0)))), (2, .inl x2), (3, .inl x3), (4, .inl x4)] [.inl xs0] w bc bs := by
  refine am_ifne (tgt := 61) dX3_quarrelNumbered_43 (by decide) (fun c1 => ?_) (fun c1 => ?_)
  · replace h := h.1 c1
    exact h
  · replace h := h.2 c1
    refine am_iload_n dX3_quarrelNumbered_46 (List.Mem.tail _ (List.Mem.head _)) ?_
    refine am_ifne (tgt := 58) dX3_quarrelNumbered_47 (by decide) (fun c2 => ?_) (fun c2 => ?_)
    · replace h := h.1 c2
      refine am_iinc (ls' := [(2, .inl (am_w (x2 + (-1)))), (0, .inr (.inr (some (10, j0)))), (3, .inl x3), (4, .inl x4)]) dX3_quarrelNumbered_58 (List.Mem.tail _ (List.Mem.head _)) (by decide) rfl ?_
      exact am_sub [1, 0, 2, 3] rfl h
    · replace h := h.2 c2
      refine am_iload_n dX3_quarrelNumbered_50 (List.Mem.tail _ (List.Mem.tail _ (List.Mem.head _))) ?_
      refine am_bipush dX3_quarrelNumbered_51 (by decide) (by unfold am_rg; omega) ?_
      refine am_imul dX3_quarrelNumbered_53 ?_
      refine am_iload dX3_quarrelNumbered_54 (List.Mem.tail _ (List.Mem.tail _ (List.Mem.tail _ (List.Mem.head _)))) ?_
      refine am_iadd dX3_quarrelNumbered_56 ?_
      exact am_ret (r := some (.inl (am_w ((am_w (x3 * 100)) + x4)))) dX3_quarrelNumbered_57 (Or.inl rfl) rfl h
-- MourningHouse$Mourner.ruleFor(III)I
theorem dX4_ruleFor_0 : decode mX4_ruleFor.2.1 0 = .ok (.aload_n 0, 1) := by decide +kernel
theorem dX4_ruleFor_1 : decode mX4_ruleFor.2.1 1 = .ok (.getfield 41, 3) := by decide +kernel
theorem dX4_ruleFor_4 : decode mX4_ruleFor.2.1 4 = .ok (.getfield 50, 3) := by decide +kernel
theorem dX4_ruleFor_7 : decode mX4_ruleFor.2.1 7 = .ok (.iload_n 1, 1) := by decide +kernel
theorem dX4_ruleFor_8 : decode mX4_ruleFor.2.1 8 = .ok (.iaload, 1) := by decide +kernel
theorem dX4_ruleFor_9 : decode mX4_ruleFor.2.1 9 = .ok (.iload_n 3, 1) := by decide +kernel
theorem dX4_ruleFor_10 : decode mX4_ruleFor.2.1 10 = .ok (.if_icmp .gt 16, 3) := by decide +kernel
theorem dX4_ruleFor_13 : decode mX4_ruleFor.2.1 13 = .ok (.aload_n 0, 1) := by decide +kernel
theorem dX4_ruleFor_14 : decode mX4_ruleFor.2.1 14 = .ok (.getfield 41, 3) := by decide +kernel
theorem dX4_ruleFor_17 : decode mX4_ruleFor.2.1 17 = .ok (.getfield 56, 3) := by decide +kernel
theorem dX4_ruleFor_20 : decode mX4_ruleFor.2.1 20 = .ok (.iload_n 2, 1) := by decide +kernel
theorem dX4_ruleFor_21 : decode mX4_ruleFor.2.1 21 = .ok (.iaload, 1) := by decide +kernel
theorem dX4_ruleFor_22 : decode mX4_ruleFor.2.1 22 = .ok (.iload_n 3, 1) := by decide +kernel
theorem dX4_ruleFor_23 : decode mX4_ruleFor.2.1 23 = .ok (.if_icmp .le 5, 3) := by decide +kernel
theorem dX4_ruleFor_26 : decode mX4_ruleFor.2.1 26 = .ok (.iconst (-1), 1) := by decide +kernel
theorem dX4_ruleFor_27 : decode mX4_ruleFor.2.1 27 = .ok (.ireturn, 1) := by decide +kernel
theorem dX4_ruleFor_28 : decode mX4_ruleFor.2.1 28 = .ok (.aload_n 0, 1) := by decide +kernel
theorem dX4_ruleFor_29 : decode mX4_ruleFor.2.1 29 = .ok (.getfield 45, 3) := by decide +kernel
theorem dX4_ruleFor_32 : decode mX4_ruleFor.2.1 32 = .ok (.aload_n 0, 1) := by decide +kernel
theorem dX4_ruleFor_33 : decode mX4_ruleFor.2.1 33 = .ok (.getfield 41, 3) := by decide +kernel
theorem dX4_ruleFor_36 : decode mX4_ruleFor.2.1 36 = .ok (.getfield 59, 3) := by decide +kernel
theorem dX4_ruleFor_39 : decode mX4_ruleFor.2.1 39 = .ok (.iload_n 2, 1) := by decide +kernel
theorem dX4_ruleFor_40 : decode mX4_ruleFor.2.1 40 = .ok (.iaload, 1) := by decide +kernel
theorem dX4_ruleFor_41 : decode mX4_ruleFor.2.1 41 = .ok (.iload_n 3, 1) := by decide +kernel
theorem dX4_ruleFor_42 : decode mX4_ruleFor.2.1 42 = .ok (.invokevirtual 62, 3) := by decide +kernel
theorem dX4_ruleFor_45 : decode mX4_ruleFor.2.1 45 = .ok (.astore 4, 2) := by decide +kernel
theorem dX4_ruleFor_47 : decode mX4_ruleFor.2.1 47 = .ok (.aload 4, 2) := by decide +kernel
theorem dX4_ruleFor_49 : decode mX4_ruleFor.2.1 49 = .ok (.ifnonnull 5, 3) := by decide +kernel
theorem dX4_ruleFor_52 : decode mX4_ruleFor.2.1 52 = .ok (.iconst (-1), 1) := by decide +kernel
theorem dX4_ruleFor_53 : decode mX4_ruleFor.2.1 53 = .ok (.ireturn, 1) := by decide +kernel
theorem dX4_ruleFor_54 : decode mX4_ruleFor.2.1 54 = .ok (.aload_n 0, 1) := by decide +kernel
theorem dX4_ruleFor_55 : decode mX4_ruleFor.2.1 55 = .ok (.getfield 41, 3) := by decide +kernel
theorem dX4_ruleFor_58 : decode mX4_ruleFor.2.1 58 = .ok (.aload_n 0, 1) := by decide +kernel
theorem dX4_ruleFor_59 : decode mX4_ruleFor.2.1 59 = .ok (.getfield 41, 3) := by decide +kernel
theorem dX4_ruleFor_62 : decode mX4_ruleFor.2.1 62 = .ok (.getfield 59, 3) := by decide +kernel
theorem dX4_ruleFor_65 : decode mX4_ruleFor.2.1 65 = .ok (.iload_n 2, 1) := by decide +kernel
theorem dX4_ruleFor_66 : decode mX4_ruleFor.2.1 66 = .ok (.iaload, 1) := by decide +kernel
theorem dX4_ruleFor_67 : decode mX4_ruleFor.2.1 67 = .ok (.iload_n 3, 1) := by decide +kernel
theorem dX4_ruleFor_68 : decode mX4_ruleFor.2.1 68 = .ok (.invokevirtual 68, 3) := by decide +kernel
theorem dX4_ruleFor_71 : decode mX4_ruleFor.2.1 71 = .ok (.iconst (-1), 1) := by decide +kernel
theorem dX4_ruleFor_72 : decode mX4_ruleFor.2.1 72 = .ok (.istore 5, 2) := by decide +kernel
theorem dX4_ruleFor_74 : decode mX4_ruleFor.2.1 74 = .ok (.iconst 0, 1) := by decide +kernel
theorem dX4_ruleFor_75 : decode mX4_ruleFor.2.1 75 = .ok (.istore 6, 2) := by decide +kernel
theorem dX4_ruleFor_77 : decode mX4_ruleFor.2.1 77 = .ok (.iload 6, 2) := by decide +kernel
theorem dX4_ruleFor_79 : decode mX4_ruleFor.2.1 79 = .ok (.aload 4, 2) := by decide +kernel
theorem dX4_ruleFor_81 : decode mX4_ruleFor.2.1 81 = .ok (.getfield 72, 3) := by decide +kernel
theorem dX4_ruleFor_84 : decode mX4_ruleFor.2.1 84 = .ok (.if_icmp .ge 64, 3) := by decide +kernel
theorem dX4_ruleFor_87 : decode mX4_ruleFor.2.1 87 = .ok (.iload 5, 2) := by decide +kernel
theorem dX4_ruleFor_89 : decode mX4_ruleFor.2.1 89 = .ok (.iconst (-1), 1) := by decide +kernel
theorem dX4_ruleFor_90 : decode mX4_ruleFor.2.1 90 = .ok (.if_icmp .eq 20, 3) := by decide +kernel
theorem dX4_ruleFor_93 : decode mX4_ruleFor.2.1 93 = .ok (.aload 4, 2) := by decide +kernel
theorem dX4_ruleFor_95 : decode mX4_ruleFor.2.1 95 = .ok (.iload 6, 2) := by decide +kernel
theorem dX4_ruleFor_97 : decode mX4_ruleFor.2.1 97 = .ok (.invokevirtual 77, 3) := by decide +kernel
theorem dX4_ruleFor_100 : decode mX4_ruleFor.2.1 100 = .ok (.aload 4, 2) := by decide +kernel
theorem dX4_ruleFor_102 : decode mX4_ruleFor.2.1 102 = .ok (.iload 5, 2) := by decide +kernel
theorem dX4_ruleFor_104 : decode mX4_ruleFor.2.1 104 = .ok (.invokevirtual 77, 3) := by decide +kernel
theorem dX4_ruleFor_107 : decode mX4_ruleFor.2.1 107 = .ok (.if_icmp .gt 7, 3) := by decide +kernel
theorem dX4_ruleFor_110 : decode mX4_ruleFor.2.1 110 = .ok (.iconst 1, 1) := by decide +kernel
theorem dX4_ruleFor_111 : decode mX4_ruleFor.2.1 111 = .ok (.goto 4, 3) := by decide +kernel
theorem dX4_ruleFor_114 : decode mX4_ruleFor.2.1 114 = .ok (.iconst 0, 1) := by decide +kernel
theorem dX4_ruleFor_115 : decode mX4_ruleFor.2.1 115 = .ok (.istore 7, 2) := by decide +kernel
theorem dX4_ruleFor_117 : decode mX4_ruleFor.2.1 117 = .ok (.iload 7, 2) := by decide +kernel
theorem dX4_ruleFor_119 : decode mX4_ruleFor.2.1 119 = .ok (.ifCond .eq 23, 3) := by decide +kernel
theorem dX4_ruleFor_122 : decode mX4_ruleFor.2.1 122 = .ok (.aload_n 0, 1) := by decide +kernel
theorem dX4_ruleFor_123 : decode mX4_ruleFor.2.1 123 = .ok (.getfield 41, 3) := by decide +kernel
theorem dX4_ruleFor_126 : decode mX4_ruleFor.2.1 126 = .ok (.aload 4, 2) := by decide +kernel
theorem dX4_ruleFor_128 : decode mX4_ruleFor.2.1 128 = .ok (.iload 6, 2) := by decide +kernel
theorem dX4_ruleFor_130 : decode mX4_ruleFor.2.1 130 = .ok (.iload_n 1, 1) := by decide +kernel
theorem dX4_ruleFor_131 : decode mX4_ruleFor.2.1 131 = .ok (.iload_n 2, 1) := by decide +kernel
theorem dX4_ruleFor_132 : decode mX4_ruleFor.2.1 132 = .ok (.invokevirtual 81, 3) := by decide +kernel
theorem dX4_ruleFor_135 : decode mX4_ruleFor.2.1 135 = .ok (.ifCond .eq 7, 3) := by decide +kernel
theorem dX4_ruleFor_138 : decode mX4_ruleFor.2.1 138 = .ok (.iload 6, 2) := by decide +kernel
theorem dX4_ruleFor_140 : decode mX4_ruleFor.2.1 140 = .ok (.istore 5, 2) := by decide +kernel
theorem dX4_ruleFor_142 : decode mX4_ruleFor.2.1 142 = .ok (.iinc 6 1, 3) := by decide +kernel
theorem dX4_ruleFor_145 : decode mX4_ruleFor.2.1 145 = .ok (.goto (-68), 3) := by decide +kernel
theorem dX4_ruleFor_148 : decode mX4_ruleFor.2.1 148 = .ok (.iload 5, 2) := by decide +kernel
theorem dX4_ruleFor_150 : decode mX4_ruleFor.2.1 150 = .ok (.ireturn, 1) := by decide +kernel
theorem bX4_ruleFor_0 {SC : Nat → Nat} {X : mh_X} {d : Nat} {Q : Option am_V → am_W → Prop} {bc bs : Nat} {w : am_W} {x1 : Int} {x2 : Int} {x3 : Int}
    (h : (0 ≤ x1 ∧ (x1 < 40 ∧ ((x3 < (w.1 38 0 x1.toNat) → Q (some (.inl (-1))) w) ∧ (¬ x3 < (w.1 38 0 x1.toNat) → (0 ≤ x2 ∧ (x2 < 40 ∧ (((w.1 40 0 x2.toNat) ≤ x3 → am_M (mh_G X) SC (d + 3) 0 0 mX1_lawOn [.inr (.inr (some (4, 0))), .inl (w.1 39 0 x2.toNat), .inl x3] w (fun r w1 => am_A (mh_G X) SC (d + 4) mX4_ruleFor Q 45 [(0, .inr (.inr (some (6, 0)))), (1, .inl x1), (2, .inl x2), (3, .inl x3)] (r.toList ++ []) w1 bc bs)) ∧ (¬ (w.1 40 0 x2.toNat) ≤ x3 → Q (some (.inl (-1))) w))))))))) :
    am_A (mh_G X) SC (d + 4) mX4_ruleFor Q 0 [(0, .inr (.inr (some (6, 0)))), (1, .inl x1), (2, .inl x2), (3, .inl x3)] [] w bc bs := by
  refine am_aload_n dX4_ruleFor_0 (List.Mem.head _) ?_
  refine am_getf (f := 0) (v := .inr (.inr (some (5, 0)))) dX4_ruleFor_1 hc_6 (by decide) wd_438 (by decide) rfl rfl ?_
  refine am_getf (f := 5) (v := .inr (.inr (some (38, 0)))) dX4_ruleFor_4 hc_5 (by decide) wd_324 (by decide) rfl rfl ?_
  refine am_iload_n dX4_ruleFor_7 (List.Mem.tail _ (List.Mem.head _)) ?_
  have o1 := h.1
  replace h := h.2
  have o2 := h.1
  replace h := h.2
  refine am_iaload (v := (w.1 38 0 x1.toNat)) dX4_ruleFor_8 (by decide) rfl o1 o2 rfl ?_
  refine am_iload_n dX4_ruleFor_9 (List.Mem.tail _ (List.Mem.tail _ (List.Mem.tail _ (List.Mem.head _)))) ?_
  refine am_icmpgt (tgt := 26) dX4_ruleFor_10 (by decide) (fun c3 => ?_) (fun c3 => ?_)
  · replace h := h.1 c3
    refine am_iconst dX4_ruleFor_26 (by unfold am_rg; omega) ?_
    exact am_ret (r := some (.inl (-1))) dX4_ruleFor_27 (Or.inl rfl) rfl h
  · replace h := h.2 c3
    refine am_aload_n dX4_ruleFor_13 (List.Mem.head _) ?_
    refine am_getf (f := 0) (v := .inr (.inr (some (5, 0)))) dX4_ruleFor_14 hc_6 (by decide) wd_438 (by decide) rfl rfl ?_
    refine am_getf (f := 7) (v := .inr (.inr (some (40, 0)))) dX4_ruleFor_17 hc_5 (by decide) wd_328 (by decide) rfl rfl ?_
    refine am_iload_n dX4_ruleFor_20 (List.Mem.tail _ (List.Mem.tail _ (List.Mem.head _))) ?_
    have o4 := h.1
    replace h := h.2
    have o5 := h.1
    replace h := h.2
    refine am_iaload (v := (w.1 40 0 x2.toNat)) dX4_ruleFor_21 (by decide) rfl o4 o5 rfl ?_
    refine am_iload_n dX4_ruleFor_22 (List.Mem.tail _ (List.Mem.tail _ (List.Mem.tail _ (List.Mem.head _)))) ?_
    refine am_icmple (tgt := 28) dX4_ruleFor_23 (by decide) (fun c6 => ?_) (fun c6 => ?_)
    · replace h := h.1 c6
      refine am_aload_n dX4_ruleFor_28 (List.Mem.head _) ?_
      refine am_getf (f := 1) (v := .inr (.inr (some (4, 0)))) dX4_ruleFor_29 hc_6 (by decide) wd_439 (by decide) rfl rfl ?_
      refine am_aload_n dX4_ruleFor_32 (List.Mem.head _) ?_
      refine am_getf (f := 0) (v := .inr (.inr (some (5, 0)))) dX4_ruleFor_33 hc_6 (by decide) wd_438 (by decide) rfl rfl ?_
      refine am_getf (f := 6) (v := .inr (.inr (some (39, 0)))) dX4_ruleFor_36 hc_5 (by decide) wd_326 (by decide) rfl rfl ?_
      refine am_iload_n dX4_ruleFor_39 (List.Mem.tail _ (List.Mem.tail _ (List.Mem.head _))) ?_
      refine am_iaload (v := (w.1 39 0 x2.toNat)) dX4_ruleFor_40 (by decide) rfl o4 o5 rfl ?_
      refine am_iload_n dX4_ruleFor_41 (List.Mem.tail _ (List.Mem.tail _ (List.Mem.tail _ (List.Mem.head _)))) ?_
      exact am_callv (d' := d + 3) (kc := 0) (ks := 0) (as := [.inl (w.1 39 0 x2.toNat), .inl x3]) dX4_ruleFor_42 wc_X1_lawOn wd_1169 wd_1170 wd_1171 wd_115 ds_X1_lawOn (by decide) (by omega) (Nat.le_of_ble_eq_true rfl) (Nat.zero_le _) (Nat.zero_le _) hc_3 (by decide) rfl rfl h
    · replace h := h.2 c6
      refine am_iconst dX4_ruleFor_26 (by unfold am_rg; omega) ?_
      exact am_ret (r := some (.inl (-1))) dX4_ruleFor_27 (Or.inl rfl) rfl h
theorem bX4_ruleFor_45 {SC : Nat → Nat} {X : mh_X} {d : Nat} {Q : Option am_V → am_W → Prop} {bc bs : Nat} {w : am_W} {x1 : Int} {x2 : Int} {x3 : Int}
    (h : Q (some (.inl (-1))) w) :
    am_A (mh_G X) SC (d + 4) mX4_ruleFor Q 45 [(0, .inr (.inr (some (6, 0)))), (1, .inl x1), (2, .inl x2), (3, .inl x3)] [.inr (.inr none)] w bc bs := by
  refine am_astore (ls' := [(4, .inr (.inr none)), (0, .inr (.inr (some (6, 0)))), (1, .inl x1), (2, .inl x2), (3, .inl x3)]) dX4_ruleFor_45 (by decide) rfl ?_
  refine am_aload dX4_ruleFor_47 (List.Mem.head _) ?_
  refine am_ifnonnull (tgt := 54) dX4_ruleFor_49 (by decide) (fun e => absurd rfl e) (fun _ => ?_)
  refine am_iconst dX4_ruleFor_52 (by unfold am_rg; omega) ?_
  exact am_ret (r := some (.inl (-1))) dX4_ruleFor_53 (Or.inl rfl) rfl h
theorem bX4_ruleFor_45a {SC : Nat → Nat} {X : mh_X} {d : Nat} {Q : Option am_V → am_W → Prop} {bc bs : Nat} {w : am_W} {x1 : Int} {x2 : Int} {x3 : Int} {js0 : Nat}
    (h : (0 ≤ x2 ∧ (x2 < 40 ∧ am_M (mh_G X) SC (d + 3) 0 0 mX2_gather [.inr (.inr (some (5, 0))), .inl (w.1 39 0 x2.toNat), .inl x3] w (fun r w1 => am_A (mh_G X) SC (d + 4) mX4_ruleFor Q 71 [(4, .inr (.inr (some (10, js0)))), (0, .inr (.inr (some (6, 0)))), (1, .inl x1), (2, .inl x2), (3, .inl x3)] (r.toList ++ []) w1 bc bs)))) :
    am_A (mh_G X) SC (d + 4) mX4_ruleFor Q 45 [(0, .inr (.inr (some (6, 0)))), (1, .inl x1), (2, .inl x2), (3, .inl x3)] [.inr (.inr (some (10, js0)))] w bc bs := by
  refine am_astore (ls' := [(4, .inr (.inr (some (10, js0)))), (0, .inr (.inr (some (6, 0)))), (1, .inl x1), (2, .inl x2), (3, .inl x3)]) dX4_ruleFor_45 (by decide) rfl ?_
  refine am_aload dX4_ruleFor_47 (List.Mem.head _) ?_
  refine am_ifnonnull (tgt := 54) dX4_ruleFor_49 (by decide) (fun _ => ?_) (fun e => by cases e)
  refine am_aload_n dX4_ruleFor_54 (List.Mem.tail _ (List.Mem.head _)) ?_
  refine am_getf (f := 0) (v := .inr (.inr (some (5, 0)))) dX4_ruleFor_55 hc_6 (by decide) wd_438 (by decide) rfl rfl ?_
  refine am_aload_n dX4_ruleFor_58 (List.Mem.tail _ (List.Mem.head _)) ?_
  refine am_getf (f := 0) (v := .inr (.inr (some (5, 0)))) dX4_ruleFor_59 hc_6 (by decide) wd_438 (by decide) rfl rfl ?_
  refine am_getf (f := 6) (v := .inr (.inr (some (39, 0)))) dX4_ruleFor_62 hc_5 (by decide) wd_326 (by decide) rfl rfl ?_
  refine am_iload_n dX4_ruleFor_65 (List.Mem.tail _ (List.Mem.tail _ (List.Mem.tail _ (List.Mem.head _)))) ?_
  have o1 := h.1
  replace h := h.2
  have o2 := h.1
  replace h := h.2
  refine am_iaload (v := (w.1 39 0 x2.toNat)) dX4_ruleFor_66 (by decide) rfl o1 o2 rfl ?_
  refine am_iload_n dX4_ruleFor_67 (List.Mem.tail _ (List.Mem.tail _ (List.Mem.tail _ (List.Mem.tail _ (List.Mem.head _))))) ?_
  exact am_callv (d' := d + 3) (kc := 0) (ks := 0) (as := [.inl (w.1 39 0 x2.toNat), .inl x3]) dX4_ruleFor_68 wc_X2_gather wd_1173 wd_1140 wd_1141 wd_117 ds_X2_gather (by decide) (by omega) (Nat.le_of_ble_eq_true rfl) (Nat.zero_le _) (Nat.zero_le _) hc_5 (by decide) rfl rfl h
theorem bX4_ruleFor_71 {SC : Nat → Nat} {X : mh_X} {d : Nat} {Q : Option am_V → am_W → Prop} {bc bs : Nat} {w : am_W} {j4 : Nat} {x1 : Int} {x2 : Int} {x3 : Int}
    (h : am_A (mh_G X) SC (d + 4) mX4_ruleFor Q 77 [(0, .inr (.inr (some (6, 0)))), (1, .inl x1), (2, .inl x2), (4, .inr (.inr (some (10, j4)))), (5, .inl (-1)), (6, .inl 0)] [] w bc bs) :
    am_A (mh_G X) SC (d + 4) mX4_ruleFor Q 71 [(4, .inr (.inr (some (10, j4)))), (0, .inr (.inr (some (6, 0)))), (1, .inl x1), (2, .inl x2), (3, .inl x3)] [] w bc bs := by
  refine am_iconst dX4_ruleFor_71 (by unfold am_rg; omega) ?_
  refine am_istore (ls' := [(5, .inl (-1)), (4, .inr (.inr (some (10, j4)))), (0, .inr (.inr (some (6, 0)))), (1, .inl x1), (2, .inl x2), (3, .inl x3)]) dX4_ruleFor_72 (by decide) rfl ?_
  refine am_iconst dX4_ruleFor_74 (by unfold am_rg; omega) ?_
  refine am_istore (ls' := [(6, .inl 0), (5, .inl (-1)), (4, .inr (.inr (some (10, j4)))), (0, .inr (.inr (some (6, 0)))), (1, .inl x1), (2, .inl x2), (3, .inl x3)]) dX4_ruleFor_75 (by decide) rfl ?_
  exact am_sub [3, 4, 5, 2, 1, 0] rfl h
theorem bX4_ruleFor_77 {SC : Nat → Nat} {X : mh_X} {d : Nat} {Q : Option am_V → am_W → Prop} {bc bs : Nat} {w : am_W} {x1 : Int} {x2 : Int} {j4 : Nat} {x5 : Int} {x6 : Int}
    (h : (((w.1 10 j4 10) ≤ x6 → Q (some (.inl x5)) w) ∧ (¬ (w.1 10 j4 10) ≤ x6 → ((x5 = (-1) → am_A (mh_G X) SC (d + 4) mX4_ruleFor Q 110 [(0, .inr (.inr (some (6, 0)))), (1, .inl x1), (2, .inl x2), (4, .inr (.inr (some (10, j4)))), (5, .inl x5), (6, .inl x6)] [] w bc bs) ∧ (¬ x5 = (-1) → (0 ≤ x6 ∧ (x6 < 30 ∧ (0 ≤ x5 ∧ (x5 < 30 ∧ (((w.1 144 j4 x5.toNat) < (w.1 144 j4 x6.toNat) → am_A (mh_G X) SC (d + 4) mX4_ruleFor Q 115 [(0, .inr (.inr (some (6, 0)))), (1, .inl x1), (2, .inl x2), (4, .inr (.inr (some (10, j4)))), (5, .inl x5), (6, .inl x6)] [.inl 0] w bc bs) ∧ (¬ (w.1 144 j4 x5.toNat) < (w.1 144 j4 x6.toNat) → am_A (mh_G X) SC (d + 4) mX4_ruleFor Q 110 [(0, .inr (.inr (some (6, 0)))), (1, .inl x1), (2, .inl x2), (4, .inr (.inr (some (10, j4)))), (5, .inl x5), (6, .inl x6)] [] w bc bs))))))))))) :
    am_A (mh_G X) SC (d + 4) mX4_ruleFor Q 77 [(0, .inr (.inr (some (6, 0)))), (1, .inl x1), (2, .inl x2), (4, .inr (.inr (some (10, j4)))), (5, .inl x5), (6, .inl x6)] [] w bc bs := by
  refine am_iload dX4_ruleFor_77 (List.Mem.tail _ (List.Mem.tail _ (List.Mem.tail _ (List.Mem.tail _ (List.Mem.tail _ (List.Mem.head _)))))) ?_
  refine am_aload dX4_ruleFor_79 (List.Mem.tail _ (List.Mem.tail _ (List.Mem.tail _ (List.Mem.head _)))) ?_
  refine am_getf (f := 10) (v := .inl (w.1 10 j4 10)) dX4_ruleFor_81 hc_4 (by decide) wd_228 (by decide) rfl rfl ?_
  refine am_icmpge (tgt := 148) dX4_ruleFor_84 (by decide) (fun c1 => ?_) (fun c1 => ?_)
  · replace h := h.1 c1
    refine am_iload dX4_ruleFor_148 (List.Mem.tail _ (List.Mem.tail _ (List.Mem.tail _ (List.Mem.tail _ (List.Mem.head _))))) ?_
    exact am_ret (r := some (.inl x5)) dX4_ruleFor_150 (Or.inl rfl) rfl h
  · replace h := h.2 c1
    refine am_iload dX4_ruleFor_87 (List.Mem.tail _ (List.Mem.tail _ (List.Mem.tail _ (List.Mem.tail _ (List.Mem.head _))))) ?_
    refine am_iconst dX4_ruleFor_89 (by unfold am_rg; omega) ?_
    refine am_icmpeq (tgt := 110) dX4_ruleFor_90 (by decide) (fun c2 => ?_) (fun c2 => ?_)
    · replace h := h.1 c2
      exact h
    · replace h := h.2 c2
      refine am_aload dX4_ruleFor_93 (List.Mem.tail _ (List.Mem.tail _ (List.Mem.tail _ (List.Mem.head _)))) ?_
      refine am_iload dX4_ruleFor_95 (List.Mem.tail _ (List.Mem.tail _ (List.Mem.tail _ (List.Mem.tail _ (List.Mem.tail _ (List.Mem.head _)))))) ?_
      have o3 := h.1
      replace h := h.2
      have o4 := h.1
      replace h := h.2
      refine am_callv (d' := d + 3) (kc := 0) (ks := 0) (as := [.inl x6]) dX4_ruleFor_97 wc_X3_kinCount wd_1174 wd_1149 wd_1150 wd_116 ds_X3_kinCount (by decide) (by omega) (Nat.le_of_ble_eq_true rfl) (Nat.zero_le _) (Nat.zero_le _) hc_4 (by decide) rfl rfl (sX3_kinCount (d := d + 2) (j0 := j4) (x1 := x6) o3 o4 ?_)
      show am_A (mh_G X) SC (d + 4) mX4_ruleFor Q 100 [(0, .inr (.inr (some (6, 0)))), (1, .inl x1), (2, .inl x2), (4, .inr (.inr (some (10, j4)))), (5, .inl x5), (6, .inl x6)] [.inl (w.1 144 j4 x6.toNat)] w bc bs
      refine am_aload dX4_ruleFor_100 (List.Mem.tail _ (List.Mem.tail _ (List.Mem.tail _ (List.Mem.head _)))) ?_
      refine am_iload dX4_ruleFor_102 (List.Mem.tail _ (List.Mem.tail _ (List.Mem.tail _ (List.Mem.tail _ (List.Mem.head _))))) ?_
      have o5 := h.1
      replace h := h.2
      have o6 := h.1
      replace h := h.2
      refine am_callv (d' := d + 3) (kc := 0) (ks := 0) (as := [.inl x5]) dX4_ruleFor_104 wc_X3_kinCount wd_1174 wd_1149 wd_1150 wd_116 ds_X3_kinCount (by decide) (by omega) (Nat.le_of_ble_eq_true rfl) (Nat.zero_le _) (Nat.zero_le _) hc_4 (by decide) rfl rfl (sX3_kinCount (d := d + 2) (j0 := j4) (x1 := x5) o5 o6 ?_)
      show am_A (mh_G X) SC (d + 4) mX4_ruleFor Q 107 [(0, .inr (.inr (some (6, 0)))), (1, .inl x1), (2, .inl x2), (4, .inr (.inr (some (10, j4)))), (5, .inl x5), (6, .inl x6)] [.inl (w.1 144 j4 x5.toNat), .inl (w.1 144 j4 x6.toNat)] w bc bs
      refine am_icmpgt (tgt := 114) dX4_ruleFor_107 (by decide) (fun c7 => ?_) (fun c7 => ?_)
      · replace h := h.1 c7
        refine am_iconst dX4_ruleFor_114 (by unfold am_rg; omega) ?_
        exact h
      · replace h := h.2 c7
        exact h
theorem bX4_ruleFor_110 {SC : Nat → Nat} {X : mh_X} {d : Nat} {Q : Option am_V → am_W → Prop} {bc bs : Nat} {w : am_W} {x1 : Int} {x2 : Int} {j4 : Nat} {x5 : Int} {x6 : Int}
    (h : am_A (mh_G X) SC (d + 4) mX4_ruleFor Q 115 [(0, .inr (.inr (some (6, 0)))), (1, .inl x1), (2, .inl x2), (4, .inr (.inr (some (10, j4)))), (5, .inl x5), (6, .inl x6)] [.inl 1] w bc bs) :
    am_A (mh_G X) SC (d + 4) mX4_ruleFor Q 110 [(0, .inr (.inr (some (6, 0)))), (1, .inl x1), (2, .inl x2), (4, .inr (.inr (some (10, j4)))), (5, .inl x5), (6, .inl x6)] [] w bc bs := by
  refine am_iconst dX4_ruleFor_110 (by unfold am_rg; omega) ?_
  refine am_goto (tgt := 115) dX4_ruleFor_111 (by decide) ?_
  exact h
theorem bX4_ruleFor_115 {SC : Nat → Nat} {X : mh_X} {d : Nat} {Q : Option am_V → am_W → Prop} {bc bs : Nat} {w : am_W} {x1 : Int} {x2 : Int} {j4 : Nat} {x5 : Int} {x6 : Int} {xs0 : Int}
    (h : ((xs0 = 0 → am_A (mh_G X) SC (d + 4) mX4_ruleFor Q 142 [(0, .inr (.inr (some (6, 0)))), (1, .inl x1), (2, .inl x2), (4, .inr (.inr (some (10, j4)))), (5, .inl x5), (6, .inl x6)] [] w bc bs) ∧ (¬ xs0 = 0 → am_M (mh_G X) SC (d + 3) 0 0 mX2_isKin [.inr (.inr (some (5, 0))), .inr (.inr (some (10, j4))), .inl x6, .inl x1, .inl x2] w (fun r w1 => am_A (mh_G X) SC (d + 4) mX4_ruleFor Q 135 [(7, .inl xs0), (0, .inr (.inr (some (6, 0)))), (1, .inl x1), (2, .inl x2), (4, .inr (.inr (some (10, j4)))), (5, .inl x5), (6, .inl x6)] (r.toList ++ []) w1 bc bs)))) :
    am_A (mh_G X) SC (d + 4) mX4_ruleFor Q 115 [(0, .inr (.inr (some (6, 0)))), (1, .inl x1), (2, .inl x2), (4, .inr (.inr (some (10, j4)))), (5, .inl x5), (6, .inl x6)] [.inl xs0] w bc bs := by
  refine am_istore (ls' := [(7, .inl xs0), (0, .inr (.inr (some (6, 0)))), (1, .inl x1), (2, .inl x2), (4, .inr (.inr (some (10, j4)))), (5, .inl x5), (6, .inl x6)]) dX4_ruleFor_115 (by decide) rfl ?_
  refine am_iload dX4_ruleFor_117 (List.Mem.head _) ?_
  refine am_ifeq (tgt := 142) dX4_ruleFor_119 (by decide) (fun c1 => ?_) (fun c1 => ?_)
  · replace h := h.1 c1
    exact am_sub [1, 2, 3, 4, 5, 6] rfl h
  · replace h := h.2 c1
    refine am_aload_n dX4_ruleFor_122 (List.Mem.tail _ (List.Mem.head _)) ?_
    refine am_getf (f := 0) (v := .inr (.inr (some (5, 0)))) dX4_ruleFor_123 hc_6 (by decide) wd_438 (by decide) rfl rfl ?_
    refine am_aload dX4_ruleFor_126 (List.Mem.tail _ (List.Mem.tail _ (List.Mem.tail _ (List.Mem.tail _ (List.Mem.head _))))) ?_
    refine am_iload dX4_ruleFor_128 (List.Mem.tail _ (List.Mem.tail _ (List.Mem.tail _ (List.Mem.tail _ (List.Mem.tail _ (List.Mem.tail _ (List.Mem.head _))))))) ?_
    refine am_iload_n dX4_ruleFor_130 (List.Mem.tail _ (List.Mem.tail _ (List.Mem.head _))) ?_
    refine am_iload_n dX4_ruleFor_131 (List.Mem.tail _ (List.Mem.tail _ (List.Mem.tail _ (List.Mem.head _)))) ?_
    exact am_callv (d' := d + 3) (kc := 0) (ks := 0) (as := [.inr (.inr (some (10, j4))), .inl x6, .inl x1, .inl x2]) dX4_ruleFor_132 wc_X2_isKin wd_1175 wd_1144 wd_1145 wd_117 ds_X2_isKin (by decide) (by omega) (Nat.le_of_ble_eq_true rfl) (Nat.zero_le _) (Nat.zero_le _) hc_5 (by decide) rfl rfl h
theorem bX4_ruleFor_142 {SC : Nat → Nat} {X : mh_X} {d : Nat} {Q : Option am_V → am_W → Prop} {bc bs : Nat} {w : am_W} {x1 : Int} {x2 : Int} {j4 : Nat} {x5 : Int} {x6 : Int}
    (h : am_A (mh_G X) SC (d + 4) mX4_ruleFor Q 77 [(0, .inr (.inr (some (6, 0)))), (1, .inl x1), (2, .inl x2), (4, .inr (.inr (some (10, j4)))), (5, .inl x5), (6, .inl (am_w (x6 + 1)))] [] w bc bs) :
    am_A (mh_G X) SC (d + 4) mX4_ruleFor Q 142 [(0, .inr (.inr (some (6, 0)))), (1, .inl x1), (2, .inl x2), (4, .inr (.inr (some (10, j4)))), (5, .inl x5), (6, .inl x6)] [] w bc bs := by
  refine am_iinc (ls' := [(6, .inl (am_w (x6 + 1))), (0, .inr (.inr (some (6, 0)))), (1, .inl x1), (2, .inl x2), (4, .inr (.inr (some (10, j4)))), (5, .inl x5)]) dX4_ruleFor_142 (List.Mem.tail _ (List.Mem.tail _ (List.Mem.tail _ (List.Mem.tail _ (List.Mem.tail _ (List.Mem.head _)))))) (by decide) rfl ?_
  refine am_goto (tgt := 77) dX4_ruleFor_145 (by decide) ?_
  exact am_sub [1, 2, 3, 4, 5, 0] rfl h
theorem bX4_ruleFor_135 {SC : Nat → Nat} {X : mh_X} {d : Nat} {Q : Option am_V → am_W → Prop} {bc bs : Nat} {w : am_W} {x7 : Int} {x1 : Int} {x2 : Int} {j4 : Nat} {x5 : Int} {x6 : Int} {xs0 : Int}
    (h : ((xs0 = 0 → am_A (mh_G X) SC (d + 4) mX4_ruleFor Q 142 [(0, .inr (.inr (some (6, 0)))), (1, .inl x1), (2, .inl x2), (4, .inr (.inr (some (10, j4)))), (5, .inl x5), (6, .inl x6)] [] w bc bs) ∧ (¬ xs0 = 0 → am_A (mh_G X) SC (d + 4) mX4_ruleFor Q 142 [(0, .inr (.inr (some (6, 0)))), (1, .inl x1), (2, .inl x2), (4, .inr (.inr (some (10, j4)))), (5, .inl x6), (6, .inl x6)] [] w bc bs))) :
    am_A (mh_G X) SC (d + 4) mX4_ruleFor Q 135 [(7, .inl x7), (0, .inr (.inr (some (6, 0)))), (1, .inl x1), (2, .inl x2), (4, .inr (.inr (some (10, j4)))), (5, .inl x5), (6, .inl x6)] [.inl xs0] w bc bs := by
  refine am_ifeq (tgt := 142) dX4_ruleFor_135 (by decide) (fun c1 => ?_) (fun c1 => ?_)
  · replace h := h.1 c1
    exact am_sub [1, 2, 3, 4, 5, 6] rfl h
  · replace h := h.2 c1
    refine am_iload dX4_ruleFor_138 (List.Mem.tail _ (List.Mem.tail _ (List.Mem.tail _ (List.Mem.tail _ (List.Mem.tail _ (List.Mem.tail _ (List.Mem.head _))))))) ?_
    refine am_istore (ls' := [(5, .inl x6), (7, .inl x7), (0, .inr (.inr (some (6, 0)))), (1, .inl x1), (2, .inl x2), (4, .inr (.inr (some (10, j4)))), (6, .inl x6)]) dX4_ruleFor_140 (by decide) rfl ?_
    exact am_sub [2, 3, 4, 5, 0, 6] rfl h
-- MourningHouse$Mourning.depthNow()I
theorem dX5_depthNow_0 : decode mX5_depthNow.2.1 0 = .ok (.aload_n 0, 1) := by decide +kernel
theorem dX5_depthNow_1 : decode mX5_depthNow.2.1 1 = .ok (.getfield 17, 3) := by decide +kernel
theorem dX5_depthNow_4 : decode mX5_depthNow.2.1 4 = .ok (.aload_n 0, 1) := by decide +kernel
theorem dX5_depthNow_5 : decode mX5_depthNow.2.1 5 = .ok (.getfield 46, 3) := by decide +kernel
theorem dX5_depthNow_8 : decode mX5_depthNow.2.1 8 = .ok (.iaload, 1) := by decide +kernel
theorem dX5_depthNow_9 : decode mX5_depthNow.2.1 9 = .ok (.ireturn, 1) := by decide +kernel
theorem sX5_depthNow {SC : Nat → Nat} {X : mh_X} {d kc ks : Nat} {Q : Option am_V → am_W → Prop} {w : am_W} {j0 : Nat} (Ho1 : 0 ≤ (w.1 11 j0 10)) (Ho2 : (w.1 11 j0 10) < 4)
    (h : Q (some (.inl (w.1 155 j0 (w.1 11 j0 10).toNat))) w) : am_M (mh_G X) SC (d + 1) kc ks mX5_depthNow [.inr (.inr (some (11, j0)))] w Q := by
  refine am_M_of (by decide) (Nat.le_of_ble_eq_true rfl) ?_
  show am_A (mh_G X) SC (d + 1) mX5_depthNow Q 0 [(0, .inr (.inr (some (11, j0))))] [] w kc ks
  refine am_aload_n dX5_depthNow_0 (List.Mem.head _) ?_
  refine am_getf (f := 1) (v := .inr (.inr (some (155, j0)))) dX5_depthNow_1 hc_7 (by decide) wd_400 (by decide) rfl rfl ?_
  refine am_aload_n dX5_depthNow_4 (List.Mem.head _) ?_
  refine am_getf (f := 10) (v := .inl (w.1 11 j0 10)) dX5_depthNow_5 hc_7 (by decide) wd_414 (by decide) rfl rfl ?_
  have o1 := Ho1
  have o2 := Ho2
  refine am_iaload (v := (w.1 155 j0 (w.1 11 j0 10).toNat)) dX5_depthNow_8 (by decide) rfl o1 o2 rfl ?_
  exact am_ret (r := some (.inl (w.1 155 j0 (w.1 11 j0 10).toNat))) dX5_depthNow_9 (Or.inl rfl) rfl h
-- MourningHouse$Mourning.goesOn(I)Z
theorem dX5_goesOn_0 : decode mX5_goesOn.2.1 0 = .ok (.aload_n 0, 1) := by decide +kernel
theorem dX5_goesOn_1 : decode mX5_goesOn.2.1 1 = .ok (.getfield 30, 3) := by decide +kernel
theorem dX5_goesOn_4 : decode mX5_goesOn.2.1 4 = .ok (.ifCond .eq 16, 3) := by decide +kernel
theorem dX5_goesOn_7 : decode mX5_goesOn.2.1 7 = .ok (.aload_n 0, 1) := by decide +kernel
theorem dX5_goesOn_8 : decode mX5_goesOn.2.1 8 = .ok (.getfield 17, 3) := by decide +kernel
theorem dX5_goesOn_11 : decode mX5_goesOn.2.1 11 = .ok (.aload_n 0, 1) := by decide +kernel
theorem dX5_goesOn_12 : decode mX5_goesOn.2.1 12 = .ok (.getfield 46, 3) := by decide +kernel
theorem dX5_goesOn_15 : decode mX5_goesOn.2.1 15 = .ok (.iaload, 1) := by decide +kernel
theorem dX5_goesOn_16 : decode mX5_goesOn.2.1 16 = .ok (.iload_n 1, 1) := by decide +kernel
theorem dX5_goesOn_17 : decode mX5_goesOn.2.1 17 = .ok (.if_icmp .ne 7, 3) := by decide +kernel
theorem dX5_goesOn_20 : decode mX5_goesOn.2.1 20 = .ok (.iconst 1, 1) := by decide +kernel
theorem dX5_goesOn_21 : decode mX5_goesOn.2.1 21 = .ok (.goto 4, 3) := by decide +kernel
theorem dX5_goesOn_24 : decode mX5_goesOn.2.1 24 = .ok (.iconst 0, 1) := by decide +kernel
theorem dX5_goesOn_25 : decode mX5_goesOn.2.1 25 = .ok (.ireturn, 1) := by decide +kernel
theorem sX5_goesOn {SC : Nat → Nat} {X : mh_X} {d kc ks : Nat} {Q : Option am_V → am_W → Prop} {w : am_W} {j0 : Nat} {x1 : Int} (Ho2 : ¬ (w.1 11 j0 5) = 0 → 0 ≤ (w.1 11 j0 10)) (Ho3 : ¬ (w.1 11 j0 5) = 0 → (w.1 11 j0 10) < 4)
    (h : Q (some (.inl (if ((w.1 11 j0 5) = 0 ∨ ((w.1 155 j0 (w.1 11 j0 10).toNat) = x1)) then 1 else 0))) w) : am_M (mh_G X) SC (d + 1) kc ks mX5_goesOn [.inr (.inr (some (11, j0))), .inl x1] w Q := by
  refine am_M_of (by decide) (Nat.le_of_ble_eq_true rfl) ?_
  show am_A (mh_G X) SC (d + 1) mX5_goesOn Q 0 [(0, .inr (.inr (some (11, j0)))), (1, .inl x1)] [] w kc ks
  refine am_aload_n dX5_goesOn_0 (List.Mem.head _) ?_
  refine am_getf (f := 5) (v := .inl (w.1 11 j0 5)) dX5_goesOn_1 hc_7 (by decide) wd_406 (by decide) rfl rfl ?_
  refine am_ifeq (tgt := 20) dX5_goesOn_4 (by decide) (fun c1 => ?_) (fun c1 => ?_)
  · refine am_iconst dX5_goesOn_20 (by unfold am_rg; omega) ?_
    refine am_goto (tgt := 25) dX5_goesOn_21 (by decide) ?_
    rw [if_pos (by omega)] at h
    exact am_ret (r := some (.inl 1)) dX5_goesOn_25 (Or.inr (Or.inl ⟨rfl, (Or.inr rfl)⟩)) rfl h
  · refine am_aload_n dX5_goesOn_7 (List.Mem.head _) ?_
    refine am_getf (f := 1) (v := .inr (.inr (some (155, j0)))) dX5_goesOn_8 hc_7 (by decide) wd_400 (by decide) rfl rfl ?_
    refine am_aload_n dX5_goesOn_11 (List.Mem.head _) ?_
    refine am_getf (f := 10) (v := .inl (w.1 11 j0 10)) dX5_goesOn_12 hc_7 (by decide) wd_414 (by decide) rfl rfl ?_
    have o2 := Ho2 c1
    have o3 := Ho3 c1
    refine am_iaload (v := (w.1 155 j0 (w.1 11 j0 10).toNat)) dX5_goesOn_15 (by decide) rfl o2 o3 rfl ?_
    refine am_iload_n dX5_goesOn_16 (List.Mem.tail _ (List.Mem.head _)) ?_
    refine am_icmpne (tgt := 24) dX5_goesOn_17 (by decide) (fun c4 => ?_) (fun c4 => ?_)
    · refine am_iconst dX5_goesOn_24 (by unfold am_rg; omega) ?_
      rw [if_neg (by omega)] at h
      exact am_ret (r := some (.inl 0)) dX5_goesOn_25 (Or.inr (Or.inl ⟨rfl, (Or.inl rfl)⟩)) rfl h
    · refine am_iconst dX5_goesOn_20 (by unfold am_rg; omega) ?_
      refine am_goto (tgt := 25) dX5_goesOn_21 (by decide) ?_
      rw [if_pos (by omega)] at h
      exact am_ret (r := some (.inl 1)) dX5_goesOn_25 (Or.inr (Or.inl ⟨rfl, (Or.inr rfl)⟩)) rfl h
-- MourningHouse$Mourning.isOn(I)Z
theorem dX5_isOn_0 : decode mX5_isOn.2.1 0 = .ok (.aload_n 0, 1) := by decide +kernel
theorem dX5_isOn_1 : decode mX5_isOn.2.1 1 = .ok (.getfield 37, 3) := by decide +kernel
theorem dX5_isOn_4 : decode mX5_isOn.2.1 4 = .ok (.ifCond .ne 15, 3) := by decide +kernel
theorem dX5_isOn_7 : decode mX5_isOn.2.1 7 = .ok (.aload_n 0, 1) := by decide +kernel
theorem dX5_isOn_8 : decode mX5_isOn.2.1 8 = .ok (.getfield 27, 3) := by decide +kernel
theorem dX5_isOn_11 : decode mX5_isOn.2.1 11 = .ok (.iload_n 1, 1) := by decide +kernel
theorem dX5_isOn_12 : decode mX5_isOn.2.1 12 = .ok (.if_icmp .gt 7, 3) := by decide +kernel
theorem dX5_isOn_15 : decode mX5_isOn.2.1 15 = .ok (.iconst 1, 1) := by decide +kernel
theorem dX5_isOn_16 : decode mX5_isOn.2.1 16 = .ok (.goto 4, 3) := by decide +kernel
theorem dX5_isOn_19 : decode mX5_isOn.2.1 19 = .ok (.iconst 0, 1) := by decide +kernel
theorem dX5_isOn_20 : decode mX5_isOn.2.1 20 = .ok (.ireturn, 1) := by decide +kernel
theorem sX5_isOn {SC : Nat → Nat} {X : mh_X} {d kc ks : Nat} {Q : Option am_V → am_W → Prop} {w : am_W} {j0 : Nat} {x1 : Int}
    (h : Q (some (.inl (if ((w.1 11 j0 7) = 0 ∧ (¬ x1 < (w.1 11 j0 4))) then 1 else 0))) w) : am_M (mh_G X) SC (d + 1) kc ks mX5_isOn [.inr (.inr (some (11, j0))), .inl x1] w Q := by
  refine am_M_of (by decide) (Nat.le_of_ble_eq_true rfl) ?_
  show am_A (mh_G X) SC (d + 1) mX5_isOn Q 0 [(0, .inr (.inr (some (11, j0)))), (1, .inl x1)] [] w kc ks
  refine am_aload_n dX5_isOn_0 (List.Mem.head _) ?_
  refine am_getf (f := 7) (v := .inl (w.1 11 j0 7)) dX5_isOn_1 hc_7 (by decide) wd_409 (by decide) rfl rfl ?_
  refine am_ifne (tgt := 19) dX5_isOn_4 (by decide) (fun c1 => ?_) (fun c1 => ?_)
  · refine am_iconst dX5_isOn_19 (by unfold am_rg; omega) ?_
    rw [if_neg (by omega)] at h
    exact am_ret (r := some (.inl 0)) dX5_isOn_20 (Or.inr (Or.inl ⟨rfl, (Or.inl rfl)⟩)) rfl h
  · refine am_aload_n dX5_isOn_7 (List.Mem.head _) ?_
    refine am_getf (f := 4) (v := .inl (w.1 11 j0 4)) dX5_isOn_8 hc_7 (by decide) wd_404 (by decide) rfl rfl ?_
    refine am_iload_n dX5_isOn_11 (List.Mem.tail _ (List.Mem.head _)) ?_
    refine am_icmpgt (tgt := 19) dX5_isOn_12 (by decide) (fun c2 => ?_) (fun c2 => ?_)
    · refine am_iconst dX5_isOn_19 (by unfold am_rg; omega) ?_
      rw [if_neg (by omega)] at h
      exact am_ret (r := some (.inl 0)) dX5_isOn_20 (Or.inr (Or.inl ⟨rfl, (Or.inl rfl)⟩)) rfl h
    · refine am_iconst dX5_isOn_15 (by unfold am_rg; omega) ?_
      refine am_goto (tgt := 20) dX5_isOn_16 (by decide) ?_
      rw [if_pos (by omega)] at h
      exact am_ret (r := some (.inl 1)) dX5_isOn_20 (Or.inr (Or.inl ⟨rfl, (Or.inr rfl)⟩)) rfl h
-- MourningHouse$Mourning.leftInPart()I
theorem dX5_leftInPart_0 : decode mX5_leftInPart.2.1 0 = .ok (.aload_n 0, 1) := by decide +kernel
theorem dX5_leftInPart_1 : decode mX5_leftInPart.2.1 1 = .ok (.getfield 11, 3) := by decide +kernel
theorem dX5_leftInPart_4 : decode mX5_leftInPart.2.1 4 = .ok (.aload_n 0, 1) := by decide +kernel
theorem dX5_leftInPart_5 : decode mX5_leftInPart.2.1 5 = .ok (.getfield 46, 3) := by decide +kernel
theorem dX5_leftInPart_8 : decode mX5_leftInPart.2.1 8 = .ok (.iaload, 1) := by decide +kernel
theorem dX5_leftInPart_9 : decode mX5_leftInPart.2.1 9 = .ok (.aload_n 0, 1) := by decide +kernel
theorem dX5_leftInPart_10 : decode mX5_leftInPart.2.1 10 = .ok (.getfield 43, 3) := by decide +kernel
theorem dX5_leftInPart_13 : decode mX5_leftInPart.2.1 13 = .ok (.isub, 1) := by decide +kernel
theorem dX5_leftInPart_14 : decode mX5_leftInPart.2.1 14 = .ok (.ireturn, 1) := by decide +kernel
theorem sX5_leftInPart {SC : Nat → Nat} {X : mh_X} {d kc ks : Nat} {Q : Option am_V → am_W → Prop} {w : am_W} {j0 : Nat} (Ho1 : 0 ≤ (w.1 11 j0 10)) (Ho2 : (w.1 11 j0 10) < 4)
    (h : Q (some (.inl (am_w ((w.1 154 j0 (w.1 11 j0 10).toNat) - (w.1 11 j0 9))))) w) : am_M (mh_G X) SC (d + 1) kc ks mX5_leftInPart [.inr (.inr (some (11, j0)))] w Q := by
  refine am_M_of (by decide) (Nat.le_of_ble_eq_true rfl) ?_
  show am_A (mh_G X) SC (d + 1) mX5_leftInPart Q 0 [(0, .inr (.inr (some (11, j0))))] [] w kc ks
  refine am_aload_n dX5_leftInPart_0 (List.Mem.head _) ?_
  refine am_getf (f := 0) (v := .inr (.inr (some (154, j0)))) dX5_leftInPart_1 hc_7 (by decide) wd_399 (by decide) rfl rfl ?_
  refine am_aload_n dX5_leftInPart_4 (List.Mem.head _) ?_
  refine am_getf (f := 10) (v := .inl (w.1 11 j0 10)) dX5_leftInPart_5 hc_7 (by decide) wd_414 (by decide) rfl rfl ?_
  have o1 := Ho1
  have o2 := Ho2
  refine am_iaload (v := (w.1 154 j0 (w.1 11 j0 10).toNat)) dX5_leftInPart_8 (by decide) rfl o1 o2 rfl ?_
  refine am_aload_n dX5_leftInPart_9 (List.Mem.head _) ?_
  refine am_getf (f := 9) (v := .inl (w.1 11 j0 9)) dX5_leftInPart_10 hc_7 (by decide) wd_413 (by decide) rfl rfl ?_
  refine am_isub dX5_leftInPart_13 ?_
  exact am_ret (r := some (.inl (am_w ((w.1 154 j0 (w.1 11 j0 10).toNat) - (w.1 11 j0 9))))) dX5_leftInPart_14 (Or.inl rfl) rfl h
-- MourningHouse$Mourner.lookAhead()V
theorem dX4_lookAhead_0 : decode mX4_lookAhead.2.1 0 = .ok (.aload_n 0, 1) := by decide +kernel
theorem dX4_lookAhead_1 : decode mX4_lookAhead.2.1 1 = .ok (.iconst 0, 1) := by decide +kernel
theorem dX4_lookAhead_2 : decode mX4_lookAhead.2.1 2 = .ok (.putfield 35, 3) := by decide +kernel
theorem dX4_lookAhead_5 : decode mX4_lookAhead.2.1 5 = .ok (.aload_n 0, 1) := by decide +kernel
theorem dX4_lookAhead_6 : decode mX4_lookAhead.2.1 6 = .ok (.iconst 0, 1) := by decide +kernel
theorem dX4_lookAhead_7 : decode mX4_lookAhead.2.1 7 = .ok (.putfield 38, 3) := by decide +kernel
theorem dX4_lookAhead_10 : decode mX4_lookAhead.2.1 10 = .ok (.iconst 0, 1) := by decide +kernel
theorem dX4_lookAhead_11 : decode mX4_lookAhead.2.1 11 = .ok (.istore_n 1, 1) := by decide +kernel
theorem dX4_lookAhead_12 : decode mX4_lookAhead.2.1 12 = .ok (.iload_n 1, 1) := by decide +kernel
theorem dX4_lookAhead_13 : decode mX4_lookAhead.2.1 13 = .ok (.aload_n 0, 1) := by decide +kernel
theorem dX4_lookAhead_14 : decode mX4_lookAhead.2.1 14 = .ok (.getfield 19, 3) := by decide +kernel
theorem dX4_lookAhead_17 : decode mX4_lookAhead.2.1 17 = .ok (.if_icmp .ge 78, 3) := by decide +kernel
theorem dX4_lookAhead_20 : decode mX4_lookAhead.2.1 20 = .ok (.aload_n 0, 1) := by decide +kernel
theorem dX4_lookAhead_21 : decode mX4_lookAhead.2.1 21 = .ok (.getfield 15, 3) := by decide +kernel
theorem dX4_lookAhead_24 : decode mX4_lookAhead.2.1 24 = .ok (.iload_n 1, 1) := by decide +kernel
theorem dX4_lookAhead_25 : decode mX4_lookAhead.2.1 25 = .ok (.aaload, 1) := by decide +kernel
theorem dX4_lookAhead_26 : decode mX4_lookAhead.2.1 26 = .ok (.astore_n 2, 1) := by decide +kernel
theorem dX4_lookAhead_27 : decode mX4_lookAhead.2.1 27 = .ok (.aload_n 2, 1) := by decide +kernel
theorem dX4_lookAhead_28 : decode mX4_lookAhead.2.1 28 = .ok (.aload_n 0, 1) := by decide +kernel
theorem dX4_lookAhead_29 : decode mX4_lookAhead.2.1 29 = .ok (.getfield 29, 3) := by decide +kernel
theorem dX4_lookAhead_32 : decode mX4_lookAhead.2.1 32 = .ok (.invokevirtual 125, 3) := by decide +kernel
theorem dX4_lookAhead_35 : decode mX4_lookAhead.2.1 35 = .ok (.ifCond .eq 28, 3) := by decide +kernel
theorem dX4_lookAhead_38 : decode mX4_lookAhead.2.1 38 = .ok (.aload_n 2, 1) := by decide +kernel
theorem dX4_lookAhead_39 : decode mX4_lookAhead.2.1 39 = .ok (.getfield 150, 3) := by decide +kernel
theorem dX4_lookAhead_42 : decode mX4_lookAhead.2.1 42 = .ok (.ifCond .eq 21, 3) := by decide +kernel
theorem dX4_lookAhead_45 : decode mX4_lookAhead.2.1 45 = .ok (.aload_n 0, 1) := by decide +kernel
theorem dX4_lookAhead_46 : decode mX4_lookAhead.2.1 46 = .ok (.aload_n 0, 1) := by decide +kernel
theorem dX4_lookAhead_47 : decode mX4_lookAhead.2.1 47 = .ok (.getfield 35, 3) := by decide +kernel
theorem dX4_lookAhead_50 : decode mX4_lookAhead.2.1 50 = .ok (.aload_n 2, 1) := by decide +kernel
theorem dX4_lookAhead_51 : decode mX4_lookAhead.2.1 51 = .ok (.invokevirtual 143, 3) := by decide +kernel
theorem dX4_lookAhead_54 : decode mX4_lookAhead.2.1 54 = .ok (.invokestatic 110, 3) := by decide +kernel
theorem dX4_lookAhead_57 : decode mX4_lookAhead.2.1 57 = .ok (.putfield 35, 3) := by decide +kernel
theorem dX4_lookAhead_60 : decode mX4_lookAhead.2.1 60 = .ok (.goto 29, 3) := by decide +kernel
theorem dX4_lookAhead_63 : decode mX4_lookAhead.2.1 63 = .ok (.aload_n 2, 1) := by decide +kernel
theorem dX4_lookAhead_64 : decode mX4_lookAhead.2.1 64 = .ok (.aload_n 0, 1) := by decide +kernel
theorem dX4_lookAhead_65 : decode mX4_lookAhead.2.1 65 = .ok (.getfield 29, 3) := by decide +kernel
theorem dX4_lookAhead_68 : decode mX4_lookAhead.2.1 68 = .ok (.invokevirtual 125, 3) := by decide +kernel
theorem dX4_lookAhead_71 : decode mX4_lookAhead.2.1 71 = .ok (.ifCond .eq 18, 3) := by decide +kernel
theorem dX4_lookAhead_74 : decode mX4_lookAhead.2.1 74 = .ok (.aload_n 0, 1) := by decide +kernel
theorem dX4_lookAhead_75 : decode mX4_lookAhead.2.1 75 = .ok (.aload_n 0, 1) := by decide +kernel
theorem dX4_lookAhead_76 : decode mX4_lookAhead.2.1 76 = .ok (.getfield 38, 3) := by decide +kernel
theorem dX4_lookAhead_79 : decode mX4_lookAhead.2.1 79 = .ok (.aload_n 2, 1) := by decide +kernel
theorem dX4_lookAhead_80 : decode mX4_lookAhead.2.1 80 = .ok (.invokevirtual 143, 3) := by decide +kernel
theorem dX4_lookAhead_83 : decode mX4_lookAhead.2.1 83 = .ok (.invokestatic 110, 3) := by decide +kernel
theorem dX4_lookAhead_86 : decode mX4_lookAhead.2.1 86 = .ok (.putfield 38, 3) := by decide +kernel
theorem dX4_lookAhead_89 : decode mX4_lookAhead.2.1 89 = .ok (.iinc 1 1, 3) := by decide +kernel
theorem dX4_lookAhead_92 : decode mX4_lookAhead.2.1 92 = .ok (.goto (-80), 3) := by decide +kernel
theorem dX4_lookAhead_95 : decode mX4_lookAhead.2.1 95 = .ok (.aload_n 0, 1) := by decide +kernel
theorem dX4_lookAhead_96 : decode mX4_lookAhead.2.1 96 = .ok (.getfield 35, 3) := by decide +kernel
theorem dX4_lookAhead_99 : decode mX4_lookAhead.2.1 99 = .ok (.aload_n 0, 1) := by decide +kernel
theorem dX4_lookAhead_100 : decode mX4_lookAhead.2.1 100 = .ok (.getfield 38, 3) := by decide +kernel
theorem dX4_lookAhead_103 : decode mX4_lookAhead.2.1 103 = .ok (.invokestatic 110, 3) := by decide +kernel
theorem dX4_lookAhead_106 : decode mX4_lookAhead.2.1 106 = .ok (.istore_n 1, 1) := by decide +kernel
theorem dX4_lookAhead_107 : decode mX4_lookAhead.2.1 107 = .ok (.aload_n 0, 1) := by decide +kernel
theorem dX4_lookAhead_108 : decode mX4_lookAhead.2.1 108 = .ok (.ldc 154, 2) := by decide +kernel
theorem dX4_lookAhead_110 : decode mX4_lookAhead.2.1 110 = .ok (.aload_n 0, 1) := by decide +kernel
theorem dX4_lookAhead_111 : decode mX4_lookAhead.2.1 111 = .ok (.getfield 41, 3) := by decide +kernel
theorem dX4_lookAhead_114 : decode mX4_lookAhead.2.1 114 = .ok (.aload_n 0, 1) := by decide +kernel
theorem dX4_lookAhead_115 : decode mX4_lookAhead.2.1 115 = .ok (.getfield 23, 3) := by decide +kernel
theorem dX4_lookAhead_118 : decode mX4_lookAhead.2.1 118 = .ok (.aload_n 0, 1) := by decide +kernel
theorem dX4_lookAhead_119 : decode mX4_lookAhead.2.1 119 = .ok (.getfield 29, 3) := by decide +kernel
theorem dX4_lookAhead_122 : decode mX4_lookAhead.2.1 122 = .ok (.aload_n 0, 1) := by decide +kernel
theorem dX4_lookAhead_123 : decode mX4_lookAhead.2.1 123 = .ok (.getfield 26, 3) := by decide +kernel
theorem dX4_lookAhead_126 : decode mX4_lookAhead.2.1 126 = .ok (.invokevirtual 140, 3) := by decide +kernel
theorem dX4_lookAhead_129 : decode mX4_lookAhead.2.1 129 = .ok (.invokestatic 155, 3) := by decide +kernel
theorem dX4_lookAhead_132 : decode mX4_lookAhead.2.1 132 = .ok (.putfield 32, 3) := by decide +kernel
theorem dX4_lookAhead_135 : decode mX4_lookAhead.2.1 135 = .ok (.iconst 0, 1) := by decide +kernel
theorem dX4_lookAhead_136 : decode mX4_lookAhead.2.1 136 = .ok (.istore_n 2, 1) := by decide +kernel
theorem dX4_lookAhead_137 : decode mX4_lookAhead.2.1 137 = .ok (.iload_n 2, 1) := by decide +kernel
theorem dX4_lookAhead_138 : decode mX4_lookAhead.2.1 138 = .ok (.aload_n 0, 1) := by decide +kernel
theorem dX4_lookAhead_139 : decode mX4_lookAhead.2.1 139 = .ok (.getfield 19, 3) := by decide +kernel
theorem dX4_lookAhead_142 : decode mX4_lookAhead.2.1 142 = .ok (.if_icmp .ge 80, 3) := by decide +kernel
theorem dX4_lookAhead_145 : decode mX4_lookAhead.2.1 145 = .ok (.aload_n 0, 1) := by decide +kernel
theorem dX4_lookAhead_146 : decode mX4_lookAhead.2.1 146 = .ok (.getfield 15, 3) := by decide +kernel
theorem dX4_lookAhead_149 : decode mX4_lookAhead.2.1 149 = .ok (.iload_n 2, 1) := by decide +kernel
theorem dX4_lookAhead_150 : decode mX4_lookAhead.2.1 150 = .ok (.aaload, 1) := by decide +kernel
theorem dX4_lookAhead_151 : decode mX4_lookAhead.2.1 151 = .ok (.astore_n 3, 1) := by decide +kernel
theorem dX4_lookAhead_152 : decode mX4_lookAhead.2.1 152 = .ok (.aload_n 3, 1) := by decide +kernel
theorem dX4_lookAhead_153 : decode mX4_lookAhead.2.1 153 = .ok (.getfield 158, 3) := by decide +kernel
theorem dX4_lookAhead_156 : decode mX4_lookAhead.2.1 156 = .ok (.aload_n 0, 1) := by decide +kernel
theorem dX4_lookAhead_157 : decode mX4_lookAhead.2.1 157 = .ok (.getfield 29, 3) := by decide +kernel
theorem dX4_lookAhead_160 : decode mX4_lookAhead.2.1 160 = .ok (.if_icmp .le 21, 3) := by decide +kernel
theorem dX4_lookAhead_163 : decode mX4_lookAhead.2.1 163 = .ok (.aload_n 0, 1) := by decide +kernel
theorem dX4_lookAhead_164 : decode mX4_lookAhead.2.1 164 = .ok (.aload_n 0, 1) := by decide +kernel
theorem dX4_lookAhead_165 : decode mX4_lookAhead.2.1 165 = .ok (.getfield 32, 3) := by decide +kernel
theorem dX4_lookAhead_168 : decode mX4_lookAhead.2.1 168 = .ok (.aload_n 3, 1) := by decide +kernel
theorem dX4_lookAhead_169 : decode mX4_lookAhead.2.1 169 = .ok (.getfield 158, 3) := by decide +kernel
theorem dX4_lookAhead_172 : decode mX4_lookAhead.2.1 172 = .ok (.invokestatic 155, 3) := by decide +kernel
theorem dX4_lookAhead_175 : decode mX4_lookAhead.2.1 175 = .ok (.putfield 32, 3) := by decide +kernel
theorem dX4_lookAhead_178 : decode mX4_lookAhead.2.1 178 = .ok (.goto 38, 3) := by decide +kernel
theorem dX4_lookAhead_181 : decode mX4_lookAhead.2.1 181 = .ok (.aload_n 3, 1) := by decide +kernel
theorem dX4_lookAhead_182 : decode mX4_lookAhead.2.1 182 = .ok (.getfield 161, 3) := by decide +kernel
theorem dX4_lookAhead_185 : decode mX4_lookAhead.2.1 185 = .ok (.ifCond .ne 31, 3) := by decide +kernel
theorem dX4_lookAhead_188 : decode mX4_lookAhead.2.1 188 = .ok (.aload_n 3, 1) := by decide +kernel
theorem dX4_lookAhead_189 : decode mX4_lookAhead.2.1 189 = .ok (.iload_n 1, 1) := by decide +kernel
theorem dX4_lookAhead_190 : decode mX4_lookAhead.2.1 190 = .ok (.invokevirtual 128, 3) := by decide +kernel
theorem dX4_lookAhead_193 : decode mX4_lookAhead.2.1 193 = .ok (.ifCond .eq 23, 3) := by decide +kernel
theorem dX4_lookAhead_196 : decode mX4_lookAhead.2.1 196 = .ok (.aload_n 0, 1) := by decide +kernel
theorem dX4_lookAhead_197 : decode mX4_lookAhead.2.1 197 = .ok (.aload_n 0, 1) := by decide +kernel
theorem dX4_lookAhead_198 : decode mX4_lookAhead.2.1 198 = .ok (.getfield 32, 3) := by decide +kernel
theorem dX4_lookAhead_201 : decode mX4_lookAhead.2.1 201 = .ok (.aload_n 0, 1) := by decide +kernel
theorem dX4_lookAhead_202 : decode mX4_lookAhead.2.1 202 = .ok (.getfield 29, 3) := by decide +kernel
theorem dX4_lookAhead_205 : decode mX4_lookAhead.2.1 205 = .ok (.aload_n 3, 1) := by decide +kernel
theorem dX4_lookAhead_206 : decode mX4_lookAhead.2.1 206 = .ok (.invokevirtual 164, 3) := by decide +kernel
theorem dX4_lookAhead_209 : decode mX4_lookAhead.2.1 209 = .ok (.iadd, 1) := by decide +kernel
theorem dX4_lookAhead_210 : decode mX4_lookAhead.2.1 210 = .ok (.invokestatic 155, 3) := by decide +kernel
theorem dX4_lookAhead_213 : decode mX4_lookAhead.2.1 213 = .ok (.putfield 32, 3) := by decide +kernel
theorem dX4_lookAhead_216 : decode mX4_lookAhead.2.1 216 = .ok (.iinc 2 1, 3) := by decide +kernel
theorem dX4_lookAhead_219 : decode mX4_lookAhead.2.1 219 = .ok (.goto (-82), 3) := by decide +kernel
theorem dX4_lookAhead_222 : decode mX4_lookAhead.2.1 222 = .ok (.return_, 1) := by decide +kernel
theorem bX4_lookAhead_0 {SC : Nat → Nat} {X : mh_X} {d : Nat} {Q : Option am_V → am_W → Prop} {bc bs : Nat} {w : am_W} 
    (h : am_A (mh_G X) SC (d + 2) mX4_lookAhead Q 12 [(0, .inr (.inr (some (6, 0)))), (1, .inl 0)] [] ((am_up (am_up w.1 6 0 8 0) 6 0 9 0), w.2) bc bs) :
    am_A (mh_G X) SC (d + 2) mX4_lookAhead Q 0 [(0, .inr (.inr (some (6, 0))))] [] w bc bs := by
  refine am_aload_n dX4_lookAhead_0 (List.Mem.head _) ?_
  refine am_iconst dX4_lookAhead_1 (by unfold am_rg; omega) ?_
  refine am_putf (f := 8) dX4_lookAhead_2 hc_6 (by decide) wd_446 rfl (Or.inl rfl) (Or.inl (by decide)) rfl ?_
  refine am_aload_n dX4_lookAhead_5 (List.Mem.head _) ?_
  refine am_iconst dX4_lookAhead_6 (by unfold am_rg; omega) ?_
  refine am_putf (f := 9) dX4_lookAhead_7 hc_6 (by decide) wd_447 rfl (Or.inl rfl) (Or.inl (by decide)) rfl ?_
  refine am_iconst dX4_lookAhead_10 (by unfold am_rg; omega) ?_
  refine am_istore_n (ls' := [(1, .inl 0), (0, .inr (.inr (some (6, 0))))]) dX4_lookAhead_11 (by decide) rfl ?_
  exact am_sub [1, 0] rfl h
theorem bX4_lookAhead_12 {SC : Nat → Nat} {X : mh_X} {d : Nat} {Q : Option am_V → am_W → Prop} {bc bs : Nat} {w : am_W} {x1 : Int}
    (h : (((w.1 6 0 3) ≤ x1 → am_M (mh_G X) SC (d + 1) 0 0 mX2_nextWedding [.inr (.inr (some (5, 0))), .inl (w.1 6 0 4), .inl (w.1 6 0 6), .inl (w.1 6 0 5)] w (fun r w1 => am_A (mh_G X) SC (d + 2) mX4_lookAhead Q 129 [(1, .inl (max (w.1 6 0 8) (w.1 6 0 9))), (0, .inr (.inr (some (6, 0))))] (r.toList ++ [.inl 73049, .inr (.inr (some (6, 0)))]) w1 bc bs)) ∧ (¬ (w.1 6 0 3) ≤ x1 → (0 ≤ x1 ∧ (x1 < 40 ∧ ((¬ ((w.1 11 x1.toNat 7) = 0 ∧ (¬ (w.1 6 0 6) < (w.1 11 x1.toNat 4))) → am_A (mh_G X) SC (d + 2) mX4_lookAhead Q 63 [(0, .inr (.inr (some (6, 0)))), (1, .inl x1), (2, .inr (.inr (some (11, x1.toNat))))] [] w bc bs) ∧ (((w.1 11 x1.toNat 7) = 0 ∧ (¬ (w.1 6 0 6) < (w.1 11 x1.toNat 4))) → (((w.1 11 x1.toNat 6) = 0 → am_A (mh_G X) SC (d + 2) mX4_lookAhead Q 63 [(0, .inr (.inr (some (6, 0)))), (1, .inl x1), (2, .inr (.inr (some (11, x1.toNat))))] [] w bc bs) ∧ (¬ (w.1 11 x1.toNat 6) = 0 → (0 ≤ (w.1 11 x1.toNat 10) ∧ ((w.1 11 x1.toNat 10) < 4 ∧ am_A (mh_G X) SC (d + 2) mX4_lookAhead Q 89 [(0, .inr (.inr (some (6, 0)))), (1, .inl x1)] [] ((am_up w.1 6 0 8 (max (w.1 6 0 8) (w.1 155 x1.toNat (w.1 11 x1.toNat 10).toNat))), w.2) bc bs))))))))))) :
    am_A (mh_G X) SC (d + 2) mX4_lookAhead Q 12 [(0, .inr (.inr (some (6, 0)))), (1, .inl x1)] [] w bc bs := by
  refine am_iload_n dX4_lookAhead_12 (List.Mem.tail _ (List.Mem.head _)) ?_
  refine am_aload_n dX4_lookAhead_13 (List.Mem.head _) ?_
  refine am_getf (f := 3) (v := .inl (w.1 6 0 3)) dX4_lookAhead_14 hc_6 (by decide) wd_441 (by decide) rfl rfl ?_
  refine am_icmpge (tgt := 95) dX4_lookAhead_17 (by decide) (fun c1 => ?_) (fun c1 => ?_)
  · replace h := h.1 c1
    refine am_aload_n dX4_lookAhead_95 (List.Mem.head _) ?_
    refine am_getf (f := 8) (v := .inl (w.1 6 0 8)) dX4_lookAhead_96 hc_6 (by decide) wd_446 (by decide) rfl rfl ?_
    refine am_aload_n dX4_lookAhead_99 (List.Mem.head _) ?_
    refine am_getf (f := 9) (v := .inl (w.1 6 0 9)) dX4_lookAhead_100 hc_6 (by decide) wd_447 (by decide) rfl rfl ?_
    refine am_mmax dX4_lookAhead_103 wd_1191 (by omega) (Nat.le_of_ble_eq_true rfl) ?_
    refine am_istore_n (ls' := [(1, .inl (max (w.1 6 0 8) (w.1 6 0 9))), (0, .inr (.inr (some (6, 0))))]) dX4_lookAhead_106 (by decide) rfl ?_
    refine am_aload_n dX4_lookAhead_107 (List.Mem.tail _ (List.Mem.head _)) ?_
    refine am_ldcV (n := 73049) dX4_lookAhead_108 (by decide) wd_1224 (by unfold am_rg; omega) ?_
    refine am_aload_n dX4_lookAhead_110 (List.Mem.tail _ (List.Mem.head _)) ?_
    refine am_getf (f := 0) (v := .inr (.inr (some (5, 0)))) dX4_lookAhead_111 hc_6 (by decide) wd_438 (by decide) rfl rfl ?_
    refine am_aload_n dX4_lookAhead_114 (List.Mem.tail _ (List.Mem.head _)) ?_
    refine am_getf (f := 4) (v := .inl (w.1 6 0 4)) dX4_lookAhead_115 hc_6 (by decide) wd_442 (by decide) rfl rfl ?_
    refine am_aload_n dX4_lookAhead_118 (List.Mem.tail _ (List.Mem.head _)) ?_
    refine am_getf (f := 6) (v := .inl (w.1 6 0 6)) dX4_lookAhead_119 hc_6 (by decide) wd_444 (by decide) rfl rfl ?_
    refine am_aload_n dX4_lookAhead_122 (List.Mem.tail _ (List.Mem.head _)) ?_
    refine am_getf (f := 5) (v := .inl (w.1 6 0 5)) dX4_lookAhead_123 hc_6 (by decide) wd_443 (by decide) rfl rfl ?_
    exact am_callv (d' := d + 1) (kc := 0) (ks := 0) (as := [.inl (w.1 6 0 4), .inl (w.1 6 0 6), .inl (w.1 6 0 5)]) dX4_lookAhead_126 wc_X2_nextWedding wd_1225 wd_1226 wd_1227 wd_117 ds_X2_nextWedding (by decide) (by omega) (Nat.le_of_ble_eq_true rfl) (Nat.zero_le _) (Nat.zero_le _) hc_5 (by decide) rfl rfl h
  · replace h := h.2 c1
    refine am_aload_n dX4_lookAhead_20 (List.Mem.head _) ?_
    refine am_getf (f := 2) (v := .inr (.inr (some (49, 0)))) dX4_lookAhead_21 hc_6 (by decide) wd_440 (by decide) rfl rfl ?_
    refine am_iload_n dX4_lookAhead_24 (List.Mem.tail _ (List.Mem.head _)) ?_
    have o2 := h.1
    replace h := h.2
    have o3 := h.1
    replace h := h.2
    refine am_aaload (kd := 8) (r := some (11, x1.toNat)) dX4_lookAhead_25 (by decide) rfl (by decide) (by decide) o2 o3 rfl ?_
    refine am_astore_n (ls' := [(2, .inr (.inr (some (11, x1.toNat)))), (0, .inr (.inr (some (6, 0)))), (1, .inl x1)]) dX4_lookAhead_26 (by decide) rfl ?_
    refine am_aload_n dX4_lookAhead_27 (List.Mem.head _) ?_
    refine am_aload_n dX4_lookAhead_28 (List.Mem.tail _ (List.Mem.head _)) ?_
    refine am_getf (f := 6) (v := .inl (w.1 6 0 6)) dX4_lookAhead_29 hc_6 (by decide) wd_444 (by decide) rfl rfl ?_
    refine am_callv (d' := d + 1) (kc := 0) (ks := 0) (as := [.inl (w.1 6 0 6)]) dX4_lookAhead_32 wc_X5_isOn wd_1216 wd_1217 wd_1218 wd_119 ds_X5_isOn (by decide) (by omega) (Nat.le_of_ble_eq_true rfl) (Nat.zero_le _) (Nat.zero_le _) hc_7 (by decide) rfl rfl (sX5_isOn (d := d + 0) (j0 := x1.toNat) (x1 := (w.1 6 0 6))  ?_)
    show am_A (mh_G X) SC (d + 2) mX4_lookAhead Q 35 [(2, .inr (.inr (some (11, x1.toNat)))), (0, .inr (.inr (some (6, 0)))), (1, .inl x1)] [.inl (if ((w.1 11 x1.toNat 7) = 0 ∧ (¬ (w.1 6 0 6) < (w.1 11 x1.toNat 4))) then 1 else 0)] w bc bs
    refine am_ifeq (tgt := 63) dX4_lookAhead_35 (by decide) (fun c4 => ?_) (fun c4 => ?_)
    · replace c4 := am_beq1 c4
      replace h := h.1 c4
      exact am_sub [1, 2, 0] rfl h
    · replace c4 := am_beq2 c4
      replace h := h.2 c4
      refine am_aload_n dX4_lookAhead_38 (List.Mem.head _) ?_
      refine am_getf (f := 6) (v := .inl (w.1 11 x1.toNat 6)) dX4_lookAhead_39 hc_7 (by decide) wd_408 (by decide) rfl rfl ?_
      refine am_ifeq (tgt := 63) dX4_lookAhead_42 (by decide) (fun c5 => ?_) (fun c5 => ?_)
      · replace h := h.1 c5
        exact am_sub [1, 2, 0] rfl h
      · replace h := h.2 c5
        refine am_aload_n dX4_lookAhead_45 (List.Mem.tail _ (List.Mem.head _)) ?_
        refine am_aload_n dX4_lookAhead_46 (List.Mem.tail _ (List.Mem.head _)) ?_
        refine am_getf (f := 8) (v := .inl (w.1 6 0 8)) dX4_lookAhead_47 hc_6 (by decide) wd_446 (by decide) rfl rfl ?_
        refine am_aload_n dX4_lookAhead_50 (List.Mem.head _) ?_
        have o6 := h.1
        replace h := h.2
        have o7 := h.1
        replace h := h.2
        refine am_callv (d' := d + 1) (kc := 0) (ks := 0) (as := []) dX4_lookAhead_51 wc_X5_depthNow wd_1220 wd_1221 wd_1222 wd_119 ds_X5_depthNow (by decide) (by omega) (Nat.le_of_ble_eq_true rfl) (Nat.zero_le _) (Nat.zero_le _) hc_7 (by decide) rfl rfl (sX5_depthNow (d := d + 0) (j0 := x1.toNat) o6 o7 ?_)
        show am_A (mh_G X) SC (d + 2) mX4_lookAhead Q 54 [(2, .inr (.inr (some (11, x1.toNat)))), (0, .inr (.inr (some (6, 0)))), (1, .inl x1)] [.inl (w.1 155 x1.toNat (w.1 11 x1.toNat 10).toNat), .inl (w.1 6 0 8), .inr (.inr (some (6, 0)))] w bc bs
        refine am_mmax dX4_lookAhead_54 wd_1191 (by omega) (Nat.le_of_ble_eq_true rfl) ?_
        refine am_putf (f := 8) dX4_lookAhead_57 hc_6 (by decide) wd_446 rfl (Or.inl rfl) (Or.inl (by decide)) rfl ?_
        refine am_goto (tgt := 89) dX4_lookAhead_60 (by decide) ?_
        exact am_sub [1, 2] rfl h
theorem bX4_lookAhead_129 {SC : Nat → Nat} {X : mh_X} {d : Nat} {Q : Option am_V → am_W → Prop} {bc bs : Nat} {w : am_W} {x1 : Int} {xs0 : Int} {xs1 : Int}
    (h : am_A (mh_G X) SC (d + 2) mX4_lookAhead Q 137 [(0, .inr (.inr (some (6, 0)))), (1, .inl x1), (2, .inl 0)] [] ((am_up w.1 6 0 7 (min xs1 xs0)), w.2) bc bs) :
    am_A (mh_G X) SC (d + 2) mX4_lookAhead Q 129 [(1, .inl x1), (0, .inr (.inr (some (6, 0))))] [.inl xs0, .inl xs1, .inr (.inr (some (6, 0)))] w bc bs := by
  refine am_mmin dX4_lookAhead_129 wd_1229 (by omega) (Nat.le_of_ble_eq_true rfl) ?_
  refine am_putf (f := 7) dX4_lookAhead_132 hc_6 (by decide) wd_445 rfl (Or.inl rfl) (Or.inl (by decide)) rfl ?_
  refine am_iconst dX4_lookAhead_135 (by unfold am_rg; omega) ?_
  refine am_istore_n (ls' := [(2, .inl 0), (1, .inl x1), (0, .inr (.inr (some (6, 0))))]) dX4_lookAhead_136 (by decide) rfl ?_
  exact am_sub [2, 1, 0] rfl h
theorem bX4_lookAhead_63 {SC : Nat → Nat} {X : mh_X} {d : Nat} {Q : Option am_V → am_W → Prop} {bc bs : Nat} {w : am_W} {x1 : Int} {j2 : Nat}
    (h : ((¬ ((w.1 11 j2 7) = 0 ∧ (¬ (w.1 6 0 6) < (w.1 11 j2 4))) → am_A (mh_G X) SC (d + 2) mX4_lookAhead Q 89 [(0, .inr (.inr (some (6, 0)))), (1, .inl x1)] [] w bc bs) ∧ (((w.1 11 j2 7) = 0 ∧ (¬ (w.1 6 0 6) < (w.1 11 j2 4))) → (0 ≤ (w.1 11 j2 10) ∧ ((w.1 11 j2 10) < 4 ∧ am_A (mh_G X) SC (d + 2) mX4_lookAhead Q 89 [(0, .inr (.inr (some (6, 0)))), (1, .inl x1)] [] ((am_up w.1 6 0 9 (max (w.1 6 0 9) (w.1 155 j2 (w.1 11 j2 10).toNat))), w.2) bc bs))))) :
    am_A (mh_G X) SC (d + 2) mX4_lookAhead Q 63 [(0, .inr (.inr (some (6, 0)))), (1, .inl x1), (2, .inr (.inr (some (11, j2))))] [] w bc bs := by
  refine am_aload_n dX4_lookAhead_63 (List.Mem.tail _ (List.Mem.tail _ (List.Mem.head _))) ?_
  refine am_aload_n dX4_lookAhead_64 (List.Mem.head _) ?_
  refine am_getf (f := 6) (v := .inl (w.1 6 0 6)) dX4_lookAhead_65 hc_6 (by decide) wd_444 (by decide) rfl rfl ?_
  refine am_callv (d' := d + 1) (kc := 0) (ks := 0) (as := [.inl (w.1 6 0 6)]) dX4_lookAhead_68 wc_X5_isOn wd_1216 wd_1217 wd_1218 wd_119 ds_X5_isOn (by decide) (by omega) (Nat.le_of_ble_eq_true rfl) (Nat.zero_le _) (Nat.zero_le _) hc_7 (by decide) rfl rfl (sX5_isOn (d := d + 0) (j0 := j2) (x1 := (w.1 6 0 6))  ?_)
  show am_A (mh_G X) SC (d + 2) mX4_lookAhead Q 71 [(0, .inr (.inr (some (6, 0)))), (1, .inl x1), (2, .inr (.inr (some (11, j2))))] [.inl (if ((w.1 11 j2 7) = 0 ∧ (¬ (w.1 6 0 6) < (w.1 11 j2 4))) then 1 else 0)] w bc bs
  refine am_ifeq (tgt := 89) dX4_lookAhead_71 (by decide) (fun c1 => ?_) (fun c1 => ?_)
  · replace c1 := am_beq1 c1
    replace h := h.1 c1
    exact am_sub [0, 1] rfl h
  · replace c1 := am_beq2 c1
    replace h := h.2 c1
    refine am_aload_n dX4_lookAhead_74 (List.Mem.head _) ?_
    refine am_aload_n dX4_lookAhead_75 (List.Mem.head _) ?_
    refine am_getf (f := 9) (v := .inl (w.1 6 0 9)) dX4_lookAhead_76 hc_6 (by decide) wd_447 (by decide) rfl rfl ?_
    refine am_aload_n dX4_lookAhead_79 (List.Mem.tail _ (List.Mem.tail _ (List.Mem.head _))) ?_
    have o2 := h.1
    replace h := h.2
    have o3 := h.1
    replace h := h.2
    refine am_callv (d' := d + 1) (kc := 0) (ks := 0) (as := []) dX4_lookAhead_80 wc_X5_depthNow wd_1220 wd_1221 wd_1222 wd_119 ds_X5_depthNow (by decide) (by omega) (Nat.le_of_ble_eq_true rfl) (Nat.zero_le _) (Nat.zero_le _) hc_7 (by decide) rfl rfl (sX5_depthNow (d := d + 0) (j0 := j2) o2 o3 ?_)
    show am_A (mh_G X) SC (d + 2) mX4_lookAhead Q 83 [(0, .inr (.inr (some (6, 0)))), (1, .inl x1), (2, .inr (.inr (some (11, j2))))] [.inl (w.1 155 j2 (w.1 11 j2 10).toNat), .inl (w.1 6 0 9), .inr (.inr (some (6, 0)))] w bc bs
    refine am_mmax dX4_lookAhead_83 wd_1191 (by omega) (Nat.le_of_ble_eq_true rfl) ?_
    refine am_putf (f := 9) dX4_lookAhead_86 hc_6 (by decide) wd_447 rfl (Or.inl rfl) (Or.inl (by decide)) rfl ?_
    exact am_sub [0, 1] rfl h
theorem bX4_lookAhead_89 {SC : Nat → Nat} {X : mh_X} {d : Nat} {Q : Option am_V → am_W → Prop} {bc bs : Nat} {w : am_W} {x1 : Int}
    (h : am_A (mh_G X) SC (d + 2) mX4_lookAhead Q 12 [(0, .inr (.inr (some (6, 0)))), (1, .inl (am_w (x1 + 1)))] [] w bc bs) :
    am_A (mh_G X) SC (d + 2) mX4_lookAhead Q 89 [(0, .inr (.inr (some (6, 0)))), (1, .inl x1)] [] w bc bs := by
  refine am_iinc (ls' := [(1, .inl (am_w (x1 + 1))), (0, .inr (.inr (some (6, 0))))]) dX4_lookAhead_89 (List.Mem.tail _ (List.Mem.head _)) (by decide) rfl ?_
  refine am_goto (tgt := 12) dX4_lookAhead_92 (by decide) ?_
  exact am_sub [1, 0] rfl h
theorem bX4_lookAhead_137 {SC : Nat → Nat} {X : mh_X} {d : Nat} {Q : Option am_V → am_W → Prop} {bc bs : Nat} {w : am_W} {x1 : Int} {x2 : Int}
    (h : (((w.1 6 0 3) ≤ x2 → Q none w) ∧ (¬ (w.1 6 0 3) ≤ x2 → (0 ≤ x2 ∧ (x2 < 40 ∧ (((w.1 11 x2.toNat 4) ≤ (w.1 6 0 6) → ((¬ (w.1 11 x2.toNat 7) = 0 → am_A (mh_G X) SC (d + 2) mX4_lookAhead Q 216 [(0, .inr (.inr (some (6, 0)))), (1, .inl x1), (2, .inl x2)] [] w bc bs) ∧ ((w.1 11 x2.toNat 7) = 0 → ((¬ (w.1 11 x2.toNat 5) = 0 → 0 ≤ (w.1 11 x2.toNat 10)) ∧ ((¬ (w.1 11 x2.toNat 5) = 0 → (w.1 11 x2.toNat 10) < 4) ∧ ((¬ ((w.1 11 x2.toNat 5) = 0 ∨ ((w.1 155 x2.toNat (w.1 11 x2.toNat 10).toNat) = x1)) → am_A (mh_G X) SC (d + 2) mX4_lookAhead Q 216 [(0, .inr (.inr (some (6, 0)))), (1, .inl x1), (2, .inl x2)] [] w bc bs) ∧ (((w.1 11 x2.toNat 5) = 0 ∨ ((w.1 155 x2.toNat (w.1 11 x2.toNat 10).toNat) = x1)) → (0 ≤ (w.1 11 x2.toNat 10) ∧ ((w.1 11 x2.toNat 10) < 4 ∧ am_A (mh_G X) SC (d + 2) mX4_lookAhead Q 216 [(0, .inr (.inr (some (6, 0)))), (1, .inl x1), (2, .inl x2)] [] ((am_up w.1 6 0 7 (min (w.1 6 0 7) (am_w ((w.1 6 0 6) + (am_w ((w.1 154 x2.toNat (w.1 11 x2.toNat 10).toNat) - (w.1 11 x2.toNat 9))))))), w.2) bc bs))))))))) ∧ (¬ (w.1 11 x2.toNat 4) ≤ (w.1 6 0 6) → am_A (mh_G X) SC (d + 2) mX4_lookAhead Q 216 [(0, .inr (.inr (some (6, 0)))), (1, .inl x1), (2, .inl x2)] [] ((am_up w.1 6 0 7 (min (w.1 6 0 7) (w.1 11 x2.toNat 4))), w.2) bc bs))))))) :
    am_A (mh_G X) SC (d + 2) mX4_lookAhead Q 137 [(0, .inr (.inr (some (6, 0)))), (1, .inl x1), (2, .inl x2)] [] w bc bs := by
  refine am_iload_n dX4_lookAhead_137 (List.Mem.tail _ (List.Mem.tail _ (List.Mem.head _))) ?_
  refine am_aload_n dX4_lookAhead_138 (List.Mem.head _) ?_
  refine am_getf (f := 3) (v := .inl (w.1 6 0 3)) dX4_lookAhead_139 hc_6 (by decide) wd_441 (by decide) rfl rfl ?_
  refine am_icmpge (tgt := 222) dX4_lookAhead_142 (by decide) (fun c1 => ?_) (fun c1 => ?_)
  · replace h := h.1 c1
    exact am_ret (r := none) dX4_lookAhead_222 rfl rfl h
  · replace h := h.2 c1
    refine am_aload_n dX4_lookAhead_145 (List.Mem.head _) ?_
    refine am_getf (f := 2) (v := .inr (.inr (some (49, 0)))) dX4_lookAhead_146 hc_6 (by decide) wd_440 (by decide) rfl rfl ?_
    refine am_iload_n dX4_lookAhead_149 (List.Mem.tail _ (List.Mem.tail _ (List.Mem.head _))) ?_
    have o2 := h.1
    replace h := h.2
    have o3 := h.1
    replace h := h.2
    refine am_aaload (kd := 8) (r := some (11, x2.toNat)) dX4_lookAhead_150 (by decide) rfl (by decide) (by decide) o2 o3 rfl ?_
    refine am_astore_n (ls' := [(3, .inr (.inr (some (11, x2.toNat)))), (0, .inr (.inr (some (6, 0)))), (1, .inl x1), (2, .inl x2)]) dX4_lookAhead_151 (by decide) rfl ?_
    refine am_aload_n dX4_lookAhead_152 (List.Mem.head _) ?_
    refine am_getf (f := 4) (v := .inl (w.1 11 x2.toNat 4)) dX4_lookAhead_153 hc_7 (by decide) wd_405 (by decide) rfl rfl ?_
    refine am_aload_n dX4_lookAhead_156 (List.Mem.tail _ (List.Mem.head _)) ?_
    refine am_getf (f := 6) (v := .inl (w.1 6 0 6)) dX4_lookAhead_157 hc_6 (by decide) wd_444 (by decide) rfl rfl ?_
    refine am_icmple (tgt := 181) dX4_lookAhead_160 (by decide) (fun c4 => ?_) (fun c4 => ?_)
    · replace h := h.1 c4
      refine am_aload_n dX4_lookAhead_181 (List.Mem.head _) ?_
      refine am_getf (f := 7) (v := .inl (w.1 11 x2.toNat 7)) dX4_lookAhead_182 hc_7 (by decide) wd_410 (by decide) rfl rfl ?_
      refine am_ifne (tgt := 216) dX4_lookAhead_185 (by decide) (fun c5 => ?_) (fun c5 => ?_)
      · replace h := h.1 c5
        exact am_sub [1, 2, 3] rfl h
      · replace h := h.2 c5
        refine am_aload_n dX4_lookAhead_188 (List.Mem.head _) ?_
        refine am_iload_n dX4_lookAhead_189 (List.Mem.tail _ (List.Mem.tail _ (List.Mem.head _))) ?_
        have o6 := h.1
        replace h := h.2
        have o7 := h.1
        replace h := h.2
        refine am_callv (d' := d + 1) (kc := 0) (ks := 0) (as := [.inl x1]) dX4_lookAhead_190 wc_X5_goesOn wd_1230 wd_1231 wd_1232 wd_119 ds_X5_goesOn (by decide) (by omega) (Nat.le_of_ble_eq_true rfl) (Nat.zero_le _) (Nat.zero_le _) hc_7 (by decide) rfl rfl (sX5_goesOn (d := d + 0) (j0 := x2.toNat) (x1 := x1) o6 o7 ?_)
        show am_A (mh_G X) SC (d + 2) mX4_lookAhead Q 193 [(3, .inr (.inr (some (11, x2.toNat)))), (0, .inr (.inr (some (6, 0)))), (1, .inl x1), (2, .inl x2)] [.inl (if ((w.1 11 x2.toNat 5) = 0 ∨ ((w.1 155 x2.toNat (w.1 11 x2.toNat 10).toNat) = x1)) then 1 else 0)] w bc bs
        refine am_ifeq (tgt := 216) dX4_lookAhead_193 (by decide) (fun c8 => ?_) (fun c8 => ?_)
        · replace c8 := am_beq1 c8
          replace h := h.1 c8
          exact am_sub [1, 2, 3] rfl h
        · replace c8 := am_beq2 c8
          replace h := h.2 c8
          refine am_aload_n dX4_lookAhead_196 (List.Mem.tail _ (List.Mem.head _)) ?_
          refine am_aload_n dX4_lookAhead_197 (List.Mem.tail _ (List.Mem.head _)) ?_
          refine am_getf (f := 7) (v := .inl (w.1 6 0 7)) dX4_lookAhead_198 hc_6 (by decide) wd_445 (by decide) rfl rfl ?_
          refine am_aload_n dX4_lookAhead_201 (List.Mem.tail _ (List.Mem.head _)) ?_
          refine am_getf (f := 6) (v := .inl (w.1 6 0 6)) dX4_lookAhead_202 hc_6 (by decide) wd_444 (by decide) rfl rfl ?_
          refine am_aload_n dX4_lookAhead_205 (List.Mem.head _) ?_
          have o9 := h.1
          replace h := h.2
          have o10 := h.1
          replace h := h.2
          refine am_callv (d' := d + 1) (kc := 0) (ks := 0) (as := []) dX4_lookAhead_206 wc_X5_leftInPart wd_1234 wd_1235 wd_1236 wd_119 ds_X5_leftInPart (by decide) (by omega) (Nat.le_of_ble_eq_true rfl) (Nat.zero_le _) (Nat.zero_le _) hc_7 (by decide) rfl rfl (sX5_leftInPart (d := d + 0) (j0 := x2.toNat) o9 o10 ?_)
          show am_A (mh_G X) SC (d + 2) mX4_lookAhead Q 209 [(3, .inr (.inr (some (11, x2.toNat)))), (0, .inr (.inr (some (6, 0)))), (1, .inl x1), (2, .inl x2)] [.inl (am_w ((w.1 154 x2.toNat (w.1 11 x2.toNat 10).toNat) - (w.1 11 x2.toNat 9))), .inl (w.1 6 0 6), .inl (w.1 6 0 7), .inr (.inr (some (6, 0)))] w bc bs
          refine am_iadd dX4_lookAhead_209 ?_
          refine am_mmin dX4_lookAhead_210 wd_1229 (by omega) (Nat.le_of_ble_eq_true rfl) ?_
          refine am_putf (f := 7) dX4_lookAhead_213 hc_6 (by decide) wd_445 rfl (Or.inl rfl) (Or.inl (by decide)) rfl ?_
          exact am_sub [1, 2, 3] rfl h
    · replace h := h.2 c4
      refine am_aload_n dX4_lookAhead_163 (List.Mem.tail _ (List.Mem.head _)) ?_
      refine am_aload_n dX4_lookAhead_164 (List.Mem.tail _ (List.Mem.head _)) ?_
      refine am_getf (f := 7) (v := .inl (w.1 6 0 7)) dX4_lookAhead_165 hc_6 (by decide) wd_445 (by decide) rfl rfl ?_
      refine am_aload_n dX4_lookAhead_168 (List.Mem.head _) ?_
      refine am_getf (f := 4) (v := .inl (w.1 11 x2.toNat 4)) dX4_lookAhead_169 hc_7 (by decide) wd_405 (by decide) rfl rfl ?_
      refine am_mmin dX4_lookAhead_172 wd_1229 (by omega) (Nat.le_of_ble_eq_true rfl) ?_
      refine am_putf (f := 7) dX4_lookAhead_175 hc_6 (by decide) wd_445 rfl (Or.inl rfl) (Or.inl (by decide)) rfl ?_
      refine am_goto (tgt := 216) dX4_lookAhead_178 (by decide) ?_
      exact am_sub [1, 2, 3] rfl h
theorem bX4_lookAhead_216 {SC : Nat → Nat} {X : mh_X} {d : Nat} {Q : Option am_V → am_W → Prop} {bc bs : Nat} {w : am_W} {x1 : Int} {x2 : Int}
    (h : am_A (mh_G X) SC (d + 2) mX4_lookAhead Q 137 [(0, .inr (.inr (some (6, 0)))), (1, .inl x1), (2, .inl (am_w (x2 + 1)))] [] w bc bs) :
    am_A (mh_G X) SC (d + 2) mX4_lookAhead Q 216 [(0, .inr (.inr (some (6, 0)))), (1, .inl x1), (2, .inl x2)] [] w bc bs := by
  refine am_iinc (ls' := [(2, .inl (am_w (x2 + 1))), (0, .inr (.inr (some (6, 0)))), (1, .inl x1)]) dX4_lookAhead_216 (List.Mem.tail _ (List.Mem.tail _ (List.Mem.head _))) (by decide) rfl ?_
  refine am_goto (tgt := 137) dX4_lookAhead_219 (by decide) ?_
  exact am_sub [1, 2, 0] rfl h
-- MourningHouse$Mourning.start(IILMourningHouse$Law;IZ)V
theorem dX5_start_0 : decode mX5_start.2.1 0 = .ok (.aload_n 0, 1) := by decide +kernel
theorem dX5_start_1 : decode mX5_start.2.1 1 = .ok (.iload_n 1, 1) := by decide +kernel
theorem dX5_start_2 : decode mX5_start.2.1 2 = .ok (.putfield 24, 3) := by decide +kernel
theorem dX5_start_5 : decode mX5_start.2.1 5 = .ok (.aload_n 0, 1) := by decide +kernel
theorem dX5_start_6 : decode mX5_start.2.1 6 = .ok (.iload_n 2, 1) := by decide +kernel
theorem dX5_start_7 : decode mX5_start.2.1 7 = .ok (.putfield 27, 3) := by decide +kernel
theorem dX5_start_10 : decode mX5_start.2.1 10 = .ok (.aload_n 0, 1) := by decide +kernel
theorem dX5_start_11 : decode mX5_start.2.1 11 = .ok (.aload_n 3, 1) := by decide +kernel
theorem dX5_start_12 : decode mX5_start.2.1 12 = .ok (.iload 4, 2) := by decide +kernel
theorem dX5_start_14 : decode mX5_start.2.1 14 = .ok (.iconst 1, 1) := by decide +kernel
theorem dX5_start_15 : decode mX5_start.2.1 15 = .ok (.invokevirtual 49, 3) := by decide +kernel
theorem dX5_start_18 : decode mX5_start.2.1 18 = .ok (.putfield 30, 3) := by decide +kernel
theorem dX5_start_21 : decode mX5_start.2.1 21 = .ok (.aload_n 0, 1) := by decide +kernel
theorem dX5_start_22 : decode mX5_start.2.1 22 = .ok (.aload_n 3, 1) := by decide +kernel
theorem dX5_start_23 : decode mX5_start.2.1 23 = .ok (.iload 4, 2) := by decide +kernel
theorem dX5_start_25 : decode mX5_start.2.1 25 = .ok (.iconst 2, 1) := by decide +kernel
theorem dX5_start_26 : decode mX5_start.2.1 26 = .ok (.invokevirtual 49, 3) := by decide +kernel
theorem dX5_start_29 : decode mX5_start.2.1 29 = .ok (.putfield 34, 3) := by decide +kernel
theorem dX5_start_32 : decode mX5_start.2.1 32 = .ok (.aload_n 0, 1) := by decide +kernel
theorem dX5_start_33 : decode mX5_start.2.1 33 = .ok (.iconst 0, 1) := by decide +kernel
theorem dX5_start_34 : decode mX5_start.2.1 34 = .ok (.putfield 37, 3) := by decide +kernel
theorem dX5_start_37 : decode mX5_start.2.1 37 = .ok (.aload_n 0, 1) := by decide +kernel
theorem dX5_start_38 : decode mX5_start.2.1 38 = .ok (.ldc 53, 2) := by decide +kernel
theorem dX5_start_40 : decode mX5_start.2.1 40 = .ok (.putfield 40, 3) := by decide +kernel
theorem dX5_start_43 : decode mX5_start.2.1 43 = .ok (.aload_n 0, 1) := by decide +kernel
theorem dX5_start_44 : decode mX5_start.2.1 44 = .ok (.iconst 0, 1) := by decide +kernel
theorem dX5_start_45 : decode mX5_start.2.1 45 = .ok (.putfield 43, 3) := by decide +kernel
theorem dX5_start_48 : decode mX5_start.2.1 48 = .ok (.aload_n 0, 1) := by decide +kernel
theorem dX5_start_49 : decode mX5_start.2.1 49 = .ok (.iconst 0, 1) := by decide +kernel
theorem dX5_start_50 : decode mX5_start.2.1 50 = .ok (.putfield 46, 3) := by decide +kernel
theorem dX5_start_53 : decode mX5_start.2.1 53 = .ok (.aload_n 0, 1) := by decide +kernel
theorem dX5_start_54 : decode mX5_start.2.1 54 = .ok (.aload_n 3, 1) := by decide +kernel
theorem dX5_start_55 : decode mX5_start.2.1 55 = .ok (.iload 4, 2) := by decide +kernel
theorem dX5_start_57 : decode mX5_start.2.1 57 = .ok (.invokevirtual 54, 3) := by decide +kernel
theorem dX5_start_60 : decode mX5_start.2.1 60 = .ok (.putfield 20, 3) := by decide +kernel
theorem dX5_start_63 : decode mX5_start.2.1 63 = .ok (.iload_n 2, 1) := by decide +kernel
theorem dX5_start_64 : decode mX5_start.2.1 64 = .ok (.istore 6, 2) := by decide +kernel
theorem dX5_start_66 : decode mX5_start.2.1 66 = .ok (.iconst 0, 1) := by decide +kernel
theorem dX5_start_67 : decode mX5_start.2.1 67 = .ok (.istore 7, 2) := by decide +kernel
theorem dX5_start_69 : decode mX5_start.2.1 69 = .ok (.iconst 0, 1) := by decide +kernel
theorem dX5_start_70 : decode mX5_start.2.1 70 = .ok (.istore 8, 2) := by decide +kernel
theorem dX5_start_72 : decode mX5_start.2.1 72 = .ok (.iload 8, 2) := by decide +kernel
theorem dX5_start_74 : decode mX5_start.2.1 74 = .ok (.aload_n 0, 1) := by decide +kernel
theorem dX5_start_75 : decode mX5_start.2.1 75 = .ok (.getfield 20, 3) := by decide +kernel
theorem dX5_start_78 : decode mX5_start.2.1 78 = .ok (.if_icmp .ge 76, 3) := by decide +kernel
theorem dX5_start_81 : decode mX5_start.2.1 81 = .ok (.aload_n 3, 1) := by decide +kernel
theorem dX5_start_82 : decode mX5_start.2.1 82 = .ok (.iload 4, 2) := by decide +kernel
theorem dX5_start_84 : decode mX5_start.2.1 84 = .ok (.iload 8, 2) := by decide +kernel
theorem dX5_start_86 : decode mX5_start.2.1 86 = .ok (.iload 6, 2) := by decide +kernel
theorem dX5_start_88 : decode mX5_start.2.1 88 = .ok (.invokevirtual 58, 3) := by decide +kernel
theorem dX5_start_91 : decode mX5_start.2.1 91 = .ok (.istore 9, 2) := by decide +kernel
theorem dX5_start_93 : decode mX5_start.2.1 93 = .ok (.iload 7, 2) := by decide +kernel
theorem dX5_start_95 : decode mX5_start.2.1 95 = .ok (.iload 5, 2) := by decide +kernel
theorem dX5_start_97 : decode mX5_start.2.1 97 = .ok (.ifCond .eq 15, 3) := by decide +kernel
theorem dX5_start_100 : decode mX5_start.2.1 100 = .ok (.iload 9, 2) := by decide +kernel
theorem dX5_start_102 : decode mX5_start.2.1 102 = .ok (.iload 6, 2) := by decide +kernel
theorem dX5_start_104 : decode mX5_start.2.1 104 = .ok (.isub, 1) := by decide +kernel
theorem dX5_start_105 : decode mX5_start.2.1 105 = .ok (.iconst 1, 1) := by decide +kernel
theorem dX5_start_106 : decode mX5_start.2.1 106 = .ok (.iadd, 1) := by decide +kernel
theorem dX5_start_107 : decode mX5_start.2.1 107 = .ok (.iconst 2, 1) := by decide +kernel
theorem dX5_start_108 : decode mX5_start.2.1 108 = .ok (.idiv, 1) := by decide +kernel
theorem dX5_start_109 : decode mX5_start.2.1 109 = .ok (.goto 8, 3) := by decide +kernel
theorem dX5_start_112 : decode mX5_start.2.1 112 = .ok (.iload 9, 2) := by decide +kernel
theorem dX5_start_114 : decode mX5_start.2.1 114 = .ok (.iload 6, 2) := by decide +kernel
theorem dX5_start_116 : decode mX5_start.2.1 116 = .ok (.isub, 1) := by decide +kernel
theorem dX5_start_117 : decode mX5_start.2.1 117 = .ok (.iadd, 1) := by decide +kernel
theorem dX5_start_118 : decode mX5_start.2.1 118 = .ok (.istore 7, 2) := by decide +kernel
theorem dX5_start_120 : decode mX5_start.2.1 120 = .ok (.aload_n 0, 1) := by decide +kernel
theorem dX5_start_121 : decode mX5_start.2.1 121 = .ok (.getfield 11, 3) := by decide +kernel
theorem dX5_start_124 : decode mX5_start.2.1 124 = .ok (.iload 8, 2) := by decide +kernel
theorem dX5_start_126 : decode mX5_start.2.1 126 = .ok (.iload 7, 2) := by decide +kernel
theorem dX5_start_128 : decode mX5_start.2.1 128 = .ok (.iastore, 1) := by decide +kernel
theorem dX5_start_129 : decode mX5_start.2.1 129 = .ok (.aload_n 0, 1) := by decide +kernel
theorem dX5_start_130 : decode mX5_start.2.1 130 = .ok (.getfield 17, 3) := by decide +kernel
theorem dX5_start_133 : decode mX5_start.2.1 133 = .ok (.iload 8, 2) := by decide +kernel
theorem dX5_start_135 : decode mX5_start.2.1 135 = .ok (.aload_n 3, 1) := by decide +kernel
theorem dX5_start_136 : decode mX5_start.2.1 136 = .ok (.iload 4, 2) := by decide +kernel
theorem dX5_start_138 : decode mX5_start.2.1 138 = .ok (.iload 8, 2) := by decide +kernel
theorem dX5_start_140 : decode mX5_start.2.1 140 = .ok (.invokevirtual 62, 3) := by decide +kernel
theorem dX5_start_143 : decode mX5_start.2.1 143 = .ok (.iastore, 1) := by decide +kernel
theorem dX5_start_144 : decode mX5_start.2.1 144 = .ok (.iload 9, 2) := by decide +kernel
theorem dX5_start_146 : decode mX5_start.2.1 146 = .ok (.istore 6, 2) := by decide +kernel
theorem dX5_start_148 : decode mX5_start.2.1 148 = .ok (.iinc 8 1, 3) := by decide +kernel
theorem dX5_start_151 : decode mX5_start.2.1 151 = .ok (.goto (-79), 3) := by decide +kernel
theorem dX5_start_154 : decode mX5_start.2.1 154 = .ok (.return_, 1) := by decide +kernel
theorem bX5_start_0 {SC : Nat → Nat} {X : mh_X} {d : Nat} {Q : Option am_V → am_W → Prop} {bc bs : Nat} {w : am_W} {j0 : Nat} {x1 : Int} {x2 : Int} {j3 : Nat} {x4 : Int} {x5 : Int}
    (h : (0 ≤ x4 ∧ (x4 < 30 ∧ am_A (mh_G X) SC (d + 4) mX5_start Q 72 [(0, .inr (.inr (some (11, j0)))), (3, .inr (.inr (some (10, j3)))), (4, .inl x4), (5, .inl x5), (6, .inl x2), (7, .inl 0), (8, .inl 0)] [] ((am_up (am_up (am_up (am_up (am_up (am_up (am_up (am_up (am_up w.1 11 j0 3 x1) 11 j0 4 x2) 11 j0 5 (if (¬ (am_and (am_shr (w.1 150 j3 x4.toNat) (1 : Int)) 1) = 0) then 1 else 0)) 11 j0 6 (if (¬ (am_and (am_shr (w.1 150 j3 x4.toNat) (2 : Int)) 1) = 0) then 1 else 0)) 11 j0 7 0) 11 j0 8 2147483647) 11 j0 9 0) 11 j0 10 0) 11 j0 2 (w.1 146 j3 x4.toNat)), w.2) bc bs))) :
    am_A (mh_G X) SC (d + 4) mX5_start Q 0 [(0, .inr (.inr (some (11, j0)))), (1, .inl x1), (2, .inl x2), (3, .inr (.inr (some (10, j3)))), (4, .inl x4), (5, .inl x5)] [] w bc bs := by
  refine am_aload_n dX5_start_0 (List.Mem.head _) ?_
  refine am_iload_n dX5_start_1 (List.Mem.tail _ (List.Mem.head _)) ?_
  refine am_putf (f := 3) dX5_start_2 hc_7 (by decide) wd_402 rfl (Or.inl rfl) (Or.inl (by decide)) rfl ?_
  refine am_aload_n dX5_start_5 (List.Mem.head _) ?_
  refine am_iload_n dX5_start_6 (List.Mem.tail _ (List.Mem.tail _ (List.Mem.head _))) ?_
  refine am_putf (f := 4) dX5_start_7 hc_7 (by decide) wd_404 rfl (Or.inl rfl) (Or.inl (by decide)) rfl ?_
  refine am_aload_n dX5_start_10 (List.Mem.head _) ?_
  refine am_aload_n dX5_start_11 (List.Mem.tail _ (List.Mem.tail _ (List.Mem.tail _ (List.Mem.head _)))) ?_
  refine am_iload dX5_start_12 (List.Mem.tail _ (List.Mem.tail _ (List.Mem.tail _ (List.Mem.tail _ (List.Mem.head _))))) ?_
  refine am_iconst dX5_start_14 (by unfold am_rg; omega) ?_
  have o1 := h.1
  replace h := h.2
  have o2 := h.1
  replace h := h.2
  refine am_callv (d' := d + 3) (kc := 0) (ks := 0) (as := [.inl x4, .inl 1]) dX5_start_15 wc_X3_hasOption wd_1196 wd_970 wd_971 wd_116 ds_X3_hasOption (by decide) (by omega) (Nat.le_of_ble_eq_true rfl) (Nat.zero_le _) (Nat.zero_le _) hc_4 (by decide) rfl rfl (sX3_hasOption (d := d + 2) (j0 := j3) (x1 := x4) (x2 := 1) o1 o2 ?_)
  show am_A (mh_G X) SC (d + 4) mX5_start Q 18 [(0, .inr (.inr (some (11, j0)))), (1, .inl x1), (2, .inl x2), (3, .inr (.inr (some (10, j3)))), (4, .inl x4), (5, .inl x5)] [.inl (if (¬ (am_and (am_shr (w.1 150 j3 x4.toNat) (1 : Int)) 1) = 0) then 1 else 0), .inr (.inr (some (11, j0)))] ((am_up (am_up w.1 11 j0 3 x1) 11 j0 4 x2), w.2) bc bs
  refine am_putf (f := 5) dX5_start_18 hc_7 (by decide) wd_406 rfl (Or.inr (Or.inl ⟨rfl, am_b01⟩)) (Or.inl (by decide)) rfl ?_
  refine am_aload_n dX5_start_21 (List.Mem.head _) ?_
  refine am_aload_n dX5_start_22 (List.Mem.tail _ (List.Mem.tail _ (List.Mem.tail _ (List.Mem.head _)))) ?_
  refine am_iload dX5_start_23 (List.Mem.tail _ (List.Mem.tail _ (List.Mem.tail _ (List.Mem.tail _ (List.Mem.head _))))) ?_
  refine am_iconst dX5_start_25 (by unfold am_rg; omega) ?_
  refine am_callv (d' := d + 3) (kc := 0) (ks := 0) (as := [.inl x4, .inl 2]) dX5_start_26 wc_X3_hasOption wd_1196 wd_970 wd_971 wd_116 ds_X3_hasOption (by decide) (by omega) (Nat.le_of_ble_eq_true rfl) (Nat.zero_le _) (Nat.zero_le _) hc_4 (by decide) rfl rfl (sX3_hasOption (d := d + 2) (j0 := j3) (x1 := x4) (x2 := 2) o1 o2 ?_)
  show am_A (mh_G X) SC (d + 4) mX5_start Q 29 [(0, .inr (.inr (some (11, j0)))), (1, .inl x1), (2, .inl x2), (3, .inr (.inr (some (10, j3)))), (4, .inl x4), (5, .inl x5)] [.inl (if (¬ (am_and (am_shr (w.1 150 j3 x4.toNat) (2 : Int)) 1) = 0) then 1 else 0), .inr (.inr (some (11, j0)))] ((am_up (am_up (am_up w.1 11 j0 3 x1) 11 j0 4 x2) 11 j0 5 (if (¬ (am_and (am_shr (w.1 150 j3 x4.toNat) (1 : Int)) 1) = 0) then 1 else 0)), w.2) bc bs
  refine am_putf (f := 6) dX5_start_29 hc_7 (by decide) wd_407 rfl (Or.inr (Or.inl ⟨rfl, am_b01⟩)) (Or.inl (by decide)) rfl ?_
  refine am_aload_n dX5_start_32 (List.Mem.head _) ?_
  refine am_iconst dX5_start_33 (by unfold am_rg; omega) ?_
  refine am_putf (f := 7) dX5_start_34 hc_7 (by decide) wd_409 rfl (Or.inr (Or.inl ⟨rfl, (Or.inl rfl)⟩)) (Or.inl (by decide)) rfl ?_
  refine am_aload_n dX5_start_37 (List.Mem.head _) ?_
  refine am_ldcV (n := 2147483647) dX5_start_38 (by decide) wd_1197 (by unfold am_rg; omega) ?_
  refine am_putf (f := 8) dX5_start_40 hc_7 (by decide) wd_411 rfl (Or.inl rfl) (Or.inl (by decide)) rfl ?_
  refine am_aload_n dX5_start_43 (List.Mem.head _) ?_
  refine am_iconst dX5_start_44 (by unfold am_rg; omega) ?_
  refine am_putf (f := 9) dX5_start_45 hc_7 (by decide) wd_413 rfl (Or.inl rfl) (Or.inl (by decide)) rfl ?_
  refine am_aload_n dX5_start_48 (List.Mem.head _) ?_
  refine am_iconst dX5_start_49 (by unfold am_rg; omega) ?_
  refine am_putf (f := 10) dX5_start_50 hc_7 (by decide) wd_414 rfl (Or.inl rfl) (Or.inl (by decide)) rfl ?_
  refine am_aload_n dX5_start_53 (List.Mem.head _) ?_
  refine am_aload_n dX5_start_54 (List.Mem.tail _ (List.Mem.tail _ (List.Mem.tail _ (List.Mem.head _)))) ?_
  refine am_iload dX5_start_55 (List.Mem.tail _ (List.Mem.tail _ (List.Mem.tail _ (List.Mem.tail _ (List.Mem.head _))))) ?_
  refine am_callv (d' := d + 3) (kc := 0) (ks := 0) (as := [.inl x4]) dX5_start_57 wc_X3_partCount wd_1198 wd_1199 wd_1200 wd_116 ds_X3_partCount (by decide) (by omega) (Nat.le_of_ble_eq_true rfl) (Nat.zero_le _) (Nat.zero_le _) hc_4 (by decide) rfl rfl (sX3_partCount (d := d + 2) (j0 := j3) (x1 := x4) o1 o2 ?_)
  show am_A (mh_G X) SC (d + 4) mX5_start Q 60 [(0, .inr (.inr (some (11, j0)))), (1, .inl x1), (2, .inl x2), (3, .inr (.inr (some (10, j3)))), (4, .inl x4), (5, .inl x5)] [.inl (w.1 146 j3 x4.toNat), .inr (.inr (some (11, j0)))] ((am_up (am_up (am_up (am_up (am_up (am_up (am_up (am_up w.1 11 j0 3 x1) 11 j0 4 x2) 11 j0 5 (if (¬ (am_and (am_shr (w.1 150 j3 x4.toNat) (1 : Int)) 1) = 0) then 1 else 0)) 11 j0 6 (if (¬ (am_and (am_shr (w.1 150 j3 x4.toNat) (2 : Int)) 1) = 0) then 1 else 0)) 11 j0 7 0) 11 j0 8 2147483647) 11 j0 9 0) 11 j0 10 0), w.2) bc bs
  refine am_putf (f := 2) dX5_start_60 hc_7 (by decide) wd_401 rfl (Or.inl rfl) (Or.inl (by decide)) rfl ?_
  refine am_iload_n dX5_start_63 (List.Mem.tail _ (List.Mem.tail _ (List.Mem.head _))) ?_
  refine am_istore (ls' := [(6, .inl x2), (0, .inr (.inr (some (11, j0)))), (1, .inl x1), (2, .inl x2), (3, .inr (.inr (some (10, j3)))), (4, .inl x4), (5, .inl x5)]) dX5_start_64 (by decide) rfl ?_
  refine am_iconst dX5_start_66 (by unfold am_rg; omega) ?_
  refine am_istore (ls' := [(7, .inl 0), (6, .inl x2), (0, .inr (.inr (some (11, j0)))), (1, .inl x1), (2, .inl x2), (3, .inr (.inr (some (10, j3)))), (4, .inl x4), (5, .inl x5)]) dX5_start_67 (by decide) rfl ?_
  refine am_iconst dX5_start_69 (by unfold am_rg; omega) ?_
  refine am_istore (ls' := [(8, .inl 0), (7, .inl 0), (6, .inl x2), (0, .inr (.inr (some (11, j0)))), (1, .inl x1), (2, .inl x2), (3, .inr (.inr (some (10, j3)))), (4, .inl x4), (5, .inl x5)]) dX5_start_70 (by decide) rfl ?_
  exact am_sub [3, 6, 7, 8, 2, 1, 0] rfl h
theorem bX5_start_72 {SC : Nat → Nat} {X : mh_X} {d : Nat} {Q : Option am_V → am_W → Prop} {bc bs : Nat} {w : am_W} {j0 : Nat} {j3 : Nat} {x4 : Int} {x5 : Int} {x6 : Int} {x7 : Int} {x8 : Int}
    (h : (((w.1 11 j0 2) ≤ x8 → Q none w) ∧ (¬ (w.1 11 j0 2) ≤ x8 → am_M (mh_G X) SC (d + 3) 0 0 mX3_endOfPart [.inr (.inr (some (10, j3))), .inl x4, .inl x8, .inl x6] w (fun r w1 => am_A (mh_G X) SC (d + 4) mX5_start Q 91 [(0, .inr (.inr (some (11, j0)))), (3, .inr (.inr (some (10, j3)))), (4, .inl x4), (5, .inl x5), (6, .inl x6), (7, .inl x7), (8, .inl x8)] (r.toList ++ []) w1 bc bs)))) :
    am_A (mh_G X) SC (d + 4) mX5_start Q 72 [(0, .inr (.inr (some (11, j0)))), (3, .inr (.inr (some (10, j3)))), (4, .inl x4), (5, .inl x5), (6, .inl x6), (7, .inl x7), (8, .inl x8)] [] w bc bs := by
  refine am_iload dX5_start_72 (List.Mem.tail _ (List.Mem.tail _ (List.Mem.tail _ (List.Mem.tail _ (List.Mem.tail _ (List.Mem.tail _ (List.Mem.head _))))))) ?_
  refine am_aload_n dX5_start_74 (List.Mem.head _) ?_
  refine am_getf (f := 2) (v := .inl (w.1 11 j0 2)) dX5_start_75 hc_7 (by decide) wd_401 (by decide) rfl rfl ?_
  refine am_icmpge (tgt := 154) dX5_start_78 (by decide) (fun c1 => ?_) (fun c1 => ?_)
  · replace h := h.1 c1
    exact am_ret (r := none) dX5_start_154 rfl rfl h
  · replace h := h.2 c1
    refine am_aload_n dX5_start_81 (List.Mem.tail _ (List.Mem.head _)) ?_
    refine am_iload dX5_start_82 (List.Mem.tail _ (List.Mem.tail _ (List.Mem.head _))) ?_
    refine am_iload dX5_start_84 (List.Mem.tail _ (List.Mem.tail _ (List.Mem.tail _ (List.Mem.tail _ (List.Mem.tail _ (List.Mem.tail _ (List.Mem.head _))))))) ?_
    refine am_iload dX5_start_86 (List.Mem.tail _ (List.Mem.tail _ (List.Mem.tail _ (List.Mem.tail _ (List.Mem.head _))))) ?_
    exact am_callv (d' := d + 3) (kc := 0) (ks := 0) (as := [.inl x4, .inl x8, .inl x6]) dX5_start_88 wc_X3_endOfPart wd_1202 wd_1203 wd_1204 wd_116 ds_X3_endOfPart (by decide) (by omega) (Nat.le_of_ble_eq_true rfl) (Nat.zero_le _) (Nat.zero_le _) hc_4 (by decide) rfl rfl h
theorem bX5_start_91 {SC : Nat → Nat} {X : mh_X} {d : Nat} {Q : Option am_V → am_W → Prop} {bc bs : Nat} {w : am_W} {j0 : Nat} {j3 : Nat} {x4 : Int} {x5 : Int} {x6 : Int} {x7 : Int} {x8 : Int} {xs0 : Int}
    (h : ((x5 = 0 → am_A (mh_G X) SC (d + 4) mX5_start Q 117 [(0, .inr (.inr (some (11, j0)))), (3, .inr (.inr (some (10, j3)))), (4, .inl x4), (5, .inl x5), (8, .inl x8), (9, .inl xs0)] [.inl (am_w (xs0 - x6)), .inl x7] w bc bs) ∧ (¬ x5 = 0 → am_A (mh_G X) SC (d + 4) mX5_start Q 117 [(0, .inr (.inr (some (11, j0)))), (3, .inr (.inr (some (10, j3)))), (4, .inl x4), (5, .inl x5), (8, .inl x8), (9, .inl xs0)] [.inl (am_w (Int.tdiv (am_w ((am_w (xs0 - x6)) + 1)) 2)), .inl x7] w bc bs))) :
    am_A (mh_G X) SC (d + 4) mX5_start Q 91 [(0, .inr (.inr (some (11, j0)))), (3, .inr (.inr (some (10, j3)))), (4, .inl x4), (5, .inl x5), (6, .inl x6), (7, .inl x7), (8, .inl x8)] [.inl xs0] w bc bs := by
  refine am_istore (ls' := [(9, .inl xs0), (0, .inr (.inr (some (11, j0)))), (3, .inr (.inr (some (10, j3)))), (4, .inl x4), (5, .inl x5), (6, .inl x6), (7, .inl x7), (8, .inl x8)]) dX5_start_91 (by decide) rfl ?_
  refine am_iload dX5_start_93 (List.Mem.tail _ (List.Mem.tail _ (List.Mem.tail _ (List.Mem.tail _ (List.Mem.tail _ (List.Mem.tail _ (List.Mem.head _))))))) ?_
  refine am_iload dX5_start_95 (List.Mem.tail _ (List.Mem.tail _ (List.Mem.tail _ (List.Mem.tail _ (List.Mem.head _))))) ?_
  refine am_ifeq (tgt := 112) dX5_start_97 (by decide) (fun c1 => ?_) (fun c1 => ?_)
  · replace h := h.1 c1
    refine am_iload dX5_start_112 (List.Mem.head _) ?_
    refine am_iload dX5_start_114 (List.Mem.tail _ (List.Mem.tail _ (List.Mem.tail _ (List.Mem.tail _ (List.Mem.tail _ (List.Mem.head _)))))) ?_
    refine am_isub dX5_start_116 ?_
    exact am_sub [1, 2, 3, 4, 7, 0] rfl h
  · replace h := h.2 c1
    refine am_iload dX5_start_100 (List.Mem.head _) ?_
    refine am_iload dX5_start_102 (List.Mem.tail _ (List.Mem.tail _ (List.Mem.tail _ (List.Mem.tail _ (List.Mem.tail _ (List.Mem.head _)))))) ?_
    refine am_isub dX5_start_104 ?_
    refine am_iconst dX5_start_105 (by unfold am_rg; omega) ?_
    refine am_iadd dX5_start_106 ?_
    refine am_iconst dX5_start_107 (by unfold am_rg; omega) ?_
    refine am_idiv dX5_start_108 (by decide) ?_
    refine am_goto (tgt := 117) dX5_start_109 (by decide) ?_
    exact am_sub [1, 2, 3, 4, 7, 0] rfl h
theorem bX5_start_117 {SC : Nat → Nat} {X : mh_X} {d : Nat} {Q : Option am_V → am_W → Prop} {bc bs : Nat} {w : am_W} {j0 : Nat} {j3 : Nat} {x4 : Int} {x5 : Int} {x8 : Int} {x9 : Int} {xs0 : Int} {xs1 : Int}
    (h : (0 ≤ x8 ∧ (x8 < 4 ∧ (0 ≤ (am_w ((am_w (x4 * 4)) + x8)) ∧ ((am_w ((am_w (x4 * 4)) + x8)) < 120 ∧ am_A (mh_G X) SC (d + 4) mX5_start Q 72 [(0, .inr (.inr (some (11, j0)))), (3, .inr (.inr (some (10, j3)))), (4, .inl x4), (5, .inl x5), (6, .inl x9), (7, .inl (am_w (xs1 + xs0))), (8, .inl (am_w (x8 + 1)))] [] ((am_up (am_up w.1 154 j0 x8.toNat (am_w (xs1 + xs0))) 155 j0 x8.toNat (w.1 147 j3 (am_w ((am_w (x4 * 4)) + x8)).toNat)), w.2) bc bs))))) :
    am_A (mh_G X) SC (d + 4) mX5_start Q 117 [(0, .inr (.inr (some (11, j0)))), (3, .inr (.inr (some (10, j3)))), (4, .inl x4), (5, .inl x5), (8, .inl x8), (9, .inl x9)] [.inl xs0, .inl xs1] w bc bs := by
  refine am_iadd dX5_start_117 ?_
  refine am_istore (ls' := [(7, .inl (am_w (xs1 + xs0))), (0, .inr (.inr (some (11, j0)))), (3, .inr (.inr (some (10, j3)))), (4, .inl x4), (5, .inl x5), (8, .inl x8), (9, .inl x9)]) dX5_start_118 (by decide) rfl ?_
  refine am_aload_n dX5_start_120 (List.Mem.tail _ (List.Mem.head _)) ?_
  refine am_getf (f := 0) (v := .inr (.inr (some (154, j0)))) dX5_start_121 hc_7 (by decide) wd_399 (by decide) rfl rfl ?_
  refine am_iload dX5_start_124 (List.Mem.tail _ (List.Mem.tail _ (List.Mem.tail _ (List.Mem.tail _ (List.Mem.tail _ (List.Mem.head _)))))) ?_
  refine am_iload dX5_start_126 (List.Mem.head _) ?_
  have o1 := h.1
  replace h := h.2
  have o2 := h.1
  replace h := h.2
  refine am_iastore dX5_start_128 (Or.inl (by decide)) rfl o1 o2 ?_
  refine am_aload_n dX5_start_129 (List.Mem.tail _ (List.Mem.head _)) ?_
  refine am_getf (f := 1) (v := .inr (.inr (some (155, j0)))) dX5_start_130 hc_7 (by decide) wd_400 (by decide) rfl rfl ?_
  refine am_iload dX5_start_133 (List.Mem.tail _ (List.Mem.tail _ (List.Mem.tail _ (List.Mem.tail _ (List.Mem.tail _ (List.Mem.head _)))))) ?_
  refine am_aload_n dX5_start_135 (List.Mem.tail _ (List.Mem.tail _ (List.Mem.head _))) ?_
  refine am_iload dX5_start_136 (List.Mem.tail _ (List.Mem.tail _ (List.Mem.tail _ (List.Mem.head _)))) ?_
  refine am_iload dX5_start_138 (List.Mem.tail _ (List.Mem.tail _ (List.Mem.tail _ (List.Mem.tail _ (List.Mem.tail _ (List.Mem.head _)))))) ?_
  have o3 := h.1
  replace h := h.2
  have o4 := h.1
  replace h := h.2
  refine am_callv (d' := d + 3) (kc := 0) (ks := 0) (as := [.inl x4, .inl x8]) dX5_start_140 wc_X3_partDepth wd_1207 wd_1208 wd_1209 wd_116 ds_X3_partDepth (by decide) (by omega) (Nat.le_of_ble_eq_true rfl) (Nat.zero_le _) (Nat.zero_le _) hc_4 (by decide) rfl rfl (sX3_partDepth (d := d + 2) (j0 := j3) (x1 := x4) (x2 := x8) o3 o4 ?_)
  show am_A (mh_G X) SC (d + 4) mX5_start Q 143 [(7, .inl (am_w (xs1 + xs0))), (0, .inr (.inr (some (11, j0)))), (3, .inr (.inr (some (10, j3)))), (4, .inl x4), (5, .inl x5), (8, .inl x8), (9, .inl x9)] [.inl (w.1 147 j3 (am_w ((am_w (x4 * 4)) + x8)).toNat), .inl x8, .inr (.inr (some (155, j0)))] ((am_up w.1 154 j0 x8.toNat (am_w (xs1 + xs0))), w.2) bc bs
  refine am_iastore dX5_start_143 (Or.inl (by decide)) rfl o1 o2 ?_
  refine am_iload dX5_start_144 (List.Mem.tail _ (List.Mem.tail _ (List.Mem.tail _ (List.Mem.tail _ (List.Mem.tail _ (List.Mem.tail _ (List.Mem.head _))))))) ?_
  refine am_istore (ls' := [(6, .inl x9), (7, .inl (am_w (xs1 + xs0))), (0, .inr (.inr (some (11, j0)))), (3, .inr (.inr (some (10, j3)))), (4, .inl x4), (5, .inl x5), (8, .inl x8), (9, .inl x9)]) dX5_start_146 (by decide) rfl ?_
  refine am_iinc (ls' := [(8, .inl (am_w (x8 + 1))), (6, .inl x9), (7, .inl (am_w (xs1 + xs0))), (0, .inr (.inr (some (11, j0)))), (3, .inr (.inr (some (10, j3)))), (4, .inl x4), (5, .inl x5), (9, .inl x9)]) dX5_start_148 (List.Mem.tail _ (List.Mem.tail _ (List.Mem.tail _ (List.Mem.tail _ (List.Mem.tail _ (List.Mem.tail _ (List.Mem.head _))))))) (by decide) rfl ?_
  refine am_goto (tgt := 72) dX5_start_151 (by decide) ?_
  exact am_sub [3, 4, 5, 6, 1, 2, 0] rfl h
-- MourningHouse$Mourner.startMourning(II)V
theorem dX4_startMourning_0 : decode mX4_startMourning.2.1 0 = .ok (.aload_n 0, 1) := by decide +kernel
theorem dX4_startMourning_1 : decode mX4_startMourning.2.1 1 = .ok (.getfield 45, 3) := by decide +kernel
theorem dX4_startMourning_4 : decode mX4_startMourning.2.1 4 = .ok (.aload_n 0, 1) := by decide +kernel
theorem dX4_startMourning_5 : decode mX4_startMourning.2.1 5 = .ok (.getfield 41, 3) := by decide +kernel
theorem dX4_startMourning_8 : decode mX4_startMourning.2.1 8 = .ok (.getfield 59, 3) := by decide +kernel
theorem dX4_startMourning_11 : decode mX4_startMourning.2.1 11 = .ok (.iload_n 1, 1) := by decide +kernel
theorem dX4_startMourning_12 : decode mX4_startMourning.2.1 12 = .ok (.iaload, 1) := by decide +kernel
theorem dX4_startMourning_13 : decode mX4_startMourning.2.1 13 = .ok (.aload_n 0, 1) := by decide +kernel
theorem dX4_startMourning_14 : decode mX4_startMourning.2.1 14 = .ok (.getfield 26, 3) := by decide +kernel
theorem dX4_startMourning_17 : decode mX4_startMourning.2.1 17 = .ok (.invokevirtual 62, 3) := by decide +kernel
theorem dX4_startMourning_20 : decode mX4_startMourning.2.1 20 = .ok (.astore_n 3, 1) := by decide +kernel
theorem dX4_startMourning_21 : decode mX4_startMourning.2.1 21 = .ok (.aload_n 0, 1) := by decide +kernel
theorem dX4_startMourning_22 : decode mX4_startMourning.2.1 22 = .ok (.getfield 15, 3) := by decide +kernel
theorem dX4_startMourning_25 : decode mX4_startMourning.2.1 25 = .ok (.aload_n 0, 1) := by decide +kernel
theorem dX4_startMourning_26 : decode mX4_startMourning.2.1 26 = .ok (.getfield 19, 3) := by decide +kernel
theorem dX4_startMourning_29 : decode mX4_startMourning.2.1 29 = .ok (.aaload, 1) := by decide +kernel
theorem dX4_startMourning_30 : decode mX4_startMourning.2.1 30 = .ok (.astore 4, 2) := by decide +kernel
theorem dX4_startMourning_32 : decode mX4_startMourning.2.1 32 = .ok (.aload_n 3, 1) := by decide +kernel
theorem dX4_startMourning_33 : decode mX4_startMourning.2.1 33 = .ok (.ifnull 8, 3) := by decide +kernel
theorem dX4_startMourning_36 : decode mX4_startMourning.2.1 36 = .ok (.aload 4, 2) := by decide +kernel
theorem dX4_startMourning_38 : decode mX4_startMourning.2.1 38 = .ok (.ifnonnull 4, 3) := by decide +kernel
theorem dX4_startMourning_41 : decode mX4_startMourning.2.1 41 = .ok (.return_, 1) := by decide +kernel
theorem dX4_startMourning_42 : decode mX4_startMourning.2.1 42 = .ok (.aload_n 3, 1) := by decide +kernel
theorem dX4_startMourning_43 : decode mX4_startMourning.2.1 43 = .ok (.iload_n 2, 1) := by decide +kernel
theorem dX4_startMourning_44 : decode mX4_startMourning.2.1 44 = .ok (.iconst 3, 1) := by decide +kernel
theorem dX4_startMourning_45 : decode mX4_startMourning.2.1 45 = .ok (.invokevirtual 99, 3) := by decide +kernel
theorem dX4_startMourning_48 : decode mX4_startMourning.2.1 48 = .ok (.ifCond .eq 15, 3) := by decide +kernel
theorem dX4_startMourning_51 : decode mX4_startMourning.2.1 51 = .ok (.aload_n 0, 1) := by decide +kernel
theorem dX4_startMourning_52 : decode mX4_startMourning.2.1 52 = .ok (.getfield 41, 3) := by decide +kernel
theorem dX4_startMourning_55 : decode mX4_startMourning.2.1 55 = .ok (.getfield 56, 3) := by decide +kernel
theorem dX4_startMourning_58 : decode mX4_startMourning.2.1 58 = .ok (.iload_n 1, 1) := by decide +kernel
theorem dX4_startMourning_59 : decode mX4_startMourning.2.1 59 = .ok (.iaload, 1) := by decide +kernel
theorem dX4_startMourning_60 : decode mX4_startMourning.2.1 60 = .ok (.goto 12, 3) := by decide +kernel
theorem dX4_startMourning_63 : decode mX4_startMourning.2.1 63 = .ok (.aload_n 0, 1) := by decide +kernel
theorem dX4_startMourning_64 : decode mX4_startMourning.2.1 64 = .ok (.getfield 41, 3) := by decide +kernel
theorem dX4_startMourning_67 : decode mX4_startMourning.2.1 67 = .ok (.getfield 59, 3) := by decide +kernel
theorem dX4_startMourning_70 : decode mX4_startMourning.2.1 70 = .ok (.iload_n 1, 1) := by decide +kernel
theorem dX4_startMourning_71 : decode mX4_startMourning.2.1 71 = .ok (.iaload, 1) := by decide +kernel
theorem dX4_startMourning_72 : decode mX4_startMourning.2.1 72 = .ok (.istore 5, 2) := by decide +kernel
theorem dX4_startMourning_74 : decode mX4_startMourning.2.1 74 = .ok (.aload_n 3, 1) := by decide +kernel
theorem dX4_startMourning_75 : decode mX4_startMourning.2.1 75 = .ok (.iload_n 2, 1) := by decide +kernel
theorem dX4_startMourning_76 : decode mX4_startMourning.2.1 76 = .ok (.iconst 0, 1) := by decide +kernel
theorem dX4_startMourning_77 : decode mX4_startMourning.2.1 77 = .ok (.invokevirtual 99, 3) := by decide +kernel
theorem dX4_startMourning_80 : decode mX4_startMourning.2.1 80 = .ok (.ifCond .eq 21, 3) := by decide +kernel
theorem dX4_startMourning_83 : decode mX4_startMourning.2.1 83 = .ok (.aload_n 0, 1) := by decide +kernel
theorem dX4_startMourning_84 : decode mX4_startMourning.2.1 84 = .ok (.getfield 41, 3) := by decide +kernel
theorem dX4_startMourning_87 : decode mX4_startMourning.2.1 87 = .ok (.aload_n 0, 1) := by decide +kernel
theorem dX4_startMourning_88 : decode mX4_startMourning.2.1 88 = .ok (.getfield 23, 3) := by decide +kernel
theorem dX4_startMourning_91 : decode mX4_startMourning.2.1 91 = .ok (.invokevirtual 103, 3) := by decide +kernel
theorem dX4_startMourning_94 : decode mX4_startMourning.2.1 94 = .ok (.ifCond .eq 7, 3) := by decide +kernel
theorem dX4_startMourning_97 : decode mX4_startMourning.2.1 97 = .ok (.iconst 1, 1) := by decide +kernel
theorem dX4_startMourning_98 : decode mX4_startMourning.2.1 98 = .ok (.goto 4, 3) := by decide +kernel
theorem dX4_startMourning_101 : decode mX4_startMourning.2.1 101 = .ok (.iconst 0, 1) := by decide +kernel
theorem dX4_startMourning_102 : decode mX4_startMourning.2.1 102 = .ok (.istore 6, 2) := by decide +kernel
theorem dX4_startMourning_104 : decode mX4_startMourning.2.1 104 = .ok (.aload 4, 2) := by decide +kernel
theorem dX4_startMourning_106 : decode mX4_startMourning.2.1 106 = .ok (.iload_n 1, 1) := by decide +kernel
theorem dX4_startMourning_107 : decode mX4_startMourning.2.1 107 = .ok (.iload 5, 2) := by decide +kernel
theorem dX4_startMourning_109 : decode mX4_startMourning.2.1 109 = .ok (.aload_n 0, 1) := by decide +kernel
theorem dX4_startMourning_110 : decode mX4_startMourning.2.1 110 = .ok (.getfield 41, 3) := by decide +kernel
theorem dX4_startMourning_113 : decode mX4_startMourning.2.1 113 = .ok (.getfield 107, 3) := by decide +kernel
theorem dX4_startMourning_116 : decode mX4_startMourning.2.1 116 = .ok (.aload_n 0, 1) := by decide +kernel
theorem dX4_startMourning_117 : decode mX4_startMourning.2.1 117 = .ok (.getfield 23, 3) := by decide +kernel
theorem dX4_startMourning_120 : decode mX4_startMourning.2.1 120 = .ok (.iaload, 1) := by decide +kernel
theorem dX4_startMourning_121 : decode mX4_startMourning.2.1 121 = .ok (.invokestatic 110, 3) := by decide +kernel
theorem dX4_startMourning_124 : decode mX4_startMourning.2.1 124 = .ok (.aload_n 3, 1) := by decide +kernel
theorem dX4_startMourning_125 : decode mX4_startMourning.2.1 125 = .ok (.iload_n 2, 1) := by decide +kernel
theorem dX4_startMourning_126 : decode mX4_startMourning.2.1 126 = .ok (.iload 6, 2) := by decide +kernel
theorem dX4_startMourning_128 : decode mX4_startMourning.2.1 128 = .ok (.invokevirtual 116, 3) := by decide +kernel
theorem dX4_startMourning_131 : decode mX4_startMourning.2.1 131 = .ok (.aload_n 0, 1) := by decide +kernel
theorem dX4_startMourning_132 : decode mX4_startMourning.2.1 132 = .ok (.dup, 1) := by decide +kernel
theorem dX4_startMourning_133 : decode mX4_startMourning.2.1 133 = .ok (.getfield 19, 3) := by decide +kernel
theorem dX4_startMourning_136 : decode mX4_startMourning.2.1 136 = .ok (.iconst 1, 1) := by decide +kernel
theorem dX4_startMourning_137 : decode mX4_startMourning.2.1 137 = .ok (.iadd, 1) := by decide +kernel
theorem dX4_startMourning_138 : decode mX4_startMourning.2.1 138 = .ok (.putfield 19, 3) := by decide +kernel
theorem dX4_startMourning_141 : decode mX4_startMourning.2.1 141 = .ok (.return_, 1) := by decide +kernel
theorem bX4_startMourning_0 {SC : Nat → Nat} {X : mh_X} {d : Nat} {Q : Option am_V → am_W → Prop} {bc bs : Nat} {w : am_W} {x1 : Int} {x2 : Int}
    (h : (0 ≤ x1 ∧ (x1 < 40 ∧ am_M (mh_G X) SC (d + 4) 0 0 mX1_lawOn [.inr (.inr (some (4, 0))), .inl (w.1 39 0 x1.toNat), .inl (w.1 6 0 5)] w (fun r w1 => am_A (mh_G X) SC (d + 5) mX4_startMourning Q 20 [(0, .inr (.inr (some (6, 0)))), (1, .inl x1), (2, .inl x2)] (r.toList ++ []) w1 bc bs)))) :
    am_A (mh_G X) SC (d + 5) mX4_startMourning Q 0 [(0, .inr (.inr (some (6, 0)))), (1, .inl x1), (2, .inl x2)] [] w bc bs := by
  refine am_aload_n dX4_startMourning_0 (List.Mem.head _) ?_
  refine am_getf (f := 1) (v := .inr (.inr (some (4, 0)))) dX4_startMourning_1 hc_6 (by decide) wd_439 (by decide) rfl rfl ?_
  refine am_aload_n dX4_startMourning_4 (List.Mem.head _) ?_
  refine am_getf (f := 0) (v := .inr (.inr (some (5, 0)))) dX4_startMourning_5 hc_6 (by decide) wd_438 (by decide) rfl rfl ?_
  refine am_getf (f := 6) (v := .inr (.inr (some (39, 0)))) dX4_startMourning_8 hc_5 (by decide) wd_326 (by decide) rfl rfl ?_
  refine am_iload_n dX4_startMourning_11 (List.Mem.tail _ (List.Mem.head _)) ?_
  have o1 := h.1
  replace h := h.2
  have o2 := h.1
  replace h := h.2
  refine am_iaload (v := (w.1 39 0 x1.toNat)) dX4_startMourning_12 (by decide) rfl o1 o2 rfl ?_
  refine am_aload_n dX4_startMourning_13 (List.Mem.head _) ?_
  refine am_getf (f := 5) (v := .inl (w.1 6 0 5)) dX4_startMourning_14 hc_6 (by decide) wd_443 (by decide) rfl rfl ?_
  exact am_callv (d' := d + 4) (kc := 0) (ks := 0) (as := [.inl (w.1 39 0 x1.toNat), .inl (w.1 6 0 5)]) dX4_startMourning_17 wc_X1_lawOn wd_1169 wd_1170 wd_1171 wd_115 ds_X1_lawOn (by decide) (by omega) (Nat.le_of_ble_eq_true rfl) (Nat.zero_le _) (Nat.zero_le _) hc_3 (by decide) rfl rfl h
theorem bX4_startMourning_20 {SC : Nat → Nat} {X : mh_X} {d : Nat} {Q : Option am_V → am_W → Prop} {bc bs : Nat} {w : am_W} {x1 : Int} {x2 : Int}
    (h : (0 ≤ (w.1 6 0 3) ∧ ((w.1 6 0 3) < 40 ∧ Q none w))) :
    am_A (mh_G X) SC (d + 5) mX4_startMourning Q 20 [(0, .inr (.inr (some (6, 0)))), (1, .inl x1), (2, .inl x2)] [.inr (.inr none)] w bc bs := by
  refine am_astore_n (ls' := [(3, .inr (.inr none)), (0, .inr (.inr (some (6, 0)))), (1, .inl x1), (2, .inl x2)]) dX4_startMourning_20 (by decide) rfl ?_
  refine am_aload_n dX4_startMourning_21 (List.Mem.tail _ (List.Mem.head _)) ?_
  refine am_getf (f := 2) (v := .inr (.inr (some (49, 0)))) dX4_startMourning_22 hc_6 (by decide) wd_440 (by decide) rfl rfl ?_
  refine am_aload_n dX4_startMourning_25 (List.Mem.tail _ (List.Mem.head _)) ?_
  refine am_getf (f := 3) (v := .inl (w.1 6 0 3)) dX4_startMourning_26 hc_6 (by decide) wd_441 (by decide) rfl rfl ?_
  have o1 := h.1
  replace h := h.2
  have o2 := h.1
  replace h := h.2
  refine am_aaload (kd := 8) (r := some (11, (w.1 6 0 3).toNat)) dX4_startMourning_29 (by decide) rfl (by decide) (by decide) o1 o2 rfl ?_
  refine am_astore (ls' := [(4, .inr (.inr (some (11, (w.1 6 0 3).toNat)))), (3, .inr (.inr none)), (0, .inr (.inr (some (6, 0)))), (1, .inl x1), (2, .inl x2)]) dX4_startMourning_30 (by decide) rfl ?_
  refine am_aload_n dX4_startMourning_32 (List.Mem.tail _ (List.Mem.head _)) ?_
  refine am_ifnull (tgt := 41) dX4_startMourning_33 (by decide) (fun _ => ?_) (fun e => absurd rfl e)
  exact am_ret (r := none) dX4_startMourning_41 rfl rfl h
theorem bX4_startMourning_20a {SC : Nat → Nat} {X : mh_X} {d : Nat} {Q : Option am_V → am_W → Prop} {bc bs : Nat} {w : am_W} {x1 : Int} {x2 : Int} {js0 : Nat}
    (h : (0 ≤ (w.1 6 0 3) ∧ ((w.1 6 0 3) < 40 ∧ (0 ≤ x2 ∧ (x2 < 30 ∧ ((¬ (¬ (am_and (am_shr (w.1 150 js0 x2.toNat) (3 : Int)) 1) = 0) → (0 ≤ x1 ∧ (x1 < 40 ∧ am_A (mh_G X) SC (d + 5) mX4_startMourning Q 72 [(0, .inr (.inr (some (6, 0)))), (1, .inl x1), (2, .inl x2), (3, .inr (.inr (some (10, js0)))), (4, .inr (.inr (some (11, (w.1 6 0 3).toNat))))] [.inl (w.1 39 0 x1.toNat)] w bc bs))) ∧ ((¬ (am_and (am_shr (w.1 150 js0 x2.toNat) (3 : Int)) 1) = 0) → (0 ≤ x1 ∧ (x1 < 40 ∧ am_A (mh_G X) SC (d + 5) mX4_startMourning Q 72 [(0, .inr (.inr (some (6, 0)))), (1, .inl x1), (2, .inl x2), (3, .inr (.inr (some (10, js0)))), (4, .inr (.inr (some (11, (w.1 6 0 3).toNat))))] [.inl (w.1 40 0 x1.toNat)] w bc bs))))))))) :
    am_A (mh_G X) SC (d + 5) mX4_startMourning Q 20 [(0, .inr (.inr (some (6, 0)))), (1, .inl x1), (2, .inl x2)] [.inr (.inr (some (10, js0)))] w bc bs := by
  refine am_astore_n (ls' := [(3, .inr (.inr (some (10, js0)))), (0, .inr (.inr (some (6, 0)))), (1, .inl x1), (2, .inl x2)]) dX4_startMourning_20 (by decide) rfl ?_
  refine am_aload_n dX4_startMourning_21 (List.Mem.tail _ (List.Mem.head _)) ?_
  refine am_getf (f := 2) (v := .inr (.inr (some (49, 0)))) dX4_startMourning_22 hc_6 (by decide) wd_440 (by decide) rfl rfl ?_
  refine am_aload_n dX4_startMourning_25 (List.Mem.tail _ (List.Mem.head _)) ?_
  refine am_getf (f := 3) (v := .inl (w.1 6 0 3)) dX4_startMourning_26 hc_6 (by decide) wd_441 (by decide) rfl rfl ?_
  have o1 := h.1
  replace h := h.2
  have o2 := h.1
  replace h := h.2
  refine am_aaload (kd := 8) (r := some (11, (w.1 6 0 3).toNat)) dX4_startMourning_29 (by decide) rfl (by decide) (by decide) o1 o2 rfl ?_
  refine am_astore (ls' := [(4, .inr (.inr (some (11, (w.1 6 0 3).toNat)))), (3, .inr (.inr (some (10, js0)))), (0, .inr (.inr (some (6, 0)))), (1, .inl x1), (2, .inl x2)]) dX4_startMourning_30 (by decide) rfl ?_
  refine am_aload_n dX4_startMourning_32 (List.Mem.tail _ (List.Mem.head _)) ?_
  refine am_ifnull (tgt := 41) dX4_startMourning_33 (by decide) (fun e => by cases e) (fun _ => ?_)
  refine am_aload dX4_startMourning_36 (List.Mem.head _) ?_
  refine am_ifnonnull (tgt := 42) dX4_startMourning_38 (by decide) (fun _ => ?_) (fun e => by cases e)
  refine am_aload_n dX4_startMourning_42 (List.Mem.tail _ (List.Mem.head _)) ?_
  refine am_iload_n dX4_startMourning_43 (List.Mem.tail _ (List.Mem.tail _ (List.Mem.tail _ (List.Mem.tail _ (List.Mem.head _))))) ?_
  refine am_iconst dX4_startMourning_44 (by unfold am_rg; omega) ?_
  have o3 := h.1
  replace h := h.2
  have o4 := h.1
  replace h := h.2
  refine am_callv (d' := d + 4) (kc := 0) (ks := 0) (as := [.inl x2, .inl 3]) dX4_startMourning_45 wc_X3_hasOption wd_1189 wd_970 wd_971 wd_116 ds_X3_hasOption (by decide) (by omega) (Nat.le_of_ble_eq_true rfl) (Nat.zero_le _) (Nat.zero_le _) hc_4 (by decide) rfl rfl (sX3_hasOption (d := d + 3) (j0 := js0) (x1 := x2) (x2 := 3) o3 o4 ?_)
  show am_A (mh_G X) SC (d + 5) mX4_startMourning Q 48 [(4, .inr (.inr (some (11, (w.1 6 0 3).toNat)))), (3, .inr (.inr (some (10, js0)))), (0, .inr (.inr (some (6, 0)))), (1, .inl x1), (2, .inl x2)] [.inl (if (¬ (am_and (am_shr (w.1 150 js0 x2.toNat) (3 : Int)) 1) = 0) then 1 else 0)] w bc bs
  refine am_ifeq (tgt := 63) dX4_startMourning_48 (by decide) (fun c5 => ?_) (fun c5 => ?_)
  · replace c5 := am_beq1 c5
    replace h := h.1 c5
    refine am_aload_n dX4_startMourning_63 (List.Mem.tail _ (List.Mem.tail _ (List.Mem.head _))) ?_
    refine am_getf (f := 0) (v := .inr (.inr (some (5, 0)))) dX4_startMourning_64 hc_6 (by decide) wd_438 (by decide) rfl rfl ?_
    refine am_getf (f := 6) (v := .inr (.inr (some (39, 0)))) dX4_startMourning_67 hc_5 (by decide) wd_326 (by decide) rfl rfl ?_
    refine am_iload_n dX4_startMourning_70 (List.Mem.tail _ (List.Mem.tail _ (List.Mem.tail _ (List.Mem.head _)))) ?_
    have o6 := h.1
    replace h := h.2
    have o7 := h.1
    replace h := h.2
    refine am_iaload (v := (w.1 39 0 x1.toNat)) dX4_startMourning_71 (by decide) rfl o6 o7 rfl ?_
    exact am_sub [2, 3, 4, 1, 0] rfl h
  · replace c5 := am_beq2 c5
    replace h := h.2 c5
    refine am_aload_n dX4_startMourning_51 (List.Mem.tail _ (List.Mem.tail _ (List.Mem.head _))) ?_
    refine am_getf (f := 0) (v := .inr (.inr (some (5, 0)))) dX4_startMourning_52 hc_6 (by decide) wd_438 (by decide) rfl rfl ?_
    refine am_getf (f := 7) (v := .inr (.inr (some (40, 0)))) dX4_startMourning_55 hc_5 (by decide) wd_328 (by decide) rfl rfl ?_
    refine am_iload_n dX4_startMourning_58 (List.Mem.tail _ (List.Mem.tail _ (List.Mem.tail _ (List.Mem.head _)))) ?_
    have o8 := h.1
    replace h := h.2
    have o9 := h.1
    replace h := h.2
    refine am_iaload (v := (w.1 40 0 x1.toNat)) dX4_startMourning_59 (by decide) rfl o8 o9 rfl ?_
    refine am_goto (tgt := 72) dX4_startMourning_60 (by decide) ?_
    exact am_sub [2, 3, 4, 1, 0] rfl h
theorem bX4_startMourning_72 {SC : Nat → Nat} {X : mh_X} {d : Nat} {Q : Option am_V → am_W → Prop} {bc bs : Nat} {w : am_W} {x1 : Int} {x2 : Int} {j3 : Nat} {j4 : Nat} {xs0 : Int}
    (h : (0 ≤ x2 ∧ (x2 < 30 ∧ ((¬ (¬ (am_and (am_shr (w.1 150 j3 x2.toNat) (0 : Int)) 1) = 0) → am_A (mh_G X) SC (d + 5) mX4_startMourning Q 101 [(0, .inr (.inr (some (6, 0)))), (1, .inl x1), (2, .inl x2), (3, .inr (.inr (some (10, j3)))), (4, .inr (.inr (some (11, j4)))), (5, .inl xs0)] [] w bc bs) ∧ ((¬ (am_and (am_shr (w.1 150 j3 x2.toNat) (0 : Int)) 1) = 0) → (0 ≤ (w.1 6 0 4) ∧ ((w.1 6 0 4) < 40 ∧ ((¬ ((w.1 33 0 (w.1 6 0 4).toNat) = 1) → am_A (mh_G X) SC (d + 5) mX4_startMourning Q 101 [(0, .inr (.inr (some (6, 0)))), (1, .inl x1), (2, .inl x2), (3, .inr (.inr (some (10, j3)))), (4, .inr (.inr (some (11, j4)))), (5, .inl xs0)] [] w bc bs) ∧ (((w.1 33 0 (w.1 6 0 4).toNat) = 1) → am_A (mh_G X) SC (d + 5) mX4_startMourning Q 102 [(0, .inr (.inr (some (6, 0)))), (1, .inl x1), (2, .inl x2), (3, .inr (.inr (some (10, j3)))), (4, .inr (.inr (some (11, j4)))), (5, .inl xs0)] [.inl 1] w bc bs))))))))) :
    am_A (mh_G X) SC (d + 5) mX4_startMourning Q 72 [(0, .inr (.inr (some (6, 0)))), (1, .inl x1), (2, .inl x2), (3, .inr (.inr (some (10, j3)))), (4, .inr (.inr (some (11, j4))))] [.inl xs0] w bc bs := by
  refine am_istore (ls' := [(5, .inl xs0), (0, .inr (.inr (some (6, 0)))), (1, .inl x1), (2, .inl x2), (3, .inr (.inr (some (10, j3)))), (4, .inr (.inr (some (11, j4))))]) dX4_startMourning_72 (by decide) rfl ?_
  refine am_aload_n dX4_startMourning_74 (List.Mem.tail _ (List.Mem.tail _ (List.Mem.tail _ (List.Mem.tail _ (List.Mem.head _))))) ?_
  refine am_iload_n dX4_startMourning_75 (List.Mem.tail _ (List.Mem.tail _ (List.Mem.tail _ (List.Mem.head _)))) ?_
  refine am_iconst dX4_startMourning_76 (by unfold am_rg; omega) ?_
  have o1 := h.1
  replace h := h.2
  have o2 := h.1
  replace h := h.2
  refine am_callv (d' := d + 4) (kc := 0) (ks := 0) (as := [.inl x2, .inl 0]) dX4_startMourning_77 wc_X3_hasOption wd_1189 wd_970 wd_971 wd_116 ds_X3_hasOption (by decide) (by omega) (Nat.le_of_ble_eq_true rfl) (Nat.zero_le _) (Nat.zero_le _) hc_4 (by decide) rfl rfl (sX3_hasOption (d := d + 3) (j0 := j3) (x1 := x2) (x2 := 0) o1 o2 ?_)
  show am_A (mh_G X) SC (d + 5) mX4_startMourning Q 80 [(5, .inl xs0), (0, .inr (.inr (some (6, 0)))), (1, .inl x1), (2, .inl x2), (3, .inr (.inr (some (10, j3)))), (4, .inr (.inr (some (11, j4))))] [.inl (if (¬ (am_and (am_shr (w.1 150 j3 x2.toNat) (0 : Int)) 1) = 0) then 1 else 0)] w bc bs
  refine am_ifeq (tgt := 101) dX4_startMourning_80 (by decide) (fun c3 => ?_) (fun c3 => ?_)
  · replace c3 := am_beq1 c3
    replace h := h.1 c3
    exact am_sub [1, 2, 3, 4, 5, 0] rfl h
  · replace c3 := am_beq2 c3
    replace h := h.2 c3
    refine am_aload_n dX4_startMourning_83 (List.Mem.tail _ (List.Mem.head _)) ?_
    refine am_getf (f := 0) (v := .inr (.inr (some (5, 0)))) dX4_startMourning_84 hc_6 (by decide) wd_438 (by decide) rfl rfl ?_
    refine am_aload_n dX4_startMourning_87 (List.Mem.tail _ (List.Mem.head _)) ?_
    refine am_getf (f := 4) (v := .inl (w.1 6 0 4)) dX4_startMourning_88 hc_6 (by decide) wd_442 (by decide) rfl rfl ?_
    have o4 := h.1
    replace h := h.2
    have o5 := h.1
    replace h := h.2
    refine am_callv (d' := d + 4) (kc := 0) (ks := 0) (as := [.inl (w.1 6 0 4)]) dX4_startMourning_91 wc_X2_isMan wd_1190 wd_1091 wd_1092 wd_117 ds_X2_isMan (by decide) (by omega) (Nat.le_of_ble_eq_true rfl) (Nat.zero_le _) (Nat.zero_le _) hc_5 (by decide) rfl rfl (sX2_isMan (d := d + 3) (x1 := (w.1 6 0 4)) o4 o5 ?_)
    show am_A (mh_G X) SC (d + 5) mX4_startMourning Q 94 [(5, .inl xs0), (0, .inr (.inr (some (6, 0)))), (1, .inl x1), (2, .inl x2), (3, .inr (.inr (some (10, j3)))), (4, .inr (.inr (some (11, j4))))] [.inl (if ((w.1 33 0 (w.1 6 0 4).toNat) = 1) then 1 else 0)] w bc bs
    refine am_ifeq (tgt := 101) dX4_startMourning_94 (by decide) (fun c6 => ?_) (fun c6 => ?_)
    · replace c6 := am_beq1 c6
      replace h := h.1 c6
      exact am_sub [1, 2, 3, 4, 5, 0] rfl h
    · replace c6 := am_beq2 c6
      replace h := h.2 c6
      refine am_iconst dX4_startMourning_97 (by unfold am_rg; omega) ?_
      refine am_goto (tgt := 102) dX4_startMourning_98 (by decide) ?_
      exact am_sub [1, 2, 3, 4, 5, 0] rfl h
theorem bX4_startMourning_101 {SC : Nat → Nat} {X : mh_X} {d : Nat} {Q : Option am_V → am_W → Prop} {bc bs : Nat} {w : am_W} {x1 : Int} {x2 : Int} {j3 : Nat} {j4 : Nat} {x5 : Int}
    (h : am_A (mh_G X) SC (d + 5) mX4_startMourning Q 102 [(0, .inr (.inr (some (6, 0)))), (1, .inl x1), (2, .inl x2), (3, .inr (.inr (some (10, j3)))), (4, .inr (.inr (some (11, j4)))), (5, .inl x5)] [.inl 0] w bc bs) :
    am_A (mh_G X) SC (d + 5) mX4_startMourning Q 101 [(0, .inr (.inr (some (6, 0)))), (1, .inl x1), (2, .inl x2), (3, .inr (.inr (some (10, j3)))), (4, .inr (.inr (some (11, j4)))), (5, .inl x5)] [] w bc bs := by
  refine am_iconst dX4_startMourning_101 (by unfold am_rg; omega) ?_
  exact h
theorem bX4_startMourning_102 {SC : Nat → Nat} {X : mh_X} {d : Nat} {Q : Option am_V → am_W → Prop} {bc bs : Nat} {w : am_W} {x1 : Int} {x2 : Int} {j3 : Nat} {j4 : Nat} {x5 : Int} {xs0 : Int}
    (h : (0 ≤ (w.1 6 0 4) ∧ ((w.1 6 0 4) < 40 ∧ am_M (mh_G X) SC (d + 4) 0 0 mX5_start [.inr (.inr (some (11, j4))), .inl x1, .inl (max x5 (w.1 37 0 (w.1 6 0 4).toNat)), .inr (.inr (some (10, j3))), .inl x2, .inl xs0] w (fun r w1 => am_A (mh_G X) SC (d + 5) mX4_startMourning Q 131 [(6, .inl xs0), (0, .inr (.inr (some (6, 0)))), (1, .inl x1), (2, .inl x2), (3, .inr (.inr (some (10, j3)))), (4, .inr (.inr (some (11, j4)))), (5, .inl x5)] (r.toList ++ []) w1 bc bs)))) :
    am_A (mh_G X) SC (d + 5) mX4_startMourning Q 102 [(0, .inr (.inr (some (6, 0)))), (1, .inl x1), (2, .inl x2), (3, .inr (.inr (some (10, j3)))), (4, .inr (.inr (some (11, j4)))), (5, .inl x5)] [.inl xs0] w bc bs := by
  refine am_istore (ls' := [(6, .inl xs0), (0, .inr (.inr (some (6, 0)))), (1, .inl x1), (2, .inl x2), (3, .inr (.inr (some (10, j3)))), (4, .inr (.inr (some (11, j4)))), (5, .inl x5)]) dX4_startMourning_102 (by decide) rfl ?_
  refine am_aload dX4_startMourning_104 (List.Mem.tail _ (List.Mem.tail _ (List.Mem.tail _ (List.Mem.tail _ (List.Mem.tail _ (List.Mem.head _)))))) ?_
  refine am_iload_n dX4_startMourning_106 (List.Mem.tail _ (List.Mem.tail _ (List.Mem.head _))) ?_
  refine am_iload dX4_startMourning_107 (List.Mem.tail _ (List.Mem.tail _ (List.Mem.tail _ (List.Mem.tail _ (List.Mem.tail _ (List.Mem.tail _ (List.Mem.head _))))))) ?_
  refine am_aload_n dX4_startMourning_109 (List.Mem.tail _ (List.Mem.head _)) ?_
  refine am_getf (f := 0) (v := .inr (.inr (some (5, 0)))) dX4_startMourning_110 hc_6 (by decide) wd_438 (by decide) rfl rfl ?_
  refine am_getf (f := 4) (v := .inr (.inr (some (37, 0)))) dX4_startMourning_113 hc_5 (by decide) wd_321 (by decide) rfl rfl ?_
  refine am_aload_n dX4_startMourning_116 (List.Mem.tail _ (List.Mem.head _)) ?_
  refine am_getf (f := 4) (v := .inl (w.1 6 0 4)) dX4_startMourning_117 hc_6 (by decide) wd_442 (by decide) rfl rfl ?_
  have o1 := h.1
  replace h := h.2
  have o2 := h.1
  replace h := h.2
  refine am_iaload (v := (w.1 37 0 (w.1 6 0 4).toNat)) dX4_startMourning_120 (by decide) rfl o1 o2 rfl ?_
  refine am_mmax dX4_startMourning_121 wd_1191 (by omega) (Nat.le_of_ble_eq_true rfl) ?_
  refine am_aload_n dX4_startMourning_124 (List.Mem.tail _ (List.Mem.tail _ (List.Mem.tail _ (List.Mem.tail _ (List.Mem.head _))))) ?_
  refine am_iload_n dX4_startMourning_125 (List.Mem.tail _ (List.Mem.tail _ (List.Mem.tail _ (List.Mem.head _)))) ?_
  refine am_iload dX4_startMourning_126 (List.Mem.head _) ?_
  exact am_callv (d' := d + 4) (kc := 0) (ks := 0) (as := [.inl x1, .inl (max x5 (w.1 37 0 (w.1 6 0 4).toNat)), .inr (.inr (some (10, j3))), .inl x2, .inl xs0]) dX4_startMourning_128 wc_X5_start wd_1192 wd_1193 wd_1194 wd_119 ds_X5_start (by decide) (by omega) (Nat.le_of_ble_eq_true rfl) (Nat.zero_le _) (Nat.zero_le _) hc_7 (by decide) rfl rfl h
theorem bX4_startMourning_131 {SC : Nat → Nat} {X : mh_X} {d : Nat} {Q : Option am_V → am_W → Prop} {bc bs : Nat} {w : am_W} {x6 : Int} {x1 : Int} {x2 : Int} {j3 : Nat} {j4 : Nat} {x5 : Int}
    (h : Q none ((am_up w.1 6 0 3 (am_w ((w.1 6 0 3) + 1))), w.2)) :
    am_A (mh_G X) SC (d + 5) mX4_startMourning Q 131 [(6, .inl x6), (0, .inr (.inr (some (6, 0)))), (1, .inl x1), (2, .inl x2), (3, .inr (.inr (some (10, j3)))), (4, .inr (.inr (some (11, j4)))), (5, .inl x5)] [] w bc bs := by
  refine am_aload_n dX4_startMourning_131 (List.Mem.tail _ (List.Mem.head _)) ?_
  refine am_dup dX4_startMourning_132 rfl ?_
  refine am_getf (f := 3) (v := .inl (w.1 6 0 3)) dX4_startMourning_133 hc_6 (by decide) wd_441 (by decide) rfl rfl ?_
  refine am_iconst dX4_startMourning_136 (by unfold am_rg; omega) ?_
  refine am_iadd dX4_startMourning_137 ?_
  refine am_putf (f := 3) dX4_startMourning_138 hc_6 (by decide) wd_441 rfl (Or.inl rfl) (Or.inl (by decide)) rfl ?_
  exact am_ret (r := none) dX4_startMourning_141 rfl rfl h
-- MourningHouse$Mourner.study(II)V
theorem dX4_study_0 : decode mX4_study.2.1 0 = .ok (.aload_n 0, 1) := by decide +kernel
theorem dX4_study_1 : decode mX4_study.2.1 1 = .ok (.iload_n 1, 1) := by decide +kernel
theorem dX4_study_2 : decode mX4_study.2.1 2 = .ok (.putfield 23, 3) := by decide +kernel
theorem dX4_study_5 : decode mX4_study.2.1 5 = .ok (.aload_n 0, 1) := by decide +kernel
theorem dX4_study_6 : decode mX4_study.2.1 6 = .ok (.iload_n 2, 1) := by decide +kernel
theorem dX4_study_7 : decode mX4_study.2.1 7 = .ok (.putfield 26, 3) := by decide +kernel
theorem dX4_study_10 : decode mX4_study.2.1 10 = .ok (.aload_n 0, 1) := by decide +kernel
theorem dX4_study_11 : decode mX4_study.2.1 11 = .ok (.iconst 0, 1) := by decide +kernel
theorem dX4_study_12 : decode mX4_study.2.1 12 = .ok (.putfield 19, 3) := by decide +kernel
theorem dX4_study_15 : decode mX4_study.2.1 15 = .ok (.iconst 0, 1) := by decide +kernel
theorem dX4_study_16 : decode mX4_study.2.1 16 = .ok (.istore_n 3, 1) := by decide +kernel
theorem dX4_study_17 : decode mX4_study.2.1 17 = .ok (.iload_n 3, 1) := by decide +kernel
theorem dX4_study_18 : decode mX4_study.2.1 18 = .ok (.aload_n 0, 1) := by decide +kernel
theorem dX4_study_19 : decode mX4_study.2.1 19 = .ok (.getfield 41, 3) := by decide +kernel
theorem dX4_study_22 : decode mX4_study.2.1 22 = .ok (.getfield 85, 3) := by decide +kernel
theorem dX4_study_25 : decode mX4_study.2.1 25 = .ok (.if_icmp .ge 40, 3) := by decide +kernel
theorem dX4_study_28 : decode mX4_study.2.1 28 = .ok (.aload_n 0, 1) := by decide +kernel
theorem dX4_study_29 : decode mX4_study.2.1 29 = .ok (.getfield 19, 3) := by decide +kernel
theorem dX4_study_32 : decode mX4_study.2.1 32 = .ok (.bipush 40, 2) := by decide +kernel
theorem dX4_study_34 : decode mX4_study.2.1 34 = .ok (.if_icmp .ge 31, 3) := by decide +kernel
theorem dX4_study_37 : decode mX4_study.2.1 37 = .ok (.aload_n 0, 1) := by decide +kernel
theorem dX4_study_38 : decode mX4_study.2.1 38 = .ok (.iload_n 1, 1) := by decide +kernel
theorem dX4_study_39 : decode mX4_study.2.1 39 = .ok (.iload_n 3, 1) := by decide +kernel
theorem dX4_study_40 : decode mX4_study.2.1 40 = .ok (.iload_n 2, 1) := by decide +kernel
theorem dX4_study_41 : decode mX4_study.2.1 41 = .ok (.invokevirtual 88, 3) := by decide +kernel
theorem dX4_study_44 : decode mX4_study.2.1 44 = .ok (.istore 4, 2) := by decide +kernel
theorem dX4_study_46 : decode mX4_study.2.1 46 = .ok (.iload 4, 2) := by decide +kernel
theorem dX4_study_48 : decode mX4_study.2.1 48 = .ok (.iconst (-1), 1) := by decide +kernel
theorem dX4_study_49 : decode mX4_study.2.1 49 = .ok (.if_icmp .eq 10, 3) := by decide +kernel
theorem dX4_study_52 : decode mX4_study.2.1 52 = .ok (.aload_n 0, 1) := by decide +kernel
theorem dX4_study_53 : decode mX4_study.2.1 53 = .ok (.iload_n 3, 1) := by decide +kernel
theorem dX4_study_54 : decode mX4_study.2.1 54 = .ok (.iload 4, 2) := by decide +kernel
theorem dX4_study_56 : decode mX4_study.2.1 56 = .ok (.invokevirtual 92, 3) := by decide +kernel
theorem dX4_study_59 : decode mX4_study.2.1 59 = .ok (.iinc 3 1, 3) := by decide +kernel
theorem dX4_study_62 : decode mX4_study.2.1 62 = .ok (.goto (-45), 3) := by decide +kernel
theorem dX4_study_65 : decode mX4_study.2.1 65 = .ok (.aload_n 0, 1) := by decide +kernel
theorem dX4_study_66 : decode mX4_study.2.1 66 = .ok (.ldc 95, 2) := by decide +kernel
theorem dX4_study_68 : decode mX4_study.2.1 68 = .ok (.putfield 29, 3) := by decide +kernel
theorem dX4_study_71 : decode mX4_study.2.1 71 = .ok (.aload_n 0, 1) := by decide +kernel
theorem dX4_study_72 : decode mX4_study.2.1 72 = .ok (.invokevirtual 96, 3) := by decide +kernel
theorem dX4_study_75 : decode mX4_study.2.1 75 = .ok (.return_, 1) := by decide +kernel
theorem bX4_study_0 {SC : Nat → Nat} {X : mh_X} {d : Nat} {Q : Option am_V → am_W → Prop} {bc bs : Nat} {w : am_W} {x1 : Int} {x2 : Int}
    (h : am_A (mh_G X) SC (d + 6) mX4_study Q 17 [(0, .inr (.inr (some (6, 0)))), (1, .inl x1), (2, .inl x2), (3, .inl 0)] [] ((am_up (am_up (am_up w.1 6 0 4 x1) 6 0 5 x2) 6 0 3 0), w.2) bc bs) :
    am_A (mh_G X) SC (d + 6) mX4_study Q 0 [(0, .inr (.inr (some (6, 0)))), (1, .inl x1), (2, .inl x2)] [] w bc bs := by
  refine am_aload_n dX4_study_0 (List.Mem.head _) ?_
  refine am_iload_n dX4_study_1 (List.Mem.tail _ (List.Mem.head _)) ?_
  refine am_putf (f := 4) dX4_study_2 hc_6 (by decide) wd_442 rfl (Or.inl rfl) (Or.inl (by decide)) rfl ?_
  refine am_aload_n dX4_study_5 (List.Mem.head _) ?_
  refine am_iload_n dX4_study_6 (List.Mem.tail _ (List.Mem.tail _ (List.Mem.head _))) ?_
  refine am_putf (f := 5) dX4_study_7 hc_6 (by decide) wd_443 rfl (Or.inl rfl) (Or.inl (by decide)) rfl ?_
  refine am_aload_n dX4_study_10 (List.Mem.head _) ?_
  refine am_iconst dX4_study_11 (by unfold am_rg; omega) ?_
  refine am_putf (f := 3) dX4_study_12 hc_6 (by decide) wd_441 rfl (Or.inl rfl) (Or.inl (by decide)) rfl ?_
  refine am_iconst dX4_study_15 (by unfold am_rg; omega) ?_
  refine am_istore_n (ls' := [(3, .inl 0), (0, .inr (.inr (some (6, 0)))), (1, .inl x1), (2, .inl x2)]) dX4_study_16 (by decide) rfl ?_
  exact am_sub [1, 2, 3, 0] rfl h
theorem bX4_study_17 {SC : Nat → Nat} {X : mh_X} {d : Nat} {Q : Option am_V → am_W → Prop} {bc bs : Nat} {w : am_W} {x1 : Int} {x2 : Int} {x3 : Int}
    (h : (((w.1 5 0 18) ≤ x3 → am_A (mh_G X) SC (d + 6) mX4_study Q 65 [(0, .inr (.inr (some (6, 0))))] [] w bc bs) ∧ (¬ (w.1 5 0 18) ≤ x3 → ((40 ≤ (w.1 6 0 3) → am_A (mh_G X) SC (d + 6) mX4_study Q 65 [(0, .inr (.inr (some (6, 0))))] [] w bc bs) ∧ (¬ 40 ≤ (w.1 6 0 3) → am_M (mh_G X) SC (d + 5) 0 0 mX4_ruleFor [.inr (.inr (some (6, 0))), .inl x1, .inl x3, .inl x2] w (fun r w1 => am_A (mh_G X) SC (d + 6) mX4_study Q 44 [(0, .inr (.inr (some (6, 0)))), (1, .inl x1), (2, .inl x2), (3, .inl x3)] (r.toList ++ []) w1 bc bs)))))) :
    am_A (mh_G X) SC (d + 6) mX4_study Q 17 [(0, .inr (.inr (some (6, 0)))), (1, .inl x1), (2, .inl x2), (3, .inl x3)] [] w bc bs := by
  refine am_iload_n dX4_study_17 (List.Mem.tail _ (List.Mem.tail _ (List.Mem.tail _ (List.Mem.head _)))) ?_
  refine am_aload_n dX4_study_18 (List.Mem.head _) ?_
  refine am_getf (f := 0) (v := .inr (.inr (some (5, 0)))) dX4_study_19 hc_6 (by decide) wd_438 (by decide) rfl rfl ?_
  refine am_getf (f := 18) (v := .inl (w.1 5 0 18)) dX4_study_22 hc_5 (by decide) wd_340 (by decide) rfl rfl ?_
  refine am_icmpge (tgt := 65) dX4_study_25 (by decide) (fun c1 => ?_) (fun c1 => ?_)
  · replace h := h.1 c1
    exact am_sub [0] rfl h
  · replace h := h.2 c1
    refine am_aload_n dX4_study_28 (List.Mem.head _) ?_
    refine am_getf (f := 3) (v := .inl (w.1 6 0 3)) dX4_study_29 hc_6 (by decide) wd_441 (by decide) rfl rfl ?_
    refine am_bipush dX4_study_32 (by decide) (by unfold am_rg; omega) ?_
    refine am_icmpge (tgt := 65) dX4_study_34 (by decide) (fun c2 => ?_) (fun c2 => ?_)
    · replace h := h.1 c2
      exact am_sub [0] rfl h
    · replace h := h.2 c2
      refine am_aload_n dX4_study_37 (List.Mem.head _) ?_
      refine am_iload_n dX4_study_38 (List.Mem.tail _ (List.Mem.head _)) ?_
      refine am_iload_n dX4_study_39 (List.Mem.tail _ (List.Mem.tail _ (List.Mem.tail _ (List.Mem.head _)))) ?_
      refine am_iload_n dX4_study_40 (List.Mem.tail _ (List.Mem.tail _ (List.Mem.head _))) ?_
      exact am_callv (d' := d + 5) (kc := 0) (ks := 0) (as := [.inl x1, .inl x3, .inl x2]) dX4_study_41 wc_X4_ruleFor wd_1184 wd_1166 wd_1167 wd_118 ds_X4_ruleFor (by decide) (by omega) (Nat.le_of_ble_eq_true rfl) (Nat.zero_le _) (Nat.zero_le _) hc_6 (by decide) rfl rfl h
theorem bX4_study_65 {SC : Nat → Nat} {X : mh_X} {d : Nat} {Q : Option am_V → am_W → Prop} {bc bs : Nat} {w : am_W} 
    (h : am_M (mh_G X) SC (d + 5) 0 0 mX4_lookAhead [.inr (.inr (some (6, 0)))] ((am_up w.1 6 0 6 (-36524)), w.2) (fun r w1 => am_A (mh_G X) SC (d + 6) mX4_study Q 75 [(0, .inr (.inr (some (6, 0))))] (r.toList ++ []) w1 bc bs)) :
    am_A (mh_G X) SC (d + 6) mX4_study Q 65 [(0, .inr (.inr (some (6, 0))))] [] w bc bs := by
  refine am_aload_n dX4_study_65 (List.Mem.head _) ?_
  refine am_ldcV (n := (-36524)) dX4_study_66 (by decide) wd_1211 (by unfold am_rg; omega) ?_
  refine am_putf (f := 6) dX4_study_68 hc_6 (by decide) wd_444 rfl (Or.inl rfl) (Or.inl (by decide)) rfl ?_
  refine am_aload_n dX4_study_71 (List.Mem.head _) ?_
  exact am_callv (d' := d + 5) (kc := 0) (ks := 0) (as := []) dX4_study_72 wc_X4_lookAhead wd_1212 wd_1214 wd_34 wd_118 ds_X4_lookAhead (by decide) (by omega) (Nat.le_of_ble_eq_true rfl) (Nat.zero_le _) (Nat.zero_le _) hc_6 (by decide) rfl rfl h
theorem bX4_study_44 {SC : Nat → Nat} {X : mh_X} {d : Nat} {Q : Option am_V → am_W → Prop} {bc bs : Nat} {w : am_W} {x1 : Int} {x2 : Int} {x3 : Int} {xs0 : Int}
    (h : ((xs0 = (-1) → am_A (mh_G X) SC (d + 6) mX4_study Q 59 [(0, .inr (.inr (some (6, 0)))), (1, .inl x1), (2, .inl x2), (3, .inl x3)] [] w bc bs) ∧ (¬ xs0 = (-1) → am_M (mh_G X) SC (d + 5) 0 0 mX4_startMourning [.inr (.inr (some (6, 0))), .inl x3, .inl xs0] w (fun r w1 => am_A (mh_G X) SC (d + 6) mX4_study Q 59 [(4, .inl xs0), (0, .inr (.inr (some (6, 0)))), (1, .inl x1), (2, .inl x2), (3, .inl x3)] (r.toList ++ []) w1 bc bs)))) :
    am_A (mh_G X) SC (d + 6) mX4_study Q 44 [(0, .inr (.inr (some (6, 0)))), (1, .inl x1), (2, .inl x2), (3, .inl x3)] [.inl xs0] w bc bs := by
  refine am_istore (ls' := [(4, .inl xs0), (0, .inr (.inr (some (6, 0)))), (1, .inl x1), (2, .inl x2), (3, .inl x3)]) dX4_study_44 (by decide) rfl ?_
  refine am_iload dX4_study_46 (List.Mem.head _) ?_
  refine am_iconst dX4_study_48 (by unfold am_rg; omega) ?_
  refine am_icmpeq (tgt := 59) dX4_study_49 (by decide) (fun c1 => ?_) (fun c1 => ?_)
  · replace h := h.1 c1
    exact am_sub [1, 2, 3, 4] rfl h
  · replace h := h.2 c1
    refine am_aload_n dX4_study_52 (List.Mem.tail _ (List.Mem.head _)) ?_
    refine am_iload_n dX4_study_53 (List.Mem.tail _ (List.Mem.tail _ (List.Mem.tail _ (List.Mem.tail _ (List.Mem.head _))))) ?_
    refine am_iload dX4_study_54 (List.Mem.head _) ?_
    exact am_callv (d' := d + 5) (kc := 0) (ks := 0) (as := [.inl x3, .inl xs0]) dX4_study_56 wc_X4_startMourning wd_1185 wd_1187 wd_33 wd_118 ds_X4_startMourning (by decide) (by omega) (Nat.le_of_ble_eq_true rfl) (Nat.zero_le _) (Nat.zero_le _) hc_6 (by decide) rfl rfl h
theorem bX4_study_75 {SC : Nat → Nat} {X : mh_X} {d : Nat} {Q : Option am_V → am_W → Prop} {bc bs : Nat} {w : am_W} 
    (h : Q none w) :
    am_A (mh_G X) SC (d + 6) mX4_study Q 75 [(0, .inr (.inr (some (6, 0))))] [] w bc bs := by
  exact am_ret (r := none) dX4_study_75 rfl rfl h
theorem bX4_study_59 {SC : Nat → Nat} {X : mh_X} {d : Nat} {Q : Option am_V → am_W → Prop} {bc bs : Nat} {w : am_W} {x1 : Int} {x2 : Int} {x3 : Int}
    (h : am_A (mh_G X) SC (d + 6) mX4_study Q 17 [(0, .inr (.inr (some (6, 0)))), (1, .inl x1), (2, .inl x2), (3, .inl (am_w (x3 + 1)))] [] w bc bs) :
    am_A (mh_G X) SC (d + 6) mX4_study Q 59 [(0, .inr (.inr (some (6, 0)))), (1, .inl x1), (2, .inl x2), (3, .inl x3)] [] w bc bs := by
  refine am_iinc (ls' := [(3, .inl (am_w (x3 + 1))), (0, .inr (.inr (some (6, 0)))), (1, .inl x1), (2, .inl x2)]) dX4_study_59 (List.Mem.tail _ (List.Mem.tail _ (List.Mem.tail _ (List.Mem.head _)))) (by decide) rfl ?_
  refine am_goto (tgt := 17) dX4_study_62 (by decide) ?_
  exact am_sub [1, 2, 3, 0] rfl h
theorem bX4_study_59a {SC : Nat → Nat} {X : mh_X} {d : Nat} {Q : Option am_V → am_W → Prop} {bc bs : Nat} {w : am_W} {x4 : Int} {x1 : Int} {x2 : Int} {x3 : Int}
    (h : am_A (mh_G X) SC (d + 6) mX4_study Q 17 [(0, .inr (.inr (some (6, 0)))), (1, .inl x1), (2, .inl x2), (3, .inl (am_w (x3 + 1)))] [] w bc bs) :
    am_A (mh_G X) SC (d + 6) mX4_study Q 59 [(4, .inl x4), (0, .inr (.inr (some (6, 0)))), (1, .inl x1), (2, .inl x2), (3, .inl x3)] [] w bc bs := by
  refine am_iinc (ls' := [(3, .inl (am_w (x3 + 1))), (4, .inl x4), (0, .inr (.inr (some (6, 0)))), (1, .inl x1), (2, .inl x2)]) dX4_study_59 (List.Mem.tail _ (List.Mem.tail _ (List.Mem.tail _ (List.Mem.tail _ (List.Mem.head _))))) (by decide) rfl ?_
  refine am_goto (tgt := 17) dX4_study_62 (by decide) ?_
  exact am_sub [2, 3, 4, 0] rfl h
-- MourningHouse$Mourning.finish(I)V
theorem dX5_finish_0 : decode mX5_finish.2.1 0 = .ok (.aload_n 0, 1) := by decide +kernel
theorem dX5_finish_1 : decode mX5_finish.2.1 1 = .ok (.iconst 1, 1) := by decide +kernel
theorem dX5_finish_2 : decode mX5_finish.2.1 2 = .ok (.putfield 37, 3) := by decide +kernel
theorem dX5_finish_5 : decode mX5_finish.2.1 5 = .ok (.aload_n 0, 1) := by decide +kernel
theorem dX5_finish_6 : decode mX5_finish.2.1 6 = .ok (.iload_n 1, 1) := by decide +kernel
theorem dX5_finish_7 : decode mX5_finish.2.1 7 = .ok (.putfield 40, 3) := by decide +kernel
theorem dX5_finish_10 : decode mX5_finish.2.1 10 = .ok (.return_, 1) := by decide +kernel
theorem sX5_finish {SC : Nat → Nat} {X : mh_X} {d kc ks : Nat} {Q : Option am_V → am_W → Prop} {w : am_W} {j0 : Nat} {x1 : Int}
    (h : Q none ((am_up (am_up w.1 11 j0 7 1) 11 j0 8 x1), w.2)) : am_M (mh_G X) SC (d + 1) kc ks mX5_finish [.inr (.inr (some (11, j0))), .inl x1] w Q := by
  refine am_M_of (by decide) (Nat.le_of_ble_eq_true rfl) ?_
  show am_A (mh_G X) SC (d + 1) mX5_finish Q 0 [(0, .inr (.inr (some (11, j0)))), (1, .inl x1)] [] w kc ks
  refine am_aload_n dX5_finish_0 (List.Mem.head _) ?_
  refine am_iconst dX5_finish_1 (by unfold am_rg; omega) ?_
  refine am_putf (f := 7) dX5_finish_2 hc_7 (by decide) wd_409 rfl (Or.inr (Or.inl ⟨rfl, (Or.inr rfl)⟩)) (Or.inl (by decide)) rfl ?_
  refine am_aload_n dX5_finish_5 (List.Mem.head _) ?_
  refine am_iload_n dX5_finish_6 (List.Mem.tail _ (List.Mem.head _)) ?_
  refine am_putf (f := 8) dX5_finish_7 hc_7 (by decide) wd_411 rfl (Or.inl rfl) (Or.inl (by decide)) rfl ?_
  exact am_ret (r := none) dX5_finish_10 rfl rfl h
-- MourningHouse$Mourner.endByWedding()V
theorem dX4_endByWedding_0 : decode mX4_endByWedding.2.1 0 = .ok (.aload_n 0, 1) := by decide +kernel
theorem dX4_endByWedding_1 : decode mX4_endByWedding.2.1 1 = .ok (.getfield 45, 3) := by decide +kernel
theorem dX4_endByWedding_4 : decode mX4_endByWedding.2.1 4 = .ok (.aload_n 0, 1) := by decide +kernel
theorem dX4_endByWedding_5 : decode mX4_endByWedding.2.1 5 = .ok (.getfield 29, 3) := by decide +kernel
theorem dX4_endByWedding_8 : decode mX4_endByWedding.2.1 8 = .ok (.aload_n 0, 1) := by decide +kernel
theorem dX4_endByWedding_9 : decode mX4_endByWedding.2.1 9 = .ok (.getfield 26, 3) := by decide +kernel
theorem dX4_endByWedding_12 : decode mX4_endByWedding.2.1 12 = .ok (.invokevirtual 62, 3) := by decide +kernel
theorem dX4_endByWedding_15 : decode mX4_endByWedding.2.1 15 = .ok (.astore_n 1, 1) := by decide +kernel
theorem dX4_endByWedding_16 : decode mX4_endByWedding.2.1 16 = .ok (.aload_n 1, 1) := by decide +kernel
theorem dX4_endByWedding_17 : decode mX4_endByWedding.2.1 17 = .ok (.ifnull 38, 3) := by decide +kernel
theorem dX4_endByWedding_20 : decode mX4_endByWedding.2.1 20 = .ok (.aload_n 1, 1) := by decide +kernel
theorem dX4_endByWedding_21 : decode mX4_endByWedding.2.1 21 = .ok (.getfield 137, 3) := by decide +kernel
theorem dX4_endByWedding_24 : decode mX4_endByWedding.2.1 24 = .ok (.ifCond .eq 31, 3) := by decide +kernel
theorem dX4_endByWedding_27 : decode mX4_endByWedding.2.1 27 = .ok (.aload_n 0, 1) := by decide +kernel
theorem dX4_endByWedding_28 : decode mX4_endByWedding.2.1 28 = .ok (.getfield 41, 3) := by decide +kernel
theorem dX4_endByWedding_31 : decode mX4_endByWedding.2.1 31 = .ok (.aload_n 0, 1) := by decide +kernel
theorem dX4_endByWedding_32 : decode mX4_endByWedding.2.1 32 = .ok (.getfield 23, 3) := by decide +kernel
theorem dX4_endByWedding_35 : decode mX4_endByWedding.2.1 35 = .ok (.aload_n 0, 1) := by decide +kernel
theorem dX4_endByWedding_36 : decode mX4_endByWedding.2.1 36 = .ok (.getfield 29, 3) := by decide +kernel
theorem dX4_endByWedding_39 : decode mX4_endByWedding.2.1 39 = .ok (.iconst 1, 1) := by decide +kernel
theorem dX4_endByWedding_40 : decode mX4_endByWedding.2.1 40 = .ok (.isub, 1) := by decide +kernel
theorem dX4_endByWedding_41 : decode mX4_endByWedding.2.1 41 = .ok (.aload_n 0, 1) := by decide +kernel
theorem dX4_endByWedding_42 : decode mX4_endByWedding.2.1 42 = .ok (.getfield 26, 3) := by decide +kernel
theorem dX4_endByWedding_45 : decode mX4_endByWedding.2.1 45 = .ok (.invokevirtual 140, 3) := by decide +kernel
theorem dX4_endByWedding_48 : decode mX4_endByWedding.2.1 48 = .ok (.aload_n 0, 1) := by decide +kernel
theorem dX4_endByWedding_49 : decode mX4_endByWedding.2.1 49 = .ok (.getfield 29, 3) := by decide +kernel
theorem dX4_endByWedding_52 : decode mX4_endByWedding.2.1 52 = .ok (.if_icmp .eq 4, 3) := by decide +kernel
theorem dX4_endByWedding_55 : decode mX4_endByWedding.2.1 55 = .ok (.return_, 1) := by decide +kernel
theorem dX4_endByWedding_56 : decode mX4_endByWedding.2.1 56 = .ok (.iconst 0, 1) := by decide +kernel
theorem dX4_endByWedding_57 : decode mX4_endByWedding.2.1 57 = .ok (.istore_n 2, 1) := by decide +kernel
theorem dX4_endByWedding_58 : decode mX4_endByWedding.2.1 58 = .ok (.iload_n 2, 1) := by decide +kernel
theorem dX4_endByWedding_59 : decode mX4_endByWedding.2.1 59 = .ok (.aload_n 0, 1) := by decide +kernel
theorem dX4_endByWedding_60 : decode mX4_endByWedding.2.1 60 = .ok (.getfield 19, 3) := by decide +kernel
theorem dX4_endByWedding_63 : decode mX4_endByWedding.2.1 63 = .ok (.if_icmp .ge 48, 3) := by decide +kernel
theorem dX4_endByWedding_66 : decode mX4_endByWedding.2.1 66 = .ok (.aload_n 0, 1) := by decide +kernel
theorem dX4_endByWedding_67 : decode mX4_endByWedding.2.1 67 = .ok (.getfield 15, 3) := by decide +kernel
theorem dX4_endByWedding_70 : decode mX4_endByWedding.2.1 70 = .ok (.iload_n 2, 1) := by decide +kernel
theorem dX4_endByWedding_71 : decode mX4_endByWedding.2.1 71 = .ok (.aaload, 1) := by decide +kernel
theorem dX4_endByWedding_72 : decode mX4_endByWedding.2.1 72 = .ok (.astore_n 3, 1) := by decide +kernel
theorem dX4_endByWedding_73 : decode mX4_endByWedding.2.1 73 = .ok (.aload_n 3, 1) := by decide +kernel
theorem dX4_endByWedding_74 : decode mX4_endByWedding.2.1 74 = .ok (.aload_n 0, 1) := by decide +kernel
theorem dX4_endByWedding_75 : decode mX4_endByWedding.2.1 75 = .ok (.getfield 29, 3) := by decide +kernel
theorem dX4_endByWedding_78 : decode mX4_endByWedding.2.1 78 = .ok (.invokevirtual 125, 3) := by decide +kernel
theorem dX4_endByWedding_81 : decode mX4_endByWedding.2.1 81 = .ok (.ifCond .eq 24, 3) := by decide +kernel
theorem dX4_endByWedding_84 : decode mX4_endByWedding.2.1 84 = .ok (.aload_n 3, 1) := by decide +kernel
theorem dX4_endByWedding_85 : decode mX4_endByWedding.2.1 85 = .ok (.invokevirtual 143, 3) := by decide +kernel
theorem dX4_endByWedding_88 : decode mX4_endByWedding.2.1 88 = .ok (.aload_n 1, 1) := by decide +kernel
theorem dX4_endByWedding_89 : decode mX4_endByWedding.2.1 89 = .ok (.getfield 137, 3) := by decide +kernel
theorem dX4_endByWedding_92 : decode mX4_endByWedding.2.1 92 = .ok (.if_icmp .gt 13, 3) := by decide +kernel
theorem dX4_endByWedding_95 : decode mX4_endByWedding.2.1 95 = .ok (.aload_n 3, 1) := by decide +kernel
theorem dX4_endByWedding_96 : decode mX4_endByWedding.2.1 96 = .ok (.aload_n 0, 1) := by decide +kernel
theorem dX4_endByWedding_97 : decode mX4_endByWedding.2.1 97 = .ok (.getfield 29, 3) := by decide +kernel
theorem dX4_endByWedding_100 : decode mX4_endByWedding.2.1 100 = .ok (.iconst 1, 1) := by decide +kernel
theorem dX4_endByWedding_101 : decode mX4_endByWedding.2.1 101 = .ok (.isub, 1) := by decide +kernel
theorem dX4_endByWedding_102 : decode mX4_endByWedding.2.1 102 = .ok (.invokevirtual 147, 3) := by decide +kernel
theorem dX4_endByWedding_105 : decode mX4_endByWedding.2.1 105 = .ok (.iinc 2 1, 3) := by decide +kernel
theorem dX4_endByWedding_108 : decode mX4_endByWedding.2.1 108 = .ok (.goto (-50), 3) := by decide +kernel
theorem dX4_endByWedding_111 : decode mX4_endByWedding.2.1 111 = .ok (.return_, 1) := by decide +kernel
theorem bX4_endByWedding_0 {SC : Nat → Nat} {X : mh_X} {d : Nat} {Q : Option am_V → am_W → Prop} {bc bs : Nat} {w : am_W} 
    (h : am_M (mh_G X) SC (d + 1) 0 0 mX1_lawOn [.inr (.inr (some (4, 0))), .inl (w.1 6 0 6), .inl (w.1 6 0 5)] w (fun r w1 => am_A (mh_G X) SC (d + 2) mX4_endByWedding Q 15 [(0, .inr (.inr (some (6, 0))))] (r.toList ++ []) w1 bc bs)) :
    am_A (mh_G X) SC (d + 2) mX4_endByWedding Q 0 [(0, .inr (.inr (some (6, 0))))] [] w bc bs := by
  refine am_aload_n dX4_endByWedding_0 (List.Mem.head _) ?_
  refine am_getf (f := 1) (v := .inr (.inr (some (4, 0)))) dX4_endByWedding_1 hc_6 (by decide) wd_439 (by decide) rfl rfl ?_
  refine am_aload_n dX4_endByWedding_4 (List.Mem.head _) ?_
  refine am_getf (f := 6) (v := .inl (w.1 6 0 6)) dX4_endByWedding_5 hc_6 (by decide) wd_444 (by decide) rfl rfl ?_
  refine am_aload_n dX4_endByWedding_8 (List.Mem.head _) ?_
  refine am_getf (f := 5) (v := .inl (w.1 6 0 5)) dX4_endByWedding_9 hc_6 (by decide) wd_443 (by decide) rfl rfl ?_
  exact am_callv (d' := d + 1) (kc := 0) (ks := 0) (as := [.inl (w.1 6 0 6), .inl (w.1 6 0 5)]) dX4_endByWedding_12 wc_X1_lawOn wd_1169 wd_1170 wd_1171 wd_115 ds_X1_lawOn (by decide) (by omega) (Nat.le_of_ble_eq_true rfl) (Nat.zero_le _) (Nat.zero_le _) hc_3 (by decide) rfl rfl h
theorem bX4_endByWedding_15 {SC : Nat → Nat} {X : mh_X} {d : Nat} {Q : Option am_V → am_W → Prop} {bc bs : Nat} {w : am_W} 
    (h : Q none w) :
    am_A (mh_G X) SC (d + 2) mX4_endByWedding Q 15 [(0, .inr (.inr (some (6, 0))))] [.inr (.inr none)] w bc bs := by
  refine am_astore_n (ls' := [(1, .inr (.inr none)), (0, .inr (.inr (some (6, 0))))]) dX4_endByWedding_15 (by decide) rfl ?_
  refine am_aload_n dX4_endByWedding_16 (List.Mem.head _) ?_
  refine am_ifnull (tgt := 55) dX4_endByWedding_17 (by decide) (fun _ => ?_) (fun e => absurd rfl e)
  exact am_ret (r := none) dX4_endByWedding_55 rfl rfl h
theorem bX4_endByWedding_15a {SC : Nat → Nat} {X : mh_X} {d : Nat} {Q : Option am_V → am_W → Prop} {bc bs : Nat} {w : am_W} {js0 : Nat}
    (h : (((w.1 10 js0 16) = 0 → Q none w) ∧ (¬ (w.1 10 js0 16) = 0 → am_M (mh_G X) SC (d + 1) 0 0 mX2_nextWedding [.inr (.inr (some (5, 0))), .inl (w.1 6 0 4), .inl (am_w ((w.1 6 0 6) - 1)), .inl (w.1 6 0 5)] w (fun r w1 => am_A (mh_G X) SC (d + 2) mX4_endByWedding Q 48 [(1, .inr (.inr (some (10, js0)))), (0, .inr (.inr (some (6, 0))))] (r.toList ++ []) w1 bc bs)))) :
    am_A (mh_G X) SC (d + 2) mX4_endByWedding Q 15 [(0, .inr (.inr (some (6, 0))))] [.inr (.inr (some (10, js0)))] w bc bs := by
  refine am_astore_n (ls' := [(1, .inr (.inr (some (10, js0)))), (0, .inr (.inr (some (6, 0))))]) dX4_endByWedding_15 (by decide) rfl ?_
  refine am_aload_n dX4_endByWedding_16 (List.Mem.head _) ?_
  refine am_ifnull (tgt := 55) dX4_endByWedding_17 (by decide) (fun e => by cases e) (fun _ => ?_)
  refine am_aload_n dX4_endByWedding_20 (List.Mem.head _) ?_
  refine am_getf (f := 16) (v := .inl (w.1 10 js0 16)) dX4_endByWedding_21 hc_4 (by decide) wd_244 (by decide) rfl rfl ?_
  refine am_ifeq (tgt := 55) dX4_endByWedding_24 (by decide) (fun c1 => ?_) (fun c1 => ?_)
  · replace h := h.1 c1
    exact am_ret (r := none) dX4_endByWedding_55 rfl rfl h
  · replace h := h.2 c1
    refine am_aload_n dX4_endByWedding_27 (List.Mem.tail _ (List.Mem.head _)) ?_
    refine am_getf (f := 0) (v := .inr (.inr (some (5, 0)))) dX4_endByWedding_28 hc_6 (by decide) wd_438 (by decide) rfl rfl ?_
    refine am_aload_n dX4_endByWedding_31 (List.Mem.tail _ (List.Mem.head _)) ?_
    refine am_getf (f := 4) (v := .inl (w.1 6 0 4)) dX4_endByWedding_32 hc_6 (by decide) wd_442 (by decide) rfl rfl ?_
    refine am_aload_n dX4_endByWedding_35 (List.Mem.tail _ (List.Mem.head _)) ?_
    refine am_getf (f := 6) (v := .inl (w.1 6 0 6)) dX4_endByWedding_36 hc_6 (by decide) wd_444 (by decide) rfl rfl ?_
    refine am_iconst dX4_endByWedding_39 (by unfold am_rg; omega) ?_
    refine am_isub dX4_endByWedding_40 ?_
    refine am_aload_n dX4_endByWedding_41 (List.Mem.tail _ (List.Mem.head _)) ?_
    refine am_getf (f := 5) (v := .inl (w.1 6 0 5)) dX4_endByWedding_42 hc_6 (by decide) wd_443 (by decide) rfl rfl ?_
    exact am_callv (d' := d + 1) (kc := 0) (ks := 0) (as := [.inl (w.1 6 0 4), .inl (am_w ((w.1 6 0 6) - 1)), .inl (w.1 6 0 5)]) dX4_endByWedding_45 wc_X2_nextWedding wd_1225 wd_1226 wd_1227 wd_117 ds_X2_nextWedding (by decide) (by omega) (Nat.le_of_ble_eq_true rfl) (Nat.zero_le _) (Nat.zero_le _) hc_5 (by decide) rfl rfl h
theorem bX4_endByWedding_48 {SC : Nat → Nat} {X : mh_X} {d : Nat} {Q : Option am_V → am_W → Prop} {bc bs : Nat} {w : am_W} {j1 : Nat} {xs0 : Int}
    (h : ((xs0 = (w.1 6 0 6) → am_A (mh_G X) SC (d + 2) mX4_endByWedding Q 58 [(0, .inr (.inr (some (6, 0)))), (1, .inr (.inr (some (10, j1)))), (2, .inl 0)] [] w bc bs) ∧ (¬ xs0 = (w.1 6 0 6) → Q none w))) :
    am_A (mh_G X) SC (d + 2) mX4_endByWedding Q 48 [(1, .inr (.inr (some (10, j1)))), (0, .inr (.inr (some (6, 0))))] [.inl xs0] w bc bs := by
  refine am_aload_n dX4_endByWedding_48 (List.Mem.tail _ (List.Mem.head _)) ?_
  refine am_getf (f := 6) (v := .inl (w.1 6 0 6)) dX4_endByWedding_49 hc_6 (by decide) wd_444 (by decide) rfl rfl ?_
  refine am_icmpeq (tgt := 56) dX4_endByWedding_52 (by decide) (fun c1 => ?_) (fun c1 => ?_)
  · replace h := h.1 c1
    refine am_iconst dX4_endByWedding_56 (by unfold am_rg; omega) ?_
    refine am_istore_n (ls' := [(2, .inl 0), (1, .inr (.inr (some (10, j1)))), (0, .inr (.inr (some (6, 0))))]) dX4_endByWedding_57 (by decide) rfl ?_
    exact am_sub [2, 1, 0] rfl h
  · replace h := h.2 c1
    exact am_ret (r := none) dX4_endByWedding_55 rfl rfl h
theorem bX4_endByWedding_58 {SC : Nat → Nat} {X : mh_X} {d : Nat} {Q : Option am_V → am_W → Prop} {bc bs : Nat} {w : am_W} {j1 : Nat} {x2 : Int}
    (h : (((w.1 6 0 3) ≤ x2 → Q none w) ∧ (¬ (w.1 6 0 3) ≤ x2 → (0 ≤ x2 ∧ (x2 < 40 ∧ ((¬ ((w.1 11 x2.toNat 7) = 0 ∧ (¬ (w.1 6 0 6) < (w.1 11 x2.toNat 4))) → am_A (mh_G X) SC (d + 2) mX4_endByWedding Q 105 [(0, .inr (.inr (some (6, 0)))), (1, .inr (.inr (some (10, j1)))), (2, .inl x2)] [] w bc bs) ∧ (((w.1 11 x2.toNat 7) = 0 ∧ (¬ (w.1 6 0 6) < (w.1 11 x2.toNat 4))) → (0 ≤ (w.1 11 x2.toNat 10) ∧ ((w.1 11 x2.toNat 10) < 4 ∧ (((w.1 10 j1 16) < (w.1 155 x2.toNat (w.1 11 x2.toNat 10).toNat) → am_A (mh_G X) SC (d + 2) mX4_endByWedding Q 105 [(0, .inr (.inr (some (6, 0)))), (1, .inr (.inr (some (10, j1)))), (2, .inl x2)] [] w bc bs) ∧ (¬ (w.1 10 j1 16) < (w.1 155 x2.toNat (w.1 11 x2.toNat 10).toNat) → am_A (mh_G X) SC (d + 2) mX4_endByWedding Q 105 [(0, .inr (.inr (some (6, 0)))), (1, .inr (.inr (some (10, j1)))), (2, .inl x2)] [] ((am_up (am_up w.1 11 x2.toNat 7 1) 11 x2.toNat 8 (am_w ((w.1 6 0 6) - 1))), w.2) bc bs))))))))))) :
    am_A (mh_G X) SC (d + 2) mX4_endByWedding Q 58 [(0, .inr (.inr (some (6, 0)))), (1, .inr (.inr (some (10, j1)))), (2, .inl x2)] [] w bc bs := by
  refine am_iload_n dX4_endByWedding_58 (List.Mem.tail _ (List.Mem.tail _ (List.Mem.head _))) ?_
  refine am_aload_n dX4_endByWedding_59 (List.Mem.head _) ?_
  refine am_getf (f := 3) (v := .inl (w.1 6 0 3)) dX4_endByWedding_60 hc_6 (by decide) wd_441 (by decide) rfl rfl ?_
  refine am_icmpge (tgt := 111) dX4_endByWedding_63 (by decide) (fun c1 => ?_) (fun c1 => ?_)
  · replace h := h.1 c1
    exact am_ret (r := none) dX4_endByWedding_111 rfl rfl h
  · replace h := h.2 c1
    refine am_aload_n dX4_endByWedding_66 (List.Mem.head _) ?_
    refine am_getf (f := 2) (v := .inr (.inr (some (49, 0)))) dX4_endByWedding_67 hc_6 (by decide) wd_440 (by decide) rfl rfl ?_
    refine am_iload_n dX4_endByWedding_70 (List.Mem.tail _ (List.Mem.tail _ (List.Mem.head _))) ?_
    have o2 := h.1
    replace h := h.2
    have o3 := h.1
    replace h := h.2
    refine am_aaload (kd := 8) (r := some (11, x2.toNat)) dX4_endByWedding_71 (by decide) rfl (by decide) (by decide) o2 o3 rfl ?_
    refine am_astore_n (ls' := [(3, .inr (.inr (some (11, x2.toNat)))), (0, .inr (.inr (some (6, 0)))), (1, .inr (.inr (some (10, j1)))), (2, .inl x2)]) dX4_endByWedding_72 (by decide) rfl ?_
    refine am_aload_n dX4_endByWedding_73 (List.Mem.head _) ?_
    refine am_aload_n dX4_endByWedding_74 (List.Mem.tail _ (List.Mem.head _)) ?_
    refine am_getf (f := 6) (v := .inl (w.1 6 0 6)) dX4_endByWedding_75 hc_6 (by decide) wd_444 (by decide) rfl rfl ?_
    refine am_callv (d' := d + 1) (kc := 0) (ks := 0) (as := [.inl (w.1 6 0 6)]) dX4_endByWedding_78 wc_X5_isOn wd_1216 wd_1217 wd_1218 wd_119 ds_X5_isOn (by decide) (by omega) (Nat.le_of_ble_eq_true rfl) (Nat.zero_le _) (Nat.zero_le _) hc_7 (by decide) rfl rfl (sX5_isOn (d := d + 0) (j0 := x2.toNat) (x1 := (w.1 6 0 6))  ?_)
    show am_A (mh_G X) SC (d + 2) mX4_endByWedding Q 81 [(3, .inr (.inr (some (11, x2.toNat)))), (0, .inr (.inr (some (6, 0)))), (1, .inr (.inr (some (10, j1)))), (2, .inl x2)] [.inl (if ((w.1 11 x2.toNat 7) = 0 ∧ (¬ (w.1 6 0 6) < (w.1 11 x2.toNat 4))) then 1 else 0)] w bc bs
    refine am_ifeq (tgt := 105) dX4_endByWedding_81 (by decide) (fun c4 => ?_) (fun c4 => ?_)
    · replace c4 := am_beq1 c4
      replace h := h.1 c4
      exact am_sub [1, 2, 3] rfl h
    · replace c4 := am_beq2 c4
      replace h := h.2 c4
      refine am_aload_n dX4_endByWedding_84 (List.Mem.head _) ?_
      have o5 := h.1
      replace h := h.2
      have o6 := h.1
      replace h := h.2
      refine am_callv (d' := d + 1) (kc := 0) (ks := 0) (as := []) dX4_endByWedding_85 wc_X5_depthNow wd_1220 wd_1221 wd_1222 wd_119 ds_X5_depthNow (by decide) (by omega) (Nat.le_of_ble_eq_true rfl) (Nat.zero_le _) (Nat.zero_le _) hc_7 (by decide) rfl rfl (sX5_depthNow (d := d + 0) (j0 := x2.toNat) o5 o6 ?_)
      show am_A (mh_G X) SC (d + 2) mX4_endByWedding Q 88 [(3, .inr (.inr (some (11, x2.toNat)))), (0, .inr (.inr (some (6, 0)))), (1, .inr (.inr (some (10, j1)))), (2, .inl x2)] [.inl (w.1 155 x2.toNat (w.1 11 x2.toNat 10).toNat)] w bc bs
      refine am_aload_n dX4_endByWedding_88 (List.Mem.tail _ (List.Mem.tail _ (List.Mem.head _))) ?_
      refine am_getf (f := 16) (v := .inl (w.1 10 j1 16)) dX4_endByWedding_89 hc_4 (by decide) wd_244 (by decide) rfl rfl ?_
      refine am_icmpgt (tgt := 105) dX4_endByWedding_92 (by decide) (fun c7 => ?_) (fun c7 => ?_)
      · replace h := h.1 c7
        exact am_sub [1, 2, 3] rfl h
      · replace h := h.2 c7
        refine am_aload_n dX4_endByWedding_95 (List.Mem.head _) ?_
        refine am_aload_n dX4_endByWedding_96 (List.Mem.tail _ (List.Mem.head _)) ?_
        refine am_getf (f := 6) (v := .inl (w.1 6 0 6)) dX4_endByWedding_97 hc_6 (by decide) wd_444 (by decide) rfl rfl ?_
        refine am_iconst dX4_endByWedding_100 (by unfold am_rg; omega) ?_
        refine am_isub dX4_endByWedding_101 ?_
        refine am_callv (d' := d + 1) (kc := 0) (ks := 0) (as := [.inl (am_w ((w.1 6 0 6) - 1))]) dX4_endByWedding_102 wc_X5_finish wd_1263 wd_1256 wd_1257 wd_119 ds_X5_finish (by decide) (by omega) (Nat.le_of_ble_eq_true rfl) (Nat.zero_le _) (Nat.zero_le _) hc_7 (by decide) rfl rfl (sX5_finish (d := d + 0) (j0 := x2.toNat) (x1 := (am_w ((w.1 6 0 6) - 1)))  ?_)
        show am_A (mh_G X) SC (d + 2) mX4_endByWedding Q 105 [(3, .inr (.inr (some (11, x2.toNat)))), (0, .inr (.inr (some (6, 0)))), (1, .inr (.inr (some (10, j1)))), (2, .inl x2)] [] ((am_up (am_up w.1 11 x2.toNat 7 1) 11 x2.toNat 8 (am_w ((w.1 6 0 6) - 1))), w.2) bc bs
        exact am_sub [1, 2, 3] rfl h
theorem bX4_endByWedding_105 {SC : Nat → Nat} {X : mh_X} {d : Nat} {Q : Option am_V → am_W → Prop} {bc bs : Nat} {w : am_W} {j1 : Nat} {x2 : Int}
    (h : am_A (mh_G X) SC (d + 2) mX4_endByWedding Q 58 [(0, .inr (.inr (some (6, 0)))), (1, .inr (.inr (some (10, j1)))), (2, .inl (am_w (x2 + 1)))] [] w bc bs) :
    am_A (mh_G X) SC (d + 2) mX4_endByWedding Q 105 [(0, .inr (.inr (some (6, 0)))), (1, .inr (.inr (some (10, j1)))), (2, .inl x2)] [] w bc bs := by
  refine am_iinc (ls' := [(2, .inl (am_w (x2 + 1))), (0, .inr (.inr (some (6, 0)))), (1, .inr (.inr (some (10, j1))))]) dX4_endByWedding_105 (List.Mem.tail _ (List.Mem.tail _ (List.Mem.head _))) (by decide) rfl ?_
  refine am_goto (tgt := 58) dX4_endByWedding_108 (by decide) ?_
  exact am_sub [1, 2, 0] rfl h
