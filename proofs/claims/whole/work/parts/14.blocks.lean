-- MourningHouse$Mourning.pass(II)V
theorem dX5_pass_0 : decode mX5_pass.2.1 0 = .ok (.aload_n 0, 1) := by decide +kernel
theorem dX5_pass_1 : decode mX5_pass.2.1 1 = .ok (.dup, 1) := by decide +kernel
theorem dX5_pass_2 : decode mX5_pass.2.1 2 = .ok (.getfield 43, 3) := by decide +kernel
theorem dX5_pass_5 : decode mX5_pass.2.1 5 = .ok (.iload_n 1, 1) := by decide +kernel
theorem dX5_pass_6 : decode mX5_pass.2.1 6 = .ok (.iadd, 1) := by decide +kernel
theorem dX5_pass_7 : decode mX5_pass.2.1 7 = .ok (.putfield 43, 3) := by decide +kernel
theorem dX5_pass_10 : decode mX5_pass.2.1 10 = .ok (.aload_n 0, 1) := by decide +kernel
theorem dX5_pass_11 : decode mX5_pass.2.1 11 = .ok (.getfield 43, 3) := by decide +kernel
theorem dX5_pass_14 : decode mX5_pass.2.1 14 = .ok (.aload_n 0, 1) := by decide +kernel
theorem dX5_pass_15 : decode mX5_pass.2.1 15 = .ok (.getfield 11, 3) := by decide +kernel
theorem dX5_pass_18 : decode mX5_pass.2.1 18 = .ok (.aload_n 0, 1) := by decide +kernel
theorem dX5_pass_19 : decode mX5_pass.2.1 19 = .ok (.getfield 46, 3) := by decide +kernel
theorem dX5_pass_22 : decode mX5_pass.2.1 22 = .ok (.iaload, 1) := by decide +kernel
theorem dX5_pass_23 : decode mX5_pass.2.1 23 = .ok (.if_icmp .ge 4, 3) := by decide +kernel
theorem dX5_pass_26 : decode mX5_pass.2.1 26 = .ok (.return_, 1) := by decide +kernel
theorem dX5_pass_27 : decode mX5_pass.2.1 27 = .ok (.aload_n 0, 1) := by decide +kernel
theorem dX5_pass_28 : decode mX5_pass.2.1 28 = .ok (.getfield 46, 3) := by decide +kernel
theorem dX5_pass_31 : decode mX5_pass.2.1 31 = .ok (.aload_n 0, 1) := by decide +kernel
theorem dX5_pass_32 : decode mX5_pass.2.1 32 = .ok (.getfield 20, 3) := by decide +kernel
theorem dX5_pass_35 : decode mX5_pass.2.1 35 = .ok (.iconst 1, 1) := by decide +kernel
theorem dX5_pass_36 : decode mX5_pass.2.1 36 = .ok (.isub, 1) := by decide +kernel
theorem dX5_pass_37 : decode mX5_pass.2.1 37 = .ok (.if_icmp .ne 13, 3) := by decide +kernel
theorem dX5_pass_40 : decode mX5_pass.2.1 40 = .ok (.aload_n 0, 1) := by decide +kernel
theorem dX5_pass_41 : decode mX5_pass.2.1 41 = .ok (.iload_n 2, 1) := by decide +kernel
theorem dX5_pass_42 : decode mX5_pass.2.1 42 = .ok (.iconst 1, 1) := by decide +kernel
theorem dX5_pass_43 : decode mX5_pass.2.1 43 = .ok (.isub, 1) := by decide +kernel
theorem dX5_pass_44 : decode mX5_pass.2.1 44 = .ok (.invokevirtual 66, 3) := by decide +kernel
theorem dX5_pass_47 : decode mX5_pass.2.1 47 = .ok (.goto 13, 3) := by decide +kernel
theorem dX5_pass_50 : decode mX5_pass.2.1 50 = .ok (.aload_n 0, 1) := by decide +kernel
theorem dX5_pass_51 : decode mX5_pass.2.1 51 = .ok (.dup, 1) := by decide +kernel
theorem dX5_pass_52 : decode mX5_pass.2.1 52 = .ok (.getfield 46, 3) := by decide +kernel
theorem dX5_pass_55 : decode mX5_pass.2.1 55 = .ok (.iconst 1, 1) := by decide +kernel
theorem dX5_pass_56 : decode mX5_pass.2.1 56 = .ok (.iadd, 1) := by decide +kernel
theorem dX5_pass_57 : decode mX5_pass.2.1 57 = .ok (.putfield 46, 3) := by decide +kernel
theorem dX5_pass_60 : decode mX5_pass.2.1 60 = .ok (.return_, 1) := by decide +kernel
theorem bX5_pass_0 {SC : Nat → Nat} {X : mh_X} {d : Nat} {Q : Option am_V → am_W → Prop} {bc bs : Nat} {w : am_W} {j0 : Nat} {x1 : Int} {x2 : Int}
    (h : (0 ≤ ((am_up w.1 11 j0 9 (am_w ((w.1 11 j0 9) + x1))) 11 j0 10) ∧ (((am_up w.1 11 j0 9 (am_w ((w.1 11 j0 9) + x1))) 11 j0 10) < 4 ∧ (((w.1 154 j0 ((am_up w.1 11 j0 9 (am_w ((w.1 11 j0 9) + x1))) 11 j0 10).toNat) ≤ ((am_up w.1 11 j0 9 (am_w ((w.1 11 j0 9) + x1))) 11 j0 9) → ((¬ ((am_up w.1 11 j0 9 (am_w ((w.1 11 j0 9) + x1))) 11 j0 10) = (am_w (((am_up w.1 11 j0 9 (am_w ((w.1 11 j0 9) + x1))) 11 j0 2) - 1)) → Q none ((am_up (am_up w.1 11 j0 9 (am_w ((w.1 11 j0 9) + x1))) 11 j0 10 (am_w (((am_up w.1 11 j0 9 (am_w ((w.1 11 j0 9) + x1))) 11 j0 10) + 1))), w.2)) ∧ (((am_up w.1 11 j0 9 (am_w ((w.1 11 j0 9) + x1))) 11 j0 10) = (am_w (((am_up w.1 11 j0 9 (am_w ((w.1 11 j0 9) + x1))) 11 j0 2) - 1)) → Q none ((am_up (am_up (am_up w.1 11 j0 9 (am_w ((w.1 11 j0 9) + x1))) 11 j0 7 1) 11 j0 8 (am_w (x2 - 1))), w.2)))) ∧ (¬ (w.1 154 j0 ((am_up w.1 11 j0 9 (am_w ((w.1 11 j0 9) + x1))) 11 j0 10).toNat) ≤ ((am_up w.1 11 j0 9 (am_w ((w.1 11 j0 9) + x1))) 11 j0 9) → Q none ((am_up w.1 11 j0 9 (am_w ((w.1 11 j0 9) + x1))), w.2)))))) :
    am_A (mh_G X) SC (d + 2) mX5_pass Q 0 [(0, .inr (.inr (some (11, j0)))), (1, .inl x1), (2, .inl x2)] [] w bc bs := by
  refine am_aload_n dX5_pass_0 (List.Mem.head _) ?_
  refine am_dup dX5_pass_1 rfl ?_
  refine am_getf (f := 9) (v := .inl (w.1 11 j0 9)) dX5_pass_2 hc_7 (by decide) wd_413 (by decide) rfl rfl ?_
  refine am_iload_n dX5_pass_5 (List.Mem.tail _ (List.Mem.head _)) ?_
  refine am_iadd dX5_pass_6 ?_
  refine am_putf (f := 9) dX5_pass_7 hc_7 (by decide) wd_413 rfl (Or.inl rfl) (Or.inl (by decide)) rfl ?_
  refine am_aload_n dX5_pass_10 (List.Mem.head _) ?_
  refine am_getf (f := 9) (v := .inl ((am_up w.1 11 j0 9 (am_w ((w.1 11 j0 9) + x1))) 11 j0 9)) dX5_pass_11 hc_7 (by decide) wd_413 (by decide) rfl rfl ?_
  refine am_aload_n dX5_pass_14 (List.Mem.head _) ?_
  refine am_getf (f := 0) (v := .inr (.inr (some (154, j0)))) dX5_pass_15 hc_7 (by decide) wd_399 (by decide) rfl rfl ?_
  refine am_aload_n dX5_pass_18 (List.Mem.head _) ?_
  refine am_getf (f := 10) (v := .inl ((am_up w.1 11 j0 9 (am_w ((w.1 11 j0 9) + x1))) 11 j0 10)) dX5_pass_19 hc_7 (by decide) wd_414 (by decide) rfl rfl ?_
  have o1 := h.1
  replace h := h.2
  have o2 := h.1
  replace h := h.2
  refine am_iaload (v := (w.1 154 j0 ((am_up w.1 11 j0 9 (am_w ((w.1 11 j0 9) + x1))) 11 j0 10).toNat)) dX5_pass_22 (by decide) rfl o1 o2 rfl ?_
  refine am_icmpge (tgt := 27) dX5_pass_23 (by decide) (fun c3 => ?_) (fun c3 => ?_)
  · replace h := h.1 c3
    refine am_aload_n dX5_pass_27 (List.Mem.head _) ?_
    refine am_getf (f := 10) (v := .inl ((am_up w.1 11 j0 9 (am_w ((w.1 11 j0 9) + x1))) 11 j0 10)) dX5_pass_28 hc_7 (by decide) wd_414 (by decide) rfl rfl ?_
    refine am_aload_n dX5_pass_31 (List.Mem.head _) ?_
    refine am_getf (f := 2) (v := .inl ((am_up w.1 11 j0 9 (am_w ((w.1 11 j0 9) + x1))) 11 j0 2)) dX5_pass_32 hc_7 (by decide) wd_401 (by decide) rfl rfl ?_
    refine am_iconst dX5_pass_35 (by unfold am_rg; omega) ?_
    refine am_isub dX5_pass_36 ?_
    refine am_icmpne (tgt := 50) dX5_pass_37 (by decide) (fun c4 => ?_) (fun c4 => ?_)
    · replace h := h.1 c4
      refine am_aload_n dX5_pass_50 (List.Mem.head _) ?_
      refine am_dup dX5_pass_51 rfl ?_
      refine am_getf (f := 10) (v := .inl ((am_up w.1 11 j0 9 (am_w ((w.1 11 j0 9) + x1))) 11 j0 10)) dX5_pass_52 hc_7 (by decide) wd_414 (by decide) rfl rfl ?_
      refine am_iconst dX5_pass_55 (by unfold am_rg; omega) ?_
      refine am_iadd dX5_pass_56 ?_
      refine am_putf (f := 10) dX5_pass_57 hc_7 (by decide) wd_414 rfl (Or.inl rfl) (Or.inl (by decide)) rfl ?_
      exact am_ret (r := none) dX5_pass_60 rfl rfl h
    · replace h := h.2 c4
      refine am_aload_n dX5_pass_40 (List.Mem.head _) ?_
      refine am_iload_n dX5_pass_41 (List.Mem.tail _ (List.Mem.tail _ (List.Mem.head _))) ?_
      refine am_iconst dX5_pass_42 (by unfold am_rg; omega) ?_
      refine am_isub dX5_pass_43 ?_
      refine am_callv (d' := d + 1) (kc := 0) (ks := 0) (as := [.inl (am_w (x2 - 1))]) dX5_pass_44 wc_X5_finish wd_1255 wd_1256 wd_1257 wd_119 ds_X5_finish (by decide) (by omega) (Nat.le_of_ble_eq_true rfl) (Nat.zero_le _) (Nat.zero_le _) hc_7 (by decide) rfl rfl (sX5_finish (d := d + 0) (j0 := j0) (x1 := (am_w (x2 - 1)))  ?_)
      show am_A (mh_G X) SC (d + 2) mX5_pass Q 47 [(0, .inr (.inr (some (11, j0)))), (1, .inl x1), (2, .inl x2)] [] ((am_up (am_up (am_up w.1 11 j0 9 (am_w ((w.1 11 j0 9) + x1))) 11 j0 7 1) 11 j0 8 (am_w (x2 - 1))), w.2) bc bs
      refine am_goto (tgt := 60) dX5_pass_47 (by decide) ?_
      exact am_ret (r := none) dX5_pass_60 rfl rfl h
  · replace h := h.2 c3
    exact am_ret (r := none) dX5_pass_26 rfl rfl h
-- MourningHouse$Mourner.passDays(I)V
theorem dX4_passDays_0 : decode mX4_passDays.2.1 0 = .ok (.aload_n 0, 1) := by decide +kernel
theorem dX4_passDays_1 : decode mX4_passDays.2.1 1 = .ok (.getfield 35, 3) := by decide +kernel
theorem dX4_passDays_4 : decode mX4_passDays.2.1 4 = .ok (.aload_n 0, 1) := by decide +kernel
theorem dX4_passDays_5 : decode mX4_passDays.2.1 5 = .ok (.getfield 38, 3) := by decide +kernel
theorem dX4_passDays_8 : decode mX4_passDays.2.1 8 = .ok (.invokestatic 110, 3) := by decide +kernel
theorem dX4_passDays_11 : decode mX4_passDays.2.1 11 = .ok (.istore_n 2, 1) := by decide +kernel
theorem dX4_passDays_12 : decode mX4_passDays.2.1 12 = .ok (.aload_n 0, 1) := by decide +kernel
theorem dX4_passDays_13 : decode mX4_passDays.2.1 13 = .ok (.getfield 29, 3) := by decide +kernel
theorem dX4_passDays_16 : decode mX4_passDays.2.1 16 = .ok (.iload_n 1, 1) := by decide +kernel
theorem dX4_passDays_17 : decode mX4_passDays.2.1 17 = .ok (.iadd, 1) := by decide +kernel
theorem dX4_passDays_18 : decode mX4_passDays.2.1 18 = .ok (.istore_n 3, 1) := by decide +kernel
theorem dX4_passDays_19 : decode mX4_passDays.2.1 19 = .ok (.iconst 0, 1) := by decide +kernel
theorem dX4_passDays_20 : decode mX4_passDays.2.1 20 = .ok (.istore 4, 2) := by decide +kernel
theorem dX4_passDays_22 : decode mX4_passDays.2.1 22 = .ok (.iload 4, 2) := by decide +kernel
theorem dX4_passDays_24 : decode mX4_passDays.2.1 24 = .ok (.aload_n 0, 1) := by decide +kernel
theorem dX4_passDays_25 : decode mX4_passDays.2.1 25 = .ok (.getfield 19, 3) := by decide +kernel
theorem dX4_passDays_28 : decode mX4_passDays.2.1 28 = .ok (.if_icmp .ge 46, 3) := by decide +kernel
theorem dX4_passDays_31 : decode mX4_passDays.2.1 31 = .ok (.aload_n 0, 1) := by decide +kernel
theorem dX4_passDays_32 : decode mX4_passDays.2.1 32 = .ok (.getfield 15, 3) := by decide +kernel
theorem dX4_passDays_35 : decode mX4_passDays.2.1 35 = .ok (.iload 4, 2) := by decide +kernel
theorem dX4_passDays_37 : decode mX4_passDays.2.1 37 = .ok (.aaload, 1) := by decide +kernel
theorem dX4_passDays_38 : decode mX4_passDays.2.1 38 = .ok (.astore 5, 2) := by decide +kernel
theorem dX4_passDays_40 : decode mX4_passDays.2.1 40 = .ok (.aload 5, 2) := by decide +kernel
theorem dX4_passDays_42 : decode mX4_passDays.2.1 42 = .ok (.aload_n 0, 1) := by decide +kernel
theorem dX4_passDays_43 : decode mX4_passDays.2.1 43 = .ok (.getfield 29, 3) := by decide +kernel
theorem dX4_passDays_46 : decode mX4_passDays.2.1 46 = .ok (.invokevirtual 125, 3) := by decide +kernel
theorem dX4_passDays_49 : decode mX4_passDays.2.1 49 = .ok (.ifCond .eq 19, 3) := by decide +kernel
theorem dX4_passDays_52 : decode mX4_passDays.2.1 52 = .ok (.aload 5, 2) := by decide +kernel
theorem dX4_passDays_54 : decode mX4_passDays.2.1 54 = .ok (.iload_n 2, 1) := by decide +kernel
theorem dX4_passDays_55 : decode mX4_passDays.2.1 55 = .ok (.invokevirtual 128, 3) := by decide +kernel
theorem dX4_passDays_58 : decode mX4_passDays.2.1 58 = .ok (.ifCond .eq 10, 3) := by decide +kernel
theorem dX4_passDays_61 : decode mX4_passDays.2.1 61 = .ok (.aload 5, 2) := by decide +kernel
theorem dX4_passDays_63 : decode mX4_passDays.2.1 63 = .ok (.iload_n 1, 1) := by decide +kernel
theorem dX4_passDays_64 : decode mX4_passDays.2.1 64 = .ok (.iload_n 3, 1) := by decide +kernel
theorem dX4_passDays_65 : decode mX4_passDays.2.1 65 = .ok (.invokevirtual 131, 3) := by decide +kernel
theorem dX4_passDays_68 : decode mX4_passDays.2.1 68 = .ok (.iinc 4 1, 3) := by decide +kernel
theorem dX4_passDays_71 : decode mX4_passDays.2.1 71 = .ok (.goto (-49), 3) := by decide +kernel
theorem dX4_passDays_74 : decode mX4_passDays.2.1 74 = .ok (.aload_n 0, 1) := by decide +kernel
theorem dX4_passDays_75 : decode mX4_passDays.2.1 75 = .ok (.iload_n 3, 1) := by decide +kernel
theorem dX4_passDays_76 : decode mX4_passDays.2.1 76 = .ok (.putfield 29, 3) := by decide +kernel
theorem dX4_passDays_79 : decode mX4_passDays.2.1 79 = .ok (.aload_n 0, 1) := by decide +kernel
theorem dX4_passDays_80 : decode mX4_passDays.2.1 80 = .ok (.invokevirtual 134, 3) := by decide +kernel
theorem dX4_passDays_83 : decode mX4_passDays.2.1 83 = .ok (.aload_n 0, 1) := by decide +kernel
theorem dX4_passDays_84 : decode mX4_passDays.2.1 84 = .ok (.invokevirtual 96, 3) := by decide +kernel
theorem dX4_passDays_87 : decode mX4_passDays.2.1 87 = .ok (.return_, 1) := by decide +kernel
theorem bX4_passDays_0 {SC : Nat → Nat} {X : mh_X} {d : Nat} {Q : Option am_V → am_W → Prop} {bc bs : Nat} {w : am_W} {x1 : Int}
    (h : am_A (mh_G X) SC (d + 3) mX4_passDays Q 22 [(0, .inr (.inr (some (6, 0)))), (1, .inl x1), (2, .inl (max (w.1 6 0 8) (w.1 6 0 9))), (3, .inl (am_w ((w.1 6 0 6) + x1))), (4, .inl 0)] [] w bc bs) :
    am_A (mh_G X) SC (d + 3) mX4_passDays Q 0 [(0, .inr (.inr (some (6, 0)))), (1, .inl x1)] [] w bc bs := by
  refine am_aload_n dX4_passDays_0 (List.Mem.head _) ?_
  refine am_getf (f := 8) (v := .inl (w.1 6 0 8)) dX4_passDays_1 hc_6 (by decide) wd_446 (by decide) rfl rfl ?_
  refine am_aload_n dX4_passDays_4 (List.Mem.head _) ?_
  refine am_getf (f := 9) (v := .inl (w.1 6 0 9)) dX4_passDays_5 hc_6 (by decide) wd_447 (by decide) rfl rfl ?_
  refine am_mmax dX4_passDays_8 wd_1191 (by omega) (Nat.le_of_ble_eq_true rfl) ?_
  refine am_istore_n (ls' := [(2, .inl (max (w.1 6 0 8) (w.1 6 0 9))), (0, .inr (.inr (some (6, 0)))), (1, .inl x1)]) dX4_passDays_11 (by decide) rfl ?_
  refine am_aload_n dX4_passDays_12 (List.Mem.tail _ (List.Mem.head _)) ?_
  refine am_getf (f := 6) (v := .inl (w.1 6 0 6)) dX4_passDays_13 hc_6 (by decide) wd_444 (by decide) rfl rfl ?_
  refine am_iload_n dX4_passDays_16 (List.Mem.tail _ (List.Mem.tail _ (List.Mem.head _))) ?_
  refine am_iadd dX4_passDays_17 ?_
  refine am_istore_n (ls' := [(3, .inl (am_w ((w.1 6 0 6) + x1))), (2, .inl (max (w.1 6 0 8) (w.1 6 0 9))), (0, .inr (.inr (some (6, 0)))), (1, .inl x1)]) dX4_passDays_18 (by decide) rfl ?_
  refine am_iconst dX4_passDays_19 (by unfold am_rg; omega) ?_
  refine am_istore (ls' := [(4, .inl 0), (3, .inl (am_w ((w.1 6 0 6) + x1))), (2, .inl (max (w.1 6 0 8) (w.1 6 0 9))), (0, .inr (.inr (some (6, 0)))), (1, .inl x1)]) dX4_passDays_20 (by decide) rfl ?_
  exact am_sub [3, 4, 2, 1, 0] rfl h
theorem bX4_passDays_22 {SC : Nat → Nat} {X : mh_X} {d : Nat} {Q : Option am_V → am_W → Prop} {bc bs : Nat} {w : am_W} {x1 : Int} {x2 : Int} {x3 : Int} {x4 : Int}
    (h : (((w.1 6 0 3) ≤ x4 → am_M (mh_G X) SC (d + 2) 0 0 mX4_endByWedding [.inr (.inr (some (6, 0)))] ((am_up w.1 6 0 6 x3), w.2) (fun r w1 => am_A (mh_G X) SC (d + 3) mX4_passDays Q 83 [(0, .inr (.inr (some (6, 0)))), (1, .inl x1), (2, .inl x2), (3, .inl x3), (4, .inl x4)] (r.toList ++ []) w1 bc bs)) ∧ (¬ (w.1 6 0 3) ≤ x4 → (0 ≤ x4 ∧ (x4 < 40 ∧ ((¬ ((w.1 11 x4.toNat 7) = 0 ∧ (¬ (w.1 6 0 6) < (w.1 11 x4.toNat 4))) → am_A (mh_G X) SC (d + 3) mX4_passDays Q 68 [(0, .inr (.inr (some (6, 0)))), (1, .inl x1), (2, .inl x2), (3, .inl x3), (4, .inl x4)] [] w bc bs) ∧ (((w.1 11 x4.toNat 7) = 0 ∧ (¬ (w.1 6 0 6) < (w.1 11 x4.toNat 4))) → ((¬ (w.1 11 x4.toNat 5) = 0 → 0 ≤ (w.1 11 x4.toNat 10)) ∧ ((¬ (w.1 11 x4.toNat 5) = 0 → (w.1 11 x4.toNat 10) < 4) ∧ ((¬ ((w.1 11 x4.toNat 5) = 0 ∨ ((w.1 155 x4.toNat (w.1 11 x4.toNat 10).toNat) = x2)) → am_A (mh_G X) SC (d + 3) mX4_passDays Q 68 [(0, .inr (.inr (some (6, 0)))), (1, .inl x1), (2, .inl x2), (3, .inl x3), (4, .inl x4)] [] w bc bs) ∧ (((w.1 11 x4.toNat 5) = 0 ∨ ((w.1 155 x4.toNat (w.1 11 x4.toNat 10).toNat) = x2)) → am_M (mh_G X) SC (d + 2) 0 0 mX5_pass [.inr (.inr (some (11, x4.toNat))), .inl x1, .inl x3] w (fun r w1 => am_A (mh_G X) SC (d + 3) mX4_passDays Q 68 [(5, .inr (.inr (some (11, x4.toNat)))), (0, .inr (.inr (some (6, 0)))), (1, .inl x1), (2, .inl x2), (3, .inl x3), (4, .inl x4)] (r.toList ++ []) w1 bc bs)))))))))))) :
    am_A (mh_G X) SC (d + 3) mX4_passDays Q 22 [(0, .inr (.inr (some (6, 0)))), (1, .inl x1), (2, .inl x2), (3, .inl x3), (4, .inl x4)] [] w bc bs := by
  refine am_iload dX4_passDays_22 (List.Mem.tail _ (List.Mem.tail _ (List.Mem.tail _ (List.Mem.tail _ (List.Mem.head _))))) ?_
  refine am_aload_n dX4_passDays_24 (List.Mem.head _) ?_
  refine am_getf (f := 3) (v := .inl (w.1 6 0 3)) dX4_passDays_25 hc_6 (by decide) wd_441 (by decide) rfl rfl ?_
  refine am_icmpge (tgt := 74) dX4_passDays_28 (by decide) (fun c1 => ?_) (fun c1 => ?_)
  · replace h := h.1 c1
    refine am_aload_n dX4_passDays_74 (List.Mem.head _) ?_
    refine am_iload_n dX4_passDays_75 (List.Mem.tail _ (List.Mem.tail _ (List.Mem.tail _ (List.Mem.head _)))) ?_
    refine am_putf (f := 6) dX4_passDays_76 hc_6 (by decide) wd_444 rfl (Or.inl rfl) (Or.inl (by decide)) rfl ?_
    refine am_aload_n dX4_passDays_79 (List.Mem.head _) ?_
    exact am_callv (d' := d + 2) (kc := 0) (ks := 0) (as := []) dX4_passDays_80 wc_X4_endByWedding wd_1259 wd_1261 wd_37 wd_118 ds_X4_endByWedding (by decide) (by omega) (Nat.le_of_ble_eq_true rfl) (Nat.zero_le _) (Nat.zero_le _) hc_6 (by decide) rfl rfl h
  · replace h := h.2 c1
    refine am_aload_n dX4_passDays_31 (List.Mem.head _) ?_
    refine am_getf (f := 2) (v := .inr (.inr (some (49, 0)))) dX4_passDays_32 hc_6 (by decide) wd_440 (by decide) rfl rfl ?_
    refine am_iload dX4_passDays_35 (List.Mem.tail _ (List.Mem.tail _ (List.Mem.tail _ (List.Mem.tail _ (List.Mem.head _))))) ?_
    have o2 := h.1
    replace h := h.2
    have o3 := h.1
    replace h := h.2
    refine am_aaload (kd := 8) (r := some (11, x4.toNat)) dX4_passDays_37 (by decide) rfl (by decide) (by decide) o2 o3 rfl ?_
    refine am_astore (ls' := [(5, .inr (.inr (some (11, x4.toNat)))), (0, .inr (.inr (some (6, 0)))), (1, .inl x1), (2, .inl x2), (3, .inl x3), (4, .inl x4)]) dX4_passDays_38 (by decide) rfl ?_
    refine am_aload dX4_passDays_40 (List.Mem.head _) ?_
    refine am_aload_n dX4_passDays_42 (List.Mem.tail _ (List.Mem.head _)) ?_
    refine am_getf (f := 6) (v := .inl (w.1 6 0 6)) dX4_passDays_43 hc_6 (by decide) wd_444 (by decide) rfl rfl ?_
    refine am_callv (d' := d + 2) (kc := 0) (ks := 0) (as := [.inl (w.1 6 0 6)]) dX4_passDays_46 wc_X5_isOn wd_1216 wd_1217 wd_1218 wd_119 ds_X5_isOn (by decide) (by omega) (Nat.le_of_ble_eq_true rfl) (Nat.zero_le _) (Nat.zero_le _) hc_7 (by decide) rfl rfl (sX5_isOn (d := d + 1) (j0 := x4.toNat) (x1 := (w.1 6 0 6))  ?_)
    show am_A (mh_G X) SC (d + 3) mX4_passDays Q 49 [(5, .inr (.inr (some (11, x4.toNat)))), (0, .inr (.inr (some (6, 0)))), (1, .inl x1), (2, .inl x2), (3, .inl x3), (4, .inl x4)] [.inl (if ((w.1 11 x4.toNat 7) = 0 ∧ (¬ (w.1 6 0 6) < (w.1 11 x4.toNat 4))) then 1 else 0)] w bc bs
    refine am_ifeq (tgt := 68) dX4_passDays_49 (by decide) (fun c4 => ?_) (fun c4 => ?_)
    · replace c4 := am_beq1 c4
      replace h := h.1 c4
      exact am_sub [1, 2, 3, 4, 5] rfl h
    · replace c4 := am_beq2 c4
      replace h := h.2 c4
      refine am_aload dX4_passDays_52 (List.Mem.head _) ?_
      refine am_iload_n dX4_passDays_54 (List.Mem.tail _ (List.Mem.tail _ (List.Mem.tail _ (List.Mem.head _)))) ?_
      have o5 := h.1
      replace h := h.2
      have o6 := h.1
      replace h := h.2
      refine am_callv (d' := d + 2) (kc := 0) (ks := 0) (as := [.inl x2]) dX4_passDays_55 wc_X5_goesOn wd_1230 wd_1231 wd_1232 wd_119 ds_X5_goesOn (by decide) (by omega) (Nat.le_of_ble_eq_true rfl) (Nat.zero_le _) (Nat.zero_le _) hc_7 (by decide) rfl rfl (sX5_goesOn (d := d + 1) (j0 := x4.toNat) (x1 := x2) o5 o6 ?_)
      show am_A (mh_G X) SC (d + 3) mX4_passDays Q 58 [(5, .inr (.inr (some (11, x4.toNat)))), (0, .inr (.inr (some (6, 0)))), (1, .inl x1), (2, .inl x2), (3, .inl x3), (4, .inl x4)] [.inl (if ((w.1 11 x4.toNat 5) = 0 ∨ ((w.1 155 x4.toNat (w.1 11 x4.toNat 10).toNat) = x2)) then 1 else 0)] w bc bs
      refine am_ifeq (tgt := 68) dX4_passDays_58 (by decide) (fun c7 => ?_) (fun c7 => ?_)
      · replace c7 := am_beq1 c7
        replace h := h.1 c7
        exact am_sub [1, 2, 3, 4, 5] rfl h
      · replace c7 := am_beq2 c7
        replace h := h.2 c7
        refine am_aload dX4_passDays_61 (List.Mem.head _) ?_
        refine am_iload_n dX4_passDays_63 (List.Mem.tail _ (List.Mem.tail _ (List.Mem.head _))) ?_
        refine am_iload_n dX4_passDays_64 (List.Mem.tail _ (List.Mem.tail _ (List.Mem.tail _ (List.Mem.tail _ (List.Mem.head _))))) ?_
        exact am_callv (d' := d + 2) (kc := 0) (ks := 0) (as := [.inl x1, .inl x3]) dX4_passDays_65 wc_X5_pass wd_1251 wd_1252 wd_1253 wd_119 ds_X5_pass (by decide) (by omega) (Nat.le_of_ble_eq_true rfl) (Nat.zero_le _) (Nat.zero_le _) hc_7 (by decide) rfl rfl h
theorem bX4_passDays_83 {SC : Nat → Nat} {X : mh_X} {d : Nat} {Q : Option am_V → am_W → Prop} {bc bs : Nat} {w : am_W} {x1 : Int} {x2 : Int} {x3 : Int} {x4 : Int}
    (h : am_M (mh_G X) SC (d + 2) 0 0 mX4_lookAhead [.inr (.inr (some (6, 0)))] w (fun r w1 => am_A (mh_G X) SC (d + 3) mX4_passDays Q 87 [(0, .inr (.inr (some (6, 0)))), (1, .inl x1), (2, .inl x2), (3, .inl x3), (4, .inl x4)] (r.toList ++ []) w1 bc bs)) :
    am_A (mh_G X) SC (d + 3) mX4_passDays Q 83 [(0, .inr (.inr (some (6, 0)))), (1, .inl x1), (2, .inl x2), (3, .inl x3), (4, .inl x4)] [] w bc bs := by
  refine am_aload_n dX4_passDays_83 (List.Mem.head _) ?_
  exact am_callv (d' := d + 2) (kc := 0) (ks := 0) (as := []) dX4_passDays_84 wc_X4_lookAhead wd_1212 wd_1214 wd_34 wd_118 ds_X4_lookAhead (by decide) (by omega) (Nat.le_of_ble_eq_true rfl) (Nat.zero_le _) (Nat.zero_le _) hc_6 (by decide) rfl rfl h
theorem bX4_passDays_68 {SC : Nat → Nat} {X : mh_X} {d : Nat} {Q : Option am_V → am_W → Prop} {bc bs : Nat} {w : am_W} {x1 : Int} {x2 : Int} {x3 : Int} {x4 : Int}
    (h : am_A (mh_G X) SC (d + 3) mX4_passDays Q 22 [(0, .inr (.inr (some (6, 0)))), (1, .inl x1), (2, .inl x2), (3, .inl x3), (4, .inl (am_w (x4 + 1)))] [] w bc bs) :
    am_A (mh_G X) SC (d + 3) mX4_passDays Q 68 [(0, .inr (.inr (some (6, 0)))), (1, .inl x1), (2, .inl x2), (3, .inl x3), (4, .inl x4)] [] w bc bs := by
  refine am_iinc (ls' := [(4, .inl (am_w (x4 + 1))), (0, .inr (.inr (some (6, 0)))), (1, .inl x1), (2, .inl x2), (3, .inl x3)]) dX4_passDays_68 (List.Mem.tail _ (List.Mem.tail _ (List.Mem.tail _ (List.Mem.tail _ (List.Mem.head _))))) (by decide) rfl ?_
  refine am_goto (tgt := 22) dX4_passDays_71 (by decide) ?_
  exact am_sub [1, 2, 3, 4, 0] rfl h
theorem bX4_passDays_68a {SC : Nat → Nat} {X : mh_X} {d : Nat} {Q : Option am_V → am_W → Prop} {bc bs : Nat} {w : am_W} {j5 : Nat} {x1 : Int} {x2 : Int} {x3 : Int} {x4 : Int}
    (h : am_A (mh_G X) SC (d + 3) mX4_passDays Q 22 [(0, .inr (.inr (some (6, 0)))), (1, .inl x1), (2, .inl x2), (3, .inl x3), (4, .inl (am_w (x4 + 1)))] [] w bc bs) :
    am_A (mh_G X) SC (d + 3) mX4_passDays Q 68 [(5, .inr (.inr (some (11, j5)))), (0, .inr (.inr (some (6, 0)))), (1, .inl x1), (2, .inl x2), (3, .inl x3), (4, .inl x4)] [] w bc bs := by
  refine am_iinc (ls' := [(4, .inl (am_w (x4 + 1))), (5, .inr (.inr (some (11, j5)))), (0, .inr (.inr (some (6, 0)))), (1, .inl x1), (2, .inl x2), (3, .inl x3)]) dX4_passDays_68 (List.Mem.tail _ (List.Mem.tail _ (List.Mem.tail _ (List.Mem.tail _ (List.Mem.tail _ (List.Mem.head _)))))) (by decide) rfl ?_
  refine am_goto (tgt := 22) dX4_passDays_71 (by decide) ?_
  exact am_sub [2, 3, 4, 5, 0] rfl h
theorem bX4_passDays_87 {SC : Nat → Nat} {X : mh_X} {d : Nat} {Q : Option am_V → am_W → Prop} {bc bs : Nat} {w : am_W} {x1 : Int} {x2 : Int} {x3 : Int} {x4 : Int}
    (h : Q none w) :
    am_A (mh_G X) SC (d + 3) mX4_passDays Q 87 [(0, .inr (.inr (some (6, 0)))), (1, .inl x1), (2, .inl x2), (3, .inl x3), (4, .inl x4)] [] w bc bs := by
  exact am_ret (r := none) dX4_passDays_87 rfl rfl h
-- MourningHouse$Mourner.moveTo(I)V
theorem dX4_moveTo_0 : decode mX4_moveTo.2.1 0 = .ok (.iconst 0, 1) := by decide +kernel
theorem dX4_moveTo_1 : decode mX4_moveTo.2.1 1 = .ok (.istore_n 2, 1) := by decide +kernel
theorem dX4_moveTo_2 : decode mX4_moveTo.2.1 2 = .ok (.iload_n 2, 1) := by decide +kernel
theorem dX4_moveTo_3 : decode mX4_moveTo.2.1 3 = .ok (.ldc 120, 2) := by decide +kernel
theorem dX4_moveTo_5 : decode mX4_moveTo.2.1 5 = .ok (.if_icmp .ge 38, 3) := by decide +kernel
theorem dX4_moveTo_8 : decode mX4_moveTo.2.1 8 = .ok (.aload_n 0, 1) := by decide +kernel
theorem dX4_moveTo_9 : decode mX4_moveTo.2.1 9 = .ok (.getfield 29, 3) := by decide +kernel
theorem dX4_moveTo_12 : decode mX4_moveTo.2.1 12 = .ok (.iload_n 1, 1) := by decide +kernel
theorem dX4_moveTo_13 : decode mX4_moveTo.2.1 13 = .ok (.if_icmp .ge 30, 3) := by decide +kernel
theorem dX4_moveTo_16 : decode mX4_moveTo.2.1 16 = .ok (.aload_n 0, 1) := by decide +kernel
theorem dX4_moveTo_17 : decode mX4_moveTo.2.1 17 = .ok (.getfield 32, 3) := by decide +kernel
theorem dX4_moveTo_20 : decode mX4_moveTo.2.1 20 = .ok (.iload_n 1, 1) := by decide +kernel
theorem dX4_moveTo_21 : decode mX4_moveTo.2.1 21 = .ok (.if_icmp .gt 22, 3) := by decide +kernel
theorem dX4_moveTo_24 : decode mX4_moveTo.2.1 24 = .ok (.aload_n 0, 1) := by decide +kernel
theorem dX4_moveTo_25 : decode mX4_moveTo.2.1 25 = .ok (.aload_n 0, 1) := by decide +kernel
theorem dX4_moveTo_26 : decode mX4_moveTo.2.1 26 = .ok (.getfield 32, 3) := by decide +kernel
theorem dX4_moveTo_29 : decode mX4_moveTo.2.1 29 = .ok (.aload_n 0, 1) := by decide +kernel
theorem dX4_moveTo_30 : decode mX4_moveTo.2.1 30 = .ok (.getfield 29, 3) := by decide +kernel
theorem dX4_moveTo_33 : decode mX4_moveTo.2.1 33 = .ok (.isub, 1) := by decide +kernel
theorem dX4_moveTo_34 : decode mX4_moveTo.2.1 34 = .ok (.invokevirtual 121, 3) := by decide +kernel
theorem dX4_moveTo_37 : decode mX4_moveTo.2.1 37 = .ok (.iinc 2 1, 3) := by decide +kernel
theorem dX4_moveTo_40 : decode mX4_moveTo.2.1 40 = .ok (.goto (-38), 3) := by decide +kernel
theorem dX4_moveTo_43 : decode mX4_moveTo.2.1 43 = .ok (.return_, 1) := by decide +kernel
theorem bX4_moveTo_0 {SC : Nat → Nat} {X : mh_X} {d : Nat} {Q : Option am_V → am_W → Prop} {bc bs : Nat} {w : am_W} {x1 : Int}
    (h : am_A (mh_G X) SC (d + 4) mX4_moveTo Q 2 [(0, .inr (.inr (some (6, 0)))), (1, .inl x1), (2, .inl 0)] [] w bc bs) :
    am_A (mh_G X) SC (d + 4) mX4_moveTo Q 0 [(0, .inr (.inr (some (6, 0)))), (1, .inl x1)] [] w bc bs := by
  refine am_iconst dX4_moveTo_0 (by unfold am_rg; omega) ?_
  refine am_istore_n (ls' := [(2, .inl 0), (0, .inr (.inr (some (6, 0)))), (1, .inl x1)]) dX4_moveTo_1 (by decide) rfl ?_
  exact am_sub [1, 2, 0] rfl h
theorem bX4_moveTo_2 {SC : Nat → Nat} {X : mh_X} {d : Nat} {Q : Option am_V → am_W → Prop} {bc bs : Nat} {w : am_W} {x1 : Int} {x2 : Int}
    (h : ((100000 ≤ x2 → Q none w) ∧ (¬ 100000 ≤ x2 → ((x1 ≤ (w.1 6 0 6) → Q none w) ∧ (¬ x1 ≤ (w.1 6 0 6) → ((x1 < (w.1 6 0 7) → Q none w) ∧ (¬ x1 < (w.1 6 0 7) → am_M (mh_G X) SC (d + 3) 0 0 mX4_passDays [.inr (.inr (some (6, 0))), .inl (am_w ((w.1 6 0 7) - (w.1 6 0 6)))] w (fun r w1 => am_A (mh_G X) SC (d + 4) mX4_moveTo Q 37 [(0, .inr (.inr (some (6, 0)))), (1, .inl x1), (2, .inl x2)] (r.toList ++ []) w1 bc bs)))))))) :
    am_A (mh_G X) SC (d + 4) mX4_moveTo Q 2 [(0, .inr (.inr (some (6, 0)))), (1, .inl x1), (2, .inl x2)] [] w bc bs := by
  refine am_iload_n dX4_moveTo_2 (List.Mem.tail _ (List.Mem.tail _ (List.Mem.head _))) ?_
  refine am_ldcV (n := 100000) dX4_moveTo_3 (by decide) wd_1246 (by unfold am_rg; omega) ?_
  refine am_icmpge (tgt := 43) dX4_moveTo_5 (by decide) (fun c1 => ?_) (fun c1 => ?_)
  · replace h := h.1 c1
    exact am_ret (r := none) dX4_moveTo_43 rfl rfl h
  · replace h := h.2 c1
    refine am_aload_n dX4_moveTo_8 (List.Mem.head _) ?_
    refine am_getf (f := 6) (v := .inl (w.1 6 0 6)) dX4_moveTo_9 hc_6 (by decide) wd_444 (by decide) rfl rfl ?_
    refine am_iload_n dX4_moveTo_12 (List.Mem.tail _ (List.Mem.head _)) ?_
    refine am_icmpge (tgt := 43) dX4_moveTo_13 (by decide) (fun c2 => ?_) (fun c2 => ?_)
    · replace h := h.1 c2
      exact am_ret (r := none) dX4_moveTo_43 rfl rfl h
    · replace h := h.2 c2
      refine am_aload_n dX4_moveTo_16 (List.Mem.head _) ?_
      refine am_getf (f := 7) (v := .inl (w.1 6 0 7)) dX4_moveTo_17 hc_6 (by decide) wd_445 (by decide) rfl rfl ?_
      refine am_iload_n dX4_moveTo_20 (List.Mem.tail _ (List.Mem.head _)) ?_
      refine am_icmpgt (tgt := 43) dX4_moveTo_21 (by decide) (fun c3 => ?_) (fun c3 => ?_)
      · replace h := h.1 c3
        exact am_ret (r := none) dX4_moveTo_43 rfl rfl h
      · replace h := h.2 c3
        refine am_aload_n dX4_moveTo_24 (List.Mem.head _) ?_
        refine am_aload_n dX4_moveTo_25 (List.Mem.head _) ?_
        refine am_getf (f := 7) (v := .inl (w.1 6 0 7)) dX4_moveTo_26 hc_6 (by decide) wd_445 (by decide) rfl rfl ?_
        refine am_aload_n dX4_moveTo_29 (List.Mem.head _) ?_
        refine am_getf (f := 6) (v := .inl (w.1 6 0 6)) dX4_moveTo_30 hc_6 (by decide) wd_444 (by decide) rfl rfl ?_
        refine am_isub dX4_moveTo_33 ?_
        exact am_callv (d' := d + 3) (kc := 0) (ks := 0) (as := [.inl (am_w ((w.1 6 0 7) - (w.1 6 0 6)))]) dX4_moveTo_34 wc_X4_passDays wd_1247 wd_1249 wd_36 wd_118 ds_X4_passDays (by decide) (by omega) (Nat.le_of_ble_eq_true rfl) (Nat.zero_le _) (Nat.zero_le _) hc_6 (by decide) rfl rfl h
theorem bX4_moveTo_37 {SC : Nat → Nat} {X : mh_X} {d : Nat} {Q : Option am_V → am_W → Prop} {bc bs : Nat} {w : am_W} {x1 : Int} {x2 : Int}
    (h : am_A (mh_G X) SC (d + 4) mX4_moveTo Q 2 [(0, .inr (.inr (some (6, 0)))), (1, .inl x1), (2, .inl (am_w (x2 + 1)))] [] w bc bs) :
    am_A (mh_G X) SC (d + 4) mX4_moveTo Q 37 [(0, .inr (.inr (some (6, 0)))), (1, .inl x1), (2, .inl x2)] [] w bc bs := by
  refine am_iinc (ls' := [(2, .inl (am_w (x2 + 1))), (0, .inr (.inr (some (6, 0)))), (1, .inl x1)]) dX4_moveTo_37 (List.Mem.tail _ (List.Mem.tail _ (List.Mem.head _))) (by decide) rfl ?_
  refine am_goto (tgt := 2) dX4_moveTo_40 (by decide) ?_
  exact am_sub [1, 2, 0] rfl h
-- MourningHouse$Mourner.isTooYoung(LMourningHouse$Law;I)Z
theorem dX4_isTooYoung_0 : decode mX4_isTooYoung.2.1 0 = .ok (.aload_n 1, 1) := by decide +kernel
theorem dX4_isTooYoung_1 : decode mX4_isTooYoung.2.1 1 = .ok (.ifnull 40, 3) := by decide +kernel
theorem dX4_isTooYoung_4 : decode mX4_isTooYoung.2.1 4 = .ok (.aload_n 1, 1) := by decide +kernel
theorem dX4_isTooYoung_5 : decode mX4_isTooYoung.2.1 5 = .ok (.getfield 200, 3) := by decide +kernel
theorem dX4_isTooYoung_8 : decode mX4_isTooYoung.2.1 8 = .ok (.ifCond .le 33, 3) := by decide +kernel
theorem dX4_isTooYoung_11 : decode mX4_isTooYoung.2.1 11 = .ok (.aload_n 0, 1) := by decide +kernel
theorem dX4_isTooYoung_12 : decode mX4_isTooYoung.2.1 12 = .ok (.getfield 41, 3) := by decide +kernel
theorem dX4_isTooYoung_15 : decode mX4_isTooYoung.2.1 15 = .ok (.getfield 107, 3) := by decide +kernel
theorem dX4_isTooYoung_18 : decode mX4_isTooYoung.2.1 18 = .ok (.aload_n 0, 1) := by decide +kernel
theorem dX4_isTooYoung_19 : decode mX4_isTooYoung.2.1 19 = .ok (.getfield 23, 3) := by decide +kernel
theorem dX4_isTooYoung_22 : decode mX4_isTooYoung.2.1 22 = .ok (.iaload, 1) := by decide +kernel
theorem dX4_isTooYoung_23 : decode mX4_isTooYoung.2.1 23 = .ok (.aload_n 1, 1) := by decide +kernel
theorem dX4_isTooYoung_24 : decode mX4_isTooYoung.2.1 24 = .ok (.getfield 200, 3) := by decide +kernel
theorem dX4_isTooYoung_27 : decode mX4_isTooYoung.2.1 27 = .ok (.bipush 12, 2) := by decide +kernel
theorem dX4_isTooYoung_29 : decode mX4_isTooYoung.2.1 29 = .ok (.imul, 1) := by decide +kernel
theorem dX4_isTooYoung_30 : decode mX4_isTooYoung.2.1 30 = .ok (.invokestatic 203, 3) := by decide +kernel
theorem dX4_isTooYoung_33 : decode mX4_isTooYoung.2.1 33 = .ok (.iload_n 2, 1) := by decide +kernel
theorem dX4_isTooYoung_34 : decode mX4_isTooYoung.2.1 34 = .ok (.if_icmp .le 7, 3) := by decide +kernel
theorem dX4_isTooYoung_37 : decode mX4_isTooYoung.2.1 37 = .ok (.iconst 1, 1) := by decide +kernel
theorem dX4_isTooYoung_38 : decode mX4_isTooYoung.2.1 38 = .ok (.goto 4, 3) := by decide +kernel
theorem dX4_isTooYoung_41 : decode mX4_isTooYoung.2.1 41 = .ok (.iconst 0, 1) := by decide +kernel
theorem dX4_isTooYoung_42 : decode mX4_isTooYoung.2.1 42 = .ok (.ireturn, 1) := by decide +kernel
theorem bX4_isTooYoung_0 {SC : Nat → Nat} {X : mh_X} {d : Nat} {Q : Option am_V → am_W → Prop} {bc bs : Nat} {w : am_W} {j1 : Nat} {x2 : Int}
    (h : (((w.1 10 j1 14) ≤ 0 → Q (some (.inl 0)) w) ∧ (¬ (w.1 10 j1 14) ≤ 0 → (0 ≤ (w.1 6 0 4) ∧ ((w.1 6 0 4) < 40 ∧ am_M (mh_G X) SC (d + 2) 0 0 mX0_later [.inl (w.1 37 0 (w.1 6 0 4).toNat), .inl (am_w ((w.1 10 j1 14) * 12))] w (fun r w1 => am_A (mh_G X) SC (d + 3) mX4_isTooYoung Q 33 [(0, .inr (.inr (some (6, 0)))), (1, .inr (.inr (some (10, j1)))), (2, .inl x2)] (r.toList ++ []) w1 bc bs)))))) :
    am_A (mh_G X) SC (d + 3) mX4_isTooYoung Q 0 [(0, .inr (.inr (some (6, 0)))), (1, .inr (.inr (some (10, j1)))), (2, .inl x2)] [] w bc bs := by
  refine am_aload_n dX4_isTooYoung_0 (List.Mem.tail _ (List.Mem.head _)) ?_
  refine am_ifnull (tgt := 41) dX4_isTooYoung_1 (by decide) (fun e => by cases e) (fun _ => ?_)
  refine am_aload_n dX4_isTooYoung_4 (List.Mem.tail _ (List.Mem.head _)) ?_
  refine am_getf (f := 14) (v := .inl (w.1 10 j1 14)) dX4_isTooYoung_5 hc_4 (by decide) wd_238 (by decide) rfl rfl ?_
  refine am_ifle (tgt := 41) dX4_isTooYoung_8 (by decide) (fun c1 => ?_) (fun c1 => ?_)
  · replace h := h.1 c1
    refine am_iconst dX4_isTooYoung_41 (by unfold am_rg; omega) ?_
    exact am_ret (r := some (.inl 0)) dX4_isTooYoung_42 (Or.inr (Or.inl ⟨rfl, (Or.inl rfl)⟩)) rfl h
  · replace h := h.2 c1
    refine am_aload_n dX4_isTooYoung_11 (List.Mem.head _) ?_
    refine am_getf (f := 0) (v := .inr (.inr (some (5, 0)))) dX4_isTooYoung_12 hc_6 (by decide) wd_438 (by decide) rfl rfl ?_
    refine am_getf (f := 4) (v := .inr (.inr (some (37, 0)))) dX4_isTooYoung_15 hc_5 (by decide) wd_321 (by decide) rfl rfl ?_
    refine am_aload_n dX4_isTooYoung_18 (List.Mem.head _) ?_
    refine am_getf (f := 4) (v := .inl (w.1 6 0 4)) dX4_isTooYoung_19 hc_6 (by decide) wd_442 (by decide) rfl rfl ?_
    have o2 := h.1
    replace h := h.2
    have o3 := h.1
    replace h := h.2
    refine am_iaload (v := (w.1 37 0 (w.1 6 0 4).toNat)) dX4_isTooYoung_22 (by decide) rfl o2 o3 rfl ?_
    refine am_aload_n dX4_isTooYoung_23 (List.Mem.tail _ (List.Mem.head _)) ?_
    refine am_getf (f := 14) (v := .inl (w.1 10 j1 14)) dX4_isTooYoung_24 hc_4 (by decide) wd_238 (by decide) rfl rfl ?_
    refine am_bipush dX4_isTooYoung_27 (by decide) (by unfold am_rg; omega) ?_
    refine am_imul dX4_isTooYoung_29 ?_
    exact am_calls (d' := d + 2) (kc := 0) (ks := 0) (as := [.inl (w.1 37 0 (w.1 6 0 4).toNat), .inl (am_w ((w.1 10 j1 14) * 12))]) dX4_isTooYoung_30 wc_X0_later wd_1287 wd_1034 wd_129 ds_X0_later (by decide) (by omega) (Nat.le_of_ble_eq_true rfl) (Nat.zero_le _) (Nat.zero_le _) rfl h
theorem bX4_isTooYoung_33 {SC : Nat → Nat} {X : mh_X} {d : Nat} {Q : Option am_V → am_W → Prop} {bc bs : Nat} {w : am_W} {j1 : Nat} {x2 : Int} {xs0 : Int}
    (h : ((xs0 ≤ x2 → Q (some (.inl 0)) w) ∧ (¬ xs0 ≤ x2 → Q (some (.inl 1)) w))) :
    am_A (mh_G X) SC (d + 3) mX4_isTooYoung Q 33 [(0, .inr (.inr (some (6, 0)))), (1, .inr (.inr (some (10, j1)))), (2, .inl x2)] [.inl xs0] w bc bs := by
  refine am_iload_n dX4_isTooYoung_33 (List.Mem.tail _ (List.Mem.tail _ (List.Mem.head _))) ?_
  refine am_icmple (tgt := 41) dX4_isTooYoung_34 (by decide) (fun c1 => ?_) (fun c1 => ?_)
  · replace h := h.1 c1
    refine am_iconst dX4_isTooYoung_41 (by unfold am_rg; omega) ?_
    exact am_ret (r := some (.inl 0)) dX4_isTooYoung_42 (Or.inr (Or.inl ⟨rfl, (Or.inl rfl)⟩)) rfl h
  · replace h := h.2 c1
    refine am_iconst dX4_isTooYoung_37 (by unfold am_rg; omega) ?_
    refine am_goto (tgt := 42) dX4_isTooYoung_38 (by decide) ?_
    exact am_ret (r := some (.inl 1)) dX4_isTooYoung_42 (Or.inr (Or.inl ⟨rfl, (Or.inr rfl)⟩)) rfl h
-- MourningHouse$Mourner.lightened(LMourningHouse$Law;I)I
theorem dX4_lightened_0 : decode mX4_lightened.2.1 0 = .ok (.aload_n 1, 1) := by decide +kernel
theorem dX4_lightened_1 : decode mX4_lightened.2.1 1 = .ok (.ifnull 10, 3) := by decide +kernel
theorem dX4_lightened_4 : decode mX4_lightened.2.1 4 = .ok (.aload_n 0, 1) := by decide +kernel
theorem dX4_lightened_5 : decode mX4_lightened.2.1 5 = .ok (.getfield 38, 3) := by decide +kernel
theorem dX4_lightened_8 : decode mX4_lightened.2.1 8 = .ok (.ifCond .ne 8, 3) := by decide +kernel
theorem dX4_lightened_11 : decode mX4_lightened.2.1 11 = .ok (.aload_n 0, 1) := by decide +kernel
theorem dX4_lightened_12 : decode mX4_lightened.2.1 12 = .ok (.getfield 38, 3) := by decide +kernel
theorem dX4_lightened_15 : decode mX4_lightened.2.1 15 = .ok (.ireturn, 1) := by decide +kernel
theorem dX4_lightened_16 : decode mX4_lightened.2.1 16 = .ok (.aload_n 1, 1) := by decide +kernel
theorem dX4_lightened_17 : decode mX4_lightened.2.1 17 = .ok (.aload_n 0, 1) := by decide +kernel
theorem dX4_lightened_18 : decode mX4_lightened.2.1 18 = .ok (.getfield 38, 3) := by decide +kernel
theorem dX4_lightened_21 : decode mX4_lightened.2.1 21 = .ok (.iload_n 2, 1) := by decide +kernel
theorem dX4_lightened_22 : decode mX4_lightened.2.1 22 = .ok (.invokestatic 184, 3) := by decide +kernel
theorem dX4_lightened_25 : decode mX4_lightened.2.1 25 = .ok (.invokevirtual 187, 3) := by decide +kernel
theorem dX4_lightened_28 : decode mX4_lightened.2.1 28 = .ok (.istore_n 3, 1) := by decide +kernel
theorem dX4_lightened_29 : decode mX4_lightened.2.1 29 = .ok (.iload_n 3, 1) := by decide +kernel
theorem dX4_lightened_30 : decode mX4_lightened.2.1 30 = .ok (.aload_n 1, 1) := by decide +kernel
theorem dX4_lightened_31 : decode mX4_lightened.2.1 31 = .ok (.getfield 190, 3) := by decide +kernel
theorem dX4_lightened_34 : decode mX4_lightened.2.1 34 = .ok (.if_icmp .le 42, 3) := by decide +kernel
theorem dX4_lightened_37 : decode mX4_lightened.2.1 37 = .ok (.aload_n 1, 1) := by decide +kernel
theorem dX4_lightened_38 : decode mX4_lightened.2.1 38 = .ok (.getfield 193, 3) := by decide +kernel
theorem dX4_lightened_41 : decode mX4_lightened.2.1 41 = .ok (.ifCond .le 35, 3) := by decide +kernel
theorem dX4_lightened_44 : decode mX4_lightened.2.1 44 = .ok (.aload_n 0, 1) := by decide +kernel
theorem dX4_lightened_45 : decode mX4_lightened.2.1 45 = .ok (.getfield 41, 3) := by decide +kernel
theorem dX4_lightened_48 : decode mX4_lightened.2.1 48 = .ok (.aload_n 0, 1) := by decide +kernel
theorem dX4_lightened_49 : decode mX4_lightened.2.1 49 = .ok (.getfield 23, 3) := by decide +kernel
theorem dX4_lightened_52 : decode mX4_lightened.2.1 52 = .ok (.iload_n 2, 1) := by decide +kernel
theorem dX4_lightened_53 : decode mX4_lightened.2.1 53 = .ok (.aload_n 1, 1) := by decide +kernel
theorem dX4_lightened_54 : decode mX4_lightened.2.1 54 = .ok (.getfield 193, 3) := by decide +kernel
theorem dX4_lightened_57 : decode mX4_lightened.2.1 57 = .ok (.isub, 1) := by decide +kernel
theorem dX4_lightened_58 : decode mX4_lightened.2.1 58 = .ok (.iconst 1, 1) := by decide +kernel
theorem dX4_lightened_59 : decode mX4_lightened.2.1 59 = .ok (.iadd, 1) := by decide +kernel
theorem dX4_lightened_60 : decode mX4_lightened.2.1 60 = .ok (.iload_n 2, 1) := by decide +kernel
theorem dX4_lightened_61 : decode mX4_lightened.2.1 61 = .ok (.aload_n 0, 1) := by decide +kernel
theorem dX4_lightened_62 : decode mX4_lightened.2.1 62 = .ok (.getfield 26, 3) := by decide +kernel
theorem dX4_lightened_65 : decode mX4_lightened.2.1 65 = .ok (.invokevirtual 196, 3) := by decide +kernel
theorem dX4_lightened_68 : decode mX4_lightened.2.1 68 = .ok (.ifCond .eq 8, 3) := by decide +kernel
theorem dX4_lightened_71 : decode mX4_lightened.2.1 71 = .ok (.aload_n 1, 1) := by decide +kernel
theorem dX4_lightened_72 : decode mX4_lightened.2.1 72 = .ok (.getfield 190, 3) := by decide +kernel
theorem dX4_lightened_75 : decode mX4_lightened.2.1 75 = .ok (.ireturn, 1) := by decide +kernel
theorem dX4_lightened_76 : decode mX4_lightened.2.1 76 = .ok (.iload_n 3, 1) := by decide +kernel
theorem dX4_lightened_77 : decode mX4_lightened.2.1 77 = .ok (.ireturn, 1) := by decide +kernel
theorem bX4_lightened_0 {SC : Nat → Nat} {X : mh_X} {d : Nat} {Q : Option am_V → am_W → Prop} {bc bs : Nat} {w : am_W} {j1 : Nat} {x2 : Int}
    (h : ((¬ (w.1 6 0 9) = 0 → am_M (mh_G X) SC (d + 2) 0 0 mX0_dateOf [.inl x2] w (fun r w1 => am_A (mh_G X) SC (d + 3) mX4_lightened Q 25 [(0, .inr (.inr (some (6, 0)))), (1, .inr (.inr (some (10, j1)))), (2, .inl x2)] (r.toList ++ [.inl (w.1 6 0 9), .inr (.inr (some (10, j1)))]) w1 bc bs)) ∧ ((w.1 6 0 9) = 0 → Q (some (.inl (w.1 6 0 9))) w))) :
    am_A (mh_G X) SC (d + 3) mX4_lightened Q 0 [(0, .inr (.inr (some (6, 0)))), (1, .inr (.inr (some (10, j1)))), (2, .inl x2)] [] w bc bs := by
  refine am_aload_n dX4_lightened_0 (List.Mem.tail _ (List.Mem.head _)) ?_
  refine am_ifnull (tgt := 11) dX4_lightened_1 (by decide) (fun e => by cases e) (fun _ => ?_)
  refine am_aload_n dX4_lightened_4 (List.Mem.head _) ?_
  refine am_getf (f := 9) (v := .inl (w.1 6 0 9)) dX4_lightened_5 hc_6 (by decide) wd_447 (by decide) rfl rfl ?_
  refine am_ifne (tgt := 16) dX4_lightened_8 (by decide) (fun c1 => ?_) (fun c1 => ?_)
  · replace h := h.1 c1
    refine am_aload_n dX4_lightened_16 (List.Mem.tail _ (List.Mem.head _)) ?_
    refine am_aload_n dX4_lightened_17 (List.Mem.head _) ?_
    refine am_getf (f := 9) (v := .inl (w.1 6 0 9)) dX4_lightened_18 hc_6 (by decide) wd_447 (by decide) rfl rfl ?_
    refine am_iload_n dX4_lightened_21 (List.Mem.tail _ (List.Mem.tail _ (List.Mem.head _))) ?_
    exact am_calls (d' := d + 2) (kc := 0) (ks := 0) (as := [.inl x2]) dX4_lightened_22 wc_X0_dateOf wd_1268 wd_1010 wd_129 ds_X0_dateOf (by decide) (by omega) (Nat.le_of_ble_eq_true rfl) (Nat.zero_le _) (Nat.zero_le _) rfl h
  · replace h := h.2 c1
    refine am_aload_n dX4_lightened_11 (List.Mem.head _) ?_
    refine am_getf (f := 9) (v := .inl (w.1 6 0 9)) dX4_lightened_12 hc_6 (by decide) wd_447 (by decide) rfl rfl ?_
    exact am_ret (r := some (.inl (w.1 6 0 9))) dX4_lightened_15 (Or.inl rfl) rfl h
theorem bX4_lightened_25 {SC : Nat → Nat} {X : mh_X} {d : Nat} {Q : Option am_V → am_W → Prop} {bc bs : Nat} {w : am_W} {j1 : Nat} {x2 : Int} {xs0 : Int} {xs1 : Int} {js2 : Nat}
    (h : am_M (mh_G X) SC (d + 2) 0 0 mX3_onFeasts [.inr (.inr (some (10, js2))), .inl xs1, .inl xs0] w (fun r w1 => am_A (mh_G X) SC (d + 3) mX4_lightened Q 28 [(0, .inr (.inr (some (6, 0)))), (1, .inr (.inr (some (10, j1)))), (2, .inl x2)] (r.toList ++ []) w1 bc bs)) :
    am_A (mh_G X) SC (d + 3) mX4_lightened Q 25 [(0, .inr (.inr (some (6, 0)))), (1, .inr (.inr (some (10, j1)))), (2, .inl x2)] [.inl xs0, .inl xs1, .inr (.inr (some (10, js2)))] w bc bs := by
  exact am_callv (d' := d + 2) (kc := 0) (ks := 0) (as := [.inl xs1, .inl xs0]) dX4_lightened_25 wc_X3_onFeasts wd_1269 wd_1270 wd_1271 wd_116 ds_X3_onFeasts (by decide) (by omega) (Nat.le_of_ble_eq_true rfl) (Nat.zero_le _) (Nat.zero_le _) hc_4 (by decide) rfl rfl h
theorem bX4_lightened_28 {SC : Nat → Nat} {X : mh_X} {d : Nat} {Q : Option am_V → am_W → Prop} {bc bs : Nat} {w : am_W} {j1 : Nat} {x2 : Int} {xs0 : Int}
    (h : ((xs0 ≤ (w.1 10 j1 13) → Q (some (.inl xs0)) w) ∧ (¬ xs0 ≤ (w.1 10 j1 13) → (((w.1 10 j1 12) ≤ 0 → Q (some (.inl xs0)) w) ∧ (¬ (w.1 10 j1 12) ≤ 0 → am_M (mh_G X) SC (d + 2) 0 0 mX2_hasChildBorn [.inr (.inr (some (5, 0))), .inl (w.1 6 0 4), .inl (am_w ((am_w (x2 - (w.1 10 j1 12))) + 1)), .inl x2, .inl (w.1 6 0 5)] w (fun r w1 => am_A (mh_G X) SC (d + 3) mX4_lightened Q 68 [(3, .inl xs0), (0, .inr (.inr (some (6, 0)))), (1, .inr (.inr (some (10, j1)))), (2, .inl x2)] (r.toList ++ []) w1 bc bs)))))) :
    am_A (mh_G X) SC (d + 3) mX4_lightened Q 28 [(0, .inr (.inr (some (6, 0)))), (1, .inr (.inr (some (10, j1)))), (2, .inl x2)] [.inl xs0] w bc bs := by
  refine am_istore_n (ls' := [(3, .inl xs0), (0, .inr (.inr (some (6, 0)))), (1, .inr (.inr (some (10, j1)))), (2, .inl x2)]) dX4_lightened_28 (by decide) rfl ?_
  refine am_iload_n dX4_lightened_29 (List.Mem.head _) ?_
  refine am_aload_n dX4_lightened_30 (List.Mem.tail _ (List.Mem.tail _ (List.Mem.head _))) ?_
  refine am_getf (f := 13) (v := .inl (w.1 10 j1 13)) dX4_lightened_31 hc_4 (by decide) wd_235 (by decide) rfl rfl ?_
  refine am_icmple (tgt := 76) dX4_lightened_34 (by decide) (fun c1 => ?_) (fun c1 => ?_)
  · replace h := h.1 c1
    refine am_iload_n dX4_lightened_76 (List.Mem.head _) ?_
    exact am_ret (r := some (.inl xs0)) dX4_lightened_77 (Or.inl rfl) rfl h
  · replace h := h.2 c1
    refine am_aload_n dX4_lightened_37 (List.Mem.tail _ (List.Mem.tail _ (List.Mem.head _))) ?_
    refine am_getf (f := 12) (v := .inl (w.1 10 j1 12)) dX4_lightened_38 hc_4 (by decide) wd_232 (by decide) rfl rfl ?_
    refine am_ifle (tgt := 76) dX4_lightened_41 (by decide) (fun c2 => ?_) (fun c2 => ?_)
    · replace h := h.1 c2
      refine am_iload_n dX4_lightened_76 (List.Mem.head _) ?_
      exact am_ret (r := some (.inl xs0)) dX4_lightened_77 (Or.inl rfl) rfl h
    · replace h := h.2 c2
      refine am_aload_n dX4_lightened_44 (List.Mem.tail _ (List.Mem.head _)) ?_
      refine am_getf (f := 0) (v := .inr (.inr (some (5, 0)))) dX4_lightened_45 hc_6 (by decide) wd_438 (by decide) rfl rfl ?_
      refine am_aload_n dX4_lightened_48 (List.Mem.tail _ (List.Mem.head _)) ?_
      refine am_getf (f := 4) (v := .inl (w.1 6 0 4)) dX4_lightened_49 hc_6 (by decide) wd_442 (by decide) rfl rfl ?_
      refine am_iload_n dX4_lightened_52 (List.Mem.tail _ (List.Mem.tail _ (List.Mem.tail _ (List.Mem.head _)))) ?_
      refine am_aload_n dX4_lightened_53 (List.Mem.tail _ (List.Mem.tail _ (List.Mem.head _))) ?_
      refine am_getf (f := 12) (v := .inl (w.1 10 j1 12)) dX4_lightened_54 hc_4 (by decide) wd_232 (by decide) rfl rfl ?_
      refine am_isub dX4_lightened_57 ?_
      refine am_iconst dX4_lightened_58 (by unfold am_rg; omega) ?_
      refine am_iadd dX4_lightened_59 ?_
      refine am_iload_n dX4_lightened_60 (List.Mem.tail _ (List.Mem.tail _ (List.Mem.tail _ (List.Mem.head _)))) ?_
      refine am_aload_n dX4_lightened_61 (List.Mem.tail _ (List.Mem.head _)) ?_
      refine am_getf (f := 5) (v := .inl (w.1 6 0 5)) dX4_lightened_62 hc_6 (by decide) wd_443 (by decide) rfl rfl ?_
      exact am_callv (d' := d + 2) (kc := 0) (ks := 0) (as := [.inl (w.1 6 0 4), .inl (am_w ((am_w (x2 - (w.1 10 j1 12))) + 1)), .inl x2, .inl (w.1 6 0 5)]) dX4_lightened_65 wc_X2_hasChildBorn wd_1274 wd_1275 wd_1276 wd_117 ds_X2_hasChildBorn (by decide) (by omega) (Nat.le_of_ble_eq_true rfl) (Nat.zero_le _) (Nat.zero_le _) hc_5 (by decide) rfl rfl h
theorem bX4_lightened_68 {SC : Nat → Nat} {X : mh_X} {d : Nat} {Q : Option am_V → am_W → Prop} {bc bs : Nat} {w : am_W} {x3 : Int} {j1 : Nat} {x2 : Int} {xs0 : Int}
    (h : ((xs0 = 0 → Q (some (.inl x3)) w) ∧ (¬ xs0 = 0 → Q (some (.inl (w.1 10 j1 13))) w))) :
    am_A (mh_G X) SC (d + 3) mX4_lightened Q 68 [(3, .inl x3), (0, .inr (.inr (some (6, 0)))), (1, .inr (.inr (some (10, j1)))), (2, .inl x2)] [.inl xs0] w bc bs := by
  refine am_ifeq (tgt := 76) dX4_lightened_68 (by decide) (fun c1 => ?_) (fun c1 => ?_)
  · replace h := h.1 c1
    refine am_iload_n dX4_lightened_76 (List.Mem.head _) ?_
    exact am_ret (r := some (.inl x3)) dX4_lightened_77 (Or.inl rfl) rfl h
  · replace h := h.2 c1
    refine am_aload_n dX4_lightened_71 (List.Mem.tail _ (List.Mem.tail _ (List.Mem.head _))) ?_
    refine am_getf (f := 13) (v := .inl (w.1 10 j1 13)) dX4_lightened_72 hc_4 (by decide) wd_235 (by decide) rfl rfl ?_
    exact am_ret (r := some (.inl (w.1 10 j1 13))) dX4_lightened_75 (Or.inl rfl) rfl h
-- MourningHouse$Mourner.depthOn(I)I
theorem dX4_depthOn_0 : decode mX4_depthOn.2.1 0 = .ok (.aload_n 0, 1) := by decide +kernel
theorem dX4_depthOn_1 : decode mX4_depthOn.2.1 1 = .ok (.getfield 41, 3) := by decide +kernel
theorem dX4_depthOn_4 : decode mX4_depthOn.2.1 4 = .ok (.getfield 56, 3) := by decide +kernel
theorem dX4_depthOn_7 : decode mX4_depthOn.2.1 7 = .ok (.aload_n 0, 1) := by decide +kernel
theorem dX4_depthOn_8 : decode mX4_depthOn.2.1 8 = .ok (.getfield 23, 3) := by decide +kernel
theorem dX4_depthOn_11 : decode mX4_depthOn.2.1 11 = .ok (.iaload, 1) := by decide +kernel
theorem dX4_depthOn_12 : decode mX4_depthOn.2.1 12 = .ok (.aload_n 0, 1) := by decide +kernel
theorem dX4_depthOn_13 : decode mX4_depthOn.2.1 13 = .ok (.getfield 26, 3) := by decide +kernel
theorem dX4_depthOn_16 : decode mX4_depthOn.2.1 16 = .ok (.if_icmp .gt 23, 3) := by decide +kernel
theorem dX4_depthOn_19 : decode mX4_depthOn.2.1 19 = .ok (.iload_n 1, 1) := by decide +kernel
theorem dX4_depthOn_20 : decode mX4_depthOn.2.1 20 = .ok (.aload_n 0, 1) := by decide +kernel
theorem dX4_depthOn_21 : decode mX4_depthOn.2.1 21 = .ok (.getfield 41, 3) := by decide +kernel
theorem dX4_depthOn_24 : decode mX4_depthOn.2.1 24 = .ok (.getfield 59, 3) := by decide +kernel
theorem dX4_depthOn_27 : decode mX4_depthOn.2.1 27 = .ok (.aload_n 0, 1) := by decide +kernel
theorem dX4_depthOn_28 : decode mX4_depthOn.2.1 28 = .ok (.getfield 23, 3) := by decide +kernel
theorem dX4_depthOn_31 : decode mX4_depthOn.2.1 31 = .ok (.iaload, 1) := by decide +kernel
theorem dX4_depthOn_32 : decode mX4_depthOn.2.1 32 = .ok (.if_icmp .le 7, 3) := by decide +kernel
theorem dX4_depthOn_35 : decode mX4_depthOn.2.1 35 = .ok (.iconst 1, 1) := by decide +kernel
theorem dX4_depthOn_36 : decode mX4_depthOn.2.1 36 = .ok (.goto 4, 3) := by decide +kernel
theorem dX4_depthOn_39 : decode mX4_depthOn.2.1 39 = .ok (.iconst 0, 1) := by decide +kernel
theorem dX4_depthOn_40 : decode mX4_depthOn.2.1 40 = .ok (.istore_n 2, 1) := by decide +kernel
theorem dX4_depthOn_41 : decode mX4_depthOn.2.1 41 = .ok (.aload_n 0, 1) := by decide +kernel
theorem dX4_depthOn_42 : decode mX4_depthOn.2.1 42 = .ok (.getfield 41, 3) := by decide +kernel
theorem dX4_depthOn_45 : decode mX4_depthOn.2.1 45 = .ok (.getfield 50, 3) := by decide +kernel
theorem dX4_depthOn_48 : decode mX4_depthOn.2.1 48 = .ok (.aload_n 0, 1) := by decide +kernel
theorem dX4_depthOn_49 : decode mX4_depthOn.2.1 49 = .ok (.getfield 23, 3) := by decide +kernel
theorem dX4_depthOn_52 : decode mX4_depthOn.2.1 52 = .ok (.iaload, 1) := by decide +kernel
theorem dX4_depthOn_53 : decode mX4_depthOn.2.1 53 = .ok (.aload_n 0, 1) := by decide +kernel
theorem dX4_depthOn_54 : decode mX4_depthOn.2.1 54 = .ok (.getfield 26, 3) := by decide +kernel
theorem dX4_depthOn_57 : decode mX4_depthOn.2.1 57 = .ok (.if_icmp .gt 23, 3) := by decide +kernel
theorem dX4_depthOn_60 : decode mX4_depthOn.2.1 60 = .ok (.iload_n 1, 1) := by decide +kernel
theorem dX4_depthOn_61 : decode mX4_depthOn.2.1 61 = .ok (.aload_n 0, 1) := by decide +kernel
theorem dX4_depthOn_62 : decode mX4_depthOn.2.1 62 = .ok (.getfield 41, 3) := by decide +kernel
theorem dX4_depthOn_65 : decode mX4_depthOn.2.1 65 = .ok (.getfield 107, 3) := by decide +kernel
theorem dX4_depthOn_68 : decode mX4_depthOn.2.1 68 = .ok (.aload_n 0, 1) := by decide +kernel
theorem dX4_depthOn_69 : decode mX4_depthOn.2.1 69 = .ok (.getfield 23, 3) := by decide +kernel
theorem dX4_depthOn_72 : decode mX4_depthOn.2.1 72 = .ok (.iaload, 1) := by decide +kernel
theorem dX4_depthOn_73 : decode mX4_depthOn.2.1 73 = .ok (.if_icmp .lt 7, 3) := by decide +kernel
theorem dX4_depthOn_76 : decode mX4_depthOn.2.1 76 = .ok (.iload_n 2, 1) := by decide +kernel
theorem dX4_depthOn_77 : decode mX4_depthOn.2.1 77 = .ok (.ifCond .eq 5, 3) := by decide +kernel
theorem dX4_depthOn_80 : decode mX4_depthOn.2.1 80 = .ok (.iconst (-1), 1) := by decide +kernel
theorem dX4_depthOn_81 : decode mX4_depthOn.2.1 81 = .ok (.ireturn, 1) := by decide +kernel
theorem dX4_depthOn_82 : decode mX4_depthOn.2.1 82 = .ok (.aload_n 0, 1) := by decide +kernel
theorem dX4_depthOn_83 : decode mX4_depthOn.2.1 83 = .ok (.iload_n 1, 1) := by decide +kernel
theorem dX4_depthOn_84 : decode mX4_depthOn.2.1 84 = .ok (.invokevirtual 167, 3) := by decide +kernel
theorem dX4_depthOn_87 : decode mX4_depthOn.2.1 87 = .ok (.aload_n 0, 1) := by decide +kernel
theorem dX4_depthOn_88 : decode mX4_depthOn.2.1 88 = .ok (.getfield 45, 3) := by decide +kernel
theorem dX4_depthOn_91 : decode mX4_depthOn.2.1 91 = .ok (.iload_n 1, 1) := by decide +kernel
theorem dX4_depthOn_92 : decode mX4_depthOn.2.1 92 = .ok (.aload_n 0, 1) := by decide +kernel
theorem dX4_depthOn_93 : decode mX4_depthOn.2.1 93 = .ok (.getfield 26, 3) := by decide +kernel
theorem dX4_depthOn_96 : decode mX4_depthOn.2.1 96 = .ok (.invokevirtual 62, 3) := by decide +kernel
theorem dX4_depthOn_99 : decode mX4_depthOn.2.1 99 = .ok (.astore_n 3, 1) := by decide +kernel
theorem dX4_depthOn_100 : decode mX4_depthOn.2.1 100 = .ok (.aload_n 0, 1) := by decide +kernel
theorem dX4_depthOn_101 : decode mX4_depthOn.2.1 101 = .ok (.getfield 35, 3) := by decide +kernel
theorem dX4_depthOn_104 : decode mX4_depthOn.2.1 104 = .ok (.aload_n 0, 1) := by decide +kernel
theorem dX4_depthOn_105 : decode mX4_depthOn.2.1 105 = .ok (.aload_n 3, 1) := by decide +kernel
theorem dX4_depthOn_106 : decode mX4_depthOn.2.1 106 = .ok (.iload_n 1, 1) := by decide +kernel
theorem dX4_depthOn_107 : decode mX4_depthOn.2.1 107 = .ok (.invokevirtual 170, 3) := by decide +kernel
theorem dX4_depthOn_110 : decode mX4_depthOn.2.1 110 = .ok (.invokestatic 110, 3) := by decide +kernel
theorem dX4_depthOn_113 : decode mX4_depthOn.2.1 113 = .ok (.istore 4, 2) := by decide +kernel
theorem dX4_depthOn_115 : decode mX4_depthOn.2.1 115 = .ok (.iload 4, 2) := by decide +kernel
theorem dX4_depthOn_117 : decode mX4_depthOn.2.1 117 = .ok (.aload_n 0, 1) := by decide +kernel
theorem dX4_depthOn_118 : decode mX4_depthOn.2.1 118 = .ok (.getfield 45, 3) := by decide +kernel
theorem dX4_depthOn_121 : decode mX4_depthOn.2.1 121 = .ok (.iload_n 1, 1) := by decide +kernel
theorem dX4_depthOn_122 : decode mX4_depthOn.2.1 122 = .ok (.aload_n 0, 1) := by decide +kernel
theorem dX4_depthOn_123 : decode mX4_depthOn.2.1 123 = .ok (.getfield 26, 3) := by decide +kernel
theorem dX4_depthOn_126 : decode mX4_depthOn.2.1 126 = .ok (.invokevirtual 174, 3) := by decide +kernel
theorem dX4_depthOn_129 : decode mX4_depthOn.2.1 129 = .ok (.invokestatic 110, 3) := by decide +kernel
theorem dX4_depthOn_132 : decode mX4_depthOn.2.1 132 = .ok (.istore 4, 2) := by decide +kernel
theorem dX4_depthOn_134 : decode mX4_depthOn.2.1 134 = .ok (.iload 4, 2) := by decide +kernel
theorem dX4_depthOn_136 : decode mX4_depthOn.2.1 136 = .ok (.ifCond .le 24, 3) := by decide +kernel
theorem dX4_depthOn_139 : decode mX4_depthOn.2.1 139 = .ok (.aload_n 0, 1) := by decide +kernel
theorem dX4_depthOn_140 : decode mX4_depthOn.2.1 140 = .ok (.aload_n 3, 1) := by decide +kernel
theorem dX4_depthOn_141 : decode mX4_depthOn.2.1 141 = .ok (.iload_n 1, 1) := by decide +kernel
theorem dX4_depthOn_142 : decode mX4_depthOn.2.1 142 = .ok (.invokevirtual 177, 3) := by decide +kernel
theorem dX4_depthOn_145 : decode mX4_depthOn.2.1 145 = .ok (.ifCond .eq 15, 3) := by decide +kernel
theorem dX4_depthOn_148 : decode mX4_depthOn.2.1 148 = .ok (.iload 4, 2) := by decide +kernel
theorem dX4_depthOn_150 : decode mX4_depthOn.2.1 150 = .ok (.aload_n 3, 1) := by decide +kernel
theorem dX4_depthOn_151 : decode mX4_depthOn.2.1 151 = .ok (.getfield 181, 3) := by decide +kernel
theorem dX4_depthOn_154 : decode mX4_depthOn.2.1 154 = .ok (.invokestatic 155, 3) := by decide +kernel
theorem dX4_depthOn_157 : decode mX4_depthOn.2.1 157 = .ok (.goto 5, 3) := by decide +kernel
theorem dX4_depthOn_160 : decode mX4_depthOn.2.1 160 = .ok (.iload 4, 2) := by decide +kernel
theorem dX4_depthOn_162 : decode mX4_depthOn.2.1 162 = .ok (.ireturn, 1) := by decide +kernel
theorem bX4_depthOn_0 {SC : Nat → Nat} {X : mh_X} {d : Nat} {Q : Option am_V → am_W → Prop} {bc bs : Nat} {w : am_W} {x1 : Int}
    (h : (0 ≤ (w.1 6 0 4) ∧ ((w.1 6 0 4) < 40 ∧ (((w.1 6 0 5) < (w.1 40 0 (w.1 6 0 4).toNat) → am_A (mh_G X) SC (d + 5) mX4_depthOn Q 39 [(0, .inr (.inr (some (6, 0)))), (1, .inl x1)] [] w bc bs) ∧ (¬ (w.1 6 0 5) < (w.1 40 0 (w.1 6 0 4).toNat) → ((x1 ≤ (w.1 39 0 (w.1 6 0 4).toNat) → am_A (mh_G X) SC (d + 5) mX4_depthOn Q 39 [(0, .inr (.inr (some (6, 0)))), (1, .inl x1)] [] w bc bs) ∧ (¬ x1 ≤ (w.1 39 0 (w.1 6 0 4).toNat) → am_A (mh_G X) SC (d + 5) mX4_depthOn Q 40 [(0, .inr (.inr (some (6, 0)))), (1, .inl x1)] [.inl 1] w bc bs))))))) :
    am_A (mh_G X) SC (d + 5) mX4_depthOn Q 0 [(0, .inr (.inr (some (6, 0)))), (1, .inl x1)] [] w bc bs := by
  refine am_aload_n dX4_depthOn_0 (List.Mem.head _) ?_
  refine am_getf (f := 0) (v := .inr (.inr (some (5, 0)))) dX4_depthOn_1 hc_6 (by decide) wd_438 (by decide) rfl rfl ?_
  refine am_getf (f := 7) (v := .inr (.inr (some (40, 0)))) dX4_depthOn_4 hc_5 (by decide) wd_328 (by decide) rfl rfl ?_
  refine am_aload_n dX4_depthOn_7 (List.Mem.head _) ?_
  refine am_getf (f := 4) (v := .inl (w.1 6 0 4)) dX4_depthOn_8 hc_6 (by decide) wd_442 (by decide) rfl rfl ?_
  have o1 := h.1
  replace h := h.2
  have o2 := h.1
  replace h := h.2
  refine am_iaload (v := (w.1 40 0 (w.1 6 0 4).toNat)) dX4_depthOn_11 (by decide) rfl o1 o2 rfl ?_
  refine am_aload_n dX4_depthOn_12 (List.Mem.head _) ?_
  refine am_getf (f := 5) (v := .inl (w.1 6 0 5)) dX4_depthOn_13 hc_6 (by decide) wd_443 (by decide) rfl rfl ?_
  refine am_icmpgt (tgt := 39) dX4_depthOn_16 (by decide) (fun c3 => ?_) (fun c3 => ?_)
  · replace h := h.1 c3
    exact h
  · replace h := h.2 c3
    refine am_iload_n dX4_depthOn_19 (List.Mem.tail _ (List.Mem.head _)) ?_
    refine am_aload_n dX4_depthOn_20 (List.Mem.head _) ?_
    refine am_getf (f := 0) (v := .inr (.inr (some (5, 0)))) dX4_depthOn_21 hc_6 (by decide) wd_438 (by decide) rfl rfl ?_
    refine am_getf (f := 6) (v := .inr (.inr (some (39, 0)))) dX4_depthOn_24 hc_5 (by decide) wd_326 (by decide) rfl rfl ?_
    refine am_aload_n dX4_depthOn_27 (List.Mem.head _) ?_
    refine am_getf (f := 4) (v := .inl (w.1 6 0 4)) dX4_depthOn_28 hc_6 (by decide) wd_442 (by decide) rfl rfl ?_
    refine am_iaload (v := (w.1 39 0 (w.1 6 0 4).toNat)) dX4_depthOn_31 (by decide) rfl o1 o2 rfl ?_
    refine am_icmple (tgt := 39) dX4_depthOn_32 (by decide) (fun c4 => ?_) (fun c4 => ?_)
    · replace h := h.1 c4
      exact h
    · replace h := h.2 c4
      refine am_iconst dX4_depthOn_35 (by unfold am_rg; omega) ?_
      refine am_goto (tgt := 40) dX4_depthOn_36 (by decide) ?_
      exact h
theorem bX4_depthOn_39 {SC : Nat → Nat} {X : mh_X} {d : Nat} {Q : Option am_V → am_W → Prop} {bc bs : Nat} {w : am_W} {x1 : Int}
    (h : am_A (mh_G X) SC (d + 5) mX4_depthOn Q 40 [(0, .inr (.inr (some (6, 0)))), (1, .inl x1)] [.inl 0] w bc bs) :
    am_A (mh_G X) SC (d + 5) mX4_depthOn Q 39 [(0, .inr (.inr (some (6, 0)))), (1, .inl x1)] [] w bc bs := by
  refine am_iconst dX4_depthOn_39 (by unfold am_rg; omega) ?_
  exact h
theorem bX4_depthOn_40 {SC : Nat → Nat} {X : mh_X} {d : Nat} {Q : Option am_V → am_W → Prop} {bc bs : Nat} {w : am_W} {x1 : Int} {xs0 : Int}
    (h : (0 ≤ (w.1 6 0 4) ∧ ((w.1 6 0 4) < 40 ∧ (((w.1 6 0 5) < (w.1 38 0 (w.1 6 0 4).toNat) → Q (some (.inl (-1))) w) ∧ (¬ (w.1 6 0 5) < (w.1 38 0 (w.1 6 0 4).toNat) → ((x1 < (w.1 37 0 (w.1 6 0 4).toNat) → Q (some (.inl (-1))) w) ∧ (¬ x1 < (w.1 37 0 (w.1 6 0 4).toNat) → ((xs0 = 0 → am_M (mh_G X) SC (d + 4) 0 0 mX4_moveTo [.inr (.inr (some (6, 0))), .inl x1] w (fun r w1 => am_A (mh_G X) SC (d + 5) mX4_depthOn Q 87 [(2, .inl xs0), (0, .inr (.inr (some (6, 0)))), (1, .inl x1)] (r.toList ++ []) w1 bc bs)) ∧ (¬ xs0 = 0 → Q (some (.inl (-1))) w))))))))) :
    am_A (mh_G X) SC (d + 5) mX4_depthOn Q 40 [(0, .inr (.inr (some (6, 0)))), (1, .inl x1)] [.inl xs0] w bc bs := by
  refine am_istore_n (ls' := [(2, .inl xs0), (0, .inr (.inr (some (6, 0)))), (1, .inl x1)]) dX4_depthOn_40 (by decide) rfl ?_
  refine am_aload_n dX4_depthOn_41 (List.Mem.tail _ (List.Mem.head _)) ?_
  refine am_getf (f := 0) (v := .inr (.inr (some (5, 0)))) dX4_depthOn_42 hc_6 (by decide) wd_438 (by decide) rfl rfl ?_
  refine am_getf (f := 5) (v := .inr (.inr (some (38, 0)))) dX4_depthOn_45 hc_5 (by decide) wd_324 (by decide) rfl rfl ?_
  refine am_aload_n dX4_depthOn_48 (List.Mem.tail _ (List.Mem.head _)) ?_
  refine am_getf (f := 4) (v := .inl (w.1 6 0 4)) dX4_depthOn_49 hc_6 (by decide) wd_442 (by decide) rfl rfl ?_
  have o1 := h.1
  replace h := h.2
  have o2 := h.1
  replace h := h.2
  refine am_iaload (v := (w.1 38 0 (w.1 6 0 4).toNat)) dX4_depthOn_52 (by decide) rfl o1 o2 rfl ?_
  refine am_aload_n dX4_depthOn_53 (List.Mem.tail _ (List.Mem.head _)) ?_
  refine am_getf (f := 5) (v := .inl (w.1 6 0 5)) dX4_depthOn_54 hc_6 (by decide) wd_443 (by decide) rfl rfl ?_
  refine am_icmpgt (tgt := 80) dX4_depthOn_57 (by decide) (fun c3 => ?_) (fun c3 => ?_)
  · replace h := h.1 c3
    refine am_iconst dX4_depthOn_80 (by unfold am_rg; omega) ?_
    exact am_ret (r := some (.inl (-1))) dX4_depthOn_81 (Or.inl rfl) rfl h
  · replace h := h.2 c3
    refine am_iload_n dX4_depthOn_60 (List.Mem.tail _ (List.Mem.tail _ (List.Mem.head _))) ?_
    refine am_aload_n dX4_depthOn_61 (List.Mem.tail _ (List.Mem.head _)) ?_
    refine am_getf (f := 0) (v := .inr (.inr (some (5, 0)))) dX4_depthOn_62 hc_6 (by decide) wd_438 (by decide) rfl rfl ?_
    refine am_getf (f := 4) (v := .inr (.inr (some (37, 0)))) dX4_depthOn_65 hc_5 (by decide) wd_321 (by decide) rfl rfl ?_
    refine am_aload_n dX4_depthOn_68 (List.Mem.tail _ (List.Mem.head _)) ?_
    refine am_getf (f := 4) (v := .inl (w.1 6 0 4)) dX4_depthOn_69 hc_6 (by decide) wd_442 (by decide) rfl rfl ?_
    refine am_iaload (v := (w.1 37 0 (w.1 6 0 4).toNat)) dX4_depthOn_72 (by decide) rfl o1 o2 rfl ?_
    refine am_icmplt (tgt := 80) dX4_depthOn_73 (by decide) (fun c4 => ?_) (fun c4 => ?_)
    · replace h := h.1 c4
      refine am_iconst dX4_depthOn_80 (by unfold am_rg; omega) ?_
      exact am_ret (r := some (.inl (-1))) dX4_depthOn_81 (Or.inl rfl) rfl h
    · replace h := h.2 c4
      refine am_iload_n dX4_depthOn_76 (List.Mem.head _) ?_
      refine am_ifeq (tgt := 82) dX4_depthOn_77 (by decide) (fun c5 => ?_) (fun c5 => ?_)
      · replace h := h.1 c5
        refine am_aload_n dX4_depthOn_82 (List.Mem.tail _ (List.Mem.head _)) ?_
        refine am_iload_n dX4_depthOn_83 (List.Mem.tail _ (List.Mem.tail _ (List.Mem.head _))) ?_
        exact am_callv (d' := d + 4) (kc := 0) (ks := 0) (as := [.inl x1]) dX4_depthOn_84 wc_X4_moveTo wd_1242 wd_1244 wd_35 wd_118 ds_X4_moveTo (by decide) (by omega) (Nat.le_of_ble_eq_true rfl) (Nat.zero_le _) (Nat.zero_le _) hc_6 (by decide) rfl rfl h
      · replace h := h.2 c5
        refine am_iconst dX4_depthOn_80 (by unfold am_rg; omega) ?_
        exact am_ret (r := some (.inl (-1))) dX4_depthOn_81 (Or.inl rfl) rfl h
theorem bX4_depthOn_87 {SC : Nat → Nat} {X : mh_X} {d : Nat} {Q : Option am_V → am_W → Prop} {bc bs : Nat} {w : am_W} {x2 : Int} {x1 : Int}
    (h : am_M (mh_G X) SC (d + 4) 0 0 mX1_lawOn [.inr (.inr (some (4, 0))), .inl x1, .inl (w.1 6 0 5)] w (fun r w1 => am_A (mh_G X) SC (d + 5) mX4_depthOn Q 99 [(2, .inl x2), (0, .inr (.inr (some (6, 0)))), (1, .inl x1)] (r.toList ++ []) w1 bc bs)) :
    am_A (mh_G X) SC (d + 5) mX4_depthOn Q 87 [(2, .inl x2), (0, .inr (.inr (some (6, 0)))), (1, .inl x1)] [] w bc bs := by
  refine am_aload_n dX4_depthOn_87 (List.Mem.tail _ (List.Mem.head _)) ?_
  refine am_getf (f := 1) (v := .inr (.inr (some (4, 0)))) dX4_depthOn_88 hc_6 (by decide) wd_439 (by decide) rfl rfl ?_
  refine am_iload_n dX4_depthOn_91 (List.Mem.tail _ (List.Mem.tail _ (List.Mem.head _))) ?_
  refine am_aload_n dX4_depthOn_92 (List.Mem.tail _ (List.Mem.head _)) ?_
  refine am_getf (f := 5) (v := .inl (w.1 6 0 5)) dX4_depthOn_93 hc_6 (by decide) wd_443 (by decide) rfl rfl ?_
  exact am_callv (d' := d + 4) (kc := 0) (ks := 0) (as := [.inl x1, .inl (w.1 6 0 5)]) dX4_depthOn_96 wc_X1_lawOn wd_1169 wd_1170 wd_1171 wd_115 ds_X1_lawOn (by decide) (by omega) (Nat.le_of_ble_eq_true rfl) (Nat.zero_le _) (Nat.zero_le _) hc_3 (by decide) rfl rfl h
theorem bX4_depthOn_99 {SC : Nat → Nat} {X : mh_X} {d : Nat} {Q : Option am_V → am_W → Prop} {bc bs : Nat} {w : am_W} {x2 : Int} {x1 : Int}
    (h : am_M (mh_G X) SC (d + 4) 0 0 mX4_lightened [.inr (.inr (some (6, 0))), .inr (.inr none), .inl x1] w (fun r w1 => am_A (mh_G X) SC (d + 5) mX4_depthOn Q 110 [(3, .inr (.inr none)), (2, .inl x2), (0, .inr (.inr (some (6, 0)))), (1, .inl x1)] (r.toList ++ [.inl (w.1 6 0 8)]) w1 bc bs)) :
    am_A (mh_G X) SC (d + 5) mX4_depthOn Q 99 [(2, .inl x2), (0, .inr (.inr (some (6, 0)))), (1, .inl x1)] [.inr (.inr none)] w bc bs := by
  refine am_astore_n (ls' := [(3, .inr (.inr none)), (2, .inl x2), (0, .inr (.inr (some (6, 0)))), (1, .inl x1)]) dX4_depthOn_99 (by decide) rfl ?_
  refine am_aload_n dX4_depthOn_100 (List.Mem.tail _ (List.Mem.tail _ (List.Mem.head _))) ?_
  refine am_getf (f := 8) (v := .inl (w.1 6 0 8)) dX4_depthOn_101 hc_6 (by decide) wd_446 (by decide) rfl rfl ?_
  refine am_aload_n dX4_depthOn_104 (List.Mem.tail _ (List.Mem.tail _ (List.Mem.head _))) ?_
  refine am_aload_n dX4_depthOn_105 (List.Mem.head _) ?_
  refine am_iload_n dX4_depthOn_106 (List.Mem.tail _ (List.Mem.tail _ (List.Mem.tail _ (List.Mem.head _)))) ?_
  exact am_callv (d' := d + 4) (kc := 0) (ks := 0) (as := [.inr (.inr none), .inl x1]) dX4_depthOn_107 wc_X4_lightened wd_1264 wd_1266 wd_38 wd_118 ds_X4_lightened (by decide) (by omega) (Nat.le_of_ble_eq_true rfl) (Nat.zero_le _) (Nat.zero_le _) hc_6 (by decide) rfl rfl h
theorem bX4_depthOn_99a {SC : Nat → Nat} {X : mh_X} {d : Nat} {Q : Option am_V → am_W → Prop} {bc bs : Nat} {w : am_W} {x2 : Int} {x1 : Int} {js0 : Nat}
    (h : am_M (mh_G X) SC (d + 4) 0 0 mX4_lightened [.inr (.inr (some (6, 0))), .inr (.inr (some (10, js0))), .inl x1] w (fun r w1 => am_A (mh_G X) SC (d + 5) mX4_depthOn Q 110 [(3, .inr (.inr (some (10, js0)))), (2, .inl x2), (0, .inr (.inr (some (6, 0)))), (1, .inl x1)] (r.toList ++ [.inl (w.1 6 0 8)]) w1 bc bs)) :
    am_A (mh_G X) SC (d + 5) mX4_depthOn Q 99 [(2, .inl x2), (0, .inr (.inr (some (6, 0)))), (1, .inl x1)] [.inr (.inr (some (10, js0)))] w bc bs := by
  refine am_astore_n (ls' := [(3, .inr (.inr (some (10, js0)))), (2, .inl x2), (0, .inr (.inr (some (6, 0)))), (1, .inl x1)]) dX4_depthOn_99 (by decide) rfl ?_
  refine am_aload_n dX4_depthOn_100 (List.Mem.tail _ (List.Mem.tail _ (List.Mem.head _))) ?_
  refine am_getf (f := 8) (v := .inl (w.1 6 0 8)) dX4_depthOn_101 hc_6 (by decide) wd_446 (by decide) rfl rfl ?_
  refine am_aload_n dX4_depthOn_104 (List.Mem.tail _ (List.Mem.tail _ (List.Mem.head _))) ?_
  refine am_aload_n dX4_depthOn_105 (List.Mem.head _) ?_
  refine am_iload_n dX4_depthOn_106 (List.Mem.tail _ (List.Mem.tail _ (List.Mem.tail _ (List.Mem.head _)))) ?_
  exact am_callv (d' := d + 4) (kc := 0) (ks := 0) (as := [.inr (.inr (some (10, js0))), .inl x1]) dX4_depthOn_107 wc_X4_lightened wd_1264 wd_1266 wd_38 wd_118 ds_X4_lightened (by decide) (by omega) (Nat.le_of_ble_eq_true rfl) (Nat.zero_le _) (Nat.zero_le _) hc_6 (by decide) rfl rfl h
theorem bX4_depthOn_110 {SC : Nat → Nat} {X : mh_X} {d : Nat} {Q : Option am_V → am_W → Prop} {bc bs : Nat} {w : am_W} {x2 : Int} {x1 : Int} {xs0 : Int} {xs1 : Int}
    (h : am_M (mh_G X) SC (d + 4) 0 0 mX1_orderedDepth [.inr (.inr (some (4, 0))), .inl x1, .inl (w.1 6 0 5)] w (fun r w1 => am_A (mh_G X) SC (d + 5) mX4_depthOn Q 129 [(4, .inl (max xs1 xs0)), (3, .inr (.inr none)), (2, .inl x2), (0, .inr (.inr (some (6, 0)))), (1, .inl x1)] (r.toList ++ [.inl (max xs1 xs0)]) w1 bc bs)) :
    am_A (mh_G X) SC (d + 5) mX4_depthOn Q 110 [(3, .inr (.inr none)), (2, .inl x2), (0, .inr (.inr (some (6, 0)))), (1, .inl x1)] [.inl xs0, .inl xs1] w bc bs := by
  refine am_mmax dX4_depthOn_110 wd_1191 (by omega) (Nat.le_of_ble_eq_true rfl) ?_
  refine am_istore (ls' := [(4, .inl (max xs1 xs0)), (3, .inr (.inr none)), (2, .inl x2), (0, .inr (.inr (some (6, 0)))), (1, .inl x1)]) dX4_depthOn_113 (by decide) rfl ?_
  refine am_iload dX4_depthOn_115 (List.Mem.head _) ?_
  refine am_aload_n dX4_depthOn_117 (List.Mem.tail _ (List.Mem.tail _ (List.Mem.tail _ (List.Mem.head _)))) ?_
  refine am_getf (f := 1) (v := .inr (.inr (some (4, 0)))) dX4_depthOn_118 hc_6 (by decide) wd_439 (by decide) rfl rfl ?_
  refine am_iload_n dX4_depthOn_121 (List.Mem.tail _ (List.Mem.tail _ (List.Mem.tail _ (List.Mem.tail _ (List.Mem.head _))))) ?_
  refine am_aload_n dX4_depthOn_122 (List.Mem.tail _ (List.Mem.tail _ (List.Mem.tail _ (List.Mem.head _)))) ?_
  refine am_getf (f := 5) (v := .inl (w.1 6 0 5)) dX4_depthOn_123 hc_6 (by decide) wd_443 (by decide) rfl rfl ?_
  exact am_callv (d' := d + 4) (kc := 0) (ks := 0) (as := [.inl x1, .inl (w.1 6 0 5)]) dX4_depthOn_126 wc_X1_orderedDepth wd_1278 wd_1279 wd_1280 wd_115 ds_X1_orderedDepth (by decide) (by omega) (Nat.le_of_ble_eq_true rfl) (Nat.zero_le _) (Nat.zero_le _) hc_3 (by decide) rfl rfl h
theorem bX4_depthOn_110a {SC : Nat → Nat} {X : mh_X} {d : Nat} {Q : Option am_V → am_W → Prop} {bc bs : Nat} {w : am_W} {j3 : Nat} {x2 : Int} {x1 : Int} {xs0 : Int} {xs1 : Int}
    (h : am_M (mh_G X) SC (d + 4) 0 0 mX1_orderedDepth [.inr (.inr (some (4, 0))), .inl x1, .inl (w.1 6 0 5)] w (fun r w1 => am_A (mh_G X) SC (d + 5) mX4_depthOn Q 129 [(4, .inl (max xs1 xs0)), (3, .inr (.inr (some (10, j3)))), (2, .inl x2), (0, .inr (.inr (some (6, 0)))), (1, .inl x1)] (r.toList ++ [.inl (max xs1 xs0)]) w1 bc bs)) :
    am_A (mh_G X) SC (d + 5) mX4_depthOn Q 110 [(3, .inr (.inr (some (10, j3)))), (2, .inl x2), (0, .inr (.inr (some (6, 0)))), (1, .inl x1)] [.inl xs0, .inl xs1] w bc bs := by
  refine am_mmax dX4_depthOn_110 wd_1191 (by omega) (Nat.le_of_ble_eq_true rfl) ?_
  refine am_istore (ls' := [(4, .inl (max xs1 xs0)), (3, .inr (.inr (some (10, j3)))), (2, .inl x2), (0, .inr (.inr (some (6, 0)))), (1, .inl x1)]) dX4_depthOn_113 (by decide) rfl ?_
  refine am_iload dX4_depthOn_115 (List.Mem.head _) ?_
  refine am_aload_n dX4_depthOn_117 (List.Mem.tail _ (List.Mem.tail _ (List.Mem.tail _ (List.Mem.head _)))) ?_
  refine am_getf (f := 1) (v := .inr (.inr (some (4, 0)))) dX4_depthOn_118 hc_6 (by decide) wd_439 (by decide) rfl rfl ?_
  refine am_iload_n dX4_depthOn_121 (List.Mem.tail _ (List.Mem.tail _ (List.Mem.tail _ (List.Mem.tail _ (List.Mem.head _))))) ?_
  refine am_aload_n dX4_depthOn_122 (List.Mem.tail _ (List.Mem.tail _ (List.Mem.tail _ (List.Mem.head _)))) ?_
  refine am_getf (f := 5) (v := .inl (w.1 6 0 5)) dX4_depthOn_123 hc_6 (by decide) wd_443 (by decide) rfl rfl ?_
  exact am_callv (d' := d + 4) (kc := 0) (ks := 0) (as := [.inl x1, .inl (w.1 6 0 5)]) dX4_depthOn_126 wc_X1_orderedDepth wd_1278 wd_1279 wd_1280 wd_115 ds_X1_orderedDepth (by decide) (by omega) (Nat.le_of_ble_eq_true rfl) (Nat.zero_le _) (Nat.zero_le _) hc_3 (by decide) rfl rfl h
theorem bX4_depthOn_129 {SC : Nat → Nat} {X : mh_X} {d : Nat} {Q : Option am_V → am_W → Prop} {bc bs : Nat} {w : am_W} {x4 : Int} {x2 : Int} {x1 : Int} {xs0 : Int} {xs1 : Int}
    (h : (((max xs1 xs0) ≤ 0 → Q (some (.inl (max xs1 xs0))) w) ∧ (¬ (max xs1 xs0) ≤ 0 → am_M (mh_G X) SC (d + 4) 0 0 mX4_isTooYoung [.inr (.inr (some (6, 0))), .inr (.inr none), .inl x1] w (fun r w1 => am_A (mh_G X) SC (d + 5) mX4_depthOn Q 145 [(4, .inl (max xs1 xs0)), (3, .inr (.inr none)), (2, .inl x2), (0, .inr (.inr (some (6, 0)))), (1, .inl x1)] (r.toList ++ []) w1 bc bs)))) :
    am_A (mh_G X) SC (d + 5) mX4_depthOn Q 129 [(4, .inl x4), (3, .inr (.inr none)), (2, .inl x2), (0, .inr (.inr (some (6, 0)))), (1, .inl x1)] [.inl xs0, .inl xs1] w bc bs := by
  refine am_mmax dX4_depthOn_129 wd_1191 (by omega) (Nat.le_of_ble_eq_true rfl) ?_
  refine am_istore (ls' := [(4, .inl (max xs1 xs0)), (3, .inr (.inr none)), (2, .inl x2), (0, .inr (.inr (some (6, 0)))), (1, .inl x1)]) dX4_depthOn_132 (by decide) rfl ?_
  refine am_iload dX4_depthOn_134 (List.Mem.head _) ?_
  refine am_ifle (tgt := 160) dX4_depthOn_136 (by decide) (fun c1 => ?_) (fun c1 => ?_)
  · replace h := h.1 c1
    refine am_iload dX4_depthOn_160 (List.Mem.head _) ?_
    exact am_ret (r := some (.inl (max xs1 xs0))) dX4_depthOn_162 (Or.inl rfl) rfl h
  · replace h := h.2 c1
    refine am_aload_n dX4_depthOn_139 (List.Mem.tail _ (List.Mem.tail _ (List.Mem.tail _ (List.Mem.head _)))) ?_
    refine am_aload_n dX4_depthOn_140 (List.Mem.tail _ (List.Mem.head _)) ?_
    refine am_iload_n dX4_depthOn_141 (List.Mem.tail _ (List.Mem.tail _ (List.Mem.tail _ (List.Mem.tail _ (List.Mem.head _))))) ?_
    exact am_callv (d' := d + 4) (kc := 0) (ks := 0) (as := [.inr (.inr none), .inl x1]) dX4_depthOn_142 wc_X4_isTooYoung wd_1283 wd_1285 wd_39 wd_118 ds_X4_isTooYoung (by decide) (by omega) (Nat.le_of_ble_eq_true rfl) (Nat.zero_le _) (Nat.zero_le _) hc_6 (by decide) rfl rfl h
theorem bX4_depthOn_129a {SC : Nat → Nat} {X : mh_X} {d : Nat} {Q : Option am_V → am_W → Prop} {bc bs : Nat} {w : am_W} {x4 : Int} {j3 : Nat} {x2 : Int} {x1 : Int} {xs0 : Int} {xs1 : Int}
    (h : (((max xs1 xs0) ≤ 0 → Q (some (.inl (max xs1 xs0))) w) ∧ (¬ (max xs1 xs0) ≤ 0 → am_M (mh_G X) SC (d + 4) 0 0 mX4_isTooYoung [.inr (.inr (some (6, 0))), .inr (.inr (some (10, j3))), .inl x1] w (fun r w1 => am_A (mh_G X) SC (d + 5) mX4_depthOn Q 145 [(4, .inl (max xs1 xs0)), (3, .inr (.inr (some (10, j3)))), (2, .inl x2), (0, .inr (.inr (some (6, 0)))), (1, .inl x1)] (r.toList ++ []) w1 bc bs)))) :
    am_A (mh_G X) SC (d + 5) mX4_depthOn Q 129 [(4, .inl x4), (3, .inr (.inr (some (10, j3)))), (2, .inl x2), (0, .inr (.inr (some (6, 0)))), (1, .inl x1)] [.inl xs0, .inl xs1] w bc bs := by
  refine am_mmax dX4_depthOn_129 wd_1191 (by omega) (Nat.le_of_ble_eq_true rfl) ?_
  refine am_istore (ls' := [(4, .inl (max xs1 xs0)), (3, .inr (.inr (some (10, j3)))), (2, .inl x2), (0, .inr (.inr (some (6, 0)))), (1, .inl x1)]) dX4_depthOn_132 (by decide) rfl ?_
  refine am_iload dX4_depthOn_134 (List.Mem.head _) ?_
  refine am_ifle (tgt := 160) dX4_depthOn_136 (by decide) (fun c1 => ?_) (fun c1 => ?_)
  · replace h := h.1 c1
    refine am_iload dX4_depthOn_160 (List.Mem.head _) ?_
    exact am_ret (r := some (.inl (max xs1 xs0))) dX4_depthOn_162 (Or.inl rfl) rfl h
  · replace h := h.2 c1
    refine am_aload_n dX4_depthOn_139 (List.Mem.tail _ (List.Mem.tail _ (List.Mem.tail _ (List.Mem.head _)))) ?_
    refine am_aload_n dX4_depthOn_140 (List.Mem.tail _ (List.Mem.head _)) ?_
    refine am_iload_n dX4_depthOn_141 (List.Mem.tail _ (List.Mem.tail _ (List.Mem.tail _ (List.Mem.tail _ (List.Mem.head _))))) ?_
    exact am_callv (d' := d + 4) (kc := 0) (ks := 0) (as := [.inr (.inr (some (10, j3))), .inl x1]) dX4_depthOn_142 wc_X4_isTooYoung wd_1283 wd_1285 wd_39 wd_118 ds_X4_isTooYoung (by decide) (by omega) (Nat.le_of_ble_eq_true rfl) (Nat.zero_le _) (Nat.zero_le _) hc_6 (by decide) rfl rfl h
theorem bX4_depthOn_145 {SC : Nat → Nat} {X : mh_X} {d : Nat} {Q : Option am_V → am_W → Prop} {bc bs : Nat} {w : am_W} {x4 : Int} {x2 : Int} {x1 : Int} {xs0 : Int}
    (h : ((xs0 = 0 → Q (some (.inl x4)) w) ∧ (¬ xs0 = 0 → False))) :
    am_A (mh_G X) SC (d + 5) mX4_depthOn Q 145 [(4, .inl x4), (3, .inr (.inr none)), (2, .inl x2), (0, .inr (.inr (some (6, 0)))), (1, .inl x1)] [.inl xs0] w bc bs := by
  refine am_ifeq (tgt := 160) dX4_depthOn_145 (by decide) (fun c1 => ?_) (fun c1 => ?_)
  · replace h := h.1 c1
    refine am_iload dX4_depthOn_160 (List.Mem.head _) ?_
    exact am_ret (r := some (.inl x4)) dX4_depthOn_162 (Or.inl rfl) rfl h
  · replace h := h.2 c1
    refine am_iload dX4_depthOn_148 (List.Mem.head _) ?_
    refine am_aload_n dX4_depthOn_150 (List.Mem.tail _ (List.Mem.head _)) ?_
    exact h.elim
theorem bX4_depthOn_145a {SC : Nat → Nat} {X : mh_X} {d : Nat} {Q : Option am_V → am_W → Prop} {bc bs : Nat} {w : am_W} {x4 : Int} {j3 : Nat} {x2 : Int} {x1 : Int} {xs0 : Int}
    (h : ((xs0 = 0 → Q (some (.inl x4)) w) ∧ (¬ xs0 = 0 → Q (some (.inl (min x4 (w.1 10 j3 15)))) w))) :
    am_A (mh_G X) SC (d + 5) mX4_depthOn Q 145 [(4, .inl x4), (3, .inr (.inr (some (10, j3)))), (2, .inl x2), (0, .inr (.inr (some (6, 0)))), (1, .inl x1)] [.inl xs0] w bc bs := by
  refine am_ifeq (tgt := 160) dX4_depthOn_145 (by decide) (fun c1 => ?_) (fun c1 => ?_)
  · replace h := h.1 c1
    refine am_iload dX4_depthOn_160 (List.Mem.head _) ?_
    exact am_ret (r := some (.inl x4)) dX4_depthOn_162 (Or.inl rfl) rfl h
  · replace h := h.2 c1
    refine am_iload dX4_depthOn_148 (List.Mem.head _) ?_
    refine am_aload_n dX4_depthOn_150 (List.Mem.tail _ (List.Mem.head _)) ?_
    refine am_getf (f := 15) (v := .inl (w.1 10 j3 15)) dX4_depthOn_151 hc_4 (by decide) wd_241 (by decide) rfl rfl ?_
    refine am_mmin dX4_depthOn_154 wd_1229 (by omega) (Nat.le_of_ble_eq_true rfl) ?_
    refine am_goto (tgt := 162) dX4_depthOn_157 (by decide) ?_
    exact am_ret (r := some (.inl (min x4 (w.1 10 j3 15)))) dX4_depthOn_162 (Or.inl rfl) rfl h
-- MourningHouse$Mourner.isAllowed(II)Z
theorem dX4_isAllowed_0 : decode mX4_isAllowed.2.1 0 = .ok (.aload_n 0, 1) := by decide +kernel
theorem dX4_isAllowed_1 : decode mX4_isAllowed.2.1 1 = .ok (.iload_n 2, 1) := by decide +kernel
theorem dX4_isAllowed_2 : decode mX4_isAllowed.2.1 2 = .ok (.invokevirtual 206, 3) := by decide +kernel
theorem dX4_isAllowed_5 : decode mX4_isAllowed.2.1 5 = .ok (.istore_n 3, 1) := by decide +kernel
theorem dX4_isAllowed_6 : decode mX4_isAllowed.2.1 6 = .ok (.iload_n 3, 1) := by decide +kernel
theorem dX4_isAllowed_7 : decode mX4_isAllowed.2.1 7 = .ok (.iconst (-1), 1) := by decide +kernel
theorem dX4_isAllowed_8 : decode mX4_isAllowed.2.1 8 = .ok (.if_icmp .ne 5, 3) := by decide +kernel
theorem dX4_isAllowed_11 : decode mX4_isAllowed.2.1 11 = .ok (.iconst 0, 1) := by decide +kernel
theorem dX4_isAllowed_12 : decode mX4_isAllowed.2.1 12 = .ok (.ireturn, 1) := by decide +kernel
theorem dX4_isAllowed_13 : decode mX4_isAllowed.2.1 13 = .ok (.aload_n 0, 1) := by decide +kernel
theorem dX4_isAllowed_14 : decode mX4_isAllowed.2.1 14 = .ok (.getfield 45, 3) := by decide +kernel
theorem dX4_isAllowed_17 : decode mX4_isAllowed.2.1 17 = .ok (.iload_n 2, 1) := by decide +kernel
theorem dX4_isAllowed_18 : decode mX4_isAllowed.2.1 18 = .ok (.aload_n 0, 1) := by decide +kernel
theorem dX4_isAllowed_19 : decode mX4_isAllowed.2.1 19 = .ok (.getfield 26, 3) := by decide +kernel
theorem dX4_isAllowed_22 : decode mX4_isAllowed.2.1 22 = .ok (.invokevirtual 62, 3) := by decide +kernel
theorem dX4_isAllowed_25 : decode mX4_isAllowed.2.1 25 = .ok (.astore 4, 2) := by decide +kernel
theorem dX4_isAllowed_27 : decode mX4_isAllowed.2.1 27 = .ok (.aload 4, 2) := by decide +kernel
theorem dX4_isAllowed_29 : decode mX4_isAllowed.2.1 29 = .ok (.ifnull 14, 3) := by decide +kernel
theorem dX4_isAllowed_32 : decode mX4_isAllowed.2.1 32 = .ok (.iload_n 3, 1) := by decide +kernel
theorem dX4_isAllowed_33 : decode mX4_isAllowed.2.1 33 = .ok (.aload 4, 2) := by decide +kernel
theorem dX4_isAllowed_35 : decode mX4_isAllowed.2.1 35 = .ok (.getfield 209, 3) := by decide +kernel
theorem dX4_isAllowed_38 : decode mX4_isAllowed.2.1 38 = .ok (.iload_n 1, 1) := by decide +kernel
theorem dX4_isAllowed_39 : decode mX4_isAllowed.2.1 39 = .ok (.iaload, 1) := by decide +kernel
theorem dX4_isAllowed_40 : decode mX4_isAllowed.2.1 40 = .ok (.if_icmp .gt 7, 3) := by decide +kernel
theorem dX4_isAllowed_43 : decode mX4_isAllowed.2.1 43 = .ok (.iconst 1, 1) := by decide +kernel
theorem dX4_isAllowed_44 : decode mX4_isAllowed.2.1 44 = .ok (.goto 4, 3) := by decide +kernel
theorem dX4_isAllowed_47 : decode mX4_isAllowed.2.1 47 = .ok (.iconst 0, 1) := by decide +kernel
theorem dX4_isAllowed_48 : decode mX4_isAllowed.2.1 48 = .ok (.ireturn, 1) := by decide +kernel
theorem bX4_isAllowed_0 {SC : Nat → Nat} {X : mh_X} {d : Nat} {Q : Option am_V → am_W → Prop} {bc bs : Nat} {w : am_W} {x1 : Int} {x2 : Int}
    (h : am_M (mh_G X) SC (d + 5) 0 0 mX4_depthOn [.inr (.inr (some (6, 0))), .inl x2] w (fun r w1 => am_A (mh_G X) SC (d + 6) mX4_isAllowed Q 5 [(0, .inr (.inr (some (6, 0)))), (1, .inl x1), (2, .inl x2)] (r.toList ++ []) w1 bc bs)) :
    am_A (mh_G X) SC (d + 6) mX4_isAllowed Q 0 [(0, .inr (.inr (some (6, 0)))), (1, .inl x1), (2, .inl x2)] [] w bc bs := by
  refine am_aload_n dX4_isAllowed_0 (List.Mem.head _) ?_
  refine am_iload_n dX4_isAllowed_1 (List.Mem.tail _ (List.Mem.tail _ (List.Mem.head _))) ?_
  exact am_callv (d' := d + 5) (kc := 0) (ks := 0) (as := [.inl x2]) dX4_isAllowed_2 wc_X4_depthOn wd_1306 wd_1239 wd_1240 wd_118 ds_X4_depthOn (by decide) (by omega) (Nat.le_of_ble_eq_true rfl) (Nat.zero_le _) (Nat.zero_le _) hc_6 (by decide) rfl rfl h
theorem bX4_isAllowed_5 {SC : Nat → Nat} {X : mh_X} {d : Nat} {Q : Option am_V → am_W → Prop} {bc bs : Nat} {w : am_W} {x1 : Int} {x2 : Int} {xs0 : Int}
    (h : ((¬ xs0 = (-1) → am_M (mh_G X) SC (d + 5) 0 0 mX1_lawOn [.inr (.inr (some (4, 0))), .inl x2, .inl (w.1 6 0 5)] w (fun r w1 => am_A (mh_G X) SC (d + 6) mX4_isAllowed Q 25 [(3, .inl xs0), (0, .inr (.inr (some (6, 0)))), (1, .inl x1), (2, .inl x2)] (r.toList ++ []) w1 bc bs)) ∧ (xs0 = (-1) → Q (some (.inl 0)) w))) :
    am_A (mh_G X) SC (d + 6) mX4_isAllowed Q 5 [(0, .inr (.inr (some (6, 0)))), (1, .inl x1), (2, .inl x2)] [.inl xs0] w bc bs := by
  refine am_istore_n (ls' := [(3, .inl xs0), (0, .inr (.inr (some (6, 0)))), (1, .inl x1), (2, .inl x2)]) dX4_isAllowed_5 (by decide) rfl ?_
  refine am_iload_n dX4_isAllowed_6 (List.Mem.head _) ?_
  refine am_iconst dX4_isAllowed_7 (by unfold am_rg; omega) ?_
  refine am_icmpne (tgt := 13) dX4_isAllowed_8 (by decide) (fun c1 => ?_) (fun c1 => ?_)
  · replace h := h.1 c1
    refine am_aload_n dX4_isAllowed_13 (List.Mem.tail _ (List.Mem.head _)) ?_
    refine am_getf (f := 1) (v := .inr (.inr (some (4, 0)))) dX4_isAllowed_14 hc_6 (by decide) wd_439 (by decide) rfl rfl ?_
    refine am_iload_n dX4_isAllowed_17 (List.Mem.tail _ (List.Mem.tail _ (List.Mem.tail _ (List.Mem.head _)))) ?_
    refine am_aload_n dX4_isAllowed_18 (List.Mem.tail _ (List.Mem.head _)) ?_
    refine am_getf (f := 5) (v := .inl (w.1 6 0 5)) dX4_isAllowed_19 hc_6 (by decide) wd_443 (by decide) rfl rfl ?_
    exact am_callv (d' := d + 5) (kc := 0) (ks := 0) (as := [.inl x2, .inl (w.1 6 0 5)]) dX4_isAllowed_22 wc_X1_lawOn wd_1169 wd_1170 wd_1171 wd_115 ds_X1_lawOn (by decide) (by omega) (Nat.le_of_ble_eq_true rfl) (Nat.zero_le _) (Nat.zero_le _) hc_3 (by decide) rfl rfl h
  · replace h := h.2 c1
    refine am_iconst dX4_isAllowed_11 (by unfold am_rg; omega) ?_
    exact am_ret (r := some (.inl 0)) dX4_isAllowed_12 (Or.inr (Or.inl ⟨rfl, (Or.inl rfl)⟩)) rfl h
theorem bX4_isAllowed_25 {SC : Nat → Nat} {X : mh_X} {d : Nat} {Q : Option am_V → am_W → Prop} {bc bs : Nat} {w : am_W} {x3 : Int} {x1 : Int} {x2 : Int}
    (h : Q (some (.inl 1)) w) :
    am_A (mh_G X) SC (d + 6) mX4_isAllowed Q 25 [(3, .inl x3), (0, .inr (.inr (some (6, 0)))), (1, .inl x1), (2, .inl x2)] [.inr (.inr none)] w bc bs := by
  refine am_astore (ls' := [(4, .inr (.inr none)), (3, .inl x3), (0, .inr (.inr (some (6, 0)))), (1, .inl x1), (2, .inl x2)]) dX4_isAllowed_25 (by decide) rfl ?_
  refine am_aload dX4_isAllowed_27 (List.Mem.head _) ?_
  refine am_ifnull (tgt := 43) dX4_isAllowed_29 (by decide) (fun _ => ?_) (fun e => absurd rfl e)
  refine am_iconst dX4_isAllowed_43 (by unfold am_rg; omega) ?_
  refine am_goto (tgt := 48) dX4_isAllowed_44 (by decide) ?_
  exact am_ret (r := some (.inl 1)) dX4_isAllowed_48 (Or.inr (Or.inl ⟨rfl, (Or.inr rfl)⟩)) rfl h
theorem bX4_isAllowed_25a {SC : Nat → Nat} {X : mh_X} {d : Nat} {Q : Option am_V → am_W → Prop} {bc bs : Nat} {w : am_W} {x3 : Int} {x1 : Int} {x2 : Int} {js0 : Nat}
    (h : (0 ≤ x1 ∧ (x1 < 4 ∧ (((w.1 153 js0 x1.toNat) < x3 → Q (some (.inl 0)) w) ∧ (¬ (w.1 153 js0 x1.toNat) < x3 → Q (some (.inl 1)) w))))) :
    am_A (mh_G X) SC (d + 6) mX4_isAllowed Q 25 [(3, .inl x3), (0, .inr (.inr (some (6, 0)))), (1, .inl x1), (2, .inl x2)] [.inr (.inr (some (10, js0)))] w bc bs := by
  refine am_astore (ls' := [(4, .inr (.inr (some (10, js0)))), (3, .inl x3), (0, .inr (.inr (some (6, 0)))), (1, .inl x1), (2, .inl x2)]) dX4_isAllowed_25 (by decide) rfl ?_
  refine am_aload dX4_isAllowed_27 (List.Mem.head _) ?_
  refine am_ifnull (tgt := 43) dX4_isAllowed_29 (by decide) (fun e => by cases e) (fun _ => ?_)
  refine am_iload_n dX4_isAllowed_32 (List.Mem.tail _ (List.Mem.head _)) ?_
  refine am_aload dX4_isAllowed_33 (List.Mem.head _) ?_
  refine am_getf (f := 9) (v := .inr (.inr (some (153, js0)))) dX4_isAllowed_35 hc_4 (by decide) wd_225 (by decide) rfl rfl ?_
  refine am_iload_n dX4_isAllowed_38 (List.Mem.tail _ (List.Mem.tail _ (List.Mem.tail _ (List.Mem.head _)))) ?_
  have o1 := h.1
  replace h := h.2
  have o2 := h.1
  replace h := h.2
  refine am_iaload (v := (w.1 153 js0 x1.toNat)) dX4_isAllowed_39 (by decide) rfl o1 o2 rfl ?_
  refine am_icmpgt (tgt := 47) dX4_isAllowed_40 (by decide) (fun c3 => ?_) (fun c3 => ?_)
  · replace h := h.1 c3
    refine am_iconst dX4_isAllowed_47 (by unfold am_rg; omega) ?_
    exact am_ret (r := some (.inl 0)) dX4_isAllowed_48 (Or.inr (Or.inl ⟨rfl, (Or.inl rfl)⟩)) rfl h
  · replace h := h.2 c3
    refine am_iconst dX4_isAllowed_43 (by unfold am_rg; omega) ?_
    refine am_goto (tgt := 48) dX4_isAllowed_44 (by decide) ?_
    exact am_ret (r := some (.inl 1)) dX4_isAllowed_48 (Or.inr (Or.inl ⟨rfl, (Or.inr rfl)⟩)) rfl h
-- MourningHouse$Mourner.edgeOn(I)I
theorem dX4_edgeOn_0 : decode mX4_edgeOn.2.1 0 = .ok (.aload_n 0, 1) := by decide +kernel
theorem dX4_edgeOn_1 : decode mX4_edgeOn.2.1 1 = .ok (.iload_n 1, 1) := by decide +kernel
theorem dX4_edgeOn_2 : decode mX4_edgeOn.2.1 2 = .ok (.invokevirtual 206, 3) := by decide +kernel
theorem dX4_edgeOn_5 : decode mX4_edgeOn.2.1 5 = .ok (.istore_n 2, 1) := by decide +kernel
theorem dX4_edgeOn_6 : decode mX4_edgeOn.2.1 6 = .ok (.iload_n 2, 1) := by decide +kernel
theorem dX4_edgeOn_7 : decode mX4_edgeOn.2.1 7 = .ok (.ifCond .gt 5, 3) := by decide +kernel
theorem dX4_edgeOn_10 : decode mX4_edgeOn.2.1 10 = .ok (.iload_n 2, 1) := by decide +kernel
theorem dX4_edgeOn_11 : decode mX4_edgeOn.2.1 11 = .ok (.ireturn, 1) := by decide +kernel
theorem dX4_edgeOn_12 : decode mX4_edgeOn.2.1 12 = .ok (.iconst 0, 1) := by decide +kernel
theorem dX4_edgeOn_13 : decode mX4_edgeOn.2.1 13 = .ok (.istore_n 3, 1) := by decide +kernel
theorem dX4_edgeOn_14 : decode mX4_edgeOn.2.1 14 = .ok (.iconst 0, 1) := by decide +kernel
theorem dX4_edgeOn_15 : decode mX4_edgeOn.2.1 15 = .ok (.istore 4, 2) := by decide +kernel
theorem dX4_edgeOn_17 : decode mX4_edgeOn.2.1 17 = .ok (.iload 4, 2) := by decide +kernel
theorem dX4_edgeOn_19 : decode mX4_edgeOn.2.1 19 = .ok (.aload_n 0, 1) := by decide +kernel
theorem dX4_edgeOn_20 : decode mX4_edgeOn.2.1 20 = .ok (.getfield 19, 3) := by decide +kernel
theorem dX4_edgeOn_23 : decode mX4_edgeOn.2.1 23 = .ok (.if_icmp .ge 38, 3) := by decide +kernel
theorem dX4_edgeOn_26 : decode mX4_edgeOn.2.1 26 = .ok (.aload_n 0, 1) := by decide +kernel
theorem dX4_edgeOn_27 : decode mX4_edgeOn.2.1 27 = .ok (.getfield 15, 3) := by decide +kernel
theorem dX4_edgeOn_30 : decode mX4_edgeOn.2.1 30 = .ok (.iload 4, 2) := by decide +kernel
theorem dX4_edgeOn_32 : decode mX4_edgeOn.2.1 32 = .ok (.aaload, 1) := by decide +kernel
theorem dX4_edgeOn_33 : decode mX4_edgeOn.2.1 33 = .ok (.getfield 158, 3) := by decide +kernel
theorem dX4_edgeOn_36 : decode mX4_edgeOn.2.1 36 = .ok (.istore 5, 2) := by decide +kernel
theorem dX4_edgeOn_38 : decode mX4_edgeOn.2.1 38 = .ok (.iload_n 1, 1) := by decide +kernel
theorem dX4_edgeOn_39 : decode mX4_edgeOn.2.1 39 = .ok (.iload 5, 2) := by decide +kernel
theorem dX4_edgeOn_41 : decode mX4_edgeOn.2.1 41 = .ok (.if_icmp .lt 14, 3) := by decide +kernel
theorem dX4_edgeOn_44 : decode mX4_edgeOn.2.1 44 = .ok (.iload_n 1, 1) := by decide +kernel
theorem dX4_edgeOn_45 : decode mX4_edgeOn.2.1 45 = .ok (.iload 5, 2) := by decide +kernel
theorem dX4_edgeOn_47 : decode mX4_edgeOn.2.1 47 = .ok (.bipush 30, 2) := by decide +kernel
theorem dX4_edgeOn_49 : decode mX4_edgeOn.2.1 49 = .ok (.iadd, 1) := by decide +kernel
theorem dX4_edgeOn_50 : decode mX4_edgeOn.2.1 50 = .ok (.if_icmp .ge 5, 3) := by decide +kernel
theorem dX4_edgeOn_53 : decode mX4_edgeOn.2.1 53 = .ok (.iconst 2, 1) := by decide +kernel
theorem dX4_edgeOn_54 : decode mX4_edgeOn.2.1 54 = .ok (.istore_n 3, 1) := by decide +kernel
theorem dX4_edgeOn_55 : decode mX4_edgeOn.2.1 55 = .ok (.iinc 4 1, 3) := by decide +kernel
theorem dX4_edgeOn_58 : decode mX4_edgeOn.2.1 58 = .ok (.goto (-41), 3) := by decide +kernel
theorem dX4_edgeOn_61 : decode mX4_edgeOn.2.1 61 = .ok (.iload_n 2, 1) := by decide +kernel
theorem dX4_edgeOn_62 : decode mX4_edgeOn.2.1 62 = .ok (.iconst 2, 1) := by decide +kernel
theorem dX4_edgeOn_63 : decode mX4_edgeOn.2.1 63 = .ok (.imul, 1) := by decide +kernel
theorem dX4_edgeOn_64 : decode mX4_edgeOn.2.1 64 = .ok (.iload_n 3, 1) := by decide +kernel
theorem dX4_edgeOn_65 : decode mX4_edgeOn.2.1 65 = .ok (.iadd, 1) := by decide +kernel
theorem dX4_edgeOn_66 : decode mX4_edgeOn.2.1 66 = .ok (.ireturn, 1) := by decide +kernel
theorem bX4_edgeOn_0 {SC : Nat → Nat} {X : mh_X} {d : Nat} {Q : Option am_V → am_W → Prop} {bc bs : Nat} {w : am_W} {x1 : Int}
    (h : am_M (mh_G X) SC (d + 5) 0 0 mX4_depthOn [.inr (.inr (some (6, 0))), .inl x1] w (fun r w1 => am_A (mh_G X) SC (d + 6) mX4_edgeOn Q 5 [(0, .inr (.inr (some (6, 0)))), (1, .inl x1)] (r.toList ++ []) w1 bc bs)) :
    am_A (mh_G X) SC (d + 6) mX4_edgeOn Q 0 [(0, .inr (.inr (some (6, 0)))), (1, .inl x1)] [] w bc bs := by
  refine am_aload_n dX4_edgeOn_0 (List.Mem.head _) ?_
  refine am_iload_n dX4_edgeOn_1 (List.Mem.tail _ (List.Mem.head _)) ?_
  exact am_callv (d' := d + 5) (kc := 0) (ks := 0) (as := [.inl x1]) dX4_edgeOn_2 wc_X4_depthOn wd_1306 wd_1239 wd_1240 wd_118 ds_X4_depthOn (by decide) (by omega) (Nat.le_of_ble_eq_true rfl) (Nat.zero_le _) (Nat.zero_le _) hc_6 (by decide) rfl rfl h
theorem bX4_edgeOn_5 {SC : Nat → Nat} {X : mh_X} {d : Nat} {Q : Option am_V → am_W → Prop} {bc bs : Nat} {w : am_W} {x1 : Int} {xs0 : Int}
    (h : ((0 < xs0 → am_A (mh_G X) SC (d + 6) mX4_edgeOn Q 17 [(0, .inr (.inr (some (6, 0)))), (1, .inl x1), (2, .inl xs0), (3, .inl 0), (4, .inl 0)] [] w bc bs) ∧ (¬ 0 < xs0 → Q (some (.inl xs0)) w))) :
    am_A (mh_G X) SC (d + 6) mX4_edgeOn Q 5 [(0, .inr (.inr (some (6, 0)))), (1, .inl x1)] [.inl xs0] w bc bs := by
  refine am_istore_n (ls' := [(2, .inl xs0), (0, .inr (.inr (some (6, 0)))), (1, .inl x1)]) dX4_edgeOn_5 (by decide) rfl ?_
  refine am_iload_n dX4_edgeOn_6 (List.Mem.head _) ?_
  refine am_ifgt (tgt := 12) dX4_edgeOn_7 (by decide) (fun c1 => ?_) (fun c1 => ?_)
  · replace h := h.1 c1
    refine am_iconst dX4_edgeOn_12 (by unfold am_rg; omega) ?_
    refine am_istore_n (ls' := [(3, .inl 0), (2, .inl xs0), (0, .inr (.inr (some (6, 0)))), (1, .inl x1)]) dX4_edgeOn_13 (by decide) rfl ?_
    refine am_iconst dX4_edgeOn_14 (by unfold am_rg; omega) ?_
    refine am_istore (ls' := [(4, .inl 0), (3, .inl 0), (2, .inl xs0), (0, .inr (.inr (some (6, 0)))), (1, .inl x1)]) dX4_edgeOn_15 (by decide) rfl ?_
    exact am_sub [3, 4, 2, 1, 0] rfl h
  · replace h := h.2 c1
    refine am_iload_n dX4_edgeOn_10 (List.Mem.head _) ?_
    exact am_ret (r := some (.inl xs0)) dX4_edgeOn_11 (Or.inl rfl) rfl h
theorem bX4_edgeOn_17 {SC : Nat → Nat} {X : mh_X} {d : Nat} {Q : Option am_V → am_W → Prop} {bc bs : Nat} {w : am_W} {x1 : Int} {x2 : Int} {x3 : Int} {x4 : Int}
    (h : (((w.1 6 0 3) ≤ x4 → Q (some (.inl (am_w ((am_w (x2 * 2)) + x3)))) w) ∧ (¬ (w.1 6 0 3) ≤ x4 → (0 ≤ x4 ∧ (x4 < 40 ∧ ((x1 < (w.1 11 x4.toNat 4) → am_A (mh_G X) SC (d + 6) mX4_edgeOn Q 55 [(0, .inr (.inr (some (6, 0)))), (1, .inl x1), (2, .inl x2), (3, .inl x3), (4, .inl x4)] [] w bc bs) ∧ (¬ x1 < (w.1 11 x4.toNat 4) → (((am_w ((w.1 11 x4.toNat 4) + 30)) ≤ x1 → am_A (mh_G X) SC (d + 6) mX4_edgeOn Q 55 [(0, .inr (.inr (some (6, 0)))), (1, .inl x1), (2, .inl x2), (3, .inl x3), (4, .inl x4)] [] w bc bs) ∧ (¬ (am_w ((w.1 11 x4.toNat 4) + 30)) ≤ x1 → am_A (mh_G X) SC (d + 6) mX4_edgeOn Q 55 [(0, .inr (.inr (some (6, 0)))), (1, .inl x1), (2, .inl x2), (3, .inl 2), (4, .inl x4)] [] w bc bs))))))))) :
    am_A (mh_G X) SC (d + 6) mX4_edgeOn Q 17 [(0, .inr (.inr (some (6, 0)))), (1, .inl x1), (2, .inl x2), (3, .inl x3), (4, .inl x4)] [] w bc bs := by
  refine am_iload dX4_edgeOn_17 (List.Mem.tail _ (List.Mem.tail _ (List.Mem.tail _ (List.Mem.tail _ (List.Mem.head _))))) ?_
  refine am_aload_n dX4_edgeOn_19 (List.Mem.head _) ?_
  refine am_getf (f := 3) (v := .inl (w.1 6 0 3)) dX4_edgeOn_20 hc_6 (by decide) wd_441 (by decide) rfl rfl ?_
  refine am_icmpge (tgt := 61) dX4_edgeOn_23 (by decide) (fun c1 => ?_) (fun c1 => ?_)
  · replace h := h.1 c1
    refine am_iload_n dX4_edgeOn_61 (List.Mem.tail _ (List.Mem.tail _ (List.Mem.head _))) ?_
    refine am_iconst dX4_edgeOn_62 (by unfold am_rg; omega) ?_
    refine am_imul dX4_edgeOn_63 ?_
    refine am_iload_n dX4_edgeOn_64 (List.Mem.tail _ (List.Mem.tail _ (List.Mem.tail _ (List.Mem.head _)))) ?_
    refine am_iadd dX4_edgeOn_65 ?_
    exact am_ret (r := some (.inl (am_w ((am_w (x2 * 2)) + x3)))) dX4_edgeOn_66 (Or.inl rfl) rfl h
  · replace h := h.2 c1
    refine am_aload_n dX4_edgeOn_26 (List.Mem.head _) ?_
    refine am_getf (f := 2) (v := .inr (.inr (some (49, 0)))) dX4_edgeOn_27 hc_6 (by decide) wd_440 (by decide) rfl rfl ?_
    refine am_iload dX4_edgeOn_30 (List.Mem.tail _ (List.Mem.tail _ (List.Mem.tail _ (List.Mem.tail _ (List.Mem.head _))))) ?_
    have o2 := h.1
    replace h := h.2
    have o3 := h.1
    replace h := h.2
    refine am_aaload (kd := 8) (r := some (11, x4.toNat)) dX4_edgeOn_32 (by decide) rfl (by decide) (by decide) o2 o3 rfl ?_
    refine am_getf (f := 4) (v := .inl (w.1 11 x4.toNat 4)) dX4_edgeOn_33 hc_7 (by decide) wd_405 (by decide) rfl rfl ?_
    refine am_istore (ls' := [(5, .inl (w.1 11 x4.toNat 4)), (0, .inr (.inr (some (6, 0)))), (1, .inl x1), (2, .inl x2), (3, .inl x3), (4, .inl x4)]) dX4_edgeOn_36 (by decide) rfl ?_
    refine am_iload_n dX4_edgeOn_38 (List.Mem.tail _ (List.Mem.tail _ (List.Mem.head _))) ?_
    refine am_iload dX4_edgeOn_39 (List.Mem.head _) ?_
    refine am_icmplt (tgt := 55) dX4_edgeOn_41 (by decide) (fun c4 => ?_) (fun c4 => ?_)
    · replace h := h.1 c4
      exact am_sub [1, 2, 3, 4, 5] rfl h
    · replace h := h.2 c4
      refine am_iload_n dX4_edgeOn_44 (List.Mem.tail _ (List.Mem.tail _ (List.Mem.head _))) ?_
      refine am_iload dX4_edgeOn_45 (List.Mem.head _) ?_
      refine am_bipush dX4_edgeOn_47 (by decide) (by unfold am_rg; omega) ?_
      refine am_iadd dX4_edgeOn_49 ?_
      refine am_icmpge (tgt := 55) dX4_edgeOn_50 (by decide) (fun c5 => ?_) (fun c5 => ?_)
      · replace h := h.1 c5
        exact am_sub [1, 2, 3, 4, 5] rfl h
      · replace h := h.2 c5
        refine am_iconst dX4_edgeOn_53 (by unfold am_rg; omega) ?_
        refine am_istore_n (ls' := [(3, .inl 2), (5, .inl (w.1 11 x4.toNat 4)), (0, .inr (.inr (some (6, 0)))), (1, .inl x1), (2, .inl x2), (4, .inl x4)]) dX4_edgeOn_54 (by decide) rfl ?_
        exact am_sub [2, 3, 4, 0, 5] rfl h
theorem bX4_edgeOn_55 {SC : Nat → Nat} {X : mh_X} {d : Nat} {Q : Option am_V → am_W → Prop} {bc bs : Nat} {w : am_W} {x1 : Int} {x2 : Int} {x3 : Int} {x4 : Int}
    (h : am_A (mh_G X) SC (d + 6) mX4_edgeOn Q 17 [(0, .inr (.inr (some (6, 0)))), (1, .inl x1), (2, .inl x2), (3, .inl x3), (4, .inl (am_w (x4 + 1)))] [] w bc bs) :
    am_A (mh_G X) SC (d + 6) mX4_edgeOn Q 55 [(0, .inr (.inr (some (6, 0)))), (1, .inl x1), (2, .inl x2), (3, .inl x3), (4, .inl x4)] [] w bc bs := by
  refine am_iinc (ls' := [(4, .inl (am_w (x4 + 1))), (0, .inr (.inr (some (6, 0)))), (1, .inl x1), (2, .inl x2), (3, .inl x3)]) dX4_edgeOn_55 (List.Mem.tail _ (List.Mem.tail _ (List.Mem.tail _ (List.Mem.tail _ (List.Mem.head _))))) (by decide) rfl ?_
  refine am_goto (tgt := 17) dX4_edgeOn_58 (by decide) ?_
  exact am_sub [1, 2, 3, 4, 0] rfl h
-- MourningHouse$Mourner.lastDayFor(I)I
theorem dX4_lastDayFor_0 : decode mX4_lastDayFor.2.1 0 = .ok (.aload_n 0, 1) := by decide +kernel
theorem dX4_lastDayFor_1 : decode mX4_lastDayFor.2.1 1 = .ok (.ldc 212, 2) := by decide +kernel
theorem dX4_lastDayFor_3 : decode mX4_lastDayFor.2.1 3 = .ok (.invokevirtual 167, 3) := by decide +kernel
theorem dX4_lastDayFor_6 : decode mX4_lastDayFor.2.1 6 = .ok (.iconst 0, 1) := by decide +kernel
theorem dX4_lastDayFor_7 : decode mX4_lastDayFor.2.1 7 = .ok (.istore_n 2, 1) := by decide +kernel
theorem dX4_lastDayFor_8 : decode mX4_lastDayFor.2.1 8 = .ok (.iload_n 2, 1) := by decide +kernel
theorem dX4_lastDayFor_9 : decode mX4_lastDayFor.2.1 9 = .ok (.aload_n 0, 1) := by decide +kernel
theorem dX4_lastDayFor_10 : decode mX4_lastDayFor.2.1 10 = .ok (.getfield 19, 3) := by decide +kernel
theorem dX4_lastDayFor_13 : decode mX4_lastDayFor.2.1 13 = .ok (.if_icmp .ge 50, 3) := by decide +kernel
theorem dX4_lastDayFor_16 : decode mX4_lastDayFor.2.1 16 = .ok (.aload_n 0, 1) := by decide +kernel
theorem dX4_lastDayFor_17 : decode mX4_lastDayFor.2.1 17 = .ok (.getfield 15, 3) := by decide +kernel
theorem dX4_lastDayFor_20 : decode mX4_lastDayFor.2.1 20 = .ok (.iload_n 2, 1) := by decide +kernel
theorem dX4_lastDayFor_21 : decode mX4_lastDayFor.2.1 21 = .ok (.aaload, 1) := by decide +kernel
theorem dX4_lastDayFor_22 : decode mX4_lastDayFor.2.1 22 = .ok (.astore_n 3, 1) := by decide +kernel
theorem dX4_lastDayFor_23 : decode mX4_lastDayFor.2.1 23 = .ok (.aload_n 3, 1) := by decide +kernel
theorem dX4_lastDayFor_24 : decode mX4_lastDayFor.2.1 24 = .ok (.getfield 213, 3) := by decide +kernel
theorem dX4_lastDayFor_27 : decode mX4_lastDayFor.2.1 27 = .ok (.iload_n 1, 1) := by decide +kernel
theorem dX4_lastDayFor_28 : decode mX4_lastDayFor.2.1 28 = .ok (.if_icmp .ne 29, 3) := by decide +kernel
theorem dX4_lastDayFor_31 : decode mX4_lastDayFor.2.1 31 = .ok (.aload_n 3, 1) := by decide +kernel
theorem dX4_lastDayFor_32 : decode mX4_lastDayFor.2.1 32 = .ok (.getfield 216, 3) := by decide +kernel
theorem dX4_lastDayFor_35 : decode mX4_lastDayFor.2.1 35 = .ok (.aload_n 3, 1) := by decide +kernel
theorem dX4_lastDayFor_36 : decode mX4_lastDayFor.2.1 36 = .ok (.getfield 158, 3) := by decide +kernel
theorem dX4_lastDayFor_39 : decode mX4_lastDayFor.2.1 39 = .ok (.if_icmp .ge 8, 3) := by decide +kernel
theorem dX4_lastDayFor_42 : decode mX4_lastDayFor.2.1 42 = .ok (.ldc 219, 2) := by decide +kernel
theorem dX4_lastDayFor_44 : decode mX4_lastDayFor.2.1 44 = .ok (.goto 12, 3) := by decide +kernel
theorem dX4_lastDayFor_47 : decode mX4_lastDayFor.2.1 47 = .ok (.aload_n 3, 1) := by decide +kernel
theorem dX4_lastDayFor_48 : decode mX4_lastDayFor.2.1 48 = .ok (.getfield 216, 3) := by decide +kernel
theorem dX4_lastDayFor_51 : decode mX4_lastDayFor.2.1 51 = .ok (.ldc 212, 2) := by decide +kernel
theorem dX4_lastDayFor_53 : decode mX4_lastDayFor.2.1 53 = .ok (.invokestatic 155, 3) := by decide +kernel
theorem dX4_lastDayFor_56 : decode mX4_lastDayFor.2.1 56 = .ok (.ireturn, 1) := by decide +kernel
theorem dX4_lastDayFor_57 : decode mX4_lastDayFor.2.1 57 = .ok (.iinc 2 1, 3) := by decide +kernel
theorem dX4_lastDayFor_60 : decode mX4_lastDayFor.2.1 60 = .ok (.goto (-52), 3) := by decide +kernel
theorem dX4_lastDayFor_63 : decode mX4_lastDayFor.2.1 63 = .ok (.ldc 219, 2) := by decide +kernel
theorem dX4_lastDayFor_65 : decode mX4_lastDayFor.2.1 65 = .ok (.ireturn, 1) := by decide +kernel
theorem bX4_lastDayFor_0 {SC : Nat → Nat} {X : mh_X} {d : Nat} {Q : Option am_V → am_W → Prop} {bc bs : Nat} {w : am_W} {x1 : Int}
    (h : am_M (mh_G X) SC (d + 4) 0 0 mX4_moveTo [.inr (.inr (some (6, 0))), .inl 73048] w (fun r w1 => am_A (mh_G X) SC (d + 5) mX4_lastDayFor Q 6 [(0, .inr (.inr (some (6, 0)))), (1, .inl x1)] (r.toList ++ []) w1 bc bs)) :
    am_A (mh_G X) SC (d + 5) mX4_lastDayFor Q 0 [(0, .inr (.inr (some (6, 0)))), (1, .inl x1)] [] w bc bs := by
  refine am_aload_n dX4_lastDayFor_0 (List.Mem.head _) ?_
  refine am_ldcV (n := 73048) dX4_lastDayFor_1 (by decide) wd_1296 (by unfold am_rg; omega) ?_
  exact am_callv (d' := d + 4) (kc := 0) (ks := 0) (as := [.inl 73048]) dX4_lastDayFor_3 wc_X4_moveTo wd_1242 wd_1244 wd_35 wd_118 ds_X4_moveTo (by decide) (by omega) (Nat.le_of_ble_eq_true rfl) (Nat.zero_le _) (Nat.zero_le _) hc_6 (by decide) rfl rfl h
theorem bX4_lastDayFor_6 {SC : Nat → Nat} {X : mh_X} {d : Nat} {Q : Option am_V → am_W → Prop} {bc bs : Nat} {w : am_W} {x1 : Int}
    (h : am_A (mh_G X) SC (d + 5) mX4_lastDayFor Q 8 [(0, .inr (.inr (some (6, 0)))), (1, .inl x1), (2, .inl 0)] [] w bc bs) :
    am_A (mh_G X) SC (d + 5) mX4_lastDayFor Q 6 [(0, .inr (.inr (some (6, 0)))), (1, .inl x1)] [] w bc bs := by
  refine am_iconst dX4_lastDayFor_6 (by unfold am_rg; omega) ?_
  refine am_istore_n (ls' := [(2, .inl 0), (0, .inr (.inr (some (6, 0)))), (1, .inl x1)]) dX4_lastDayFor_7 (by decide) rfl ?_
  exact am_sub [1, 2, 0] rfl h
theorem bX4_lastDayFor_8 {SC : Nat → Nat} {X : mh_X} {d : Nat} {Q : Option am_V → am_W → Prop} {bc bs : Nat} {w : am_W} {x1 : Int} {x2 : Int}
    (h : (((w.1 6 0 3) ≤ x2 → Q (some (.inl (-2147483648))) w) ∧ (¬ (w.1 6 0 3) ≤ x2 → (0 ≤ x2 ∧ (x2 < 40 ∧ ((¬ (w.1 11 x2.toNat 3) = x1 → am_A (mh_G X) SC (d + 5) mX4_lastDayFor Q 8 [(0, .inr (.inr (some (6, 0)))), (1, .inl x1), (2, .inl (am_w (x2 + 1)))] [] w bc bs) ∧ ((w.1 11 x2.toNat 3) = x1 → (((w.1 11 x2.toNat 4) ≤ (w.1 11 x2.toNat 8) → Q (some (.inl (min (w.1 11 x2.toNat 8) 73048))) w) ∧ (¬ (w.1 11 x2.toNat 4) ≤ (w.1 11 x2.toNat 8) → Q (some (.inl (-2147483648))) w))))))))) :
    am_A (mh_G X) SC (d + 5) mX4_lastDayFor Q 8 [(0, .inr (.inr (some (6, 0)))), (1, .inl x1), (2, .inl x2)] [] w bc bs := by
  refine am_iload_n dX4_lastDayFor_8 (List.Mem.tail _ (List.Mem.tail _ (List.Mem.head _))) ?_
  refine am_aload_n dX4_lastDayFor_9 (List.Mem.head _) ?_
  refine am_getf (f := 3) (v := .inl (w.1 6 0 3)) dX4_lastDayFor_10 hc_6 (by decide) wd_441 (by decide) rfl rfl ?_
  refine am_icmpge (tgt := 63) dX4_lastDayFor_13 (by decide) (fun c1 => ?_) (fun c1 => ?_)
  · replace h := h.1 c1
    refine am_ldcV (n := (-2147483648)) dX4_lastDayFor_63 (by decide) wd_1297 (by unfold am_rg; omega) ?_
    exact am_ret (r := some (.inl (-2147483648))) dX4_lastDayFor_65 (Or.inl rfl) rfl h
  · replace h := h.2 c1
    refine am_aload_n dX4_lastDayFor_16 (List.Mem.head _) ?_
    refine am_getf (f := 2) (v := .inr (.inr (some (49, 0)))) dX4_lastDayFor_17 hc_6 (by decide) wd_440 (by decide) rfl rfl ?_
    refine am_iload_n dX4_lastDayFor_20 (List.Mem.tail _ (List.Mem.tail _ (List.Mem.head _))) ?_
    have o2 := h.1
    replace h := h.2
    have o3 := h.1
    replace h := h.2
    refine am_aaload (kd := 8) (r := some (11, x2.toNat)) dX4_lastDayFor_21 (by decide) rfl (by decide) (by decide) o2 o3 rfl ?_
    refine am_astore_n (ls' := [(3, .inr (.inr (some (11, x2.toNat)))), (0, .inr (.inr (some (6, 0)))), (1, .inl x1), (2, .inl x2)]) dX4_lastDayFor_22 (by decide) rfl ?_
    refine am_aload_n dX4_lastDayFor_23 (List.Mem.head _) ?_
    refine am_getf (f := 3) (v := .inl (w.1 11 x2.toNat 3)) dX4_lastDayFor_24 hc_7 (by decide) wd_403 (by decide) rfl rfl ?_
    refine am_iload_n dX4_lastDayFor_27 (List.Mem.tail _ (List.Mem.tail _ (List.Mem.head _))) ?_
    refine am_icmpne (tgt := 57) dX4_lastDayFor_28 (by decide) (fun c4 => ?_) (fun c4 => ?_)
    · replace h := h.1 c4
      refine am_iinc (ls' := [(2, .inl (am_w (x2 + 1))), (3, .inr (.inr (some (11, x2.toNat)))), (0, .inr (.inr (some (6, 0)))), (1, .inl x1)]) dX4_lastDayFor_57 (List.Mem.tail _ (List.Mem.tail _ (List.Mem.tail _ (List.Mem.head _)))) (by decide) rfl ?_
      refine am_goto (tgt := 8) dX4_lastDayFor_60 (by decide) ?_
      exact am_sub [2, 3, 0] rfl h
    · replace h := h.2 c4
      refine am_aload_n dX4_lastDayFor_31 (List.Mem.head _) ?_
      refine am_getf (f := 8) (v := .inl (w.1 11 x2.toNat 8)) dX4_lastDayFor_32 hc_7 (by decide) wd_412 (by decide) rfl rfl ?_
      refine am_aload_n dX4_lastDayFor_35 (List.Mem.head _) ?_
      refine am_getf (f := 4) (v := .inl (w.1 11 x2.toNat 4)) dX4_lastDayFor_36 hc_7 (by decide) wd_405 (by decide) rfl rfl ?_
      refine am_icmpge (tgt := 47) dX4_lastDayFor_39 (by decide) (fun c5 => ?_) (fun c5 => ?_)
      · replace h := h.1 c5
        refine am_aload_n dX4_lastDayFor_47 (List.Mem.head _) ?_
        refine am_getf (f := 8) (v := .inl (w.1 11 x2.toNat 8)) dX4_lastDayFor_48 hc_7 (by decide) wd_412 (by decide) rfl rfl ?_
        refine am_ldcV (n := 73048) dX4_lastDayFor_51 (by decide) wd_1296 (by unfold am_rg; omega) ?_
        refine am_mmin dX4_lastDayFor_53 wd_1229 (by omega) (Nat.le_of_ble_eq_true rfl) ?_
        exact am_ret (r := some (.inl (min (w.1 11 x2.toNat 8) 73048))) dX4_lastDayFor_56 (Or.inl rfl) rfl h
      · replace h := h.2 c5
        refine am_ldcV (n := (-2147483648)) dX4_lastDayFor_42 (by decide) wd_1297 (by unfold am_rg; omega) ?_
        refine am_goto (tgt := 56) dX4_lastDayFor_44 (by decide) ?_
        exact am_ret (r := some (.inl (-2147483648))) dX4_lastDayFor_56 (Or.inl rfl) rfl h
-- MourningHouse$Page.has(I)Z
theorem dX6_has_0 : decode mX6_has.2.1 0 = .ok (.iload_n 1, 1) := by decide +kernel
theorem dX6_has_1 : decode mX6_has.2.1 1 = .ok (.ifCond .lt 15, 3) := by decide +kernel
theorem dX6_has_4 : decode mX6_has.2.1 4 = .ok (.iload_n 1, 1) := by decide +kernel
theorem dX6_has_5 : decode mX6_has.2.1 5 = .ok (.aload_n 0, 1) := by decide +kernel
theorem dX6_has_6 : decode mX6_has.2.1 6 = .ok (.getfield 13, 3) := by decide +kernel
theorem dX6_has_9 : decode mX6_has.2.1 9 = .ok (.if_icmp .ge 7, 3) := by decide +kernel
theorem dX6_has_12 : decode mX6_has.2.1 12 = .ok (.iconst 1, 1) := by decide +kernel
theorem dX6_has_13 : decode mX6_has.2.1 13 = .ok (.goto 4, 3) := by decide +kernel
theorem dX6_has_16 : decode mX6_has.2.1 16 = .ok (.iconst 0, 1) := by decide +kernel
theorem dX6_has_17 : decode mX6_has.2.1 17 = .ok (.ireturn, 1) := by decide +kernel
theorem sX6_has {SC : Nat → Nat} {X : mh_X} {d kc ks : Nat} {Q : Option am_V → am_W → Prop} {w : am_W} {x1 : Int}
    (h : Q (some (.inl (if (¬ x1 < 0 ∧ (¬ (w.1 3 0 1) ≤ x1)) then 1 else 0))) w) : am_M (mh_G X) SC (d + 1) kc ks mX6_has [.inr (.inr (some (3, 0))), .inl x1] w Q := by
  refine am_M_of (by decide) (Nat.le_of_ble_eq_true rfl) ?_
  show am_A (mh_G X) SC (d + 1) mX6_has Q 0 [(0, .inr (.inr (some (3, 0)))), (1, .inl x1)] [] w kc ks
  refine am_iload_n dX6_has_0 (List.Mem.tail _ (List.Mem.head _)) ?_
  refine am_iflt (tgt := 16) dX6_has_1 (by decide) (fun c1 => ?_) (fun c1 => ?_)
  · refine am_iconst dX6_has_16 (by unfold am_rg; omega) ?_
    rw [if_neg (by omega)] at h
    exact am_ret (r := some (.inl 0)) dX6_has_17 (Or.inr (Or.inl ⟨rfl, (Or.inl rfl)⟩)) rfl h
  · refine am_iload_n dX6_has_4 (List.Mem.tail _ (List.Mem.head _)) ?_
    refine am_aload_n dX6_has_5 (List.Mem.head _) ?_
    refine am_getf (f := 1) (v := .inl (w.1 3 0 1)) dX6_has_6 hc_2 (by decide) wd_195 (by decide) rfl rfl ?_
    refine am_icmpge (tgt := 16) dX6_has_9 (by decide) (fun c2 => ?_) (fun c2 => ?_)
    · refine am_iconst dX6_has_16 (by unfold am_rg; omega) ?_
      rw [if_neg (by omega)] at h
      exact am_ret (r := some (.inl 0)) dX6_has_17 (Or.inr (Or.inl ⟨rfl, (Or.inl rfl)⟩)) rfl h
    · refine am_iconst dX6_has_12 (by unfold am_rg; omega) ?_
      refine am_goto (tgt := 17) dX6_has_13 (by decide) ?_
      rw [if_pos (by omega)] at h
      exact am_ret (r := some (.inl 1)) dX6_has_17 (Or.inr (Or.inl ⟨rfl, (Or.inr rfl)⟩)) rfl h
-- MourningHouse$Planner.open(I)V
theorem dX7_open_0 : decode mX7_open.2.1 0 = .ok (.aload_n 0, 1) := by decide +kernel
theorem dX7_open_1 : decode mX7_open.2.1 1 = .ok (.iconst 0, 1) := by decide +kernel
theorem dX7_open_2 : decode mX7_open.2.1 2 = .ok (.putfield 38, 3) := by decide +kernel
theorem dX7_open_5 : decode mX7_open.2.1 5 = .ok (.aload_n 0, 1) := by decide +kernel
theorem dX7_open_6 : decode mX7_open.2.1 6 = .ok (.iload_n 1, 1) := by decide +kernel
theorem dX7_open_7 : decode mX7_open.2.1 7 = .ok (.putfield 42, 3) := by decide +kernel
theorem dX7_open_10 : decode mX7_open.2.1 10 = .ok (.return_, 1) := by decide +kernel
theorem sX7_open {SC : Nat → Nat} {X : mh_X} {d kc ks : Nat} {Q : Option am_V → am_W → Prop} {w : am_W} {x1 : Int}
    (h : Q none ((am_up (am_up w.1 8 0 9 0) 8 0 10 x1), w.2)) : am_M (mh_G X) SC (d + 1) kc ks mX7_open [.inr (.inr (some (8, 0))), .inl x1] w Q := by
  refine am_M_of (by decide) (Nat.le_of_ble_eq_true rfl) ?_
  show am_A (mh_G X) SC (d + 1) mX7_open Q 0 [(0, .inr (.inr (some (8, 0)))), (1, .inl x1)] [] w kc ks
  refine am_aload_n dX7_open_0 (List.Mem.head _) ?_
  refine am_iconst dX7_open_1 (by unfold am_rg; omega) ?_
  refine am_putf (f := 9) dX7_open_2 hc_9 (by decide) wd_538 rfl (Or.inl rfl) (Or.inl (by decide)) rfl ?_
  refine am_aload_n dX7_open_5 (List.Mem.head _) ?_
  refine am_iload_n dX7_open_6 (List.Mem.tail _ (List.Mem.head _)) ?_
  refine am_putf (f := 10) dX7_open_7 hc_9 (by decide) wd_539 rfl (Or.inl rfl) (Or.inl (by decide)) rfl ?_
  exact am_ret (r := none) dX7_open_10 rfl rfl h
-- MourningHouse$Planner.add(II)V
theorem dX7_add_0 : decode mX7_add.2.1 0 = .ok (.aload_n 0, 1) := by decide +kernel
theorem dX7_add_1 : decode mX7_add.2.1 1 = .ok (.getfield 38, 3) := by decide +kernel
theorem dX7_add_4 : decode mX7_add.2.1 4 = .ok (.iconst 5, 1) := by decide +kernel
theorem dX7_add_5 : decode mX7_add.2.1 5 = .ok (.if_icmp .ge 33, 3) := by decide +kernel
theorem dX7_add_8 : decode mX7_add.2.1 8 = .ok (.aload_n 0, 1) := by decide +kernel
theorem dX7_add_9 : decode mX7_add.2.1 9 = .ok (.getfield 11, 3) := by decide +kernel
theorem dX7_add_12 : decode mX7_add.2.1 12 = .ok (.aload_n 0, 1) := by decide +kernel
theorem dX7_add_13 : decode mX7_add.2.1 13 = .ok (.getfield 38, 3) := by decide +kernel
theorem dX7_add_16 : decode mX7_add.2.1 16 = .ok (.iload_n 1, 1) := by decide +kernel
theorem dX7_add_17 : decode mX7_add.2.1 17 = .ok (.iastore, 1) := by decide +kernel
theorem dX7_add_18 : decode mX7_add.2.1 18 = .ok (.aload_n 0, 1) := by decide +kernel
theorem dX7_add_19 : decode mX7_add.2.1 19 = .ok (.getfield 15, 3) := by decide +kernel
theorem dX7_add_22 : decode mX7_add.2.1 22 = .ok (.aload_n 0, 1) := by decide +kernel
theorem dX7_add_23 : decode mX7_add.2.1 23 = .ok (.getfield 38, 3) := by decide +kernel
theorem dX7_add_26 : decode mX7_add.2.1 26 = .ok (.iload_n 2, 1) := by decide +kernel
theorem dX7_add_27 : decode mX7_add.2.1 27 = .ok (.iastore, 1) := by decide +kernel
theorem dX7_add_28 : decode mX7_add.2.1 28 = .ok (.aload_n 0, 1) := by decide +kernel
theorem dX7_add_29 : decode mX7_add.2.1 29 = .ok (.dup, 1) := by decide +kernel
theorem dX7_add_30 : decode mX7_add.2.1 30 = .ok (.getfield 38, 3) := by decide +kernel
theorem dX7_add_33 : decode mX7_add.2.1 33 = .ok (.iconst 1, 1) := by decide +kernel
theorem dX7_add_34 : decode mX7_add.2.1 34 = .ok (.iadd, 1) := by decide +kernel
theorem dX7_add_35 : decode mX7_add.2.1 35 = .ok (.putfield 38, 3) := by decide +kernel
theorem dX7_add_38 : decode mX7_add.2.1 38 = .ok (.return_, 1) := by decide +kernel
theorem bX7_add_0 {SC : Nat → Nat} {X : mh_X} {d : Nat} {Q : Option am_V → am_W → Prop} {bc bs : Nat} {w : am_W} {x1 : Int} {x2 : Int}
    (h : ((5 ≤ (w.1 8 0 9) → Q none w) ∧ (¬ 5 ≤ (w.1 8 0 9) → (0 ≤ (w.1 8 0 9) ∧ ((w.1 8 0 9) < 5 ∧ Q none ((am_up (am_up (am_up w.1 58 0 (w.1 8 0 9).toNat x1) 59 0 (w.1 8 0 9).toNat x2) 8 0 9 (am_w ((w.1 8 0 9) + 1))), w.2)))))) :
    am_A (mh_G X) SC (d + 1) mX7_add Q 0 [(0, .inr (.inr (some (8, 0)))), (1, .inl x1), (2, .inl x2)] [] w bc bs := by
  refine am_aload_n dX7_add_0 (List.Mem.head _) ?_
  refine am_getf (f := 9) (v := .inl (w.1 8 0 9)) dX7_add_1 hc_9 (by decide) wd_538 (by decide) rfl rfl ?_
  refine am_iconst dX7_add_4 (by unfold am_rg; omega) ?_
  refine am_icmpge (tgt := 38) dX7_add_5 (by decide) (fun c1 => ?_) (fun c1 => ?_)
  · replace h := h.1 c1
    exact am_ret (r := none) dX7_add_38 rfl rfl h
  · replace h := h.2 c1
    refine am_aload_n dX7_add_8 (List.Mem.head _) ?_
    refine am_getf (f := 1) (v := .inr (.inr (some (58, 0)))) dX7_add_9 hc_9 (by decide) wd_530 (by decide) rfl rfl ?_
    refine am_aload_n dX7_add_12 (List.Mem.head _) ?_
    refine am_getf (f := 9) (v := .inl (w.1 8 0 9)) dX7_add_13 hc_9 (by decide) wd_538 (by decide) rfl rfl ?_
    refine am_iload_n dX7_add_16 (List.Mem.tail _ (List.Mem.head _)) ?_
    have o2 := h.1
    replace h := h.2
    have o3 := h.1
    replace h := h.2
    refine am_iastore dX7_add_17 (Or.inl (by decide)) rfl o2 o3 ?_
    refine am_aload_n dX7_add_18 (List.Mem.head _) ?_
    refine am_getf (f := 2) (v := .inr (.inr (some (59, 0)))) dX7_add_19 hc_9 (by decide) wd_531 (by decide) rfl rfl ?_
    refine am_aload_n dX7_add_22 (List.Mem.head _) ?_
    refine am_getf (f := 9) (v := .inl (w.1 8 0 9)) dX7_add_23 hc_9 (by decide) wd_538 (by decide) rfl rfl ?_
    refine am_iload_n dX7_add_26 (List.Mem.tail _ (List.Mem.tail _ (List.Mem.head _))) ?_
    refine am_iastore dX7_add_27 (Or.inl (by decide)) rfl o2 o3 ?_
    refine am_aload_n dX7_add_28 (List.Mem.head _) ?_
    refine am_dup dX7_add_29 rfl ?_
    refine am_getf (f := 9) (v := .inl (w.1 8 0 9)) dX7_add_30 hc_9 (by decide) wd_538 (by decide) rfl rfl ?_
    refine am_iconst dX7_add_33 (by unfold am_rg; omega) ?_
    refine am_iadd dX7_add_34 ?_
    refine am_putf (f := 9) dX7_add_35 hc_9 (by decide) wd_538 rfl (Or.inl rfl) (Or.inl (by decide)) rfl ?_
    exact am_ret (r := none) dX7_add_38 rfl rfl h
-- MourningHouse$Planner.wayOf(I)I
theorem dX7_wayOf_0 : decode mX7_wayOf.2.1 0 = .ok (.iload_n 1, 1) := by decide +kernel
theorem dX7_wayOf_1 : decode mX7_wayOf.2.1 1 = .ok (.ifCond .lt 20, 3) := by decide +kernel
theorem dX7_wayOf_4 : decode mX7_wayOf.2.1 4 = .ok (.iload_n 1, 1) := by decide +kernel
theorem dX7_wayOf_5 : decode mX7_wayOf.2.1 5 = .ok (.aload_n 0, 1) := by decide +kernel
theorem dX7_wayOf_6 : decode mX7_wayOf.2.1 6 = .ok (.getfield 38, 3) := by decide +kernel
theorem dX7_wayOf_9 : decode mX7_wayOf.2.1 9 = .ok (.if_icmp .ge 12, 3) := by decide +kernel
theorem dX7_wayOf_12 : decode mX7_wayOf.2.1 12 = .ok (.aload_n 0, 1) := by decide +kernel
theorem dX7_wayOf_13 : decode mX7_wayOf.2.1 13 = .ok (.getfield 24, 3) := by decide +kernel
theorem dX7_wayOf_16 : decode mX7_wayOf.2.1 16 = .ok (.iload_n 1, 1) := by decide +kernel
theorem dX7_wayOf_17 : decode mX7_wayOf.2.1 17 = .ok (.iaload, 1) := by decide +kernel
theorem dX7_wayOf_18 : decode mX7_wayOf.2.1 18 = .ok (.goto 4, 3) := by decide +kernel
theorem dX7_wayOf_21 : decode mX7_wayOf.2.1 21 = .ok (.iconst (-1), 1) := by decide +kernel
theorem dX7_wayOf_22 : decode mX7_wayOf.2.1 22 = .ok (.ireturn, 1) := by decide +kernel
theorem sX7_wayOf {SC : Nat → Nat} {X : mh_X} {d kc ks : Nat} {Q : Option am_V → am_W → Prop} {w : am_W} {x1 : Int} (Ho3 : ¬ x1 < 0 → ¬ (w.1 8 0 9) ≤ x1 → 0 ≤ x1) (Ho4 : ¬ x1 < 0 → ¬ (w.1 8 0 9) ≤ x1 → x1 < 5)
    (h : Q (some (.inl (if x1 < 0 then (-1) else (if (w.1 8 0 9) ≤ x1 then (-1) else (w.1 62 0 x1.toNat))))) w) : am_M (mh_G X) SC (d + 1) kc ks mX7_wayOf [.inr (.inr (some (8, 0))), .inl x1] w Q := by
  refine am_M_of (by decide) (Nat.le_of_ble_eq_true rfl) ?_
  show am_A (mh_G X) SC (d + 1) mX7_wayOf Q 0 [(0, .inr (.inr (some (8, 0)))), (1, .inl x1)] [] w kc ks
  refine am_iload_n dX7_wayOf_0 (List.Mem.tail _ (List.Mem.head _)) ?_
  refine am_iflt (tgt := 21) dX7_wayOf_1 (by decide) (fun c1 => ?_) (fun c1 => ?_)
  · refine am_iconst dX7_wayOf_21 (by unfold am_rg; omega) ?_
    rw [show ((if x1 < 0 then (-1) else (if (w.1 8 0 9) ≤ x1 then (-1) else (w.1 62 0 x1.toNat))) : Int) = (-1) from if_pos c1] at h
    exact am_ret (r := some (.inl (-1))) dX7_wayOf_22 (Or.inl rfl) rfl h
  · refine am_iload_n dX7_wayOf_4 (List.Mem.tail _ (List.Mem.head _)) ?_
    refine am_aload_n dX7_wayOf_5 (List.Mem.head _) ?_
    refine am_getf (f := 9) (v := .inl (w.1 8 0 9)) dX7_wayOf_6 hc_9 (by decide) wd_538 (by decide) rfl rfl ?_
    refine am_icmpge (tgt := 21) dX7_wayOf_9 (by decide) (fun c2 => ?_) (fun c2 => ?_)
    · refine am_iconst dX7_wayOf_21 (by unfold am_rg; omega) ?_
      rw [show ((if x1 < 0 then (-1) else (if (w.1 8 0 9) ≤ x1 then (-1) else (w.1 62 0 x1.toNat))) : Int) = (-1) from (if_neg c1).trans (if_pos c2)] at h
      exact am_ret (r := some (.inl (-1))) dX7_wayOf_22 (Or.inl rfl) rfl h
    · refine am_aload_n dX7_wayOf_12 (List.Mem.head _) ?_
      refine am_getf (f := 5) (v := .inr (.inr (some (62, 0)))) dX7_wayOf_13 hc_9 (by decide) wd_534 (by decide) rfl rfl ?_
      refine am_iload_n dX7_wayOf_16 (List.Mem.tail _ (List.Mem.head _)) ?_
      have o3 := Ho3 c1 c2
      have o4 := Ho4 c1 c2
      refine am_iaload (v := (w.1 62 0 x1.toNat)) dX7_wayOf_17 (by decide) rfl o3 o4 rfl ?_
      refine am_goto (tgt := 22) dX7_wayOf_18 (by decide) ?_
      rw [show ((if x1 < 0 then (-1) else (if (w.1 8 0 9) ≤ x1 then (-1) else (w.1 62 0 x1.toNat))) : Int) = (w.1 62 0 x1.toNat) from (if_neg c1).trans (if_neg c2)] at h
      exact am_ret (r := some (.inl (w.1 62 0 x1.toNat))) dX7_wayOf_22 (Or.inl rfl) rfl h
-- MourningHouse$Planner.dressOf(I)I
theorem dX7_dressOf_0 : decode mX7_dressOf.2.1 0 = .ok (.iload_n 1, 1) := by decide +kernel
theorem dX7_dressOf_1 : decode mX7_dressOf.2.1 1 = .ok (.ifCond .lt 20, 3) := by decide +kernel
theorem dX7_dressOf_4 : decode mX7_dressOf.2.1 4 = .ok (.iload_n 1, 1) := by decide +kernel
theorem dX7_dressOf_5 : decode mX7_dressOf.2.1 5 = .ok (.aload_n 0, 1) := by decide +kernel
theorem dX7_dressOf_6 : decode mX7_dressOf.2.1 6 = .ok (.getfield 38, 3) := by decide +kernel
theorem dX7_dressOf_9 : decode mX7_dressOf.2.1 9 = .ok (.if_icmp .ge 12, 3) := by decide +kernel
theorem dX7_dressOf_12 : decode mX7_dressOf.2.1 12 = .ok (.aload_n 0, 1) := by decide +kernel
theorem dX7_dressOf_13 : decode mX7_dressOf.2.1 13 = .ok (.getfield 27, 3) := by decide +kernel
theorem dX7_dressOf_16 : decode mX7_dressOf.2.1 16 = .ok (.iload_n 1, 1) := by decide +kernel
theorem dX7_dressOf_17 : decode mX7_dressOf.2.1 17 = .ok (.iaload, 1) := by decide +kernel
theorem dX7_dressOf_18 : decode mX7_dressOf.2.1 18 = .ok (.goto 4, 3) := by decide +kernel
theorem dX7_dressOf_21 : decode mX7_dressOf.2.1 21 = .ok (.iconst (-1), 1) := by decide +kernel
theorem dX7_dressOf_22 : decode mX7_dressOf.2.1 22 = .ok (.ireturn, 1) := by decide +kernel
theorem sX7_dressOf {SC : Nat → Nat} {X : mh_X} {d kc ks : Nat} {Q : Option am_V → am_W → Prop} {w : am_W} {x1 : Int} (Ho3 : ¬ x1 < 0 → ¬ (w.1 8 0 9) ≤ x1 → 0 ≤ x1) (Ho4 : ¬ x1 < 0 → ¬ (w.1 8 0 9) ≤ x1 → x1 < 5)
    (h : Q (some (.inl (if x1 < 0 then (-1) else (if (w.1 8 0 9) ≤ x1 then (-1) else (w.1 63 0 x1.toNat))))) w) : am_M (mh_G X) SC (d + 1) kc ks mX7_dressOf [.inr (.inr (some (8, 0))), .inl x1] w Q := by
  refine am_M_of (by decide) (Nat.le_of_ble_eq_true rfl) ?_
  show am_A (mh_G X) SC (d + 1) mX7_dressOf Q 0 [(0, .inr (.inr (some (8, 0)))), (1, .inl x1)] [] w kc ks
  refine am_iload_n dX7_dressOf_0 (List.Mem.tail _ (List.Mem.head _)) ?_
  refine am_iflt (tgt := 21) dX7_dressOf_1 (by decide) (fun c1 => ?_) (fun c1 => ?_)
  · refine am_iconst dX7_dressOf_21 (by unfold am_rg; omega) ?_
    rw [show ((if x1 < 0 then (-1) else (if (w.1 8 0 9) ≤ x1 then (-1) else (w.1 63 0 x1.toNat))) : Int) = (-1) from if_pos c1] at h
    exact am_ret (r := some (.inl (-1))) dX7_dressOf_22 (Or.inl rfl) rfl h
  · refine am_iload_n dX7_dressOf_4 (List.Mem.tail _ (List.Mem.head _)) ?_
    refine am_aload_n dX7_dressOf_5 (List.Mem.head _) ?_
    refine am_getf (f := 9) (v := .inl (w.1 8 0 9)) dX7_dressOf_6 hc_9 (by decide) wd_538 (by decide) rfl rfl ?_
    refine am_icmpge (tgt := 21) dX7_dressOf_9 (by decide) (fun c2 => ?_) (fun c2 => ?_)
    · refine am_iconst dX7_dressOf_21 (by unfold am_rg; omega) ?_
      rw [show ((if x1 < 0 then (-1) else (if (w.1 8 0 9) ≤ x1 then (-1) else (w.1 63 0 x1.toNat))) : Int) = (-1) from (if_neg c1).trans (if_pos c2)] at h
      exact am_ret (r := some (.inl (-1))) dX7_dressOf_22 (Or.inl rfl) rfl h
    · refine am_aload_n dX7_dressOf_12 (List.Mem.head _) ?_
      refine am_getf (f := 6) (v := .inr (.inr (some (63, 0)))) dX7_dressOf_13 hc_9 (by decide) wd_535 (by decide) rfl rfl ?_
      refine am_iload_n dX7_dressOf_16 (List.Mem.tail _ (List.Mem.head _)) ?_
      have o3 := Ho3 c1 c2
      have o4 := Ho4 c1 c2
      refine am_iaload (v := (w.1 63 0 x1.toNat)) dX7_dressOf_17 (by decide) rfl o3 o4 rfl ?_
      refine am_goto (tgt := 22) dX7_dressOf_18 (by decide) ?_
      rw [show ((if x1 < 0 then (-1) else (if (w.1 8 0 9) ≤ x1 then (-1) else (w.1 63 0 x1.toNat))) : Int) = (w.1 63 0 x1.toNat) from (if_neg c1).trans (if_neg c2)] at h
      exact am_ret (r := some (.inl (w.1 63 0 x1.toNat))) dX7_dressOf_22 (Or.inl rfl) rfl h
-- MourningHouse$Planner.freeHand(I)I
theorem dX7_freeHand_0 : decode mX7_freeHand.2.1 0 = .ok (.iload_n 1, 1) := by decide +kernel
theorem dX7_freeHand_1 : decode mX7_freeHand.2.1 1 = .ok (.iconst 4, 1) := by decide +kernel
theorem dX7_freeHand_2 : decode mX7_freeHand.2.1 2 = .ok (.imul, 1) := by decide +kernel
theorem dX7_freeHand_3 : decode mX7_freeHand.2.1 3 = .ok (.istore_n 2, 1) := by decide +kernel
theorem dX7_freeHand_4 : decode mX7_freeHand.2.1 4 = .ok (.iload_n 2, 1) := by decide +kernel
theorem dX7_freeHand_5 : decode mX7_freeHand.2.1 5 = .ok (.istore_n 3, 1) := by decide +kernel
theorem dX7_freeHand_6 : decode mX7_freeHand.2.1 6 = .ok (.iconst 1, 1) := by decide +kernel
theorem dX7_freeHand_7 : decode mX7_freeHand.2.1 7 = .ok (.istore 4, 2) := by decide +kernel
theorem dX7_freeHand_9 : decode mX7_freeHand.2.1 9 = .ok (.iload 4, 2) := by decide +kernel
theorem dX7_freeHand_11 : decode mX7_freeHand.2.1 11 = .ok (.aload_n 0, 1) := by decide +kernel
theorem dX7_freeHand_12 : decode mX7_freeHand.2.1 12 = .ok (.getfield 52, 3) := by decide +kernel
theorem dX7_freeHand_15 : decode mX7_freeHand.2.1 15 = .ok (.getfield 67, 3) := by decide +kernel
theorem dX7_freeHand_18 : decode mX7_freeHand.2.1 18 = .ok (.if_icmp .ge 32, 3) := by decide +kernel
theorem dX7_freeHand_21 : decode mX7_freeHand.2.1 21 = .ok (.aload_n 0, 1) := by decide +kernel
theorem dX7_freeHand_22 : decode mX7_freeHand.2.1 22 = .ok (.getfield 35, 3) := by decide +kernel
theorem dX7_freeHand_25 : decode mX7_freeHand.2.1 25 = .ok (.iload_n 2, 1) := by decide +kernel
theorem dX7_freeHand_26 : decode mX7_freeHand.2.1 26 = .ok (.iload 4, 2) := by decide +kernel
theorem dX7_freeHand_28 : decode mX7_freeHand.2.1 28 = .ok (.iadd, 1) := by decide +kernel
theorem dX7_freeHand_29 : decode mX7_freeHand.2.1 29 = .ok (.iaload, 1) := by decide +kernel
theorem dX7_freeHand_30 : decode mX7_freeHand.2.1 30 = .ok (.aload_n 0, 1) := by decide +kernel
theorem dX7_freeHand_31 : decode mX7_freeHand.2.1 31 = .ok (.getfield 35, 3) := by decide +kernel
theorem dX7_freeHand_34 : decode mX7_freeHand.2.1 34 = .ok (.iload_n 3, 1) := by decide +kernel
theorem dX7_freeHand_35 : decode mX7_freeHand.2.1 35 = .ok (.iaload, 1) := by decide +kernel
theorem dX7_freeHand_36 : decode mX7_freeHand.2.1 36 = .ok (.if_icmp .ge 8, 3) := by decide +kernel
theorem dX7_freeHand_39 : decode mX7_freeHand.2.1 39 = .ok (.iload_n 2, 1) := by decide +kernel
theorem dX7_freeHand_40 : decode mX7_freeHand.2.1 40 = .ok (.iload 4, 2) := by decide +kernel
theorem dX7_freeHand_42 : decode mX7_freeHand.2.1 42 = .ok (.iadd, 1) := by decide +kernel
theorem dX7_freeHand_43 : decode mX7_freeHand.2.1 43 = .ok (.istore_n 3, 1) := by decide +kernel
theorem dX7_freeHand_44 : decode mX7_freeHand.2.1 44 = .ok (.iinc 4 1, 3) := by decide +kernel
theorem dX7_freeHand_47 : decode mX7_freeHand.2.1 47 = .ok (.goto (-38), 3) := by decide +kernel
theorem dX7_freeHand_50 : decode mX7_freeHand.2.1 50 = .ok (.iload_n 3, 1) := by decide +kernel
theorem dX7_freeHand_51 : decode mX7_freeHand.2.1 51 = .ok (.ireturn, 1) := by decide +kernel
theorem bX7_freeHand_0 {SC : Nat → Nat} {X : mh_X} {d : Nat} {Q : Option am_V → am_W → Prop} {bc bs : Nat} {w : am_W} {x1 : Int}
    (h : am_A (mh_G X) SC (d + 1) mX7_freeHand Q 9 [(0, .inr (.inr (some (8, 0)))), (2, .inl (am_w (x1 * 4))), (3, .inl (am_w (x1 * 4))), (4, .inl 1)] [] w bc bs) :
    am_A (mh_G X) SC (d + 1) mX7_freeHand Q 0 [(0, .inr (.inr (some (8, 0)))), (1, .inl x1)] [] w bc bs := by
  refine am_iload_n dX7_freeHand_0 (List.Mem.tail _ (List.Mem.head _)) ?_
  refine am_iconst dX7_freeHand_1 (by unfold am_rg; omega) ?_
  refine am_imul dX7_freeHand_2 ?_
  refine am_istore_n (ls' := [(2, .inl (am_w (x1 * 4))), (0, .inr (.inr (some (8, 0)))), (1, .inl x1)]) dX7_freeHand_3 (by decide) rfl ?_
  refine am_iload_n dX7_freeHand_4 (List.Mem.head _) ?_
  refine am_istore_n (ls' := [(3, .inl (am_w (x1 * 4))), (2, .inl (am_w (x1 * 4))), (0, .inr (.inr (some (8, 0)))), (1, .inl x1)]) dX7_freeHand_5 (by decide) rfl ?_
  refine am_iconst dX7_freeHand_6 (by unfold am_rg; omega) ?_
  refine am_istore (ls' := [(4, .inl 1), (3, .inl (am_w (x1 * 4))), (2, .inl (am_w (x1 * 4))), (0, .inr (.inr (some (8, 0)))), (1, .inl x1)]) dX7_freeHand_7 (by decide) rfl ?_
  exact am_sub [3, 2, 1, 0] rfl h
theorem bX7_freeHand_9 {SC : Nat → Nat} {X : mh_X} {d : Nat} {Q : Option am_V → am_W → Prop} {bc bs : Nat} {w : am_W} {x2 : Int} {x3 : Int} {x4 : Int}
    (h : (((w.1 7 0 10) ≤ x4 → Q (some (.inl x3)) w) ∧ (¬ (w.1 7 0 10) ≤ x4 → (0 ≤ (am_w (x2 + x4)) ∧ ((am_w (x2 + x4)) < 24 ∧ (0 ≤ x3 ∧ (x3 < 24 ∧ (((w.1 65 0 x3.toNat) ≤ (w.1 65 0 (am_w (x2 + x4)).toNat) → am_A (mh_G X) SC (d + 1) mX7_freeHand Q 44 [(0, .inr (.inr (some (8, 0)))), (2, .inl x2), (3, .inl x3), (4, .inl x4)] [] w bc bs) ∧ (¬ (w.1 65 0 x3.toNat) ≤ (w.1 65 0 (am_w (x2 + x4)).toNat) → am_A (mh_G X) SC (d + 1) mX7_freeHand Q 44 [(0, .inr (.inr (some (8, 0)))), (2, .inl x2), (3, .inl (am_w (x2 + x4))), (4, .inl x4)] [] w bc bs))))))))) :
    am_A (mh_G X) SC (d + 1) mX7_freeHand Q 9 [(0, .inr (.inr (some (8, 0)))), (2, .inl x2), (3, .inl x3), (4, .inl x4)] [] w bc bs := by
  refine am_iload dX7_freeHand_9 (List.Mem.tail _ (List.Mem.tail _ (List.Mem.tail _ (List.Mem.head _)))) ?_
  refine am_aload_n dX7_freeHand_11 (List.Mem.head _) ?_
  refine am_getf (f := 0) (v := .inr (.inr (some (7, 0)))) dX7_freeHand_12 hc_9 (by decide) wd_529 (by decide) rfl rfl ?_
  refine am_getf (f := 10) (v := .inl (w.1 7 0 10)) dX7_freeHand_15 hc_8 (by decide) wd_494 (by decide) rfl rfl ?_
  refine am_icmpge (tgt := 50) dX7_freeHand_18 (by decide) (fun c1 => ?_) (fun c1 => ?_)
  · replace h := h.1 c1
    refine am_iload_n dX7_freeHand_50 (List.Mem.tail _ (List.Mem.tail _ (List.Mem.head _))) ?_
    exact am_ret (r := some (.inl x3)) dX7_freeHand_51 (Or.inl rfl) rfl h
  · replace h := h.2 c1
    refine am_aload_n dX7_freeHand_21 (List.Mem.head _) ?_
    refine am_getf (f := 8) (v := .inr (.inr (some (65, 0)))) dX7_freeHand_22 hc_9 (by decide) wd_537 (by decide) rfl rfl ?_
    refine am_iload_n dX7_freeHand_25 (List.Mem.tail _ (List.Mem.head _)) ?_
    refine am_iload dX7_freeHand_26 (List.Mem.tail _ (List.Mem.tail _ (List.Mem.tail _ (List.Mem.head _)))) ?_
    refine am_iadd dX7_freeHand_28 ?_
    have o2 := h.1
    replace h := h.2
    have o3 := h.1
    replace h := h.2
    refine am_iaload (v := (w.1 65 0 (am_w (x2 + x4)).toNat)) dX7_freeHand_29 (by decide) rfl o2 o3 rfl ?_
    refine am_aload_n dX7_freeHand_30 (List.Mem.head _) ?_
    refine am_getf (f := 8) (v := .inr (.inr (some (65, 0)))) dX7_freeHand_31 hc_9 (by decide) wd_537 (by decide) rfl rfl ?_
    refine am_iload_n dX7_freeHand_34 (List.Mem.tail _ (List.Mem.tail _ (List.Mem.head _))) ?_
    have o4 := h.1
    replace h := h.2
    have o5 := h.1
    replace h := h.2
    refine am_iaload (v := (w.1 65 0 x3.toNat)) dX7_freeHand_35 (by decide) rfl o4 o5 rfl ?_
    refine am_icmpge (tgt := 44) dX7_freeHand_36 (by decide) (fun c6 => ?_) (fun c6 => ?_)
    · replace h := h.1 c6
      exact h
    · replace h := h.2 c6
      refine am_iload_n dX7_freeHand_39 (List.Mem.tail _ (List.Mem.head _)) ?_
      refine am_iload dX7_freeHand_40 (List.Mem.tail _ (List.Mem.tail _ (List.Mem.tail _ (List.Mem.head _)))) ?_
      refine am_iadd dX7_freeHand_42 ?_
      refine am_istore_n (ls' := [(3, .inl (am_w (x2 + x4))), (0, .inr (.inr (some (8, 0)))), (2, .inl x2), (4, .inl x4)]) dX7_freeHand_43 (by decide) rfl ?_
      exact am_sub [1, 2, 0, 3] rfl h
theorem bX7_freeHand_44 {SC : Nat → Nat} {X : mh_X} {d : Nat} {Q : Option am_V → am_W → Prop} {bc bs : Nat} {w : am_W} {x2 : Int} {x3 : Int} {x4 : Int}
    (h : am_A (mh_G X) SC (d + 1) mX7_freeHand Q 9 [(0, .inr (.inr (some (8, 0)))), (2, .inl x2), (3, .inl x3), (4, .inl (am_w (x4 + 1)))] [] w bc bs) :
    am_A (mh_G X) SC (d + 1) mX7_freeHand Q 44 [(0, .inr (.inr (some (8, 0)))), (2, .inl x2), (3, .inl x3), (4, .inl x4)] [] w bc bs := by
  refine am_iinc (ls' := [(4, .inl (am_w (x4 + 1))), (0, .inr (.inr (some (8, 0)))), (2, .inl x2), (3, .inl x3)]) dX7_freeHand_44 (List.Mem.tail _ (List.Mem.tail _ (List.Mem.tail _ (List.Mem.head _)))) (by decide) rfl ?_
  refine am_goto (tgt := 9) dX7_freeHand_47 (by decide) ?_
  exact am_sub [1, 2, 3, 0] rfl h
-- MourningHouse$Planner.isInTime(II)Z
theorem dX7_isInTime_0 : decode mX7_isInTime.2.1 0 = .ok (.iload_n 1, 1) := by decide +kernel
theorem dX7_isInTime_1 : decode mX7_isInTime.2.1 1 = .ok (.iconst 4, 1) := by decide +kernel
theorem dX7_isInTime_2 : decode mX7_isInTime.2.1 2 = .ok (.imul, 1) := by decide +kernel
theorem dX7_isInTime_3 : decode mX7_isInTime.2.1 3 = .ok (.istore_n 3, 1) := by decide +kernel
theorem dX7_isInTime_4 : decode mX7_isInTime.2.1 4 = .ok (.iload_n 3, 1) := by decide +kernel
theorem dX7_isInTime_5 : decode mX7_isInTime.2.1 5 = .ok (.iconst 4, 1) := by decide +kernel
theorem dX7_isInTime_6 : decode mX7_isInTime.2.1 6 = .ok (.iadd, 1) := by decide +kernel
theorem dX7_isInTime_7 : decode mX7_isInTime.2.1 7 = .ok (.istore 4, 2) := by decide +kernel
theorem dX7_isInTime_9 : decode mX7_isInTime.2.1 9 = .ok (.iconst 0, 1) := by decide +kernel
theorem dX7_isInTime_10 : decode mX7_isInTime.2.1 10 = .ok (.istore 5, 2) := by decide +kernel
theorem dX7_isInTime_12 : decode mX7_isInTime.2.1 12 = .ok (.iload 5, 2) := by decide +kernel
theorem dX7_isInTime_14 : decode mX7_isInTime.2.1 14 = .ok (.iconst 4, 1) := by decide +kernel
theorem dX7_isInTime_15 : decode mX7_isInTime.2.1 15 = .ok (.if_icmp .ge 28, 3) := by decide +kernel
theorem dX7_isInTime_18 : decode mX7_isInTime.2.1 18 = .ok (.aload_n 0, 1) := by decide +kernel
theorem dX7_isInTime_19 : decode mX7_isInTime.2.1 19 = .ok (.getfield 35, 3) := by decide +kernel
theorem dX7_isInTime_22 : decode mX7_isInTime.2.1 22 = .ok (.iload 4, 2) := by decide +kernel
theorem dX7_isInTime_24 : decode mX7_isInTime.2.1 24 = .ok (.iload 5, 2) := by decide +kernel
theorem dX7_isInTime_26 : decode mX7_isInTime.2.1 26 = .ok (.iadd, 1) := by decide +kernel
theorem dX7_isInTime_27 : decode mX7_isInTime.2.1 27 = .ok (.aload_n 0, 1) := by decide +kernel
theorem dX7_isInTime_28 : decode mX7_isInTime.2.1 28 = .ok (.getfield 35, 3) := by decide +kernel
theorem dX7_isInTime_31 : decode mX7_isInTime.2.1 31 = .ok (.iload_n 3, 1) := by decide +kernel
theorem dX7_isInTime_32 : decode mX7_isInTime.2.1 32 = .ok (.iload 5, 2) := by decide +kernel
theorem dX7_isInTime_34 : decode mX7_isInTime.2.1 34 = .ok (.iadd, 1) := by decide +kernel
theorem dX7_isInTime_35 : decode mX7_isInTime.2.1 35 = .ok (.iaload, 1) := by decide +kernel
theorem dX7_isInTime_36 : decode mX7_isInTime.2.1 36 = .ok (.iastore, 1) := by decide +kernel
theorem dX7_isInTime_37 : decode mX7_isInTime.2.1 37 = .ok (.iinc 5 1, 3) := by decide +kernel
theorem dX7_isInTime_40 : decode mX7_isInTime.2.1 40 = .ok (.goto (-28), 3) := by decide +kernel
theorem dX7_isInTime_43 : decode mX7_isInTime.2.1 43 = .ok (.iload_n 2, 1) := by decide +kernel
theorem dX7_isInTime_44 : decode mX7_isInTime.2.1 44 = .ok (.iconst 2, 1) := by decide +kernel
theorem dX7_isInTime_45 : decode mX7_isInTime.2.1 45 = .ok (.if_icmp .eq 10, 3) := by decide +kernel
theorem dX7_isInTime_48 : decode mX7_isInTime.2.1 48 = .ok (.iload_n 2, 1) := by decide +kernel
theorem dX7_isInTime_49 : decode mX7_isInTime.2.1 49 = .ok (.iconst 3, 1) := by decide +kernel
theorem dX7_isInTime_50 : decode mX7_isInTime.2.1 50 = .ok (.if_icmp .eq 5, 3) := by decide +kernel
theorem dX7_isInTime_53 : decode mX7_isInTime.2.1 53 = .ok (.iconst 1, 1) := by decide +kernel
theorem dX7_isInTime_54 : decode mX7_isInTime.2.1 54 = .ok (.ireturn, 1) := by decide +kernel
theorem dX7_isInTime_55 : decode mX7_isInTime.2.1 55 = .ok (.aload_n 0, 1) := by decide +kernel
theorem dX7_isInTime_56 : decode mX7_isInTime.2.1 56 = .ok (.getfield 52, 3) := by decide +kernel
theorem dX7_isInTime_59 : decode mX7_isInTime.2.1 59 = .ok (.getfield 67, 3) := by decide +kernel
theorem dX7_isInTime_62 : decode mX7_isInTime.2.1 62 = .ok (.ifCond .ne 5, 3) := by decide +kernel
theorem dX7_isInTime_65 : decode mX7_isInTime.2.1 65 = .ok (.iconst 0, 1) := by decide +kernel
theorem dX7_isInTime_66 : decode mX7_isInTime.2.1 66 = .ok (.ireturn, 1) := by decide +kernel
theorem dX7_isInTime_67 : decode mX7_isInTime.2.1 67 = .ok (.aload_n 0, 1) := by decide +kernel
theorem dX7_isInTime_68 : decode mX7_isInTime.2.1 68 = .ok (.iload_n 1, 1) := by decide +kernel
theorem dX7_isInTime_69 : decode mX7_isInTime.2.1 69 = .ok (.iconst 1, 1) := by decide +kernel
theorem dX7_isInTime_70 : decode mX7_isInTime.2.1 70 = .ok (.iadd, 1) := by decide +kernel
theorem dX7_isInTime_71 : decode mX7_isInTime.2.1 71 = .ok (.invokevirtual 70, 3) := by decide +kernel
theorem dX7_isInTime_74 : decode mX7_isInTime.2.1 74 = .ok (.istore 5, 2) := by decide +kernel
theorem dX7_isInTime_76 : decode mX7_isInTime.2.1 76 = .ok (.aload_n 0, 1) := by decide +kernel
theorem dX7_isInTime_77 : decode mX7_isInTime.2.1 77 = .ok (.getfield 35, 3) := by decide +kernel
theorem dX7_isInTime_80 : decode mX7_isInTime.2.1 80 = .ok (.iload 5, 2) := by decide +kernel
theorem dX7_isInTime_82 : decode mX7_isInTime.2.1 82 = .ok (.dup2, 1) := by decide +kernel
theorem dX7_isInTime_83 : decode mX7_isInTime.2.1 83 = .ok (.iaload, 1) := by decide +kernel
theorem dX7_isInTime_84 : decode mX7_isInTime.2.1 84 = .ok (.iload_n 2, 1) := by decide +kernel
theorem dX7_isInTime_85 : decode mX7_isInTime.2.1 85 = .ok (.iconst 2, 1) := by decide +kernel
theorem dX7_isInTime_86 : decode mX7_isInTime.2.1 86 = .ok (.if_icmp .ne 7, 3) := by decide +kernel
theorem dX7_isInTime_89 : decode mX7_isInTime.2.1 89 = .ok (.iconst 2, 1) := by decide +kernel
theorem dX7_isInTime_90 : decode mX7_isInTime.2.1 90 = .ok (.goto 4, 3) := by decide +kernel
theorem dX7_isInTime_93 : decode mX7_isInTime.2.1 93 = .ok (.iconst 3, 1) := by decide +kernel
theorem dX7_isInTime_94 : decode mX7_isInTime.2.1 94 = .ok (.iadd, 1) := by decide +kernel
theorem dX7_isInTime_95 : decode mX7_isInTime.2.1 95 = .ok (.iastore, 1) := by decide +kernel
theorem dX7_isInTime_96 : decode mX7_isInTime.2.1 96 = .ok (.aload_n 0, 1) := by decide +kernel
theorem dX7_isInTime_97 : decode mX7_isInTime.2.1 97 = .ok (.getfield 35, 3) := by decide +kernel
theorem dX7_isInTime_100 : decode mX7_isInTime.2.1 100 = .ok (.iload 5, 2) := by decide +kernel
theorem dX7_isInTime_102 : decode mX7_isInTime.2.1 102 = .ok (.iaload, 1) := by decide +kernel
theorem dX7_isInTime_103 : decode mX7_isInTime.2.1 103 = .ok (.aload_n 0, 1) := by decide +kernel
theorem dX7_isInTime_104 : decode mX7_isInTime.2.1 104 = .ok (.getfield 42, 3) := by decide +kernel
theorem dX7_isInTime_107 : decode mX7_isInTime.2.1 107 = .ok (.if_icmp .gt 7, 3) := by decide +kernel
theorem dX7_isInTime_110 : decode mX7_isInTime.2.1 110 = .ok (.iconst 1, 1) := by decide +kernel
theorem dX7_isInTime_111 : decode mX7_isInTime.2.1 111 = .ok (.goto 4, 3) := by decide +kernel
theorem dX7_isInTime_114 : decode mX7_isInTime.2.1 114 = .ok (.iconst 0, 1) := by decide +kernel
theorem dX7_isInTime_115 : decode mX7_isInTime.2.1 115 = .ok (.ireturn, 1) := by decide +kernel
theorem bX7_isInTime_0 {SC : Nat → Nat} {X : mh_X} {d : Nat} {Q : Option am_V → am_W → Prop} {bc bs : Nat} {w : am_W} {x1 : Int} {x2 : Int}
    (h : am_A (mh_G X) SC (d + 2) mX7_isInTime Q 12 [(0, .inr (.inr (some (8, 0)))), (1, .inl x1), (2, .inl x2), (3, .inl (am_w (x1 * 4))), (4, .inl (am_w ((am_w (x1 * 4)) + 4))), (5, .inl 0)] [] w bc bs) :
    am_A (mh_G X) SC (d + 2) mX7_isInTime Q 0 [(0, .inr (.inr (some (8, 0)))), (1, .inl x1), (2, .inl x2)] [] w bc bs := by
  refine am_iload_n dX7_isInTime_0 (List.Mem.tail _ (List.Mem.head _)) ?_
  refine am_iconst dX7_isInTime_1 (by unfold am_rg; omega) ?_
  refine am_imul dX7_isInTime_2 ?_
  refine am_istore_n (ls' := [(3, .inl (am_w (x1 * 4))), (0, .inr (.inr (some (8, 0)))), (1, .inl x1), (2, .inl x2)]) dX7_isInTime_3 (by decide) rfl ?_
  refine am_iload_n dX7_isInTime_4 (List.Mem.head _) ?_
  refine am_iconst dX7_isInTime_5 (by unfold am_rg; omega) ?_
  refine am_iadd dX7_isInTime_6 ?_
  refine am_istore (ls' := [(4, .inl (am_w ((am_w (x1 * 4)) + 4))), (3, .inl (am_w (x1 * 4))), (0, .inr (.inr (some (8, 0)))), (1, .inl x1), (2, .inl x2)]) dX7_isInTime_7 (by decide) rfl ?_
  refine am_iconst dX7_isInTime_9 (by unfold am_rg; omega) ?_
  refine am_istore (ls' := [(5, .inl 0), (4, .inl (am_w ((am_w (x1 * 4)) + 4))), (3, .inl (am_w (x1 * 4))), (0, .inr (.inr (some (8, 0)))), (1, .inl x1), (2, .inl x2)]) dX7_isInTime_10 (by decide) rfl ?_
  exact am_sub [3, 4, 5, 2, 1, 0] rfl h
theorem bX7_isInTime_12 {SC : Nat → Nat} {X : mh_X} {d : Nat} {Q : Option am_V → am_W → Prop} {bc bs : Nat} {w : am_W} {x1 : Int} {x2 : Int} {x3 : Int} {x4 : Int} {x5 : Int}
    (h : ((4 ≤ x5 → ((x2 = 2 → am_A (mh_G X) SC (d + 2) mX7_isInTime Q 55 [(0, .inr (.inr (some (8, 0)))), (1, .inl x1), (2, .inl x2)] [] w bc bs) ∧ (¬ x2 = 2 → ((x2 = 3 → am_A (mh_G X) SC (d + 2) mX7_isInTime Q 55 [(0, .inr (.inr (some (8, 0)))), (1, .inl x1), (2, .inl x2)] [] w bc bs) ∧ (¬ x2 = 3 → Q (some (.inl 1)) w))))) ∧ (¬ 4 ≤ x5 → (0 ≤ (am_w (x3 + x5)) ∧ ((am_w (x3 + x5)) < 24 ∧ (0 ≤ (am_w (x4 + x5)) ∧ ((am_w (x4 + x5)) < 24 ∧ am_A (mh_G X) SC (d + 2) mX7_isInTime Q 12 [(0, .inr (.inr (some (8, 0)))), (1, .inl x1), (2, .inl x2), (3, .inl x3), (4, .inl x4), (5, .inl (am_w (x5 + 1)))] [] ((am_up w.1 65 0 (am_w (x4 + x5)).toNat (w.1 65 0 (am_w (x3 + x5)).toNat)), w.2) bc bs))))))) :
    am_A (mh_G X) SC (d + 2) mX7_isInTime Q 12 [(0, .inr (.inr (some (8, 0)))), (1, .inl x1), (2, .inl x2), (3, .inl x3), (4, .inl x4), (5, .inl x5)] [] w bc bs := by
  refine am_iload dX7_isInTime_12 (List.Mem.tail _ (List.Mem.tail _ (List.Mem.tail _ (List.Mem.tail _ (List.Mem.tail _ (List.Mem.head _)))))) ?_
  refine am_iconst dX7_isInTime_14 (by unfold am_rg; omega) ?_
  refine am_icmpge (tgt := 43) dX7_isInTime_15 (by decide) (fun c1 => ?_) (fun c1 => ?_)
  · replace h := h.1 c1
    refine am_iload_n dX7_isInTime_43 (List.Mem.tail _ (List.Mem.tail _ (List.Mem.head _))) ?_
    refine am_iconst dX7_isInTime_44 (by unfold am_rg; omega) ?_
    refine am_icmpeq (tgt := 55) dX7_isInTime_45 (by decide) (fun c2 => ?_) (fun c2 => ?_)
    · replace h := h.1 c2
      exact am_sub [0, 1, 2] rfl h
    · replace h := h.2 c2
      refine am_iload_n dX7_isInTime_48 (List.Mem.tail _ (List.Mem.tail _ (List.Mem.head _))) ?_
      refine am_iconst dX7_isInTime_49 (by unfold am_rg; omega) ?_
      refine am_icmpeq (tgt := 55) dX7_isInTime_50 (by decide) (fun c3 => ?_) (fun c3 => ?_)
      · replace h := h.1 c3
        exact am_sub [0, 1, 2] rfl h
      · replace h := h.2 c3
        refine am_iconst dX7_isInTime_53 (by unfold am_rg; omega) ?_
        exact am_ret (r := some (.inl 1)) dX7_isInTime_54 (Or.inr (Or.inl ⟨rfl, (Or.inr rfl)⟩)) rfl h
  · replace h := h.2 c1
    refine am_aload_n dX7_isInTime_18 (List.Mem.head _) ?_
    refine am_getf (f := 8) (v := .inr (.inr (some (65, 0)))) dX7_isInTime_19 hc_9 (by decide) wd_537 (by decide) rfl rfl ?_
    refine am_iload dX7_isInTime_22 (List.Mem.tail _ (List.Mem.tail _ (List.Mem.tail _ (List.Mem.tail _ (List.Mem.head _))))) ?_
    refine am_iload dX7_isInTime_24 (List.Mem.tail _ (List.Mem.tail _ (List.Mem.tail _ (List.Mem.tail _ (List.Mem.tail _ (List.Mem.head _)))))) ?_
    refine am_iadd dX7_isInTime_26 ?_
    refine am_aload_n dX7_isInTime_27 (List.Mem.head _) ?_
    refine am_getf (f := 8) (v := .inr (.inr (some (65, 0)))) dX7_isInTime_28 hc_9 (by decide) wd_537 (by decide) rfl rfl ?_
    refine am_iload_n dX7_isInTime_31 (List.Mem.tail _ (List.Mem.tail _ (List.Mem.tail _ (List.Mem.head _)))) ?_
    refine am_iload dX7_isInTime_32 (List.Mem.tail _ (List.Mem.tail _ (List.Mem.tail _ (List.Mem.tail _ (List.Mem.tail _ (List.Mem.head _)))))) ?_
    refine am_iadd dX7_isInTime_34 ?_
    have o4 := h.1
    replace h := h.2
    have o5 := h.1
    replace h := h.2
    refine am_iaload (v := (w.1 65 0 (am_w (x3 + x5)).toNat)) dX7_isInTime_35 (by decide) rfl o4 o5 rfl ?_
    have o6 := h.1
    replace h := h.2
    have o7 := h.1
    replace h := h.2
    refine am_iastore dX7_isInTime_36 (Or.inl (by decide)) rfl o6 o7 ?_
    refine am_iinc (ls' := [(5, .inl (am_w (x5 + 1))), (0, .inr (.inr (some (8, 0)))), (1, .inl x1), (2, .inl x2), (3, .inl x3), (4, .inl x4)]) dX7_isInTime_37 (List.Mem.tail _ (List.Mem.tail _ (List.Mem.tail _ (List.Mem.tail _ (List.Mem.tail _ (List.Mem.head _)))))) (by decide) rfl ?_
    refine am_goto (tgt := 12) dX7_isInTime_40 (by decide) ?_
    exact am_sub [1, 2, 3, 4, 5, 0] rfl h
theorem bX7_isInTime_55 {SC : Nat → Nat} {X : mh_X} {d : Nat} {Q : Option am_V → am_W → Prop} {bc bs : Nat} {w : am_W} {x1 : Int} {x2 : Int}
    (h : ((¬ (w.1 7 0 10) = 0 → am_M (mh_G X) SC (d + 1) 0 0 mX7_freeHand [.inr (.inr (some (8, 0))), .inl (am_w (x1 + 1))] w (fun r w1 => am_A (mh_G X) SC (d + 2) mX7_isInTime Q 74 [(0, .inr (.inr (some (8, 0)))), (1, .inl x1), (2, .inl x2)] (r.toList ++ []) w1 bc bs)) ∧ ((w.1 7 0 10) = 0 → Q (some (.inl 0)) w))) :
    am_A (mh_G X) SC (d + 2) mX7_isInTime Q 55 [(0, .inr (.inr (some (8, 0)))), (1, .inl x1), (2, .inl x2)] [] w bc bs := by
  refine am_aload_n dX7_isInTime_55 (List.Mem.head _) ?_
  refine am_getf (f := 0) (v := .inr (.inr (some (7, 0)))) dX7_isInTime_56 hc_9 (by decide) wd_529 (by decide) rfl rfl ?_
  refine am_getf (f := 10) (v := .inl (w.1 7 0 10)) dX7_isInTime_59 hc_8 (by decide) wd_494 (by decide) rfl rfl ?_
  refine am_ifne (tgt := 67) dX7_isInTime_62 (by decide) (fun c1 => ?_) (fun c1 => ?_)
  · replace h := h.1 c1
    refine am_aload_n dX7_isInTime_67 (List.Mem.head _) ?_
    refine am_iload_n dX7_isInTime_68 (List.Mem.tail _ (List.Mem.head _)) ?_
    refine am_iconst dX7_isInTime_69 (by unfold am_rg; omega) ?_
    refine am_iadd dX7_isInTime_70 ?_
    exact am_callv (d' := d + 1) (kc := 0) (ks := 0) (as := [.inl (am_w (x1 + 1))]) dX7_isInTime_71 wc_X7_freeHand wd_1438 wd_1440 wd_45 wd_121 ds_X7_freeHand (by decide) (by omega) (Nat.le_of_ble_eq_true rfl) (Nat.zero_le _) (Nat.zero_le _) hc_9 (by decide) rfl rfl h
  · replace h := h.2 c1
    refine am_iconst dX7_isInTime_65 (by unfold am_rg; omega) ?_
    exact am_ret (r := some (.inl 0)) dX7_isInTime_66 (Or.inr (Or.inl ⟨rfl, (Or.inl rfl)⟩)) rfl h
theorem bX7_isInTime_74 {SC : Nat → Nat} {X : mh_X} {d : Nat} {Q : Option am_V → am_W → Prop} {bc bs : Nat} {w : am_W} {x1 : Int} {x2 : Int} {xs0 : Int}
    (h : (0 ≤ xs0 ∧ (xs0 < 24 ∧ ((¬ x2 = 2 → am_A (mh_G X) SC (d + 2) mX7_isInTime Q 94 [(0, .inr (.inr (some (8, 0)))), (5, .inl xs0)] [.inl 3, .inl (w.1 65 0 xs0.toNat), .inl xs0, .inr (.inr (some (65, 0)))] w bc bs) ∧ (x2 = 2 → am_A (mh_G X) SC (d + 2) mX7_isInTime Q 94 [(0, .inr (.inr (some (8, 0)))), (5, .inl xs0)] [.inl 2, .inl (w.1 65 0 xs0.toNat), .inl xs0, .inr (.inr (some (65, 0)))] w bc bs))))) :
    am_A (mh_G X) SC (d + 2) mX7_isInTime Q 74 [(0, .inr (.inr (some (8, 0)))), (1, .inl x1), (2, .inl x2)] [.inl xs0] w bc bs := by
  refine am_istore (ls' := [(5, .inl xs0), (0, .inr (.inr (some (8, 0)))), (1, .inl x1), (2, .inl x2)]) dX7_isInTime_74 (by decide) rfl ?_
  refine am_aload_n dX7_isInTime_76 (List.Mem.tail _ (List.Mem.head _)) ?_
  refine am_getf (f := 8) (v := .inr (.inr (some (65, 0)))) dX7_isInTime_77 hc_9 (by decide) wd_537 (by decide) rfl rfl ?_
  refine am_iload dX7_isInTime_80 (List.Mem.head _) ?_
  refine am_dup2 dX7_isInTime_82 rfl rfl ?_
  have o1 := h.1
  replace h := h.2
  have o2 := h.1
  replace h := h.2
  refine am_iaload (v := (w.1 65 0 xs0.toNat)) dX7_isInTime_83 (by decide) rfl o1 o2 rfl ?_
  refine am_iload_n dX7_isInTime_84 (List.Mem.tail _ (List.Mem.tail _ (List.Mem.tail _ (List.Mem.head _)))) ?_
  refine am_iconst dX7_isInTime_85 (by unfold am_rg; omega) ?_
  refine am_icmpne (tgt := 93) dX7_isInTime_86 (by decide) (fun c3 => ?_) (fun c3 => ?_)
  · replace h := h.1 c3
    refine am_iconst dX7_isInTime_93 (by unfold am_rg; omega) ?_
    exact am_sub [1, 0] rfl h
  · replace h := h.2 c3
    refine am_iconst dX7_isInTime_89 (by unfold am_rg; omega) ?_
    refine am_goto (tgt := 94) dX7_isInTime_90 (by decide) ?_
    exact am_sub [1, 0] rfl h
theorem bX7_isInTime_94 {SC : Nat → Nat} {X : mh_X} {d : Nat} {Q : Option am_V → am_W → Prop} {bc bs : Nat} {w : am_W} {x5 : Int} {xs0 : Int} {xs1 : Int} {xs2 : Int}
    (h : (0 ≤ xs2 ∧ (xs2 < 24 ∧ (0 ≤ x5 ∧ (x5 < 24 ∧ (((w.1 8 0 10) < ((am_up w.1 65 0 xs2.toNat (am_w (xs1 + xs0))) 65 0 x5.toNat) → Q (some (.inl 0)) ((am_up w.1 65 0 xs2.toNat (am_w (xs1 + xs0))), w.2)) ∧ (¬ (w.1 8 0 10) < ((am_up w.1 65 0 xs2.toNat (am_w (xs1 + xs0))) 65 0 x5.toNat) → Q (some (.inl 1)) ((am_up w.1 65 0 xs2.toNat (am_w (xs1 + xs0))), w.2)))))))) :
    am_A (mh_G X) SC (d + 2) mX7_isInTime Q 94 [(0, .inr (.inr (some (8, 0)))), (5, .inl x5)] [.inl xs0, .inl xs1, .inl xs2, .inr (.inr (some (65, 0)))] w bc bs := by
  refine am_iadd dX7_isInTime_94 ?_
  have o1 := h.1
  replace h := h.2
  have o2 := h.1
  replace h := h.2
  refine am_iastore dX7_isInTime_95 (Or.inl (by decide)) rfl o1 o2 ?_
  refine am_aload_n dX7_isInTime_96 (List.Mem.head _) ?_
  refine am_getf (f := 8) (v := .inr (.inr (some (65, 0)))) dX7_isInTime_97 hc_9 (by decide) wd_537 (by decide) rfl rfl ?_
  refine am_iload dX7_isInTime_100 (List.Mem.tail _ (List.Mem.head _)) ?_
  have o3 := h.1
  replace h := h.2
  have o4 := h.1
  replace h := h.2
  refine am_iaload (v := ((am_up w.1 65 0 xs2.toNat (am_w (xs1 + xs0))) 65 0 x5.toNat)) dX7_isInTime_102 (by decide) rfl o3 o4 rfl ?_
  refine am_aload_n dX7_isInTime_103 (List.Mem.head _) ?_
  refine am_getf (f := 10) (v := .inl (w.1 8 0 10)) dX7_isInTime_104 hc_9 (by decide) wd_539 (by decide) rfl rfl ?_
  refine am_icmpgt (tgt := 114) dX7_isInTime_107 (by decide) (fun c5 => ?_) (fun c5 => ?_)
  · replace h := h.1 c5
    refine am_iconst dX7_isInTime_114 (by unfold am_rg; omega) ?_
    exact am_ret (r := some (.inl 0)) dX7_isInTime_115 (Or.inr (Or.inl ⟨rfl, (Or.inl rfl)⟩)) rfl h
  · replace h := h.2 c5
    refine am_iconst dX7_isInTime_110 (by unfold am_rg; omega) ?_
    refine am_goto (tgt := 115) dX7_isInTime_111 (by decide) ?_
    exact am_ret (r := some (.inl 1)) dX7_isInTime_115 (Or.inr (Or.inl ⟨rfl, (Or.inr rfl)⟩)) rfl h
-- MourningHouse$Planner.pick(IIII)V
theorem dX7_pick_0 : decode mX7_pick.2.1 0 = .ok (.aload_n 0, 1) := by decide +kernel
theorem dX7_pick_1 : decode mX7_pick.2.1 1 = .ok (.iload_n 1, 1) := by decide +kernel
theorem dX7_pick_2 : decode mX7_pick.2.1 2 = .ok (.iload_n 2, 1) := by decide +kernel
theorem dX7_pick_3 : decode mX7_pick.2.1 3 = .ok (.invokevirtual 101, 3) := by decide +kernel
theorem dX7_pick_6 : decode mX7_pick.2.1 6 = .ok (.ifCond .ne 4, 3) := by decide +kernel
theorem dX7_pick_9 : decode mX7_pick.2.1 9 = .ok (.return_, 1) := by decide +kernel
theorem dX7_pick_10 : decode mX7_pick.2.1 10 = .ok (.aload_n 0, 1) := by decide +kernel
theorem dX7_pick_11 : decode mX7_pick.2.1 11 = .ok (.getfield 48, 3) := by decide +kernel
theorem dX7_pick_14 : decode mX7_pick.2.1 14 = .ok (.lstore 5, 2) := by decide +kernel
theorem dX7_pick_16 : decode mX7_pick.2.1 16 = .ok (.aload_n 0, 1) := by decide +kernel
theorem dX7_pick_17 : decode mX7_pick.2.1 17 = .ok (.getfield 18, 3) := by decide +kernel
theorem dX7_pick_20 : decode mX7_pick.2.1 20 = .ok (.iload_n 1, 1) := by decide +kernel
theorem dX7_pick_21 : decode mX7_pick.2.1 21 = .ok (.iload_n 2, 1) := by decide +kernel
theorem dX7_pick_22 : decode mX7_pick.2.1 22 = .ok (.iastore, 1) := by decide +kernel
theorem dX7_pick_23 : decode mX7_pick.2.1 23 = .ok (.aload_n 0, 1) := by decide +kernel
theorem dX7_pick_24 : decode mX7_pick.2.1 24 = .ok (.getfield 21, 3) := by decide +kernel
theorem dX7_pick_27 : decode mX7_pick.2.1 27 = .ok (.iload_n 1, 1) := by decide +kernel
theorem dX7_pick_28 : decode mX7_pick.2.1 28 = .ok (.iload_n 3, 1) := by decide +kernel
theorem dX7_pick_29 : decode mX7_pick.2.1 29 = .ok (.iastore, 1) := by decide +kernel
theorem dX7_pick_30 : decode mX7_pick.2.1 30 = .ok (.iload_n 3, 1) := by decide +kernel
theorem dX7_pick_31 : decode mX7_pick.2.1 31 = .ok (.iconst (-1), 1) := by decide +kernel
theorem dX7_pick_32 : decode mX7_pick.2.1 32 = .ok (.if_icmp .eq 15, 3) := by decide +kernel
theorem dX7_pick_35 : decode mX7_pick.2.1 35 = .ok (.aload_n 0, 1) := by decide +kernel
theorem dX7_pick_36 : decode mX7_pick.2.1 36 = .ok (.dup, 1) := by decide +kernel
theorem dX7_pick_37 : decode mX7_pick.2.1 37 = .ok (.getfield 48, 3) := by decide +kernel
theorem dX7_pick_40 : decode mX7_pick.2.1 40 = .ok (.lconst 1, 1) := by decide +kernel
theorem dX7_pick_41 : decode mX7_pick.2.1 41 = .ok (.iload_n 3, 1) := by decide +kernel
theorem dX7_pick_42 : decode mX7_pick.2.1 42 = .ok (.lshl, 1) := by decide +kernel
theorem dX7_pick_43 : decode mX7_pick.2.1 43 = .ok (.lor, 1) := by decide +kernel
theorem dX7_pick_44 : decode mX7_pick.2.1 44 = .ok (.putfield 48, 3) := by decide +kernel
theorem dX7_pick_47 : decode mX7_pick.2.1 47 = .ok (.aload_n 0, 1) := by decide +kernel
theorem dX7_pick_48 : decode mX7_pick.2.1 48 = .ok (.iload_n 1, 1) := by decide +kernel
theorem dX7_pick_49 : decode mX7_pick.2.1 49 = .ok (.iconst 1, 1) := by decide +kernel
theorem dX7_pick_50 : decode mX7_pick.2.1 50 = .ok (.iadd, 1) := by decide +kernel
theorem dX7_pick_51 : decode mX7_pick.2.1 51 = .ok (.iload 4, 2) := by decide +kernel
theorem dX7_pick_53 : decode mX7_pick.2.1 53 = .ok (.invokevirtual 60, 3) := by decide +kernel
theorem dX7_pick_56 : decode mX7_pick.2.1 56 = .ok (.aload_n 0, 1) := by decide +kernel
theorem dX7_pick_57 : decode mX7_pick.2.1 57 = .ok (.lload 5, 2) := by decide +kernel
theorem dX7_pick_59 : decode mX7_pick.2.1 59 = .ok (.putfield 48, 3) := by decide +kernel
theorem dX7_pick_62 : decode mX7_pick.2.1 62 = .ok (.return_, 1) := by decide +kernel
theorem bX7_pick_0 {SC : Nat → Nat} {X : mh_X} {d : Nat} {Q : Option am_V → am_W → Prop} {bc bs : Nat} {w : am_W} {x1 : Int} {x2 : Int} {x3 : Int} {x4 : Int}
    (h : am_M (mh_G X) SC (d + 3) 0 0 mX7_isInTime [.inr (.inr (some (8, 0))), .inl x1, .inl x2] w (fun r w1 => am_A (mh_G X) SC (d + 4) mX7_pick Q 6 [(0, .inr (.inr (some (8, 0)))), (1, .inl x1), (2, .inl x2), (3, .inl x3), (4, .inl x4)] (r.toList ++ []) w1 bc bs)) :
    am_A (mh_G X) SC (d + 4) mX7_pick Q 0 [(0, .inr (.inr (some (8, 0)))), (1, .inl x1), (2, .inl x2), (3, .inl x3), (4, .inl x4)] [] w bc bs := by
  refine am_aload_n dX7_pick_0 (List.Mem.head _) ?_
  refine am_iload_n dX7_pick_1 (List.Mem.tail _ (List.Mem.head _)) ?_
  refine am_iload_n dX7_pick_2 (List.Mem.tail _ (List.Mem.tail _ (List.Mem.head _))) ?_
  exact am_callv (d' := d + 3) (kc := 0) (ks := 0) (as := [.inl x1, .inl x2]) dX7_pick_3 wc_X7_isInTime wd_1454 wd_1456 wd_49 wd_121 ds_X7_isInTime (by decide) (by omega) (Nat.le_of_ble_eq_true rfl) (Nat.zero_le _) (Nat.zero_le _) hc_9 (by decide) rfl rfl h
theorem bX7_pick_6 {SC : Nat → Nat} {X : mh_X} {d : Nat} {Q : Option am_V → am_W → Prop} {bc bs : Nat} {w : am_W} {x1 : Int} {x2 : Int} {x3 : Int} {x4 : Int} {xs0 : Int}
    (h : ((¬ xs0 = 0 → (0 ≤ x1 ∧ (x1 < 5 ∧ ((x3 = (-1) → am_A (mh_G X) SC (d + 4) mX7_pick Q 47 [(0, .inr (.inr (some (8, 0)))), (1, .inl x1), (4, .inl x4), (5, .inr (.inl (w.2.1 8 0 12)))] [] ((am_up (am_up w.1 60 0 x1.toNat x2) 61 0 x1.toNat x3), w.2) bc bs) ∧ (¬ x3 = (-1) → am_A (mh_G X) SC (d + 4) mX7_pick Q 47 [(0, .inr (.inr (some (8, 0)))), (1, .inl x1), (4, .inl x4), (5, .inr (.inl (w.2.1 8 0 12)))] [] ((am_up (am_up w.1 60 0 x1.toNat x2) 61 0 x1.toNat x3), (am_up w.2.1 8 0 12 ((w.2.1 8 0 12) ||| ((1 : Int64) <<< ((Int32.ofInt x3).toInt64 &&& 63)))), w.2.2) bc bs))))) ∧ (xs0 = 0 → Q none w))) :
    am_A (mh_G X) SC (d + 4) mX7_pick Q 6 [(0, .inr (.inr (some (8, 0)))), (1, .inl x1), (2, .inl x2), (3, .inl x3), (4, .inl x4)] [.inl xs0] w bc bs := by
  refine am_ifne (tgt := 10) dX7_pick_6 (by decide) (fun c1 => ?_) (fun c1 => ?_)
  · replace h := h.1 c1
    refine am_aload_n dX7_pick_10 (List.Mem.head _) ?_
    refine am_getf (f := 12) (v := .inr (.inl (w.2.1 8 0 12))) dX7_pick_11 hc_9 (by decide) wd_541 (by decide) rfl rfl ?_
    refine am_lstore (ls' := [(5, .inr (.inl (w.2.1 8 0 12))), (0, .inr (.inr (some (8, 0)))), (1, .inl x1), (2, .inl x2), (3, .inl x3), (4, .inl x4)]) dX7_pick_14 (by decide) rfl ?_
    refine am_aload_n dX7_pick_16 (List.Mem.tail _ (List.Mem.head _)) ?_
    refine am_getf (f := 3) (v := .inr (.inr (some (60, 0)))) dX7_pick_17 hc_9 (by decide) wd_532 (by decide) rfl rfl ?_
    refine am_iload_n dX7_pick_20 (List.Mem.tail _ (List.Mem.tail _ (List.Mem.head _))) ?_
    refine am_iload_n dX7_pick_21 (List.Mem.tail _ (List.Mem.tail _ (List.Mem.tail _ (List.Mem.head _)))) ?_
    have o2 := h.1
    replace h := h.2
    have o3 := h.1
    replace h := h.2
    refine am_iastore dX7_pick_22 (Or.inl (by decide)) rfl o2 o3 ?_
    refine am_aload_n dX7_pick_23 (List.Mem.tail _ (List.Mem.head _)) ?_
    refine am_getf (f := 4) (v := .inr (.inr (some (61, 0)))) dX7_pick_24 hc_9 (by decide) wd_533 (by decide) rfl rfl ?_
    refine am_iload_n dX7_pick_27 (List.Mem.tail _ (List.Mem.tail _ (List.Mem.head _))) ?_
    refine am_iload_n dX7_pick_28 (List.Mem.tail _ (List.Mem.tail _ (List.Mem.tail _ (List.Mem.tail _ (List.Mem.head _))))) ?_
    refine am_iastore dX7_pick_29 (Or.inl (by decide)) rfl o2 o3 ?_
    refine am_iload_n dX7_pick_30 (List.Mem.tail _ (List.Mem.tail _ (List.Mem.tail _ (List.Mem.tail _ (List.Mem.head _))))) ?_
    refine am_iconst dX7_pick_31 (by unfold am_rg; omega) ?_
    refine am_icmpeq (tgt := 47) dX7_pick_32 (by decide) (fun c4 => ?_) (fun c4 => ?_)
    · replace h := h.1 c4
      exact am_sub [1, 2, 5, 0] rfl h
    · replace h := h.2 c4
      refine am_aload_n dX7_pick_35 (List.Mem.tail _ (List.Mem.head _)) ?_
      refine am_dup dX7_pick_36 rfl ?_
      refine am_getf (f := 12) (v := .inr (.inl (w.2.1 8 0 12))) dX7_pick_37 hc_9 (by decide) wd_541 (by decide) rfl rfl ?_
      refine am_lconst (x := 1) dX7_pick_40 rfl ?_
      refine am_iload_n dX7_pick_41 (List.Mem.tail _ (List.Mem.tail _ (List.Mem.tail _ (List.Mem.tail _ (List.Mem.head _))))) ?_
      refine am_lshl dX7_pick_42 ?_
      refine am_lor dX7_pick_43 ?_
      refine am_putl (f := 12) dX7_pick_44 hc_9 (by decide) wd_541 rfl rfl (Or.inl (by decide)) rfl ?_
      exact am_sub [1, 2, 5, 0] rfl h
  · replace h := h.2 c1
    exact am_ret (r := none) dX7_pick_9 rfl rfl h
theorem bX7_pick_47 {SC : Nat → Nat} {X : mh_X} {d : Nat} {Q : Option am_V → am_W → Prop} {bc bs : Nat} {w : am_W} {x1 : Int} {x4 : Int} {y5 : Int64}
    (h : am_M (mh_G X) SC (d + 3) 0 0 mX7_choose [.inr (.inr (some (8, 0))), .inl (am_w (x1 + 1)), .inl x4] w (fun r w1 => am_A (mh_G X) SC (d + 4) mX7_pick Q 56 [(0, .inr (.inr (some (8, 0)))), (1, .inl x1), (4, .inl x4), (5, .inr (.inl y5))] (r.toList ++ []) w1 bc bs)) :
    am_A (mh_G X) SC (d + 4) mX7_pick Q 47 [(0, .inr (.inr (some (8, 0)))), (1, .inl x1), (4, .inl x4), (5, .inr (.inl y5))] [] w bc bs := by
  refine am_aload_n dX7_pick_47 (List.Mem.head _) ?_
  refine am_iload_n dX7_pick_48 (List.Mem.tail _ (List.Mem.head _)) ?_
  refine am_iconst dX7_pick_49 (by unfold am_rg; omega) ?_
  refine am_iadd dX7_pick_50 ?_
  refine am_iload dX7_pick_51 (List.Mem.tail _ (List.Mem.tail _ (List.Mem.head _))) ?_
  exact am_callv (d' := d + 3) (kc := 0) (ks := 0) (as := [.inl (am_w (x1 + 1)), .inl x4]) dX7_pick_53 wc_X7_choose wd_1442 wd_1444 wd_46 wd_121 ds_X7_choose (by decide) (by omega) (Nat.le_of_ble_eq_true rfl) (Nat.zero_le _) (Nat.zero_le _) hc_9 (by decide) rfl rfl h
theorem bX7_pick_56 {SC : Nat → Nat} {X : mh_X} {d : Nat} {Q : Option am_V → am_W → Prop} {bc bs : Nat} {w : am_W} {x1 : Int} {x4 : Int} {y5 : Int64}
    (h : Q none (w.1, (am_up w.2.1 8 0 12 y5), w.2.2)) :
    am_A (mh_G X) SC (d + 4) mX7_pick Q 56 [(0, .inr (.inr (some (8, 0)))), (1, .inl x1), (4, .inl x4), (5, .inr (.inl y5))] [] w bc bs := by
  refine am_aload_n dX7_pick_56 (List.Mem.head _) ?_
  refine am_lload dX7_pick_57 (List.Mem.tail _ (List.Mem.tail _ (List.Mem.tail _ (List.Mem.head _)))) ?_
  refine am_putl (f := 12) dX7_pick_59 hc_9 (by decide) wd_541 rfl rfl (Or.inl (by decide)) rfl ?_
  exact am_ret (r := none) dX7_pick_62 rfl rfl h
-- MourningHouse$Wardrobe.leastDress(IIJ)I
theorem dX9_leastDress_0 : decode mX9_leastDress.2.1 0 = .ok (.iconst 0, 1) := by decide +kernel
theorem dX9_leastDress_1 : decode mX9_leastDress.2.1 1 = .ok (.istore 5, 2) := by decide +kernel
theorem dX9_leastDress_3 : decode mX9_leastDress.2.1 3 = .ok (.iload 5, 2) := by decide +kernel
theorem dX9_leastDress_5 : decode mX9_leastDress.2.1 5 = .ok (.aload_n 0, 1) := by decide +kernel
theorem dX9_leastDress_6 : decode mX9_leastDress.2.1 6 = .ok (.getfield 37, 3) := by decide +kernel
theorem dX9_leastDress_9 : decode mX9_leastDress.2.1 9 = .ok (.if_icmp .ge 67, 3) := by decide +kernel
theorem dX9_leastDress_12 : decode mX9_leastDress.2.1 12 = .ok (.aload_n 0, 1) := by decide +kernel
theorem dX9_leastDress_13 : decode mX9_leastDress.2.1 13 = .ok (.getfield 18, 3) := by decide +kernel
theorem dX9_leastDress_16 : decode mX9_leastDress.2.1 16 = .ok (.iload 5, 2) := by decide +kernel
theorem dX9_leastDress_18 : decode mX9_leastDress.2.1 18 = .ok (.baload, 1) := by decide +kernel
theorem dX9_leastDress_19 : decode mX9_leastDress.2.1 19 = .ok (.ifCond .ne 18, 3) := by decide +kernel
theorem dX9_leastDress_22 : decode mX9_leastDress.2.1 22 = .ok (.lload_n 3, 1) := by decide +kernel
theorem dX9_leastDress_23 : decode mX9_leastDress.2.1 23 = .ok (.iload 5, 2) := by decide +kernel
theorem dX9_leastDress_25 : decode mX9_leastDress.2.1 25 = .ok (.lshr, 1) := by decide +kernel
theorem dX9_leastDress_26 : decode mX9_leastDress.2.1 26 = .ok (.lconst 1, 1) := by decide +kernel
theorem dX9_leastDress_27 : decode mX9_leastDress.2.1 27 = .ok (.land, 1) := by decide +kernel
theorem dX9_leastDress_28 : decode mX9_leastDress.2.1 28 = .ok (.lconst 0, 1) := by decide +kernel
theorem dX9_leastDress_29 : decode mX9_leastDress.2.1 29 = .ok (.lcmp, 1) := by decide +kernel
theorem dX9_leastDress_30 : decode mX9_leastDress.2.1 30 = .ok (.ifCond .ne 7, 3) := by decide +kernel
theorem dX9_leastDress_33 : decode mX9_leastDress.2.1 33 = .ok (.iconst 1, 1) := by decide +kernel
theorem dX9_leastDress_34 : decode mX9_leastDress.2.1 34 = .ok (.goto 4, 3) := by decide +kernel
theorem dX9_leastDress_37 : decode mX9_leastDress.2.1 37 = .ok (.iconst 0, 1) := by decide +kernel
theorem dX9_leastDress_38 : decode mX9_leastDress.2.1 38 = .ok (.istore 6, 2) := by decide +kernel
theorem dX9_leastDress_40 : decode mX9_leastDress.2.1 40 = .ok (.iload 6, 2) := by decide +kernel
theorem dX9_leastDress_42 : decode mX9_leastDress.2.1 42 = .ok (.ifCond .eq 28, 3) := by decide +kernel
theorem dX9_leastDress_45 : decode mX9_leastDress.2.1 45 = .ok (.aload_n 0, 1) := by decide +kernel
theorem dX9_leastDress_46 : decode mX9_leastDress.2.1 46 = .ok (.getfield 11, 3) := by decide +kernel
theorem dX9_leastDress_49 : decode mX9_leastDress.2.1 49 = .ok (.iload 5, 2) := by decide +kernel
theorem dX9_leastDress_51 : decode mX9_leastDress.2.1 51 = .ok (.iaload, 1) := by decide +kernel
theorem dX9_leastDress_52 : decode mX9_leastDress.2.1 52 = .ok (.iload_n 1, 1) := by decide +kernel
theorem dX9_leastDress_53 : decode mX9_leastDress.2.1 53 = .ok (.if_icmp .ne 17, 3) := by decide +kernel
theorem dX9_leastDress_56 : decode mX9_leastDress.2.1 56 = .ok (.aload_n 0, 1) := by decide +kernel
theorem dX9_leastDress_57 : decode mX9_leastDress.2.1 57 = .ok (.getfield 15, 3) := by decide +kernel
theorem dX9_leastDress_60 : decode mX9_leastDress.2.1 60 = .ok (.iload 5, 2) := by decide +kernel
theorem dX9_leastDress_62 : decode mX9_leastDress.2.1 62 = .ok (.iaload, 1) := by decide +kernel
theorem dX9_leastDress_63 : decode mX9_leastDress.2.1 63 = .ok (.iload_n 2, 1) := by decide +kernel
theorem dX9_leastDress_64 : decode mX9_leastDress.2.1 64 = .ok (.if_icmp .ne 6, 3) := by decide +kernel
theorem dX9_leastDress_67 : decode mX9_leastDress.2.1 67 = .ok (.iload 5, 2) := by decide +kernel
theorem dX9_leastDress_69 : decode mX9_leastDress.2.1 69 = .ok (.ireturn, 1) := by decide +kernel
theorem dX9_leastDress_70 : decode mX9_leastDress.2.1 70 = .ok (.iinc 5 1, 3) := by decide +kernel
theorem dX9_leastDress_73 : decode mX9_leastDress.2.1 73 = .ok (.goto (-70), 3) := by decide +kernel
theorem dX9_leastDress_76 : decode mX9_leastDress.2.1 76 = .ok (.iconst (-1), 1) := by decide +kernel
theorem dX9_leastDress_77 : decode mX9_leastDress.2.1 77 = .ok (.ireturn, 1) := by decide +kernel
theorem bX9_leastDress_0 {SC : Nat → Nat} {X : mh_X} {d : Nat} {Q : Option am_V → am_W → Prop} {bc bs : Nat} {w : am_W} {x1 : Int} {x2 : Int} {y3 : Int64}
    (h : am_A (mh_G X) SC (d + 1) mX9_leastDress Q 3 [(0, .inr (.inr (some (7, 0)))), (1, .inl x1), (2, .inl x2), (3, .inr (.inl y3)), (5, .inl 0)] [] w bc bs) :
    am_A (mh_G X) SC (d + 1) mX9_leastDress Q 0 [(0, .inr (.inr (some (7, 0)))), (1, .inl x1), (2, .inl x2), (3, .inr (.inl y3))] [] w bc bs := by
  refine am_iconst dX9_leastDress_0 (by unfold am_rg; omega) ?_
  refine am_istore (ls' := [(5, .inl 0), (0, .inr (.inr (some (7, 0)))), (1, .inl x1), (2, .inl x2), (3, .inr (.inl y3))]) dX9_leastDress_1 (by decide) rfl ?_
  exact am_sub [1, 2, 3, 4, 0] rfl h
theorem bX9_leastDress_3 {SC : Nat → Nat} {X : mh_X} {d : Nat} {Q : Option am_V → am_W → Prop} {bc bs : Nat} {w : am_W} {x1 : Int} {x2 : Int} {y3 : Int64} {x5 : Int}
    (h : (((w.1 7 0 8) ≤ x5 → Q (some (.inl (-1))) w) ∧ (¬ (w.1 7 0 8) ≤ x5 → (0 ≤ x5 ∧ (x5 < 40 ∧ ((¬ (w.1 52 0 x5.toNat) = 0 → am_A (mh_G X) SC (d + 1) mX9_leastDress Q 37 [(0, .inr (.inr (some (7, 0)))), (1, .inl x1), (2, .inl x2), (3, .inr (.inl y3)), (5, .inl x5)] [] w bc bs) ∧ ((w.1 52 0 x5.toNat) = 0 → ((¬ (am_lcmpv ((y3 >>> ((Int32.ofInt x5).toInt64 &&& 63)) &&& (1 : Int64)) (0 : Int64)) = 0 → am_A (mh_G X) SC (d + 1) mX9_leastDress Q 37 [(0, .inr (.inr (some (7, 0)))), (1, .inl x1), (2, .inl x2), (3, .inr (.inl y3)), (5, .inl x5)] [] w bc bs) ∧ ((am_lcmpv ((y3 >>> ((Int32.ofInt x5).toInt64 &&& 63)) &&& (1 : Int64)) (0 : Int64)) = 0 → am_A (mh_G X) SC (d + 1) mX9_leastDress Q 38 [(0, .inr (.inr (some (7, 0)))), (1, .inl x1), (2, .inl x2), (3, .inr (.inl y3)), (5, .inl x5)] [.inl 1] w bc bs))))))))) :
    am_A (mh_G X) SC (d + 1) mX9_leastDress Q 3 [(0, .inr (.inr (some (7, 0)))), (1, .inl x1), (2, .inl x2), (3, .inr (.inl y3)), (5, .inl x5)] [] w bc bs := by
  refine am_iload dX9_leastDress_3 (List.Mem.tail _ (List.Mem.tail _ (List.Mem.tail _ (List.Mem.tail _ (List.Mem.head _))))) ?_
  refine am_aload_n dX9_leastDress_5 (List.Mem.head _) ?_
  refine am_getf (f := 8) (v := .inl (w.1 7 0 8)) dX9_leastDress_6 hc_8 (by decide) wd_488 (by decide) rfl rfl ?_
  refine am_icmpge (tgt := 76) dX9_leastDress_9 (by decide) (fun c1 => ?_) (fun c1 => ?_)
  · replace h := h.1 c1
    refine am_iconst dX9_leastDress_76 (by unfold am_rg; omega) ?_
    exact am_ret (r := some (.inl (-1))) dX9_leastDress_77 (Or.inl rfl) rfl h
  · replace h := h.2 c1
    refine am_aload_n dX9_leastDress_12 (List.Mem.head _) ?_
    refine am_getf (f := 2) (v := .inr (.inr (some (52, 0)))) dX9_leastDress_13 hc_8 (by decide) wd_479 (by decide) rfl rfl ?_
    refine am_iload dX9_leastDress_16 (List.Mem.tail _ (List.Mem.tail _ (List.Mem.tail _ (List.Mem.tail _ (List.Mem.head _))))) ?_
    have o2 := h.1
    replace h := h.2
    have o3 := h.1
    replace h := h.2
    refine am_zaload (v := (w.1 52 0 x5.toNat)) dX9_leastDress_18 (by decide) rfl o2 o3 rfl ?_
    refine am_ifne (tgt := 37) dX9_leastDress_19 (by decide) (fun c4 => ?_) (fun c4 => ?_)
    · replace h := h.1 c4
      exact h
    · replace h := h.2 c4
      refine am_lload_n dX9_leastDress_22 (List.Mem.tail _ (List.Mem.tail _ (List.Mem.tail _ (List.Mem.head _)))) ?_
      refine am_iload dX9_leastDress_23 (List.Mem.tail _ (List.Mem.tail _ (List.Mem.tail _ (List.Mem.tail _ (List.Mem.head _))))) ?_
      refine am_lshr dX9_leastDress_25 ?_
      refine am_lconst (x := 1) dX9_leastDress_26 rfl ?_
      refine am_land dX9_leastDress_27 ?_
      refine am_lconst (x := 0) dX9_leastDress_28 rfl ?_
      refine am_lcmp dX9_leastDress_29 ?_
      refine am_ifne (tgt := 37) dX9_leastDress_30 (by decide) (fun c5 => ?_) (fun c5 => ?_)
      · replace h := h.1 c5
        exact h
      · replace h := h.2 c5
        refine am_iconst dX9_leastDress_33 (by unfold am_rg; omega) ?_
        refine am_goto (tgt := 38) dX9_leastDress_34 (by decide) ?_
        exact h
theorem bX9_leastDress_37 {SC : Nat → Nat} {X : mh_X} {d : Nat} {Q : Option am_V → am_W → Prop} {bc bs : Nat} {w : am_W} {x1 : Int} {x2 : Int} {y3 : Int64} {x5 : Int}
    (h : am_A (mh_G X) SC (d + 1) mX9_leastDress Q 38 [(0, .inr (.inr (some (7, 0)))), (1, .inl x1), (2, .inl x2), (3, .inr (.inl y3)), (5, .inl x5)] [.inl 0] w bc bs) :
    am_A (mh_G X) SC (d + 1) mX9_leastDress Q 37 [(0, .inr (.inr (some (7, 0)))), (1, .inl x1), (2, .inl x2), (3, .inr (.inl y3)), (5, .inl x5)] [] w bc bs := by
  refine am_iconst dX9_leastDress_37 (by unfold am_rg; omega) ?_
  exact h
theorem bX9_leastDress_38 {SC : Nat → Nat} {X : mh_X} {d : Nat} {Q : Option am_V → am_W → Prop} {bc bs : Nat} {w : am_W} {x1 : Int} {x2 : Int} {y3 : Int64} {x5 : Int} {xs0 : Int}
    (h : ((xs0 = 0 → am_A (mh_G X) SC (d + 1) mX9_leastDress Q 70 [(0, .inr (.inr (some (7, 0)))), (1, .inl x1), (2, .inl x2), (3, .inr (.inl y3)), (5, .inl x5)] [] w bc bs) ∧ (¬ xs0 = 0 → (0 ≤ x5 ∧ (x5 < 40 ∧ ((¬ (w.1 50 0 x5.toNat) = x1 → am_A (mh_G X) SC (d + 1) mX9_leastDress Q 70 [(0, .inr (.inr (some (7, 0)))), (1, .inl x1), (2, .inl x2), (3, .inr (.inl y3)), (5, .inl x5)] [] w bc bs) ∧ ((w.1 50 0 x5.toNat) = x1 → ((¬ (w.1 51 0 x5.toNat) = x2 → am_A (mh_G X) SC (d + 1) mX9_leastDress Q 70 [(0, .inr (.inr (some (7, 0)))), (1, .inl x1), (2, .inl x2), (3, .inr (.inl y3)), (5, .inl x5)] [] w bc bs) ∧ ((w.1 51 0 x5.toNat) = x2 → Q (some (.inl x5)) w))))))))) :
    am_A (mh_G X) SC (d + 1) mX9_leastDress Q 38 [(0, .inr (.inr (some (7, 0)))), (1, .inl x1), (2, .inl x2), (3, .inr (.inl y3)), (5, .inl x5)] [.inl xs0] w bc bs := by
  refine am_istore (ls' := [(6, .inl xs0), (0, .inr (.inr (some (7, 0)))), (1, .inl x1), (2, .inl x2), (3, .inr (.inl y3)), (5, .inl x5)]) dX9_leastDress_38 (by decide) rfl ?_
  refine am_iload dX9_leastDress_40 (List.Mem.head _) ?_
  refine am_ifeq (tgt := 70) dX9_leastDress_42 (by decide) (fun c1 => ?_) (fun c1 => ?_)
  · replace h := h.1 c1
    exact am_sub [1, 2, 3, 4, 5] rfl h
  · replace h := h.2 c1
    refine am_aload_n dX9_leastDress_45 (List.Mem.tail _ (List.Mem.head _)) ?_
    refine am_getf (f := 0) (v := .inr (.inr (some (50, 0)))) dX9_leastDress_46 hc_8 (by decide) wd_475 (by decide) rfl rfl ?_
    refine am_iload dX9_leastDress_49 (List.Mem.tail _ (List.Mem.tail _ (List.Mem.tail _ (List.Mem.tail _ (List.Mem.tail _ (List.Mem.head _)))))) ?_
    have o2 := h.1
    replace h := h.2
    have o3 := h.1
    replace h := h.2
    refine am_iaload (v := (w.1 50 0 x5.toNat)) dX9_leastDress_51 (by decide) rfl o2 o3 rfl ?_
    refine am_iload_n dX9_leastDress_52 (List.Mem.tail _ (List.Mem.tail _ (List.Mem.head _))) ?_
    refine am_icmpne (tgt := 70) dX9_leastDress_53 (by decide) (fun c4 => ?_) (fun c4 => ?_)
    · replace h := h.1 c4
      exact am_sub [1, 2, 3, 4, 5] rfl h
    · replace h := h.2 c4
      refine am_aload_n dX9_leastDress_56 (List.Mem.tail _ (List.Mem.head _)) ?_
      refine am_getf (f := 1) (v := .inr (.inr (some (51, 0)))) dX9_leastDress_57 hc_8 (by decide) wd_477 (by decide) rfl rfl ?_
      refine am_iload dX9_leastDress_60 (List.Mem.tail _ (List.Mem.tail _ (List.Mem.tail _ (List.Mem.tail _ (List.Mem.tail _ (List.Mem.head _)))))) ?_
      refine am_iaload (v := (w.1 51 0 x5.toNat)) dX9_leastDress_62 (by decide) rfl o2 o3 rfl ?_
      refine am_iload_n dX9_leastDress_63 (List.Mem.tail _ (List.Mem.tail _ (List.Mem.tail _ (List.Mem.head _)))) ?_
      refine am_icmpne (tgt := 70) dX9_leastDress_64 (by decide) (fun c5 => ?_) (fun c5 => ?_)
      · replace h := h.1 c5
        exact am_sub [1, 2, 3, 4, 5] rfl h
      · replace h := h.2 c5
        refine am_iload dX9_leastDress_67 (List.Mem.tail _ (List.Mem.tail _ (List.Mem.tail _ (List.Mem.tail _ (List.Mem.tail _ (List.Mem.head _)))))) ?_
        exact am_ret (r := some (.inl x5)) dX9_leastDress_69 (Or.inl rfl) rfl h
theorem bX9_leastDress_70 {SC : Nat → Nat} {X : mh_X} {d : Nat} {Q : Option am_V → am_W → Prop} {bc bs : Nat} {w : am_W} {x1 : Int} {x2 : Int} {y3 : Int64} {x5 : Int}
    (h : am_A (mh_G X) SC (d + 1) mX9_leastDress Q 3 [(0, .inr (.inr (some (7, 0)))), (1, .inl x1), (2, .inl x2), (3, .inr (.inl y3)), (5, .inl (am_w (x5 + 1)))] [] w bc bs) :
    am_A (mh_G X) SC (d + 1) mX9_leastDress Q 70 [(0, .inr (.inr (some (7, 0)))), (1, .inl x1), (2, .inl x2), (3, .inr (.inl y3)), (5, .inl x5)] [] w bc bs := by
  refine am_iinc (ls' := [(5, .inl (am_w (x5 + 1))), (0, .inr (.inr (some (7, 0)))), (1, .inl x1), (2, .inl x2), (3, .inr (.inl y3))]) dX9_leastDress_70 (List.Mem.tail _ (List.Mem.tail _ (List.Mem.tail _ (List.Mem.tail _ (List.Mem.head _))))) (by decide) rfl ?_
  refine am_goto (tgt := 3) dX9_leastDress_73 (by decide) ?_
  exact am_sub [1, 2, 3, 4, 0] rfl h
-- MourningHouse$Planner.dyeDarker(II)V
theorem dX7_dyeDarker_0 : decode mX7_dyeDarker.2.1 0 = .ok (.aload_n 0, 1) := by decide +kernel
theorem dX7_dyeDarker_1 : decode mX7_dyeDarker.2.1 1 = .ok (.getfield 15, 3) := by decide +kernel
theorem dX7_dyeDarker_4 : decode mX7_dyeDarker.2.1 4 = .ok (.iload_n 1, 1) := by decide +kernel
theorem dX7_dyeDarker_5 : decode mX7_dyeDarker.2.1 5 = .ok (.iaload, 1) := by decide +kernel
theorem dX7_dyeDarker_6 : decode mX7_dyeDarker.2.1 6 = .ok (.iconst 1, 1) := by decide +kernel
theorem dX7_dyeDarker_7 : decode mX7_dyeDarker.2.1 7 = .ok (.isub, 1) := by decide +kernel
theorem dX7_dyeDarker_8 : decode mX7_dyeDarker.2.1 8 = .ok (.istore_n 3, 1) := by decide +kernel
theorem dX7_dyeDarker_9 : decode mX7_dyeDarker.2.1 9 = .ok (.iload_n 3, 1) := by decide +kernel
theorem dX7_dyeDarker_10 : decode mX7_dyeDarker.2.1 10 = .ok (.ifCond .lt 46, 3) := by decide +kernel
theorem dX7_dyeDarker_13 : decode mX7_dyeDarker.2.1 13 = .ok (.aload_n 0, 1) := by decide +kernel
theorem dX7_dyeDarker_14 : decode mX7_dyeDarker.2.1 14 = .ok (.getfield 52, 3) := by decide +kernel
theorem dX7_dyeDarker_17 : decode mX7_dyeDarker.2.1 17 = .ok (.aload_n 0, 1) := by decide +kernel
theorem dX7_dyeDarker_18 : decode mX7_dyeDarker.2.1 18 = .ok (.getfield 11, 3) := by decide +kernel
theorem dX7_dyeDarker_21 : decode mX7_dyeDarker.2.1 21 = .ok (.iload_n 1, 1) := by decide +kernel
theorem dX7_dyeDarker_22 : decode mX7_dyeDarker.2.1 22 = .ok (.iaload, 1) := by decide +kernel
theorem dX7_dyeDarker_23 : decode mX7_dyeDarker.2.1 23 = .ok (.iload_n 3, 1) := by decide +kernel
theorem dX7_dyeDarker_24 : decode mX7_dyeDarker.2.1 24 = .ok (.aload_n 0, 1) := by decide +kernel
theorem dX7_dyeDarker_25 : decode mX7_dyeDarker.2.1 25 = .ok (.getfield 48, 3) := by decide +kernel
theorem dX7_dyeDarker_28 : decode mX7_dyeDarker.2.1 28 = .ok (.invokevirtual 94, 3) := by decide +kernel
theorem dX7_dyeDarker_31 : decode mX7_dyeDarker.2.1 31 = .ok (.istore 4, 2) := by decide +kernel
theorem dX7_dyeDarker_33 : decode mX7_dyeDarker.2.1 33 = .ok (.iload 4, 2) := by decide +kernel
theorem dX7_dyeDarker_35 : decode mX7_dyeDarker.2.1 35 = .ok (.iconst (-1), 1) := by decide +kernel
theorem dX7_dyeDarker_36 : decode mX7_dyeDarker.2.1 36 = .ok (.if_icmp .eq 14, 3) := by decide +kernel
theorem dX7_dyeDarker_39 : decode mX7_dyeDarker.2.1 39 = .ok (.aload_n 0, 1) := by decide +kernel
theorem dX7_dyeDarker_40 : decode mX7_dyeDarker.2.1 40 = .ok (.iload_n 1, 1) := by decide +kernel
theorem dX7_dyeDarker_41 : decode mX7_dyeDarker.2.1 41 = .ok (.iconst 2, 1) := by decide +kernel
theorem dX7_dyeDarker_42 : decode mX7_dyeDarker.2.1 42 = .ok (.iload 4, 2) := by decide +kernel
theorem dX7_dyeDarker_44 : decode mX7_dyeDarker.2.1 44 = .ok (.iload_n 2, 1) := by decide +kernel
theorem dX7_dyeDarker_45 : decode mX7_dyeDarker.2.1 45 = .ok (.iconst 1, 1) := by decide +kernel
theorem dX7_dyeDarker_46 : decode mX7_dyeDarker.2.1 46 = .ok (.iadd, 1) := by decide +kernel
theorem dX7_dyeDarker_47 : decode mX7_dyeDarker.2.1 47 = .ok (.invokevirtual 81, 3) := by decide +kernel
theorem dX7_dyeDarker_50 : decode mX7_dyeDarker.2.1 50 = .ok (.iinc 3 (-1), 3) := by decide +kernel
theorem dX7_dyeDarker_53 : decode mX7_dyeDarker.2.1 53 = .ok (.goto (-44), 3) := by decide +kernel
theorem dX7_dyeDarker_56 : decode mX7_dyeDarker.2.1 56 = .ok (.return_, 1) := by decide +kernel
theorem bX7_dyeDarker_0 {SC : Nat → Nat} {X : mh_X} {d : Nat} {Q : Option am_V → am_W → Prop} {bc bs : Nat} {w : am_W} {x1 : Int} {x2 : Int}
    (h : (0 ≤ x1 ∧ (x1 < 5 ∧ am_A (mh_G X) SC (d + 5) mX7_dyeDarker Q 9 [(0, .inr (.inr (some (8, 0)))), (1, .inl x1), (2, .inl x2), (3, .inl (am_w ((w.1 59 0 x1.toNat) - 1)))] [] w bc bs))) :
    am_A (mh_G X) SC (d + 5) mX7_dyeDarker Q 0 [(0, .inr (.inr (some (8, 0)))), (1, .inl x1), (2, .inl x2)] [] w bc bs := by
  refine am_aload_n dX7_dyeDarker_0 (List.Mem.head _) ?_
  refine am_getf (f := 2) (v := .inr (.inr (some (59, 0)))) dX7_dyeDarker_1 hc_9 (by decide) wd_531 (by decide) rfl rfl ?_
  refine am_iload_n dX7_dyeDarker_4 (List.Mem.tail _ (List.Mem.head _)) ?_
  have o1 := h.1
  replace h := h.2
  have o2 := h.1
  replace h := h.2
  refine am_iaload (v := (w.1 59 0 x1.toNat)) dX7_dyeDarker_5 (by decide) rfl o1 o2 rfl ?_
  refine am_iconst dX7_dyeDarker_6 (by unfold am_rg; omega) ?_
  refine am_isub dX7_dyeDarker_7 ?_
  refine am_istore_n (ls' := [(3, .inl (am_w ((w.1 59 0 x1.toNat) - 1))), (0, .inr (.inr (some (8, 0)))), (1, .inl x1), (2, .inl x2)]) dX7_dyeDarker_8 (by decide) rfl ?_
  exact am_sub [1, 2, 3, 0] rfl h
theorem bX7_dyeDarker_9 {SC : Nat → Nat} {X : mh_X} {d : Nat} {Q : Option am_V → am_W → Prop} {bc bs : Nat} {w : am_W} {x1 : Int} {x2 : Int} {x3 : Int}
    (h : ((x3 < 0 → Q none w) ∧ (¬ x3 < 0 → (0 ≤ x1 ∧ (x1 < 5 ∧ am_M (mh_G X) SC (d + 4) 0 0 mX9_leastDress [.inr (.inr (some (7, 0))), .inl (w.1 58 0 x1.toNat), .inl x3, .inr (.inl (w.2.1 8 0 12))] w (fun r w1 => am_A (mh_G X) SC (d + 5) mX7_dyeDarker Q 31 [(0, .inr (.inr (some (8, 0)))), (1, .inl x1), (2, .inl x2), (3, .inl x3)] (r.toList ++ []) w1 bc bs)))))) :
    am_A (mh_G X) SC (d + 5) mX7_dyeDarker Q 9 [(0, .inr (.inr (some (8, 0)))), (1, .inl x1), (2, .inl x2), (3, .inl x3)] [] w bc bs := by
  refine am_iload_n dX7_dyeDarker_9 (List.Mem.tail _ (List.Mem.tail _ (List.Mem.tail _ (List.Mem.head _)))) ?_
  refine am_iflt (tgt := 56) dX7_dyeDarker_10 (by decide) (fun c1 => ?_) (fun c1 => ?_)
  · replace h := h.1 c1
    exact am_ret (r := none) dX7_dyeDarker_56 rfl rfl h
  · replace h := h.2 c1
    refine am_aload_n dX7_dyeDarker_13 (List.Mem.head _) ?_
    refine am_getf (f := 0) (v := .inr (.inr (some (7, 0)))) dX7_dyeDarker_14 hc_9 (by decide) wd_529 (by decide) rfl rfl ?_
    refine am_aload_n dX7_dyeDarker_17 (List.Mem.head _) ?_
    refine am_getf (f := 1) (v := .inr (.inr (some (58, 0)))) dX7_dyeDarker_18 hc_9 (by decide) wd_530 (by decide) rfl rfl ?_
    refine am_iload_n dX7_dyeDarker_21 (List.Mem.tail _ (List.Mem.head _)) ?_
    have o2 := h.1
    replace h := h.2
    have o3 := h.1
    replace h := h.2
    refine am_iaload (v := (w.1 58 0 x1.toNat)) dX7_dyeDarker_22 (by decide) rfl o2 o3 rfl ?_
    refine am_iload_n dX7_dyeDarker_23 (List.Mem.tail _ (List.Mem.tail _ (List.Mem.tail _ (List.Mem.head _)))) ?_
    refine am_aload_n dX7_dyeDarker_24 (List.Mem.head _) ?_
    refine am_getf (f := 12) (v := .inr (.inl (w.2.1 8 0 12))) dX7_dyeDarker_25 hc_9 (by decide) wd_541 (by decide) rfl rfl ?_
    exact am_callv (d' := d + 4) (kc := 0) (ks := 0) (as := [.inl (w.1 58 0 x1.toNat), .inl x3, .inr (.inl (w.2.1 8 0 12))]) dX7_dyeDarker_28 wc_X9_leastDress wd_1462 wd_1463 wd_1464 wd_120 ds_X9_leastDress (by decide) (by omega) (Nat.le_of_ble_eq_true rfl) (Nat.zero_le _) (Nat.zero_le _) hc_8 (by decide) rfl rfl h
theorem bX7_dyeDarker_31 {SC : Nat → Nat} {X : mh_X} {d : Nat} {Q : Option am_V → am_W → Prop} {bc bs : Nat} {w : am_W} {x1 : Int} {x2 : Int} {x3 : Int} {xs0 : Int}
    (h : ((xs0 = (-1) → am_A (mh_G X) SC (d + 5) mX7_dyeDarker Q 50 [(0, .inr (.inr (some (8, 0)))), (1, .inl x1), (2, .inl x2), (3, .inl x3)] [] w bc bs) ∧ (¬ xs0 = (-1) → am_M (mh_G X) SC (d + 4) 0 0 mX7_pick [.inr (.inr (some (8, 0))), .inl x1, .inl 2, .inl xs0, .inl (am_w (x2 + 1))] w (fun r w1 => am_A (mh_G X) SC (d + 5) mX7_dyeDarker Q 50 [(4, .inl xs0), (0, .inr (.inr (some (8, 0)))), (1, .inl x1), (2, .inl x2), (3, .inl x3)] (r.toList ++ []) w1 bc bs)))) :
    am_A (mh_G X) SC (d + 5) mX7_dyeDarker Q 31 [(0, .inr (.inr (some (8, 0)))), (1, .inl x1), (2, .inl x2), (3, .inl x3)] [.inl xs0] w bc bs := by
  refine am_istore (ls' := [(4, .inl xs0), (0, .inr (.inr (some (8, 0)))), (1, .inl x1), (2, .inl x2), (3, .inl x3)]) dX7_dyeDarker_31 (by decide) rfl ?_
  refine am_iload dX7_dyeDarker_33 (List.Mem.head _) ?_
  refine am_iconst dX7_dyeDarker_35 (by unfold am_rg; omega) ?_
  refine am_icmpeq (tgt := 50) dX7_dyeDarker_36 (by decide) (fun c1 => ?_) (fun c1 => ?_)
  · replace h := h.1 c1
    exact am_sub [1, 2, 3, 4] rfl h
  · replace h := h.2 c1
    refine am_aload_n dX7_dyeDarker_39 (List.Mem.tail _ (List.Mem.head _)) ?_
    refine am_iload_n dX7_dyeDarker_40 (List.Mem.tail _ (List.Mem.tail _ (List.Mem.head _))) ?_
    refine am_iconst dX7_dyeDarker_41 (by unfold am_rg; omega) ?_
    refine am_iload dX7_dyeDarker_42 (List.Mem.head _) ?_
    refine am_iload_n dX7_dyeDarker_44 (List.Mem.tail _ (List.Mem.tail _ (List.Mem.tail _ (List.Mem.head _)))) ?_
    refine am_iconst dX7_dyeDarker_45 (by unfold am_rg; omega) ?_
    refine am_iadd dX7_dyeDarker_46 ?_
    exact am_callv (d' := d + 4) (kc := 0) (ks := 0) (as := [.inl x1, .inl 2, .inl xs0, .inl (am_w (x2 + 1))]) dX7_dyeDarker_47 wc_X7_pick wd_1450 wd_1452 wd_48 wd_121 ds_X7_pick (by decide) (by omega) (Nat.le_of_ble_eq_true rfl) (Nat.zero_le _) (Nat.zero_le _) hc_9 (by decide) rfl rfl h
theorem bX7_dyeDarker_50 {SC : Nat → Nat} {X : mh_X} {d : Nat} {Q : Option am_V → am_W → Prop} {bc bs : Nat} {w : am_W} {x1 : Int} {x2 : Int} {x3 : Int}
    (h : am_A (mh_G X) SC (d + 5) mX7_dyeDarker Q 9 [(0, .inr (.inr (some (8, 0)))), (1, .inl x1), (2, .inl x2), (3, .inl (am_w (x3 + (-1))))] [] w bc bs) :
    am_A (mh_G X) SC (d + 5) mX7_dyeDarker Q 50 [(0, .inr (.inr (some (8, 0)))), (1, .inl x1), (2, .inl x2), (3, .inl x3)] [] w bc bs := by
  refine am_iinc (ls' := [(3, .inl (am_w (x3 + (-1)))), (0, .inr (.inr (some (8, 0)))), (1, .inl x1), (2, .inl x2)]) dX7_dyeDarker_50 (List.Mem.tail _ (List.Mem.tail _ (List.Mem.tail _ (List.Mem.head _)))) (by decide) rfl ?_
  refine am_goto (tgt := 9) dX7_dyeDarker_53 (by decide) ?_
  exact am_sub [1, 2, 3, 0] rfl h
theorem bX7_dyeDarker_50a {SC : Nat → Nat} {X : mh_X} {d : Nat} {Q : Option am_V → am_W → Prop} {bc bs : Nat} {w : am_W} {x4 : Int} {x1 : Int} {x2 : Int} {x3 : Int}
    (h : am_A (mh_G X) SC (d + 5) mX7_dyeDarker Q 9 [(0, .inr (.inr (some (8, 0)))), (1, .inl x1), (2, .inl x2), (3, .inl (am_w (x3 + (-1))))] [] w bc bs) :
    am_A (mh_G X) SC (d + 5) mX7_dyeDarker Q 50 [(4, .inl x4), (0, .inr (.inr (some (8, 0)))), (1, .inl x1), (2, .inl x2), (3, .inl x3)] [] w bc bs := by
  refine am_iinc (ls' := [(3, .inl (am_w (x3 + (-1)))), (4, .inl x4), (0, .inr (.inr (some (8, 0)))), (1, .inl x1), (2, .inl x2)]) dX7_dyeDarker_50 (List.Mem.tail _ (List.Mem.tail _ (List.Mem.tail _ (List.Mem.tail _ (List.Mem.head _))))) (by decide) rfl ?_
  refine am_goto (tgt := 9) dX7_dyeDarker_53 (by decide) ?_
  exact am_sub [2, 3, 4, 0] rfl h
-- MourningHouse$Planner.keep(I)V
theorem dX7_keep_0 : decode mX7_keep.2.1 0 = .ok (.aload_n 0, 1) := by decide +kernel
theorem dX7_keep_1 : decode mX7_keep.2.1 1 = .ok (.iload_n 1, 1) := by decide +kernel
theorem dX7_keep_2 : decode mX7_keep.2.1 2 = .ok (.putfield 45, 3) := by decide +kernel
theorem dX7_keep_5 : decode mX7_keep.2.1 5 = .ok (.iconst 0, 1) := by decide +kernel
theorem dX7_keep_6 : decode mX7_keep.2.1 6 = .ok (.istore_n 2, 1) := by decide +kernel
theorem dX7_keep_7 : decode mX7_keep.2.1 7 = .ok (.iload_n 2, 1) := by decide +kernel
theorem dX7_keep_8 : decode mX7_keep.2.1 8 = .ok (.aload_n 0, 1) := by decide +kernel
theorem dX7_keep_9 : decode mX7_keep.2.1 9 = .ok (.getfield 38, 3) := by decide +kernel
theorem dX7_keep_12 : decode mX7_keep.2.1 12 = .ok (.if_icmp .ge 33, 3) := by decide +kernel
theorem dX7_keep_15 : decode mX7_keep.2.1 15 = .ok (.aload_n 0, 1) := by decide +kernel
theorem dX7_keep_16 : decode mX7_keep.2.1 16 = .ok (.getfield 24, 3) := by decide +kernel
theorem dX7_keep_19 : decode mX7_keep.2.1 19 = .ok (.iload_n 2, 1) := by decide +kernel
theorem dX7_keep_20 : decode mX7_keep.2.1 20 = .ok (.aload_n 0, 1) := by decide +kernel
theorem dX7_keep_21 : decode mX7_keep.2.1 21 = .ok (.getfield 18, 3) := by decide +kernel
theorem dX7_keep_24 : decode mX7_keep.2.1 24 = .ok (.iload_n 2, 1) := by decide +kernel
theorem dX7_keep_25 : decode mX7_keep.2.1 25 = .ok (.iaload, 1) := by decide +kernel
theorem dX7_keep_26 : decode mX7_keep.2.1 26 = .ok (.iastore, 1) := by decide +kernel
theorem dX7_keep_27 : decode mX7_keep.2.1 27 = .ok (.aload_n 0, 1) := by decide +kernel
theorem dX7_keep_28 : decode mX7_keep.2.1 28 = .ok (.getfield 27, 3) := by decide +kernel
theorem dX7_keep_31 : decode mX7_keep.2.1 31 = .ok (.iload_n 2, 1) := by decide +kernel
theorem dX7_keep_32 : decode mX7_keep.2.1 32 = .ok (.aload_n 0, 1) := by decide +kernel
theorem dX7_keep_33 : decode mX7_keep.2.1 33 = .ok (.getfield 21, 3) := by decide +kernel
theorem dX7_keep_36 : decode mX7_keep.2.1 36 = .ok (.iload_n 2, 1) := by decide +kernel
theorem dX7_keep_37 : decode mX7_keep.2.1 37 = .ok (.iaload, 1) := by decide +kernel
theorem dX7_keep_38 : decode mX7_keep.2.1 38 = .ok (.iastore, 1) := by decide +kernel
theorem dX7_keep_39 : decode mX7_keep.2.1 39 = .ok (.iinc 2 1, 3) := by decide +kernel
theorem dX7_keep_42 : decode mX7_keep.2.1 42 = .ok (.goto (-35), 3) := by decide +kernel
theorem dX7_keep_45 : decode mX7_keep.2.1 45 = .ok (.return_, 1) := by decide +kernel
theorem bX7_keep_0 {SC : Nat → Nat} {X : mh_X} {d : Nat} {Q : Option am_V → am_W → Prop} {bc bs : Nat} {w : am_W} {x1 : Int}
    (h : am_A (mh_G X) SC (d + 1) mX7_keep Q 7 [(0, .inr (.inr (some (8, 0)))), (2, .inl 0)] [] ((am_up w.1 8 0 11 x1), w.2) bc bs) :
    am_A (mh_G X) SC (d + 1) mX7_keep Q 0 [(0, .inr (.inr (some (8, 0)))), (1, .inl x1)] [] w bc bs := by
  refine am_aload_n dX7_keep_0 (List.Mem.head _) ?_
  refine am_iload_n dX7_keep_1 (List.Mem.tail _ (List.Mem.head _)) ?_
  refine am_putf (f := 11) dX7_keep_2 hc_9 (by decide) wd_540 rfl (Or.inl rfl) (Or.inl (by decide)) rfl ?_
  refine am_iconst dX7_keep_5 (by unfold am_rg; omega) ?_
  refine am_istore_n (ls' := [(2, .inl 0), (0, .inr (.inr (some (8, 0)))), (1, .inl x1)]) dX7_keep_6 (by decide) rfl ?_
  exact am_sub [1, 0] rfl h
theorem bX7_keep_7 {SC : Nat → Nat} {X : mh_X} {d : Nat} {Q : Option am_V → am_W → Prop} {bc bs : Nat} {w : am_W} {x2 : Int}
    (h : (((w.1 8 0 9) ≤ x2 → Q none w) ∧ (¬ (w.1 8 0 9) ≤ x2 → (0 ≤ x2 ∧ (x2 < 5 ∧ am_A (mh_G X) SC (d + 1) mX7_keep Q 7 [(0, .inr (.inr (some (8, 0)))), (2, .inl (am_w (x2 + 1)))] [] ((am_up (am_up w.1 62 0 x2.toNat (w.1 60 0 x2.toNat)) 63 0 x2.toNat (w.1 61 0 x2.toNat)), w.2) bc bs))))) :
    am_A (mh_G X) SC (d + 1) mX7_keep Q 7 [(0, .inr (.inr (some (8, 0)))), (2, .inl x2)] [] w bc bs := by
  refine am_iload_n dX7_keep_7 (List.Mem.tail _ (List.Mem.head _)) ?_
  refine am_aload_n dX7_keep_8 (List.Mem.head _) ?_
  refine am_getf (f := 9) (v := .inl (w.1 8 0 9)) dX7_keep_9 hc_9 (by decide) wd_538 (by decide) rfl rfl ?_
  refine am_icmpge (tgt := 45) dX7_keep_12 (by decide) (fun c1 => ?_) (fun c1 => ?_)
  · replace h := h.1 c1
    exact am_ret (r := none) dX7_keep_45 rfl rfl h
  · replace h := h.2 c1
    refine am_aload_n dX7_keep_15 (List.Mem.head _) ?_
    refine am_getf (f := 5) (v := .inr (.inr (some (62, 0)))) dX7_keep_16 hc_9 (by decide) wd_534 (by decide) rfl rfl ?_
    refine am_iload_n dX7_keep_19 (List.Mem.tail _ (List.Mem.head _)) ?_
    refine am_aload_n dX7_keep_20 (List.Mem.head _) ?_
    refine am_getf (f := 3) (v := .inr (.inr (some (60, 0)))) dX7_keep_21 hc_9 (by decide) wd_532 (by decide) rfl rfl ?_
    refine am_iload_n dX7_keep_24 (List.Mem.tail _ (List.Mem.head _)) ?_
    have o2 := h.1
    replace h := h.2
    have o3 := h.1
    replace h := h.2
    refine am_iaload (v := (w.1 60 0 x2.toNat)) dX7_keep_25 (by decide) rfl o2 o3 rfl ?_
    refine am_iastore dX7_keep_26 (Or.inl (by decide)) rfl o2 o3 ?_
    refine am_aload_n dX7_keep_27 (List.Mem.head _) ?_
    refine am_getf (f := 6) (v := .inr (.inr (some (63, 0)))) dX7_keep_28 hc_9 (by decide) wd_535 (by decide) rfl rfl ?_
    refine am_iload_n dX7_keep_31 (List.Mem.tail _ (List.Mem.head _)) ?_
    refine am_aload_n dX7_keep_32 (List.Mem.head _) ?_
    refine am_getf (f := 4) (v := .inr (.inr (some (61, 0)))) dX7_keep_33 hc_9 (by decide) wd_533 (by decide) rfl rfl ?_
    refine am_iload_n dX7_keep_36 (List.Mem.tail _ (List.Mem.head _)) ?_
    refine am_iaload (v := (w.1 61 0 x2.toNat)) dX7_keep_37 (by decide) rfl o2 o3 rfl ?_
    refine am_iastore dX7_keep_38 (Or.inl (by decide)) rfl o2 o3 ?_
    refine am_iinc (ls' := [(2, .inl (am_w (x2 + 1))), (0, .inr (.inr (some (8, 0))))]) dX7_keep_39 (List.Mem.tail _ (List.Mem.head _)) (by decide) rfl ?_
    refine am_goto (tgt := 7) dX7_keep_42 (by decide) ?_
    exact am_sub [1, 0] rfl h
-- MourningHouse$Planner.sew(II)V
theorem dX7_sew_0 : decode mX7_sew.2.1 0 = .ok (.aload_n 0, 1) := by decide +kernel
theorem dX7_sew_1 : decode mX7_sew.2.1 1 = .ok (.getfield 15, 3) := by decide +kernel
theorem dX7_sew_4 : decode mX7_sew.2.1 4 = .ok (.iload_n 1, 1) := by decide +kernel
theorem dX7_sew_5 : decode mX7_sew.2.1 5 = .ok (.iaload, 1) := by decide +kernel
theorem dX7_sew_6 : decode mX7_sew.2.1 6 = .ok (.istore_n 3, 1) := by decide +kernel
theorem dX7_sew_7 : decode mX7_sew.2.1 7 = .ok (.aload_n 0, 1) := by decide +kernel
theorem dX7_sew_8 : decode mX7_sew.2.1 8 = .ok (.getfield 52, 3) := by decide +kernel
theorem dX7_sew_11 : decode mX7_sew.2.1 11 = .ok (.getfield 98, 3) := by decide +kernel
theorem dX7_sew_14 : decode mX7_sew.2.1 14 = .ok (.iload_n 3, 1) := by decide +kernel
theorem dX7_sew_15 : decode mX7_sew.2.1 15 = .ok (.iaload, 1) := by decide +kernel
theorem dX7_sew_16 : decode mX7_sew.2.1 16 = .ok (.aload_n 0, 1) := by decide +kernel
theorem dX7_sew_17 : decode mX7_sew.2.1 17 = .ok (.getfield 32, 3) := by decide +kernel
theorem dX7_sew_20 : decode mX7_sew.2.1 20 = .ok (.iload_n 3, 1) := by decide +kernel
theorem dX7_sew_21 : decode mX7_sew.2.1 21 = .ok (.iaload, 1) := by decide +kernel
theorem dX7_sew_22 : decode mX7_sew.2.1 22 = .ok (.if_icmp .le 34, 3) := by decide +kernel
theorem dX7_sew_25 : decode mX7_sew.2.1 25 = .ok (.aload_n 0, 1) := by decide +kernel
theorem dX7_sew_26 : decode mX7_sew.2.1 26 = .ok (.getfield 32, 3) := by decide +kernel
theorem dX7_sew_29 : decode mX7_sew.2.1 29 = .ok (.iload_n 3, 1) := by decide +kernel
theorem dX7_sew_30 : decode mX7_sew.2.1 30 = .ok (.dup2, 1) := by decide +kernel
theorem dX7_sew_31 : decode mX7_sew.2.1 31 = .ok (.iaload, 1) := by decide +kernel
theorem dX7_sew_32 : decode mX7_sew.2.1 32 = .ok (.iconst 1, 1) := by decide +kernel
theorem dX7_sew_33 : decode mX7_sew.2.1 33 = .ok (.iadd, 1) := by decide +kernel
theorem dX7_sew_34 : decode mX7_sew.2.1 34 = .ok (.iastore, 1) := by decide +kernel
theorem dX7_sew_35 : decode mX7_sew.2.1 35 = .ok (.aload_n 0, 1) := by decide +kernel
theorem dX7_sew_36 : decode mX7_sew.2.1 36 = .ok (.iload_n 1, 1) := by decide +kernel
theorem dX7_sew_37 : decode mX7_sew.2.1 37 = .ok (.iconst 3, 1) := by decide +kernel
theorem dX7_sew_38 : decode mX7_sew.2.1 38 = .ok (.iconst (-1), 1) := by decide +kernel
theorem dX7_sew_39 : decode mX7_sew.2.1 39 = .ok (.iload_n 2, 1) := by decide +kernel
theorem dX7_sew_40 : decode mX7_sew.2.1 40 = .ok (.bipush 10, 2) := by decide +kernel
theorem dX7_sew_42 : decode mX7_sew.2.1 42 = .ok (.iadd, 1) := by decide +kernel
theorem dX7_sew_43 : decode mX7_sew.2.1 43 = .ok (.invokevirtual 81, 3) := by decide +kernel
theorem dX7_sew_46 : decode mX7_sew.2.1 46 = .ok (.aload_n 0, 1) := by decide +kernel
theorem dX7_sew_47 : decode mX7_sew.2.1 47 = .ok (.getfield 32, 3) := by decide +kernel
theorem dX7_sew_50 : decode mX7_sew.2.1 50 = .ok (.iload_n 3, 1) := by decide +kernel
theorem dX7_sew_51 : decode mX7_sew.2.1 51 = .ok (.dup2, 1) := by decide +kernel
theorem dX7_sew_52 : decode mX7_sew.2.1 52 = .ok (.iaload, 1) := by decide +kernel
theorem dX7_sew_53 : decode mX7_sew.2.1 53 = .ok (.iconst 1, 1) := by decide +kernel
theorem dX7_sew_54 : decode mX7_sew.2.1 54 = .ok (.isub, 1) := by decide +kernel
theorem dX7_sew_55 : decode mX7_sew.2.1 55 = .ok (.iastore, 1) := by decide +kernel
theorem dX7_sew_56 : decode mX7_sew.2.1 56 = .ok (.return_, 1) := by decide +kernel
theorem bX7_sew_0 {SC : Nat → Nat} {X : mh_X} {d : Nat} {Q : Option am_V → am_W → Prop} {bc bs : Nat} {w : am_W} {x1 : Int} {x2 : Int}
    (h : (0 ≤ x1 ∧ (x1 < 5 ∧ (0 ≤ (w.1 59 0 x1.toNat) ∧ ((w.1 59 0 x1.toNat) < 5 ∧ (((w.1 53 0 (w.1 59 0 x1.toNat).toNat) ≤ (w.1 64 0 (w.1 59 0 x1.toNat).toNat) → Q none w) ∧ (¬ (w.1 53 0 (w.1 59 0 x1.toNat).toNat) ≤ (w.1 64 0 (w.1 59 0 x1.toNat).toNat) → am_M (mh_G X) SC (d + 4) 0 0 mX7_pick [.inr (.inr (some (8, 0))), .inl x1, .inl 3, .inl (-1), .inl (am_w (x2 + 10))] ((am_up w.1 64 0 (w.1 59 0 x1.toNat).toNat (am_w ((w.1 64 0 (w.1 59 0 x1.toNat).toNat) + 1))), w.2) (fun r w1 => am_A (mh_G X) SC (d + 5) mX7_sew Q 46 [(3, .inl (w.1 59 0 x1.toNat)), (0, .inr (.inr (some (8, 0)))), (1, .inl x1), (2, .inl x2)] (r.toList ++ []) w1 bc bs)))))))) :
    am_A (mh_G X) SC (d + 5) mX7_sew Q 0 [(0, .inr (.inr (some (8, 0)))), (1, .inl x1), (2, .inl x2)] [] w bc bs := by
  refine am_aload_n dX7_sew_0 (List.Mem.head _) ?_
  refine am_getf (f := 2) (v := .inr (.inr (some (59, 0)))) dX7_sew_1 hc_9 (by decide) wd_531 (by decide) rfl rfl ?_
  refine am_iload_n dX7_sew_4 (List.Mem.tail _ (List.Mem.head _)) ?_
  have o1 := h.1
  replace h := h.2
  have o2 := h.1
  replace h := h.2
  refine am_iaload (v := (w.1 59 0 x1.toNat)) dX7_sew_5 (by decide) rfl o1 o2 rfl ?_
  refine am_istore_n (ls' := [(3, .inl (w.1 59 0 x1.toNat)), (0, .inr (.inr (some (8, 0)))), (1, .inl x1), (2, .inl x2)]) dX7_sew_6 (by decide) rfl ?_
  refine am_aload_n dX7_sew_7 (List.Mem.tail _ (List.Mem.head _)) ?_
  refine am_getf (f := 0) (v := .inr (.inr (some (7, 0)))) dX7_sew_8 hc_9 (by decide) wd_529 (by decide) rfl rfl ?_
  refine am_getf (f := 3) (v := .inr (.inr (some (53, 0)))) dX7_sew_11 hc_8 (by decide) wd_482 (by decide) rfl rfl ?_
  refine am_iload_n dX7_sew_14 (List.Mem.head _) ?_
  have o3 := h.1
  replace h := h.2
  have o4 := h.1
  replace h := h.2
  refine am_iaload (v := (w.1 53 0 (w.1 59 0 x1.toNat).toNat)) dX7_sew_15 (by decide) rfl o3 o4 rfl ?_
  refine am_aload_n dX7_sew_16 (List.Mem.tail _ (List.Mem.head _)) ?_
  refine am_getf (f := 7) (v := .inr (.inr (some (64, 0)))) dX7_sew_17 hc_9 (by decide) wd_536 (by decide) rfl rfl ?_
  refine am_iload_n dX7_sew_20 (List.Mem.head _) ?_
  refine am_iaload (v := (w.1 64 0 (w.1 59 0 x1.toNat).toNat)) dX7_sew_21 (by decide) rfl o3 o4 rfl ?_
  refine am_icmple (tgt := 56) dX7_sew_22 (by decide) (fun c5 => ?_) (fun c5 => ?_)
  · replace h := h.1 c5
    exact am_ret (r := none) dX7_sew_56 rfl rfl h
  · replace h := h.2 c5
    refine am_aload_n dX7_sew_25 (List.Mem.tail _ (List.Mem.head _)) ?_
    refine am_getf (f := 7) (v := .inr (.inr (some (64, 0)))) dX7_sew_26 hc_9 (by decide) wd_536 (by decide) rfl rfl ?_
    refine am_iload_n dX7_sew_29 (List.Mem.head _) ?_
    refine am_dup2 dX7_sew_30 rfl rfl ?_
    refine am_iaload (v := (w.1 64 0 (w.1 59 0 x1.toNat).toNat)) dX7_sew_31 (by decide) rfl o3 o4 rfl ?_
    refine am_iconst dX7_sew_32 (by unfold am_rg; omega) ?_
    refine am_iadd dX7_sew_33 ?_
    refine am_iastore dX7_sew_34 (Or.inl (by decide)) rfl o3 o4 ?_
    refine am_aload_n dX7_sew_35 (List.Mem.tail _ (List.Mem.head _)) ?_
    refine am_iload_n dX7_sew_36 (List.Mem.tail _ (List.Mem.tail _ (List.Mem.head _))) ?_
    refine am_iconst dX7_sew_37 (by unfold am_rg; omega) ?_
    refine am_iconst dX7_sew_38 (by unfold am_rg; omega) ?_
    refine am_iload_n dX7_sew_39 (List.Mem.tail _ (List.Mem.tail _ (List.Mem.tail _ (List.Mem.head _)))) ?_
    refine am_bipush dX7_sew_40 (by decide) (by unfold am_rg; omega) ?_
    refine am_iadd dX7_sew_42 ?_
    exact am_callv (d' := d + 4) (kc := 0) (ks := 0) (as := [.inl x1, .inl 3, .inl (-1), .inl (am_w (x2 + 10))]) dX7_sew_43 wc_X7_pick wd_1450 wd_1452 wd_48 wd_121 ds_X7_pick (by decide) (by omega) (Nat.le_of_ble_eq_true rfl) (Nat.zero_le _) (Nat.zero_le _) hc_9 (by decide) rfl rfl h
theorem bX7_sew_46 {SC : Nat → Nat} {X : mh_X} {d : Nat} {Q : Option am_V → am_W → Prop} {bc bs : Nat} {w : am_W} {x3 : Int} {x1 : Int} {x2 : Int}
    (h : (0 ≤ x3 ∧ (x3 < 5 ∧ Q none ((am_up w.1 64 0 x3.toNat (am_w ((w.1 64 0 x3.toNat) - 1))), w.2)))) :
    am_A (mh_G X) SC (d + 5) mX7_sew Q 46 [(3, .inl x3), (0, .inr (.inr (some (8, 0)))), (1, .inl x1), (2, .inl x2)] [] w bc bs := by
  refine am_aload_n dX7_sew_46 (List.Mem.tail _ (List.Mem.head _)) ?_
  refine am_getf (f := 7) (v := .inr (.inr (some (64, 0)))) dX7_sew_47 hc_9 (by decide) wd_536 (by decide) rfl rfl ?_
  refine am_iload_n dX7_sew_50 (List.Mem.head _) ?_
  refine am_dup2 dX7_sew_51 rfl rfl ?_
  have o1 := h.1
  replace h := h.2
  have o2 := h.1
  replace h := h.2
  refine am_iaload (v := (w.1 64 0 x3.toNat)) dX7_sew_52 (by decide) rfl o1 o2 rfl ?_
  refine am_iconst dX7_sew_53 (by unfold am_rg; omega) ?_
  refine am_isub dX7_sew_54 ?_
  refine am_iastore dX7_sew_55 (Or.inl (by decide)) rfl o1 o2 ?_
  exact am_ret (r := none) dX7_sew_56 rfl rfl h
-- MourningHouse$Planner.wear(II)V
theorem dX7_wear_0 : decode mX7_wear.2.1 0 = .ok (.aload_n 0, 1) := by decide +kernel
theorem dX7_wear_1 : decode mX7_wear.2.1 1 = .ok (.getfield 52, 3) := by decide +kernel
theorem dX7_wear_4 : decode mX7_wear.2.1 4 = .ok (.aload_n 0, 1) := by decide +kernel
theorem dX7_wear_5 : decode mX7_wear.2.1 5 = .ok (.getfield 11, 3) := by decide +kernel
theorem dX7_wear_8 : decode mX7_wear.2.1 8 = .ok (.iload_n 1, 1) := by decide +kernel
theorem dX7_wear_9 : decode mX7_wear.2.1 9 = .ok (.iaload, 1) := by decide +kernel
theorem dX7_wear_10 : decode mX7_wear.2.1 10 = .ok (.aload_n 0, 1) := by decide +kernel
theorem dX7_wear_11 : decode mX7_wear.2.1 11 = .ok (.getfield 15, 3) := by decide +kernel
theorem dX7_wear_14 : decode mX7_wear.2.1 14 = .ok (.iload_n 1, 1) := by decide +kernel
theorem dX7_wear_15 : decode mX7_wear.2.1 15 = .ok (.iaload, 1) := by decide +kernel
theorem dX7_wear_16 : decode mX7_wear.2.1 16 = .ok (.aload_n 0, 1) := by decide +kernel
theorem dX7_wear_17 : decode mX7_wear.2.1 17 = .ok (.getfield 48, 3) := by decide +kernel
theorem dX7_wear_20 : decode mX7_wear.2.1 20 = .ok (.invokevirtual 94, 3) := by decide +kernel
theorem dX7_wear_23 : decode mX7_wear.2.1 23 = .ok (.istore_n 3, 1) := by decide +kernel
theorem dX7_wear_24 : decode mX7_wear.2.1 24 = .ok (.iload_n 3, 1) := by decide +kernel
theorem dX7_wear_25 : decode mX7_wear.2.1 25 = .ok (.iconst (-1), 1) := by decide +kernel
theorem dX7_wear_26 : decode mX7_wear.2.1 26 = .ok (.if_icmp .eq 11, 3) := by decide +kernel
theorem dX7_wear_29 : decode mX7_wear.2.1 29 = .ok (.aload_n 0, 1) := by decide +kernel
theorem dX7_wear_30 : decode mX7_wear.2.1 30 = .ok (.iload_n 1, 1) := by decide +kernel
theorem dX7_wear_31 : decode mX7_wear.2.1 31 = .ok (.iconst 1, 1) := by decide +kernel
theorem dX7_wear_32 : decode mX7_wear.2.1 32 = .ok (.iload_n 3, 1) := by decide +kernel
theorem dX7_wear_33 : decode mX7_wear.2.1 33 = .ok (.iload_n 2, 1) := by decide +kernel
theorem dX7_wear_34 : decode mX7_wear.2.1 34 = .ok (.invokevirtual 81, 3) := by decide +kernel
theorem dX7_wear_37 : decode mX7_wear.2.1 37 = .ok (.return_, 1) := by decide +kernel
theorem bX7_wear_0 {SC : Nat → Nat} {X : mh_X} {d : Nat} {Q : Option am_V → am_W → Prop} {bc bs : Nat} {w : am_W} {x1 : Int} {x2 : Int}
    (h : (0 ≤ x1 ∧ (x1 < 5 ∧ am_M (mh_G X) SC (d + 4) 0 0 mX9_leastDress [.inr (.inr (some (7, 0))), .inl (w.1 58 0 x1.toNat), .inl (w.1 59 0 x1.toNat), .inr (.inl (w.2.1 8 0 12))] w (fun r w1 => am_A (mh_G X) SC (d + 5) mX7_wear Q 23 [(0, .inr (.inr (some (8, 0)))), (1, .inl x1), (2, .inl x2)] (r.toList ++ []) w1 bc bs)))) :
    am_A (mh_G X) SC (d + 5) mX7_wear Q 0 [(0, .inr (.inr (some (8, 0)))), (1, .inl x1), (2, .inl x2)] [] w bc bs := by
  refine am_aload_n dX7_wear_0 (List.Mem.head _) ?_
  refine am_getf (f := 0) (v := .inr (.inr (some (7, 0)))) dX7_wear_1 hc_9 (by decide) wd_529 (by decide) rfl rfl ?_
  refine am_aload_n dX7_wear_4 (List.Mem.head _) ?_
  refine am_getf (f := 1) (v := .inr (.inr (some (58, 0)))) dX7_wear_5 hc_9 (by decide) wd_530 (by decide) rfl rfl ?_
  refine am_iload_n dX7_wear_8 (List.Mem.tail _ (List.Mem.head _)) ?_
  have o1 := h.1
  replace h := h.2
  have o2 := h.1
  replace h := h.2
  refine am_iaload (v := (w.1 58 0 x1.toNat)) dX7_wear_9 (by decide) rfl o1 o2 rfl ?_
  refine am_aload_n dX7_wear_10 (List.Mem.head _) ?_
  refine am_getf (f := 2) (v := .inr (.inr (some (59, 0)))) dX7_wear_11 hc_9 (by decide) wd_531 (by decide) rfl rfl ?_
  refine am_iload_n dX7_wear_14 (List.Mem.tail _ (List.Mem.head _)) ?_
  refine am_iaload (v := (w.1 59 0 x1.toNat)) dX7_wear_15 (by decide) rfl o1 o2 rfl ?_
  refine am_aload_n dX7_wear_16 (List.Mem.head _) ?_
  refine am_getf (f := 12) (v := .inr (.inl (w.2.1 8 0 12))) dX7_wear_17 hc_9 (by decide) wd_541 (by decide) rfl rfl ?_
  exact am_callv (d' := d + 4) (kc := 0) (ks := 0) (as := [.inl (w.1 58 0 x1.toNat), .inl (w.1 59 0 x1.toNat), .inr (.inl (w.2.1 8 0 12))]) dX7_wear_20 wc_X9_leastDress wd_1462 wd_1463 wd_1464 wd_120 ds_X9_leastDress (by decide) (by omega) (Nat.le_of_ble_eq_true rfl) (Nat.zero_le _) (Nat.zero_le _) hc_8 (by decide) rfl rfl h
theorem bX7_wear_23 {SC : Nat → Nat} {X : mh_X} {d : Nat} {Q : Option am_V → am_W → Prop} {bc bs : Nat} {w : am_W} {x1 : Int} {x2 : Int} {xs0 : Int}
    (h : ((xs0 = (-1) → Q none w) ∧ (¬ xs0 = (-1) → am_M (mh_G X) SC (d + 4) 0 0 mX7_pick [.inr (.inr (some (8, 0))), .inl x1, .inl 1, .inl xs0, .inl x2] w (fun r w1 => am_A (mh_G X) SC (d + 5) mX7_wear Q 37 [(3, .inl xs0), (0, .inr (.inr (some (8, 0)))), (1, .inl x1), (2, .inl x2)] (r.toList ++ []) w1 bc bs)))) :
    am_A (mh_G X) SC (d + 5) mX7_wear Q 23 [(0, .inr (.inr (some (8, 0)))), (1, .inl x1), (2, .inl x2)] [.inl xs0] w bc bs := by
  refine am_istore_n (ls' := [(3, .inl xs0), (0, .inr (.inr (some (8, 0)))), (1, .inl x1), (2, .inl x2)]) dX7_wear_23 (by decide) rfl ?_
  refine am_iload_n dX7_wear_24 (List.Mem.head _) ?_
  refine am_iconst dX7_wear_25 (by unfold am_rg; omega) ?_
  refine am_icmpeq (tgt := 37) dX7_wear_26 (by decide) (fun c1 => ?_) (fun c1 => ?_)
  · replace h := h.1 c1
    exact am_ret (r := none) dX7_wear_37 rfl rfl h
  · replace h := h.2 c1
    refine am_aload_n dX7_wear_29 (List.Mem.tail _ (List.Mem.head _)) ?_
    refine am_iload_n dX7_wear_30 (List.Mem.tail _ (List.Mem.tail _ (List.Mem.head _))) ?_
    refine am_iconst dX7_wear_31 (by unfold am_rg; omega) ?_
    refine am_iload_n dX7_wear_32 (List.Mem.head _) ?_
    refine am_iload_n dX7_wear_33 (List.Mem.tail _ (List.Mem.tail _ (List.Mem.tail _ (List.Mem.head _)))) ?_
    exact am_callv (d' := d + 4) (kc := 0) (ks := 0) (as := [.inl x1, .inl 1, .inl xs0, .inl x2]) dX7_wear_34 wc_X7_pick wd_1450 wd_1452 wd_48 wd_121 ds_X7_pick (by decide) (by omega) (Nat.le_of_ble_eq_true rfl) (Nat.zero_le _) (Nat.zero_le _) hc_9 (by decide) rfl rfl h
theorem bX7_wear_37 {SC : Nat → Nat} {X : mh_X} {d : Nat} {Q : Option am_V → am_W → Prop} {bc bs : Nat} {w : am_W} {x3 : Int} {x1 : Int} {x2 : Int}
    (h : Q none w) :
    am_A (mh_G X) SC (d + 5) mX7_wear Q 37 [(3, .inl x3), (0, .inr (.inr (some (8, 0)))), (1, .inl x1), (2, .inl x2)] [] w bc bs := by
  exact am_ret (r := none) dX7_wear_37 rfl rfl h
-- MourningHouse$Planner.choose(II)V
theorem dX7_choose_0 : decode mX7_choose.2.1 0 = .ok (.iload_n 2, 1) := by decide +kernel
theorem dX7_choose_1 : decode mX7_choose.2.1 1 = .ok (.aload_n 0, 1) := by decide +kernel
theorem dX7_choose_2 : decode mX7_choose.2.1 2 = .ok (.getfield 45, 3) := by decide +kernel
theorem dX7_choose_5 : decode mX7_choose.2.1 5 = .ok (.if_icmp .lt 4, 3) := by decide +kernel
theorem dX7_choose_8 : decode mX7_choose.2.1 8 = .ok (.return_, 1) := by decide +kernel
theorem dX7_choose_9 : decode mX7_choose.2.1 9 = .ok (.iload_n 1, 1) := by decide +kernel
theorem dX7_choose_10 : decode mX7_choose.2.1 10 = .ok (.aload_n 0, 1) := by decide +kernel
theorem dX7_choose_11 : decode mX7_choose.2.1 11 = .ok (.getfield 38, 3) := by decide +kernel
theorem dX7_choose_14 : decode mX7_choose.2.1 14 = .ok (.if_icmp .ge 8, 3) := by decide +kernel
theorem dX7_choose_17 : decode mX7_choose.2.1 17 = .ok (.iload_n 1, 1) := by decide +kernel
theorem dX7_choose_18 : decode mX7_choose.2.1 18 = .ok (.iconst 5, 1) := by decide +kernel
theorem dX7_choose_19 : decode mX7_choose.2.1 19 = .ok (.if_icmp .lt 11, 3) := by decide +kernel
theorem dX7_choose_22 : decode mX7_choose.2.1 22 = .ok (.aload_n 0, 1) := by decide +kernel
theorem dX7_choose_23 : decode mX7_choose.2.1 23 = .ok (.iload_n 2, 1) := by decide +kernel
theorem dX7_choose_24 : decode mX7_choose.2.1 24 = .ok (.invokevirtual 77, 3) := by decide +kernel
theorem dX7_choose_27 : decode mX7_choose.2.1 27 = .ok (.goto 52, 3) := by decide +kernel
theorem dX7_choose_30 : decode mX7_choose.2.1 30 = .ok (.aload_n 0, 1) := by decide +kernel
theorem dX7_choose_31 : decode mX7_choose.2.1 31 = .ok (.getfield 15, 3) := by decide +kernel
theorem dX7_choose_34 : decode mX7_choose.2.1 34 = .ok (.iload_n 1, 1) := by decide +kernel
theorem dX7_choose_35 : decode mX7_choose.2.1 35 = .ok (.iaload, 1) := by decide +kernel
theorem dX7_choose_36 : decode mX7_choose.2.1 36 = .ok (.ifCond .ne 14, 3) := by decide +kernel
theorem dX7_choose_39 : decode mX7_choose.2.1 39 = .ok (.aload_n 0, 1) := by decide +kernel
theorem dX7_choose_40 : decode mX7_choose.2.1 40 = .ok (.iload_n 1, 1) := by decide +kernel
theorem dX7_choose_41 : decode mX7_choose.2.1 41 = .ok (.iconst 0, 1) := by decide +kernel
theorem dX7_choose_42 : decode mX7_choose.2.1 42 = .ok (.iconst (-1), 1) := by decide +kernel
theorem dX7_choose_43 : decode mX7_choose.2.1 43 = .ok (.iload_n 2, 1) := by decide +kernel
theorem dX7_choose_44 : decode mX7_choose.2.1 44 = .ok (.invokevirtual 81, 3) := by decide +kernel
theorem dX7_choose_47 : decode mX7_choose.2.1 47 = .ok (.goto 32, 3) := by decide +kernel
theorem dX7_choose_50 : decode mX7_choose.2.1 50 = .ok (.aload_n 0, 1) := by decide +kernel
theorem dX7_choose_51 : decode mX7_choose.2.1 51 = .ok (.iload_n 1, 1) := by decide +kernel
theorem dX7_choose_52 : decode mX7_choose.2.1 52 = .ok (.iload_n 2, 1) := by decide +kernel
theorem dX7_choose_53 : decode mX7_choose.2.1 53 = .ok (.invokevirtual 85, 3) := by decide +kernel
theorem dX7_choose_56 : decode mX7_choose.2.1 56 = .ok (.aload_n 0, 1) := by decide +kernel
theorem dX7_choose_57 : decode mX7_choose.2.1 57 = .ok (.iload_n 1, 1) := by decide +kernel
theorem dX7_choose_58 : decode mX7_choose.2.1 58 = .ok (.iload_n 2, 1) := by decide +kernel
theorem dX7_choose_59 : decode mX7_choose.2.1 59 = .ok (.invokevirtual 88, 3) := by decide +kernel
theorem dX7_choose_62 : decode mX7_choose.2.1 62 = .ok (.aload_n 0, 1) := by decide +kernel
theorem dX7_choose_63 : decode mX7_choose.2.1 63 = .ok (.iload_n 1, 1) := by decide +kernel
theorem dX7_choose_64 : decode mX7_choose.2.1 64 = .ok (.iload_n 2, 1) := by decide +kernel
theorem dX7_choose_65 : decode mX7_choose.2.1 65 = .ok (.invokevirtual 91, 3) := by decide +kernel
theorem dX7_choose_68 : decode mX7_choose.2.1 68 = .ok (.aload_n 0, 1) := by decide +kernel
theorem dX7_choose_69 : decode mX7_choose.2.1 69 = .ok (.iload_n 1, 1) := by decide +kernel
theorem dX7_choose_70 : decode mX7_choose.2.1 70 = .ok (.iconst 4, 1) := by decide +kernel
theorem dX7_choose_71 : decode mX7_choose.2.1 71 = .ok (.iconst (-1), 1) := by decide +kernel
theorem dX7_choose_72 : decode mX7_choose.2.1 72 = .ok (.iload_n 2, 1) := by decide +kernel
theorem dX7_choose_73 : decode mX7_choose.2.1 73 = .ok (.bipush 100, 2) := by decide +kernel
theorem dX7_choose_75 : decode mX7_choose.2.1 75 = .ok (.iadd, 1) := by decide +kernel
theorem dX7_choose_76 : decode mX7_choose.2.1 76 = .ok (.invokevirtual 81, 3) := by decide +kernel
theorem dX7_choose_79 : decode mX7_choose.2.1 79 = .ok (.return_, 1) := by decide +kernel
theorem bX7_choose_0 {SC : Nat → Nat} {X : mh_X} {d : Nat} {Q : Option am_V → am_W → Prop} {bc bs : Nat} {w : am_W} {x1 : Int} {x2 : Int}
    (h : ((x2 < (w.1 8 0 11) → (((w.1 8 0 9) ≤ x1 → am_A (mh_G X) SC (d + 6) mX7_choose Q 22 [(0, .inr (.inr (some (8, 0)))), (2, .inl x2)] [] w bc bs) ∧ (¬ (w.1 8 0 9) ≤ x1 → ((x1 < 5 → (0 ≤ x1 ∧ ((¬ (w.1 59 0 x1.toNat) = 0 → am_M (mh_G X) SC (d + 5) 0 0 mX7_wear [.inr (.inr (some (8, 0))), .inl x1, .inl x2] w (fun r w1 => am_A (mh_G X) SC (d + 6) mX7_choose Q 56 [(0, .inr (.inr (some (8, 0)))), (1, .inl x1), (2, .inl x2)] (r.toList ++ []) w1 bc bs)) ∧ ((w.1 59 0 x1.toNat) = 0 → am_M (mh_G X) SC (d + 5) 0 0 mX7_pick [.inr (.inr (some (8, 0))), .inl x1, .inl 0, .inl (-1), .inl x2] w (fun r w1 => am_A (mh_G X) SC (d + 6) mX7_choose Q 47 [(0, .inr (.inr (some (8, 0)))), (1, .inl x1), (2, .inl x2)] (r.toList ++ []) w1 bc bs))))) ∧ (¬ x1 < 5 → am_A (mh_G X) SC (d + 6) mX7_choose Q 22 [(0, .inr (.inr (some (8, 0)))), (2, .inl x2)] [] w bc bs))))) ∧ (¬ x2 < (w.1 8 0 11) → Q none w))) :
    am_A (mh_G X) SC (d + 6) mX7_choose Q 0 [(0, .inr (.inr (some (8, 0)))), (1, .inl x1), (2, .inl x2)] [] w bc bs := by
  refine am_iload_n dX7_choose_0 (List.Mem.tail _ (List.Mem.tail _ (List.Mem.head _))) ?_
  refine am_aload_n dX7_choose_1 (List.Mem.head _) ?_
  refine am_getf (f := 11) (v := .inl (w.1 8 0 11)) dX7_choose_2 hc_9 (by decide) wd_540 (by decide) rfl rfl ?_
  refine am_icmplt (tgt := 9) dX7_choose_5 (by decide) (fun c1 => ?_) (fun c1 => ?_)
  · replace h := h.1 c1
    refine am_iload_n dX7_choose_9 (List.Mem.tail _ (List.Mem.head _)) ?_
    refine am_aload_n dX7_choose_10 (List.Mem.head _) ?_
    refine am_getf (f := 9) (v := .inl (w.1 8 0 9)) dX7_choose_11 hc_9 (by decide) wd_538 (by decide) rfl rfl ?_
    refine am_icmpge (tgt := 22) dX7_choose_14 (by decide) (fun c2 => ?_) (fun c2 => ?_)
    · replace h := h.1 c2
      exact am_sub [0, 2] rfl h
    · replace h := h.2 c2
      refine am_iload_n dX7_choose_17 (List.Mem.tail _ (List.Mem.head _)) ?_
      refine am_iconst dX7_choose_18 (by unfold am_rg; omega) ?_
      refine am_icmplt (tgt := 30) dX7_choose_19 (by decide) (fun c3 => ?_) (fun c3 => ?_)
      · replace h := h.1 c3
        refine am_aload_n dX7_choose_30 (List.Mem.head _) ?_
        refine am_getf (f := 2) (v := .inr (.inr (some (59, 0)))) dX7_choose_31 hc_9 (by decide) wd_531 (by decide) rfl rfl ?_
        refine am_iload_n dX7_choose_34 (List.Mem.tail _ (List.Mem.head _)) ?_
        have o4 := h.1
        replace h := h.2
        refine am_iaload (v := (w.1 59 0 x1.toNat)) dX7_choose_35 (by decide) rfl o4 c3 rfl ?_
        refine am_ifne (tgt := 50) dX7_choose_36 (by decide) (fun c5 => ?_) (fun c5 => ?_)
        · replace h := h.1 c5
          refine am_aload_n dX7_choose_50 (List.Mem.head _) ?_
          refine am_iload_n dX7_choose_51 (List.Mem.tail _ (List.Mem.head _)) ?_
          refine am_iload_n dX7_choose_52 (List.Mem.tail _ (List.Mem.tail _ (List.Mem.head _))) ?_
          exact am_callv (d' := d + 5) (kc := 0) (ks := 0) (as := [.inl x1, .inl x2]) dX7_choose_53 wc_X7_wear wd_1458 wd_1460 wd_50 wd_121 ds_X7_wear (by decide) (by omega) (Nat.le_of_ble_eq_true rfl) (Nat.zero_le _) (Nat.zero_le _) hc_9 (by decide) rfl rfl h
        · replace h := h.2 c5
          refine am_aload_n dX7_choose_39 (List.Mem.head _) ?_
          refine am_iload_n dX7_choose_40 (List.Mem.tail _ (List.Mem.head _)) ?_
          refine am_iconst dX7_choose_41 (by unfold am_rg; omega) ?_
          refine am_iconst dX7_choose_42 (by unfold am_rg; omega) ?_
          refine am_iload_n dX7_choose_43 (List.Mem.tail _ (List.Mem.tail _ (List.Mem.head _))) ?_
          exact am_callv (d' := d + 5) (kc := 0) (ks := 0) (as := [.inl x1, .inl 0, .inl (-1), .inl x2]) dX7_choose_44 wc_X7_pick wd_1450 wd_1452 wd_48 wd_121 ds_X7_pick (by decide) (by omega) (Nat.le_of_ble_eq_true rfl) (Nat.zero_le _) (Nat.zero_le _) hc_9 (by decide) rfl rfl h
      · replace h := h.2 c3
        exact am_sub [0, 2] rfl h
  · replace h := h.2 c1
    exact am_ret (r := none) dX7_choose_8 rfl rfl h
theorem bX7_choose_22 {SC : Nat → Nat} {X : mh_X} {d : Nat} {Q : Option am_V → am_W → Prop} {bc bs : Nat} {w : am_W} {x2 : Int}
    (h : am_M (mh_G X) SC (d + 5) 0 0 mX7_keep [.inr (.inr (some (8, 0))), .inl x2] w (fun r w1 => am_A (mh_G X) SC (d + 6) mX7_choose Q 27 [(0, .inr (.inr (some (8, 0)))), (2, .inl x2)] (r.toList ++ []) w1 bc bs)) :
    am_A (mh_G X) SC (d + 6) mX7_choose Q 22 [(0, .inr (.inr (some (8, 0)))), (2, .inl x2)] [] w bc bs := by
  refine am_aload_n dX7_choose_22 (List.Mem.head _) ?_
  refine am_iload_n dX7_choose_23 (List.Mem.tail _ (List.Mem.head _)) ?_
  exact am_callv (d' := d + 5) (kc := 0) (ks := 0) (as := [.inl x2]) dX7_choose_24 wc_X7_keep wd_1446 wd_1448 wd_47 wd_121 ds_X7_keep (by decide) (by omega) (Nat.le_of_ble_eq_true rfl) (Nat.zero_le _) (Nat.zero_le _) hc_9 (by decide) rfl rfl h
theorem bX7_choose_56 {SC : Nat → Nat} {X : mh_X} {d : Nat} {Q : Option am_V → am_W → Prop} {bc bs : Nat} {w : am_W} {x1 : Int} {x2 : Int}
    (h : am_M (mh_G X) SC (d + 5) 0 0 mX7_dyeDarker [.inr (.inr (some (8, 0))), .inl x1, .inl x2] w (fun r w1 => am_A (mh_G X) SC (d + 6) mX7_choose Q 62 [(0, .inr (.inr (some (8, 0)))), (1, .inl x1), (2, .inl x2)] (r.toList ++ []) w1 bc bs)) :
    am_A (mh_G X) SC (d + 6) mX7_choose Q 56 [(0, .inr (.inr (some (8, 0)))), (1, .inl x1), (2, .inl x2)] [] w bc bs := by
  refine am_aload_n dX7_choose_56 (List.Mem.head _) ?_
  refine am_iload_n dX7_choose_57 (List.Mem.tail _ (List.Mem.head _)) ?_
  refine am_iload_n dX7_choose_58 (List.Mem.tail _ (List.Mem.tail _ (List.Mem.head _))) ?_
  exact am_callv (d' := d + 5) (kc := 0) (ks := 0) (as := [.inl x1, .inl x2]) dX7_choose_59 wc_X7_dyeDarker wd_1466 wd_1468 wd_51 wd_121 ds_X7_dyeDarker (by decide) (by omega) (Nat.le_of_ble_eq_true rfl) (Nat.zero_le _) (Nat.zero_le _) hc_9 (by decide) rfl rfl h
theorem bX7_choose_47 {SC : Nat → Nat} {X : mh_X} {d : Nat} {Q : Option am_V → am_W → Prop} {bc bs : Nat} {w : am_W} {x1 : Int} {x2 : Int}
    (h : Q none w) :
    am_A (mh_G X) SC (d + 6) mX7_choose Q 47 [(0, .inr (.inr (some (8, 0)))), (1, .inl x1), (2, .inl x2)] [] w bc bs := by
  refine am_goto (tgt := 79) dX7_choose_47 (by decide) ?_
  exact am_ret (r := none) dX7_choose_79 rfl rfl h
theorem bX7_choose_27 {SC : Nat → Nat} {X : mh_X} {d : Nat} {Q : Option am_V → am_W → Prop} {bc bs : Nat} {w : am_W} {x2 : Int}
    (h : Q none w) :
    am_A (mh_G X) SC (d + 6) mX7_choose Q 27 [(0, .inr (.inr (some (8, 0)))), (2, .inl x2)] [] w bc bs := by
  refine am_goto (tgt := 79) dX7_choose_27 (by decide) ?_
  exact am_ret (r := none) dX7_choose_79 rfl rfl h
theorem bX7_choose_62 {SC : Nat → Nat} {X : mh_X} {d : Nat} {Q : Option am_V → am_W → Prop} {bc bs : Nat} {w : am_W} {x1 : Int} {x2 : Int}
    (h : am_M (mh_G X) SC (d + 5) 0 0 mX7_sew [.inr (.inr (some (8, 0))), .inl x1, .inl x2] w (fun r w1 => am_A (mh_G X) SC (d + 6) mX7_choose Q 68 [(0, .inr (.inr (some (8, 0)))), (1, .inl x1), (2, .inl x2)] (r.toList ++ []) w1 bc bs)) :
    am_A (mh_G X) SC (d + 6) mX7_choose Q 62 [(0, .inr (.inr (some (8, 0)))), (1, .inl x1), (2, .inl x2)] [] w bc bs := by
  refine am_aload_n dX7_choose_62 (List.Mem.head _) ?_
  refine am_iload_n dX7_choose_63 (List.Mem.tail _ (List.Mem.head _)) ?_
  refine am_iload_n dX7_choose_64 (List.Mem.tail _ (List.Mem.tail _ (List.Mem.head _))) ?_
  exact am_callv (d' := d + 5) (kc := 0) (ks := 0) (as := [.inl x1, .inl x2]) dX7_choose_65 wc_X7_sew wd_1470 wd_1472 wd_52 wd_121 ds_X7_sew (by decide) (by omega) (Nat.le_of_ble_eq_true rfl) (Nat.zero_le _) (Nat.zero_le _) hc_9 (by decide) rfl rfl h
theorem bX7_choose_68 {SC : Nat → Nat} {X : mh_X} {d : Nat} {Q : Option am_V → am_W → Prop} {bc bs : Nat} {w : am_W} {x1 : Int} {x2 : Int}
    (h : am_M (mh_G X) SC (d + 5) 0 0 mX7_pick [.inr (.inr (some (8, 0))), .inl x1, .inl 4, .inl (-1), .inl (am_w (x2 + 100))] w (fun r w1 => am_A (mh_G X) SC (d + 6) mX7_choose Q 79 [(0, .inr (.inr (some (8, 0)))), (1, .inl x1), (2, .inl x2)] (r.toList ++ []) w1 bc bs)) :
    am_A (mh_G X) SC (d + 6) mX7_choose Q 68 [(0, .inr (.inr (some (8, 0)))), (1, .inl x1), (2, .inl x2)] [] w bc bs := by
  refine am_aload_n dX7_choose_68 (List.Mem.head _) ?_
  refine am_iload_n dX7_choose_69 (List.Mem.tail _ (List.Mem.head _)) ?_
  refine am_iconst dX7_choose_70 (by unfold am_rg; omega) ?_
  refine am_iconst dX7_choose_71 (by unfold am_rg; omega) ?_
  refine am_iload_n dX7_choose_72 (List.Mem.tail _ (List.Mem.tail _ (List.Mem.head _))) ?_
  refine am_bipush dX7_choose_73 (by decide) (by unfold am_rg; omega) ?_
  refine am_iadd dX7_choose_75 ?_
  exact am_callv (d' := d + 5) (kc := 0) (ks := 0) (as := [.inl x1, .inl 4, .inl (-1), .inl (am_w (x2 + 100))]) dX7_choose_76 wc_X7_pick wd_1450 wd_1452 wd_48 wd_121 ds_X7_pick (by decide) (by omega) (Nat.le_of_ble_eq_true rfl) (Nat.zero_le _) (Nat.zero_le _) hc_9 (by decide) rfl rfl h
theorem bX7_choose_79 {SC : Nat → Nat} {X : mh_X} {d : Nat} {Q : Option am_V → am_W → Prop} {bc bs : Nat} {w : am_W} {x1 : Int} {x2 : Int}
    (h : Q none w) :
    am_A (mh_G X) SC (d + 6) mX7_choose Q 79 [(0, .inr (.inr (some (8, 0)))), (1, .inl x1), (2, .inl x2)] [] w bc bs := by
  exact am_ret (r := none) dX7_choose_79 rfl rfl h
-- MourningHouse$Planner.takeHands()V
theorem dX7_takeHands_0 : decode mX7_takeHands.2.1 0 = .ok (.iconst 0, 1) := by decide +kernel
theorem dX7_takeHands_1 : decode mX7_takeHands.2.1 1 = .ok (.istore_n 1, 1) := by decide +kernel
theorem dX7_takeHands_2 : decode mX7_takeHands.2.1 2 = .ok (.iload_n 1, 1) := by decide +kernel
theorem dX7_takeHands_3 : decode mX7_takeHands.2.1 3 = .ok (.iconst 4, 1) := by decide +kernel
theorem dX7_takeHands_4 : decode mX7_takeHands.2.1 4 = .ok (.if_icmp .ge 16, 3) := by decide +kernel
theorem dX7_takeHands_7 : decode mX7_takeHands.2.1 7 = .ok (.aload_n 0, 1) := by decide +kernel
theorem dX7_takeHands_8 : decode mX7_takeHands.2.1 8 = .ok (.getfield 35, 3) := by decide +kernel
theorem dX7_takeHands_11 : decode mX7_takeHands.2.1 11 = .ok (.iload_n 1, 1) := by decide +kernel
theorem dX7_takeHands_12 : decode mX7_takeHands.2.1 12 = .ok (.iconst 0, 1) := by decide +kernel
theorem dX7_takeHands_13 : decode mX7_takeHands.2.1 13 = .ok (.iastore, 1) := by decide +kernel
theorem dX7_takeHands_14 : decode mX7_takeHands.2.1 14 = .ok (.iinc 1 1, 3) := by decide +kernel
theorem dX7_takeHands_17 : decode mX7_takeHands.2.1 17 = .ok (.goto (-15), 3) := by decide +kernel
theorem dX7_takeHands_20 : decode mX7_takeHands.2.1 20 = .ok (.iconst 0, 1) := by decide +kernel
theorem dX7_takeHands_21 : decode mX7_takeHands.2.1 21 = .ok (.istore_n 1, 1) := by decide +kernel
theorem dX7_takeHands_22 : decode mX7_takeHands.2.1 22 = .ok (.iload_n 1, 1) := by decide +kernel
theorem dX7_takeHands_23 : decode mX7_takeHands.2.1 23 = .ok (.aload_n 0, 1) := by decide +kernel
theorem dX7_takeHands_24 : decode mX7_takeHands.2.1 24 = .ok (.getfield 52, 3) := by decide +kernel
theorem dX7_takeHands_27 : decode mX7_takeHands.2.1 27 = .ok (.getfield 64, 3) := by decide +kernel
theorem dX7_takeHands_30 : decode mX7_takeHands.2.1 30 = .ok (.if_icmp .ge 41, 3) := by decide +kernel
theorem dX7_takeHands_33 : decode mX7_takeHands.2.1 33 = .ok (.aload_n 0, 1) := by decide +kernel
theorem dX7_takeHands_34 : decode mX7_takeHands.2.1 34 = .ok (.getfield 52, 3) := by decide +kernel
theorem dX7_takeHands_37 : decode mX7_takeHands.2.1 37 = .ok (.getfield 67, 3) := by decide +kernel
theorem dX7_takeHands_40 : decode mX7_takeHands.2.1 40 = .ok (.ifCond .le 31, 3) := by decide +kernel
theorem dX7_takeHands_43 : decode mX7_takeHands.2.1 43 = .ok (.aload_n 0, 1) := by decide +kernel
theorem dX7_takeHands_44 : decode mX7_takeHands.2.1 44 = .ok (.getfield 35, 3) := by decide +kernel
theorem dX7_takeHands_47 : decode mX7_takeHands.2.1 47 = .ok (.aload_n 0, 1) := by decide +kernel
theorem dX7_takeHands_48 : decode mX7_takeHands.2.1 48 = .ok (.iconst 0, 1) := by decide +kernel
theorem dX7_takeHands_49 : decode mX7_takeHands.2.1 49 = .ok (.invokevirtual 70, 3) := by decide +kernel
theorem dX7_takeHands_52 : decode mX7_takeHands.2.1 52 = .ok (.dup2, 1) := by decide +kernel
theorem dX7_takeHands_53 : decode mX7_takeHands.2.1 53 = .ok (.iaload, 1) := by decide +kernel
theorem dX7_takeHands_54 : decode mX7_takeHands.2.1 54 = .ok (.aload_n 0, 1) := by decide +kernel
theorem dX7_takeHands_55 : decode mX7_takeHands.2.1 55 = .ok (.getfield 52, 3) := by decide +kernel
theorem dX7_takeHands_58 : decode mX7_takeHands.2.1 58 = .ok (.getfield 74, 3) := by decide +kernel
theorem dX7_takeHands_61 : decode mX7_takeHands.2.1 61 = .ok (.iload_n 1, 1) := by decide +kernel
theorem dX7_takeHands_62 : decode mX7_takeHands.2.1 62 = .ok (.iaload, 1) := by decide +kernel
theorem dX7_takeHands_63 : decode mX7_takeHands.2.1 63 = .ok (.iadd, 1) := by decide +kernel
theorem dX7_takeHands_64 : decode mX7_takeHands.2.1 64 = .ok (.iastore, 1) := by decide +kernel
theorem dX7_takeHands_65 : decode mX7_takeHands.2.1 65 = .ok (.iinc 1 1, 3) := by decide +kernel
theorem dX7_takeHands_68 : decode mX7_takeHands.2.1 68 = .ok (.goto (-46), 3) := by decide +kernel
theorem dX7_takeHands_71 : decode mX7_takeHands.2.1 71 = .ok (.return_, 1) := by decide +kernel
theorem bX7_takeHands_0 {SC : Nat → Nat} {X : mh_X} {d : Nat} {Q : Option am_V → am_W → Prop} {bc bs : Nat} {w : am_W} 
    (h : am_A (mh_G X) SC (d + 2) mX7_takeHands Q 2 [(0, .inr (.inr (some (8, 0)))), (1, .inl 0)] [] w bc bs) :
    am_A (mh_G X) SC (d + 2) mX7_takeHands Q 0 [(0, .inr (.inr (some (8, 0))))] [] w bc bs := by
  refine am_iconst dX7_takeHands_0 (by unfold am_rg; omega) ?_
  refine am_istore_n (ls' := [(1, .inl 0), (0, .inr (.inr (some (8, 0))))]) dX7_takeHands_1 (by decide) rfl ?_
  exact am_sub [1, 0] rfl h
theorem bX7_takeHands_2 {SC : Nat → Nat} {X : mh_X} {d : Nat} {Q : Option am_V → am_W → Prop} {bc bs : Nat} {w : am_W} {x1 : Int}
    (h : ((4 ≤ x1 → am_A (mh_G X) SC (d + 2) mX7_takeHands Q 22 [(0, .inr (.inr (some (8, 0)))), (1, .inl 0)] [] w bc bs) ∧ (¬ 4 ≤ x1 → (0 ≤ x1 ∧ (x1 < 24 ∧ am_A (mh_G X) SC (d + 2) mX7_takeHands Q 2 [(0, .inr (.inr (some (8, 0)))), (1, .inl (am_w (x1 + 1)))] [] ((am_up w.1 65 0 x1.toNat 0), w.2) bc bs))))) :
    am_A (mh_G X) SC (d + 2) mX7_takeHands Q 2 [(0, .inr (.inr (some (8, 0)))), (1, .inl x1)] [] w bc bs := by
  refine am_iload_n dX7_takeHands_2 (List.Mem.tail _ (List.Mem.head _)) ?_
  refine am_iconst dX7_takeHands_3 (by unfold am_rg; omega) ?_
  refine am_icmpge (tgt := 20) dX7_takeHands_4 (by decide) (fun c1 => ?_) (fun c1 => ?_)
  · replace h := h.1 c1
    refine am_iconst dX7_takeHands_20 (by unfold am_rg; omega) ?_
    refine am_istore_n (ls' := [(1, .inl 0), (0, .inr (.inr (some (8, 0))))]) dX7_takeHands_21 (by decide) rfl ?_
    exact am_sub [1, 0] rfl h
  · replace h := h.2 c1
    refine am_aload_n dX7_takeHands_7 (List.Mem.head _) ?_
    refine am_getf (f := 8) (v := .inr (.inr (some (65, 0)))) dX7_takeHands_8 hc_9 (by decide) wd_537 (by decide) rfl rfl ?_
    refine am_iload_n dX7_takeHands_11 (List.Mem.tail _ (List.Mem.head _)) ?_
    refine am_iconst dX7_takeHands_12 (by unfold am_rg; omega) ?_
    have o2 := h.1
    replace h := h.2
    have o3 := h.1
    replace h := h.2
    refine am_iastore dX7_takeHands_13 (Or.inl (by decide)) rfl o2 o3 ?_
    refine am_iinc (ls' := [(1, .inl (am_w (x1 + 1))), (0, .inr (.inr (some (8, 0))))]) dX7_takeHands_14 (List.Mem.tail _ (List.Mem.head _)) (by decide) rfl ?_
    refine am_goto (tgt := 2) dX7_takeHands_17 (by decide) ?_
    exact am_sub [1, 0] rfl h
theorem bX7_takeHands_22 {SC : Nat → Nat} {X : mh_X} {d : Nat} {Q : Option am_V → am_W → Prop} {bc bs : Nat} {w : am_W} {x1 : Int}
    (h : (((w.1 7 0 9) ≤ x1 → Q none w) ∧ (¬ (w.1 7 0 9) ≤ x1 → (((w.1 7 0 10) ≤ 0 → Q none w) ∧ (¬ (w.1 7 0 10) ≤ 0 → am_M (mh_G X) SC (d + 1) 0 0 mX7_freeHand [.inr (.inr (some (8, 0))), .inl 0] w (fun r w1 => am_A (mh_G X) SC (d + 2) mX7_takeHands Q 52 [(0, .inr (.inr (some (8, 0)))), (1, .inl x1)] (r.toList ++ [.inr (.inr (some (65, 0)))]) w1 bc bs)))))) :
    am_A (mh_G X) SC (d + 2) mX7_takeHands Q 22 [(0, .inr (.inr (some (8, 0)))), (1, .inl x1)] [] w bc bs := by
  refine am_iload_n dX7_takeHands_22 (List.Mem.tail _ (List.Mem.head _)) ?_
  refine am_aload_n dX7_takeHands_23 (List.Mem.head _) ?_
  refine am_getf (f := 0) (v := .inr (.inr (some (7, 0)))) dX7_takeHands_24 hc_9 (by decide) wd_529 (by decide) rfl rfl ?_
  refine am_getf (f := 9) (v := .inl (w.1 7 0 9)) dX7_takeHands_27 hc_8 (by decide) wd_491 (by decide) rfl rfl ?_
  refine am_icmpge (tgt := 71) dX7_takeHands_30 (by decide) (fun c1 => ?_) (fun c1 => ?_)
  · replace h := h.1 c1
    exact am_ret (r := none) dX7_takeHands_71 rfl rfl h
  · replace h := h.2 c1
    refine am_aload_n dX7_takeHands_33 (List.Mem.head _) ?_
    refine am_getf (f := 0) (v := .inr (.inr (some (7, 0)))) dX7_takeHands_34 hc_9 (by decide) wd_529 (by decide) rfl rfl ?_
    refine am_getf (f := 10) (v := .inl (w.1 7 0 10)) dX7_takeHands_37 hc_8 (by decide) wd_494 (by decide) rfl rfl ?_
    refine am_ifle (tgt := 71) dX7_takeHands_40 (by decide) (fun c2 => ?_) (fun c2 => ?_)
    · replace h := h.1 c2
      exact am_ret (r := none) dX7_takeHands_71 rfl rfl h
    · replace h := h.2 c2
      refine am_aload_n dX7_takeHands_43 (List.Mem.head _) ?_
      refine am_getf (f := 8) (v := .inr (.inr (some (65, 0)))) dX7_takeHands_44 hc_9 (by decide) wd_537 (by decide) rfl rfl ?_
      refine am_aload_n dX7_takeHands_47 (List.Mem.head _) ?_
      refine am_iconst dX7_takeHands_48 (by unfold am_rg; omega) ?_
      exact am_callv (d' := d + 1) (kc := 0) (ks := 0) (as := [.inl 0]) dX7_takeHands_49 wc_X7_freeHand wd_1438 wd_1440 wd_45 wd_121 ds_X7_freeHand (by decide) (by omega) (Nat.le_of_ble_eq_true rfl) (Nat.zero_le _) (Nat.zero_le _) hc_9 (by decide) rfl rfl h
theorem bX7_takeHands_52 {SC : Nat → Nat} {X : mh_X} {d : Nat} {Q : Option am_V → am_W → Prop} {bc bs : Nat} {w : am_W} {x1 : Int} {xs0 : Int}
    (h : (0 ≤ xs0 ∧ (xs0 < 24 ∧ (0 ≤ x1 ∧ (x1 < 20 ∧ am_A (mh_G X) SC (d + 2) mX7_takeHands Q 22 [(0, .inr (.inr (some (8, 0)))), (1, .inl (am_w (x1 + 1)))] [] ((am_up w.1 65 0 xs0.toNat (am_w ((w.1 65 0 xs0.toNat) + (w.1 57 0 x1.toNat)))), w.2) bc bs))))) :
    am_A (mh_G X) SC (d + 2) mX7_takeHands Q 52 [(0, .inr (.inr (some (8, 0)))), (1, .inl x1)] [.inl xs0, .inr (.inr (some (65, 0)))] w bc bs := by
  refine am_dup2 dX7_takeHands_52 rfl rfl ?_
  have o1 := h.1
  replace h := h.2
  have o2 := h.1
  replace h := h.2
  refine am_iaload (v := (w.1 65 0 xs0.toNat)) dX7_takeHands_53 (by decide) rfl o1 o2 rfl ?_
  refine am_aload_n dX7_takeHands_54 (List.Mem.head _) ?_
  refine am_getf (f := 0) (v := .inr (.inr (some (7, 0)))) dX7_takeHands_55 hc_9 (by decide) wd_529 (by decide) rfl rfl ?_
  refine am_getf (f := 7) (v := .inr (.inr (some (57, 0)))) dX7_takeHands_58 hc_8 (by decide) wd_487 (by decide) rfl rfl ?_
  refine am_iload_n dX7_takeHands_61 (List.Mem.tail _ (List.Mem.head _)) ?_
  have o3 := h.1
  replace h := h.2
  have o4 := h.1
  replace h := h.2
  refine am_iaload (v := (w.1 57 0 x1.toNat)) dX7_takeHands_62 (by decide) rfl o3 o4 rfl ?_
  refine am_iadd dX7_takeHands_63 ?_
  refine am_iastore dX7_takeHands_64 (Or.inl (by decide)) rfl o1 o2 ?_
  refine am_iinc (ls' := [(1, .inl (am_w (x1 + 1))), (0, .inr (.inr (some (8, 0))))]) dX7_takeHands_65 (List.Mem.tail _ (List.Mem.head _)) (by decide) rfl ?_
  refine am_goto (tgt := 22) dX7_takeHands_68 (by decide) ?_
  exact am_sub [1, 0] rfl h
-- MourningHouse$Planner.solve()V
theorem dX7_solve_0 : decode mX7_solve.2.1 0 = .ok (.iconst 0, 1) := by decide +kernel
theorem dX7_solve_1 : decode mX7_solve.2.1 1 = .ok (.istore_n 1, 1) := by decide +kernel
theorem dX7_solve_2 : decode mX7_solve.2.1 2 = .ok (.iload_n 1, 1) := by decide +kernel
theorem dX7_solve_3 : decode mX7_solve.2.1 3 = .ok (.aload_n 0, 1) := by decide +kernel
theorem dX7_solve_4 : decode mX7_solve.2.1 4 = .ok (.getfield 32, 3) := by decide +kernel
theorem dX7_solve_7 : decode mX7_solve.2.1 7 = .ok (.arraylength, 1) := by decide +kernel
theorem dX7_solve_8 : decode mX7_solve.2.1 8 = .ok (.if_icmp .ge 16, 3) := by decide +kernel
theorem dX7_solve_11 : decode mX7_solve.2.1 11 = .ok (.aload_n 0, 1) := by decide +kernel
theorem dX7_solve_12 : decode mX7_solve.2.1 12 = .ok (.getfield 32, 3) := by decide +kernel
theorem dX7_solve_15 : decode mX7_solve.2.1 15 = .ok (.iload_n 1, 1) := by decide +kernel
theorem dX7_solve_16 : decode mX7_solve.2.1 16 = .ok (.iconst 0, 1) := by decide +kernel
theorem dX7_solve_17 : decode mX7_solve.2.1 17 = .ok (.iastore, 1) := by decide +kernel
theorem dX7_solve_18 : decode mX7_solve.2.1 18 = .ok (.iinc 1 1, 3) := by decide +kernel
theorem dX7_solve_21 : decode mX7_solve.2.1 21 = .ok (.goto (-19), 3) := by decide +kernel
theorem dX7_solve_24 : decode mX7_solve.2.1 24 = .ok (.aload_n 0, 1) := by decide +kernel
theorem dX7_solve_25 : decode mX7_solve.2.1 25 = .ok (.lconst 0, 1) := by decide +kernel
theorem dX7_solve_26 : decode mX7_solve.2.1 26 = .ok (.putfield 48, 3) := by decide +kernel
theorem dX7_solve_29 : decode mX7_solve.2.1 29 = .ok (.aload_n 0, 1) := by decide +kernel
theorem dX7_solve_30 : decode mX7_solve.2.1 30 = .ok (.ldc 56, 2) := by decide +kernel
theorem dX7_solve_32 : decode mX7_solve.2.1 32 = .ok (.putfield 45, 3) := by decide +kernel
theorem dX7_solve_35 : decode mX7_solve.2.1 35 = .ok (.aload_n 0, 1) := by decide +kernel
theorem dX7_solve_36 : decode mX7_solve.2.1 36 = .ok (.invokevirtual 57, 3) := by decide +kernel
theorem dX7_solve_39 : decode mX7_solve.2.1 39 = .ok (.aload_n 0, 1) := by decide +kernel
theorem dX7_solve_40 : decode mX7_solve.2.1 40 = .ok (.iconst 0, 1) := by decide +kernel
theorem dX7_solve_41 : decode mX7_solve.2.1 41 = .ok (.iconst 0, 1) := by decide +kernel
theorem dX7_solve_42 : decode mX7_solve.2.1 42 = .ok (.invokevirtual 60, 3) := by decide +kernel
theorem dX7_solve_45 : decode mX7_solve.2.1 45 = .ok (.return_, 1) := by decide +kernel
theorem bX7_solve_0 {SC : Nat → Nat} {X : mh_X} {d : Nat} {Q : Option am_V → am_W → Prop} {bc bs : Nat} {w : am_W} 
    (h : am_A (mh_G X) SC (d + 7) mX7_solve Q 2 [(0, .inr (.inr (some (8, 0)))), (1, .inl 0)] [] w bc bs) :
    am_A (mh_G X) SC (d + 7) mX7_solve Q 0 [(0, .inr (.inr (some (8, 0))))] [] w bc bs := by
  refine am_iconst dX7_solve_0 (by unfold am_rg; omega) ?_
  refine am_istore_n (ls' := [(1, .inl 0), (0, .inr (.inr (some (8, 0))))]) dX7_solve_1 (by decide) rfl ?_
  exact am_sub [1, 0] rfl h
theorem bX7_solve_2 {SC : Nat → Nat} {X : mh_X} {d : Nat} {Q : Option am_V → am_W → Prop} {bc bs : Nat} {w : am_W} {x1 : Int}
    (h : ((5 ≤ x1 → am_M (mh_G X) SC (d + 6) 0 0 mX7_takeHands [.inr (.inr (some (8, 0)))] ((am_up w.1 8 0 11 2147483647), (am_up w.2.1 8 0 12 (0 : Int64)), w.2.2) (fun r w1 => am_A (mh_G X) SC (d + 7) mX7_solve Q 39 [(0, .inr (.inr (some (8, 0)))), (1, .inl x1)] (r.toList ++ []) w1 bc bs)) ∧ (¬ 5 ≤ x1 → (0 ≤ x1 ∧ (x1 < 5 ∧ am_A (mh_G X) SC (d + 7) mX7_solve Q 2 [(0, .inr (.inr (some (8, 0)))), (1, .inl (am_w (x1 + 1)))] [] ((am_up w.1 64 0 x1.toNat 0), w.2) bc bs))))) :
    am_A (mh_G X) SC (d + 7) mX7_solve Q 2 [(0, .inr (.inr (some (8, 0)))), (1, .inl x1)] [] w bc bs := by
  refine am_iload_n dX7_solve_2 (List.Mem.tail _ (List.Mem.head _)) ?_
  refine am_aload_n dX7_solve_3 (List.Mem.head _) ?_
  refine am_getf (f := 7) (v := .inr (.inr (some (64, 0)))) dX7_solve_4 hc_9 (by decide) wd_536 (by decide) rfl rfl ?_
  refine am_alen (kd := 0) (v := 5) dX7_solve_7 (by decide) rfl (by decide) rfl (by unfold am_rg; omega) ?_
  refine am_icmpge (tgt := 24) dX7_solve_8 (by decide) (fun c1 => ?_) (fun c1 => ?_)
  · replace h := h.1 c1
    refine am_aload_n dX7_solve_24 (List.Mem.head _) ?_
    refine am_lconst (x := 0) dX7_solve_25 rfl ?_
    refine am_putl (f := 12) dX7_solve_26 hc_9 (by decide) wd_541 rfl rfl (Or.inl (by decide)) rfl ?_
    refine am_aload_n dX7_solve_29 (List.Mem.head _) ?_
    refine am_ldcV (n := 2147483647) dX7_solve_30 (by decide) wd_1433 (by unfold am_rg; omega) ?_
    refine am_putf (f := 11) dX7_solve_32 hc_9 (by decide) wd_540 rfl (Or.inl rfl) (Or.inl (by decide)) rfl ?_
    refine am_aload_n dX7_solve_35 (List.Mem.head _) ?_
    exact am_callv (d' := d + 6) (kc := 0) (ks := 0) (as := []) dX7_solve_36 wc_X7_takeHands wd_1434 wd_1436 wd_44 wd_121 ds_X7_takeHands (by decide) (by omega) (Nat.le_of_ble_eq_true rfl) (Nat.zero_le _) (Nat.zero_le _) hc_9 (by decide) rfl rfl h
  · replace h := h.2 c1
    refine am_aload_n dX7_solve_11 (List.Mem.head _) ?_
    refine am_getf (f := 7) (v := .inr (.inr (some (64, 0)))) dX7_solve_12 hc_9 (by decide) wd_536 (by decide) rfl rfl ?_
    refine am_iload_n dX7_solve_15 (List.Mem.tail _ (List.Mem.head _)) ?_
    refine am_iconst dX7_solve_16 (by unfold am_rg; omega) ?_
    have o2 := h.1
    replace h := h.2
    have o3 := h.1
    replace h := h.2
    refine am_iastore dX7_solve_17 (Or.inl (by decide)) rfl o2 o3 ?_
    refine am_iinc (ls' := [(1, .inl (am_w (x1 + 1))), (0, .inr (.inr (some (8, 0))))]) dX7_solve_18 (List.Mem.tail _ (List.Mem.head _)) (by decide) rfl ?_
    refine am_goto (tgt := 2) dX7_solve_21 (by decide) ?_
    exact am_sub [1, 0] rfl h
theorem bX7_solve_39 {SC : Nat → Nat} {X : mh_X} {d : Nat} {Q : Option am_V → am_W → Prop} {bc bs : Nat} {w : am_W} {x1 : Int}
    (h : am_M (mh_G X) SC (d + 6) 0 0 mX7_choose [.inr (.inr (some (8, 0))), .inl 0, .inl 0] w (fun r w1 => am_A (mh_G X) SC (d + 7) mX7_solve Q 45 [(0, .inr (.inr (some (8, 0)))), (1, .inl x1)] (r.toList ++ []) w1 bc bs)) :
    am_A (mh_G X) SC (d + 7) mX7_solve Q 39 [(0, .inr (.inr (some (8, 0)))), (1, .inl x1)] [] w bc bs := by
  refine am_aload_n dX7_solve_39 (List.Mem.head _) ?_
  refine am_iconst dX7_solve_40 (by unfold am_rg; omega) ?_
  refine am_iconst dX7_solve_41 (by unfold am_rg; omega) ?_
  exact am_callv (d' := d + 6) (kc := 0) (ks := 0) (as := [.inl 0, .inl 0]) dX7_solve_42 wc_X7_choose wd_1442 wd_1444 wd_46 wd_121 ds_X7_choose (by decide) (by omega) (Nat.le_of_ble_eq_true rfl) (Nat.zero_le _) (Nat.zero_le _) hc_9 (by decide) rfl rfl h
theorem bX7_solve_45 {SC : Nat → Nat} {X : mh_X} {d : Nat} {Q : Option am_V → am_W → Prop} {bc bs : Nat} {w : am_W} {x1 : Int}
    (h : Q none w) :
    am_A (mh_G X) SC (d + 7) mX7_solve Q 45 [(0, .inr (.inr (some (8, 0)))), (1, .inl x1)] [] w bc bs := by
  exact am_ret (r := none) dX7_solve_45 rfl rfl h
-- MourningHouse$Reader.hasRoom()Z
theorem dX8_hasRoom_0 : decode mX8_hasRoom.2.1 0 = .ok (.aload_n 0, 1) := by decide +kernel
theorem dX8_hasRoom_1 : decode mX8_hasRoom.2.1 1 = .ok (.getfield 20, 3) := by decide +kernel
theorem dX8_hasRoom_4 : decode mX8_hasRoom.2.1 4 = .ok (.sipush 2980, 3) := by decide +kernel
theorem dX8_hasRoom_7 : decode mX8_hasRoom.2.1 7 = .ok (.if_icmp .gt 7, 3) := by decide +kernel
theorem dX8_hasRoom_10 : decode mX8_hasRoom.2.1 10 = .ok (.iconst 1, 1) := by decide +kernel
theorem dX8_hasRoom_11 : decode mX8_hasRoom.2.1 11 = .ok (.goto 4, 3) := by decide +kernel
theorem dX8_hasRoom_14 : decode mX8_hasRoom.2.1 14 = .ok (.iconst 0, 1) := by decide +kernel
theorem dX8_hasRoom_15 : decode mX8_hasRoom.2.1 15 = .ok (.ireturn, 1) := by decide +kernel
theorem sX8_hasRoom {SC : Nat → Nat} {X : mh_X} {d kc ks : Nat} {Q : Option am_V → am_W → Prop} {w : am_W} 
    (h : Q (some (.inl (if (¬ 2980 < (w.1 2 0 3)) then 1 else 0))) w) : am_M (mh_G X) SC (d + 1) kc ks mX8_hasRoom [.inr (.inr (some (2, 0)))] w Q := by
  refine am_M_of (by decide) (Nat.le_of_ble_eq_true rfl) ?_
  show am_A (mh_G X) SC (d + 1) mX8_hasRoom Q 0 [(0, .inr (.inr (some (2, 0))))] [] w kc ks
  refine am_aload_n dX8_hasRoom_0 (List.Mem.head _) ?_
  refine am_getf (f := 3) (v := .inl (w.1 2 0 3)) dX8_hasRoom_1 hc_1 (by decide) wd_153 (by decide) rfl rfl ?_
  refine am_sipush dX8_hasRoom_4 (by decide) (by unfold am_rg; omega) ?_
  refine am_icmpgt (tgt := 14) dX8_hasRoom_7 (by decide) (fun c1 => ?_) (fun c1 => ?_)
  · refine am_iconst dX8_hasRoom_14 (by unfold am_rg; omega) ?_
    rw [if_neg (by omega)] at h
    exact am_ret (r := some (.inl 0)) dX8_hasRoom_15 (Or.inr (Or.inl ⟨rfl, (Or.inl rfl)⟩)) rfl h
  · refine am_iconst dX8_hasRoom_10 (by unfold am_rg; omega) ?_
    refine am_goto (tgt := 15) dX8_hasRoom_11 (by decide) ?_
    rw [if_pos (by omega)] at h
    exact am_ret (r := some (.inl 1)) dX8_hasRoom_15 (Or.inr (Or.inl ⟨rfl, (Or.inr rfl)⟩)) rfl h
-- MourningHouse$Reader.append(I)V
theorem dX8_append_0 : decode mX8_append.2.1 0 = .ok (.bipush 24, 2) := by decide +kernel
theorem dX8_append_2 : decode mX8_append.2.1 2 = .ok (.istore_n 2, 1) := by decide +kernel
theorem dX8_append_3 : decode mX8_append.2.1 3 = .ok (.iload_n 2, 1) := by decide +kernel
theorem dX8_append_4 : decode mX8_append.2.1 4 = .ok (.ifCond .lt 46, 3) := by decide +kernel
theorem dX8_append_7 : decode mX8_append.2.1 7 = .ok (.aload_n 0, 1) := by decide +kernel
theorem dX8_append_8 : decode mX8_append.2.1 8 = .ok (.getfield 20, 3) := by decide +kernel
theorem dX8_append_11 : decode mX8_append.2.1 11 = .ok (.sipush 3000, 3) := by decide +kernel
theorem dX8_append_14 : decode mX8_append.2.1 14 = .ok (.if_icmp .ge 30, 3) := by decide +kernel
theorem dX8_append_17 : decode mX8_append.2.1 17 = .ok (.aload_n 0, 1) := by decide +kernel
theorem dX8_append_18 : decode mX8_append.2.1 18 = .ok (.getfield 9, 3) := by decide +kernel
theorem dX8_append_21 : decode mX8_append.2.1 21 = .ok (.aload_n 0, 1) := by decide +kernel
theorem dX8_append_22 : decode mX8_append.2.1 22 = .ok (.getfield 20, 3) := by decide +kernel
theorem dX8_append_25 : decode mX8_append.2.1 25 = .ok (.iload_n 1, 1) := by decide +kernel
theorem dX8_append_26 : decode mX8_append.2.1 26 = .ok (.iload_n 2, 1) := by decide +kernel
theorem dX8_append_27 : decode mX8_append.2.1 27 = .ok (.ishr, 1) := by decide +kernel
theorem dX8_append_28 : decode mX8_append.2.1 28 = .ok (.sipush 255, 3) := by decide +kernel
theorem dX8_append_31 : decode mX8_append.2.1 31 = .ok (.iand, 1) := by decide +kernel
theorem dX8_append_32 : decode mX8_append.2.1 32 = .ok (.i2c, 1) := by decide +kernel
theorem dX8_append_33 : decode mX8_append.2.1 33 = .ok (.castore, 1) := by decide +kernel
theorem dX8_append_34 : decode mX8_append.2.1 34 = .ok (.aload_n 0, 1) := by decide +kernel
theorem dX8_append_35 : decode mX8_append.2.1 35 = .ok (.dup, 1) := by decide +kernel
theorem dX8_append_36 : decode mX8_append.2.1 36 = .ok (.getfield 20, 3) := by decide +kernel
theorem dX8_append_39 : decode mX8_append.2.1 39 = .ok (.iconst 1, 1) := by decide +kernel
theorem dX8_append_40 : decode mX8_append.2.1 40 = .ok (.iadd, 1) := by decide +kernel
theorem dX8_append_41 : decode mX8_append.2.1 41 = .ok (.putfield 20, 3) := by decide +kernel
theorem dX8_append_44 : decode mX8_append.2.1 44 = .ok (.iinc 2 (-8), 3) := by decide +kernel
theorem dX8_append_47 : decode mX8_append.2.1 47 = .ok (.goto (-44), 3) := by decide +kernel
theorem dX8_append_50 : decode mX8_append.2.1 50 = .ok (.return_, 1) := by decide +kernel
theorem bX8_append_0 {SC : Nat → Nat} {X : mh_X} {d : Nat} {Q : Option am_V → am_W → Prop} {bc bs : Nat} {w : am_W} {x1 : Int}
    (h : am_A (mh_G X) SC (d + 1) mX8_append Q 3 [(0, .inr (.inr (some (2, 0)))), (1, .inl x1), (2, .inl 24)] [] w bc bs) :
    am_A (mh_G X) SC (d + 1) mX8_append Q 0 [(0, .inr (.inr (some (2, 0)))), (1, .inl x1)] [] w bc bs := by
  refine am_bipush dX8_append_0 (by decide) (by unfold am_rg; omega) ?_
  refine am_istore_n (ls' := [(2, .inl 24), (0, .inr (.inr (some (2, 0)))), (1, .inl x1)]) dX8_append_2 (by decide) rfl ?_
  exact am_sub [1, 2, 0] rfl h
theorem bX8_append_3 {SC : Nat → Nat} {X : mh_X} {d : Nat} {Q : Option am_V → am_W → Prop} {bc bs : Nat} {w : am_W} {x1 : Int} {x2 : Int}
    (h : ((x2 < 0 → Q none w) ∧ (¬ x2 < 0 → ((3000 ≤ (w.1 2 0 3) → am_A (mh_G X) SC (d + 1) mX8_append Q 44 [(0, .inr (.inr (some (2, 0)))), (1, .inl x1), (2, .inl x2)] [] w bc bs) ∧ (¬ 3000 ≤ (w.1 2 0 3) → (0 ≤ (w.1 2 0 3) ∧ ((w.1 2 0 3) < 3000 ∧ ((0 ≤ ((am_i2c (am_and (am_shr x1 x2) 255)) : Int) ∧ ((am_i2c (am_and (am_shr x1 x2) 255)) : Int) < 65536) ∧ am_A (mh_G X) SC (d + 1) mX8_append Q 44 [(0, .inr (.inr (some (2, 0)))), (1, .inl x1), (2, .inl x2)] [] ((am_up (am_up w.1 24 0 (w.1 2 0 3).toNat (am_i2c (am_and (am_shr x1 x2) 255))) 2 0 3 (am_w ((w.1 2 0 3) + 1))), w.2) bc bs)))))))) :
    am_A (mh_G X) SC (d + 1) mX8_append Q 3 [(0, .inr (.inr (some (2, 0)))), (1, .inl x1), (2, .inl x2)] [] w bc bs := by
  refine am_iload_n dX8_append_3 (List.Mem.tail _ (List.Mem.tail _ (List.Mem.head _))) ?_
  refine am_iflt (tgt := 50) dX8_append_4 (by decide) (fun c1 => ?_) (fun c1 => ?_)
  · replace h := h.1 c1
    exact am_ret (r := none) dX8_append_50 rfl rfl h
  · replace h := h.2 c1
    refine am_aload_n dX8_append_7 (List.Mem.head _) ?_
    refine am_getf (f := 3) (v := .inl (w.1 2 0 3)) dX8_append_8 hc_1 (by decide) wd_153 (by decide) rfl rfl ?_
    refine am_sipush dX8_append_11 (by decide) (by unfold am_rg; omega) ?_
    refine am_icmpge (tgt := 44) dX8_append_14 (by decide) (fun c2 => ?_) (fun c2 => ?_)
    · replace h := h.1 c2
      exact h
    · replace h := h.2 c2
      refine am_aload_n dX8_append_17 (List.Mem.head _) ?_
      refine am_getf (f := 0) (v := .inr (.inr (some (24, 0)))) dX8_append_18 hc_1 (by decide) wd_150 (by decide) rfl rfl ?_
      refine am_aload_n dX8_append_21 (List.Mem.head _) ?_
      refine am_getf (f := 3) (v := .inl (w.1 2 0 3)) dX8_append_22 hc_1 (by decide) wd_153 (by decide) rfl rfl ?_
      refine am_iload_n dX8_append_25 (List.Mem.tail _ (List.Mem.head _)) ?_
      refine am_iload_n dX8_append_26 (List.Mem.tail _ (List.Mem.tail _ (List.Mem.head _))) ?_
      refine am_ishr dX8_append_27 ?_
      refine am_sipush dX8_append_28 (by decide) (by unfold am_rg; omega) ?_
      refine am_iand dX8_append_31 ?_
      refine am_i2cR dX8_append_32 ?_
      have o3 := h.1
      replace h := h.2
      have o4 := h.1
      replace h := h.2
      have o5 := h.1
      replace h := h.2
      refine am_castore o5 dX8_append_33 (Or.inl (by decide)) rfl o3 o4 ?_
      refine am_aload_n dX8_append_34 (List.Mem.head _) ?_
      refine am_dup dX8_append_35 rfl ?_
      refine am_getf (f := 3) (v := .inl (w.1 2 0 3)) dX8_append_36 hc_1 (by decide) wd_153 (by decide) rfl rfl ?_
      refine am_iconst dX8_append_39 (by unfold am_rg; omega) ?_
      refine am_iadd dX8_append_40 ?_
      refine am_putf (f := 3) dX8_append_41 hc_1 (by decide) wd_153 rfl (Or.inl rfl) (Or.inl (by decide)) rfl ?_
      exact h
theorem bX8_append_44 {SC : Nat → Nat} {X : mh_X} {d : Nat} {Q : Option am_V → am_W → Prop} {bc bs : Nat} {w : am_W} {x1 : Int} {x2 : Int}
    (h : am_A (mh_G X) SC (d + 1) mX8_append Q 3 [(0, .inr (.inr (some (2, 0)))), (1, .inl x1), (2, .inl (am_w (x2 + (-8))))] [] w bc bs) :
    am_A (mh_G X) SC (d + 1) mX8_append Q 44 [(0, .inr (.inr (some (2, 0)))), (1, .inl x1), (2, .inl x2)] [] w bc bs := by
  refine am_iinc (ls' := [(2, .inl (am_w (x2 + (-8)))), (0, .inr (.inr (some (2, 0)))), (1, .inl x1)]) dX8_append_44 (List.Mem.tail _ (List.Mem.tail _ (List.Mem.head _))) (by decide) rfl ?_
  refine am_goto (tgt := 3) dX8_append_47 (by decide) ?_
  exact am_sub [1, 2, 0] rfl h
-- MourningHouse$Reader.codeAt(I)I
theorem dX8_codeAt_0 : decode mX8_codeAt.2.1 0 = .ok (.iload_n 1, 1) := by decide +kernel
theorem dX8_codeAt_1 : decode mX8_codeAt.2.1 1 = .ok (.ifCond .lt 26, 3) := by decide +kernel
theorem dX8_codeAt_4 : decode mX8_codeAt.2.1 4 = .ok (.iload_n 1, 1) := by decide +kernel
theorem dX8_codeAt_5 : decode mX8_codeAt.2.1 5 = .ok (.aload_n 0, 1) := by decide +kernel
theorem dX8_codeAt_6 : decode mX8_codeAt.2.1 6 = .ok (.getfield 36, 3) := by decide +kernel
theorem dX8_codeAt_9 : decode mX8_codeAt.2.1 9 = .ok (.if_icmp .ge 18, 3) := by decide +kernel
theorem dX8_codeAt_12 : decode mX8_codeAt.2.1 12 = .ok (.iload_n 1, 1) := by decide +kernel
theorem dX8_codeAt_13 : decode mX8_codeAt.2.1 13 = .ok (.bipush 64, 2) := by decide +kernel
theorem dX8_codeAt_15 : decode mX8_codeAt.2.1 15 = .ok (.if_icmp .ge 12, 3) := by decide +kernel
theorem dX8_codeAt_18 : decode mX8_codeAt.2.1 18 = .ok (.aload_n 0, 1) := by decide +kernel
theorem dX8_codeAt_19 : decode mX8_codeAt.2.1 19 = .ok (.getfield 13, 3) := by decide +kernel
theorem dX8_codeAt_22 : decode mX8_codeAt.2.1 22 = .ok (.iload_n 1, 1) := by decide +kernel
theorem dX8_codeAt_23 : decode mX8_codeAt.2.1 23 = .ok (.iaload, 1) := by decide +kernel
theorem dX8_codeAt_24 : decode mX8_codeAt.2.1 24 = .ok (.goto 5, 3) := by decide +kernel
theorem dX8_codeAt_27 : decode mX8_codeAt.2.1 27 = .ok (.bipush 46, 2) := by decide +kernel
theorem dX8_codeAt_29 : decode mX8_codeAt.2.1 29 = .ok (.ireturn, 1) := by decide +kernel
theorem sX8_codeAt {SC : Nat → Nat} {X : mh_X} {d kc ks : Nat} {Q : Option am_V → am_W → Prop} {w : am_W} {x1 : Int} (Ho4 : ¬ x1 < 0 → ¬ (w.1 2 0 8) ≤ x1 → ¬ 64 ≤ x1 → 0 ≤ x1) (Ho5 : ¬ x1 < 0 → ¬ (w.1 2 0 8) ≤ x1 → ¬ 64 ≤ x1 → x1 < 64)
    (h : Q (some (.inl (if x1 < 0 then 46 else (if (w.1 2 0 8) ≤ x1 then 46 else (if 64 ≤ x1 then 46 else (w.1 25 0 x1.toNat)))))) w) : am_M (mh_G X) SC (d + 1) kc ks mX8_codeAt [.inr (.inr (some (2, 0))), .inl x1] w Q := by
  refine am_M_of (by decide) (Nat.le_of_ble_eq_true rfl) ?_
  show am_A (mh_G X) SC (d + 1) mX8_codeAt Q 0 [(0, .inr (.inr (some (2, 0)))), (1, .inl x1)] [] w kc ks
  refine am_iload_n dX8_codeAt_0 (List.Mem.tail _ (List.Mem.head _)) ?_
  refine am_iflt (tgt := 27) dX8_codeAt_1 (by decide) (fun c1 => ?_) (fun c1 => ?_)
  · refine am_bipush dX8_codeAt_27 (by decide) (by unfold am_rg; omega) ?_
    rw [show ((if x1 < 0 then 46 else (if (w.1 2 0 8) ≤ x1 then 46 else (if 64 ≤ x1 then 46 else (w.1 25 0 x1.toNat)))) : Int) = 46 from if_pos c1] at h
    exact am_ret (r := some (.inl 46)) dX8_codeAt_29 (Or.inl rfl) rfl h
  · refine am_iload_n dX8_codeAt_4 (List.Mem.tail _ (List.Mem.head _)) ?_
    refine am_aload_n dX8_codeAt_5 (List.Mem.head _) ?_
    refine am_getf (f := 8) (v := .inl (w.1 2 0 8)) dX8_codeAt_6 hc_1 (by decide) wd_162 (by decide) rfl rfl ?_
    refine am_icmpge (tgt := 27) dX8_codeAt_9 (by decide) (fun c2 => ?_) (fun c2 => ?_)
    · refine am_bipush dX8_codeAt_27 (by decide) (by unfold am_rg; omega) ?_
      rw [show ((if x1 < 0 then 46 else (if (w.1 2 0 8) ≤ x1 then 46 else (if 64 ≤ x1 then 46 else (w.1 25 0 x1.toNat)))) : Int) = 46 from (if_neg c1).trans (if_pos c2)] at h
      exact am_ret (r := some (.inl 46)) dX8_codeAt_29 (Or.inl rfl) rfl h
    · refine am_iload_n dX8_codeAt_12 (List.Mem.tail _ (List.Mem.head _)) ?_
      refine am_bipush dX8_codeAt_13 (by decide) (by unfold am_rg; omega) ?_
      refine am_icmpge (tgt := 27) dX8_codeAt_15 (by decide) (fun c3 => ?_) (fun c3 => ?_)
      · refine am_bipush dX8_codeAt_27 (by decide) (by unfold am_rg; omega) ?_
        rw [show ((if x1 < 0 then 46 else (if (w.1 2 0 8) ≤ x1 then 46 else (if 64 ≤ x1 then 46 else (w.1 25 0 x1.toNat)))) : Int) = 46 from (if_neg c1).trans ((if_neg c2).trans (if_pos c3))] at h
        exact am_ret (r := some (.inl 46)) dX8_codeAt_29 (Or.inl rfl) rfl h
      · refine am_aload_n dX8_codeAt_18 (List.Mem.head _) ?_
        refine am_getf (f := 1) (v := .inr (.inr (some (25, 0)))) dX8_codeAt_19 hc_1 (by decide) wd_151 (by decide) rfl rfl ?_
        refine am_iload_n dX8_codeAt_22 (List.Mem.tail _ (List.Mem.head _)) ?_
        have o4 := Ho4 c1 c2 c3
        have o5 := Ho5 c1 c2 c3
        refine am_iaload (v := (w.1 25 0 x1.toNat)) dX8_codeAt_23 (by decide) rfl o4 o5 rfl ?_
        refine am_goto (tgt := 29) dX8_codeAt_24 (by decide) ?_
        rw [show ((if x1 < 0 then 46 else (if (w.1 2 0 8) ≤ x1 then 46 else (if 64 ≤ x1 then 46 else (w.1 25 0 x1.toNat)))) : Int) = (w.1 25 0 x1.toNat) from (if_neg c1).trans ((if_neg c2).trans (if_neg c3))] at h
        exact am_ret (r := some (.inl (w.1 25 0 x1.toNat))) dX8_codeAt_29 (Or.inl rfl) rfl h
-- MourningHouse$Reader.fail(I)Z
theorem dX8_fail_0 : decode mX8_fail.2.1 0 = .ok (.aload_n 0, 1) := by decide +kernel
theorem dX8_fail_1 : decode mX8_fail.2.1 1 = .ok (.aload_n 0, 1) := by decide +kernel
theorem dX8_fail_2 : decode mX8_fail.2.1 2 = .ok (.getfield 33, 3) := by decide +kernel
theorem dX8_fail_5 : decode mX8_fail.2.1 5 = .ok (.putfield 24, 3) := by decide +kernel
theorem dX8_fail_8 : decode mX8_fail.2.1 8 = .ok (.aload_n 0, 1) := by decide +kernel
theorem dX8_fail_9 : decode mX8_fail.2.1 9 = .ok (.aload_n 0, 1) := by decide +kernel
theorem dX8_fail_10 : decode mX8_fail.2.1 10 = .ok (.getfield 39, 3) := by decide +kernel
theorem dX8_fail_13 : decode mX8_fail.2.1 13 = .ok (.iconst 1, 1) := by decide +kernel
theorem dX8_fail_14 : decode mX8_fail.2.1 14 = .ok (.iadd, 1) := by decide +kernel
theorem dX8_fail_15 : decode mX8_fail.2.1 15 = .ok (.putfield 27, 3) := by decide +kernel
theorem dX8_fail_18 : decode mX8_fail.2.1 18 = .ok (.aload_n 0, 1) := by decide +kernel
theorem dX8_fail_19 : decode mX8_fail.2.1 19 = .ok (.iload_n 1, 1) := by decide +kernel
theorem dX8_fail_20 : decode mX8_fail.2.1 20 = .ok (.putfield 30, 3) := by decide +kernel
theorem dX8_fail_23 : decode mX8_fail.2.1 23 = .ok (.iconst 0, 1) := by decide +kernel
theorem dX8_fail_24 : decode mX8_fail.2.1 24 = .ok (.ireturn, 1) := by decide +kernel
theorem sX8_fail {SC : Nat → Nat} {X : mh_X} {d kc ks : Nat} {Q : Option am_V → am_W → Prop} {w : am_W} {x1 : Int}
    (h : Q (some (.inl 0)) ((am_up (am_up (am_up w.1 2 0 4 (w.1 2 0 7)) 2 0 5 (am_w (((am_up w.1 2 0 4 (w.1 2 0 7)) 2 0 9) + 1))) 2 0 6 x1), w.2)) : am_M (mh_G X) SC (d + 1) kc ks mX8_fail [.inr (.inr (some (2, 0))), .inl x1] w Q := by
  refine am_M_of (by decide) (Nat.le_of_ble_eq_true rfl) ?_
  show am_A (mh_G X) SC (d + 1) mX8_fail Q 0 [(0, .inr (.inr (some (2, 0)))), (1, .inl x1)] [] w kc ks
  refine am_aload_n dX8_fail_0 (List.Mem.head _) ?_
  refine am_aload_n dX8_fail_1 (List.Mem.head _) ?_
  refine am_getf (f := 7) (v := .inl (w.1 2 0 7)) dX8_fail_2 hc_1 (by decide) wd_161 (by decide) rfl rfl ?_
  refine am_putf (f := 4) dX8_fail_5 hc_1 (by decide) wd_155 rfl (Or.inl rfl) (Or.inl (by decide)) rfl ?_
  refine am_aload_n dX8_fail_8 (List.Mem.head _) ?_
  refine am_aload_n dX8_fail_9 (List.Mem.head _) ?_
  refine am_getf (f := 9) (v := .inl ((am_up w.1 2 0 4 (w.1 2 0 7)) 2 0 9)) dX8_fail_10 hc_1 (by decide) wd_163 (by decide) rfl rfl ?_
  refine am_iconst dX8_fail_13 (by unfold am_rg; omega) ?_
  refine am_iadd dX8_fail_14 ?_
  refine am_putf (f := 5) dX8_fail_15 hc_1 (by decide) wd_157 rfl (Or.inl rfl) (Or.inl (by decide)) rfl ?_
  refine am_aload_n dX8_fail_18 (List.Mem.head _) ?_
  refine am_iload_n dX8_fail_19 (List.Mem.tail _ (List.Mem.head _)) ?_
  refine am_putf (f := 6) dX8_fail_20 hc_1 (by decide) wd_159 rfl (Or.inl rfl) (Or.inl (by decide)) rfl ?_
  refine am_iconst dX8_fail_23 (by unfold am_rg; omega) ?_
  exact am_ret (r := some (.inl 0)) dX8_fail_24 (Or.inr (Or.inl ⟨rfl, (Or.inl rfl)⟩)) rfl h
-- MourningHouse$Reader.isDigit(C)Z
theorem dX8_isDigit_0 : decode mX8_isDigit.2.1 0 = .ok (.iload_n 0, 1) := by decide +kernel
theorem dX8_isDigit_1 : decode mX8_isDigit.2.1 1 = .ok (.bipush 48, 2) := by decide +kernel
theorem dX8_isDigit_3 : decode mX8_isDigit.2.1 3 = .ok (.if_icmp .lt 13, 3) := by decide +kernel
theorem dX8_isDigit_6 : decode mX8_isDigit.2.1 6 = .ok (.iload_n 0, 1) := by decide +kernel
theorem dX8_isDigit_7 : decode mX8_isDigit.2.1 7 = .ok (.bipush 57, 2) := by decide +kernel
theorem dX8_isDigit_9 : decode mX8_isDigit.2.1 9 = .ok (.if_icmp .gt 7, 3) := by decide +kernel
theorem dX8_isDigit_12 : decode mX8_isDigit.2.1 12 = .ok (.iconst 1, 1) := by decide +kernel
theorem dX8_isDigit_13 : decode mX8_isDigit.2.1 13 = .ok (.goto 4, 3) := by decide +kernel
theorem dX8_isDigit_16 : decode mX8_isDigit.2.1 16 = .ok (.iconst 0, 1) := by decide +kernel
theorem dX8_isDigit_17 : decode mX8_isDigit.2.1 17 = .ok (.ireturn, 1) := by decide +kernel
theorem sX8_isDigit {SC : Nat → Nat} {X : mh_X} {d kc ks : Nat} {Q : Option am_V → am_W → Prop} {w : am_W} {x0 : Int}
    (h : Q (some (.inl (if (¬ x0 < 48 ∧ (¬ 57 < x0)) then 1 else 0))) w) : am_M (mh_G X) SC (d + 1) kc ks mX8_isDigit [.inl x0] w Q := by
  refine am_M_of (by decide) (Nat.le_of_ble_eq_true rfl) ?_
  show am_A (mh_G X) SC (d + 1) mX8_isDigit Q 0 [(0, .inl x0)] [] w kc ks
  refine am_iload_n dX8_isDigit_0 (List.Mem.head _) ?_
  refine am_bipush dX8_isDigit_1 (by decide) (by unfold am_rg; omega) ?_
  refine am_icmplt (tgt := 16) dX8_isDigit_3 (by decide) (fun c1 => ?_) (fun c1 => ?_)
  · refine am_iconst dX8_isDigit_16 (by unfold am_rg; omega) ?_
    rw [if_neg (by omega)] at h
    exact am_ret (r := some (.inl 0)) dX8_isDigit_17 (Or.inr (Or.inl ⟨rfl, (Or.inl rfl)⟩)) rfl h
  · refine am_iload_n dX8_isDigit_6 (List.Mem.head _) ?_
    refine am_bipush dX8_isDigit_7 (by decide) (by unfold am_rg; omega) ?_
    refine am_icmpgt (tgt := 16) dX8_isDigit_9 (by decide) (fun c2 => ?_) (fun c2 => ?_)
    · refine am_iconst dX8_isDigit_16 (by unfold am_rg; omega) ?_
      rw [if_neg (by omega)] at h
      exact am_ret (r := some (.inl 0)) dX8_isDigit_17 (Or.inr (Or.inl ⟨rfl, (Or.inl rfl)⟩)) rfl h
    · refine am_iconst dX8_isDigit_12 (by unfold am_rg; omega) ?_
      refine am_goto (tgt := 17) dX8_isDigit_13 (by decide) ?_
      rw [if_pos (by omega)] at h
      exact am_ret (r := some (.inl 1)) dX8_isDigit_17 (Or.inr (Or.inl ⟨rfl, (Or.inr rfl)⟩)) rfl h
-- MourningHouse$Reader.isLetter(C)Z
theorem dX8_isLetter_0 : decode mX8_isLetter.2.1 0 = .ok (.iload_n 0, 1) := by decide +kernel
theorem dX8_isLetter_1 : decode mX8_isLetter.2.1 1 = .ok (.bipush 97, 2) := by decide +kernel
theorem dX8_isLetter_3 : decode mX8_isLetter.2.1 3 = .ok (.if_icmp .lt 13, 3) := by decide +kernel
theorem dX8_isLetter_6 : decode mX8_isLetter.2.1 6 = .ok (.iload_n 0, 1) := by decide +kernel
theorem dX8_isLetter_7 : decode mX8_isLetter.2.1 7 = .ok (.bipush 122, 2) := by decide +kernel
theorem dX8_isLetter_9 : decode mX8_isLetter.2.1 9 = .ok (.if_icmp .gt 7, 3) := by decide +kernel
theorem dX8_isLetter_12 : decode mX8_isLetter.2.1 12 = .ok (.iconst 1, 1) := by decide +kernel
theorem dX8_isLetter_13 : decode mX8_isLetter.2.1 13 = .ok (.goto 4, 3) := by decide +kernel
theorem dX8_isLetter_16 : decode mX8_isLetter.2.1 16 = .ok (.iconst 0, 1) := by decide +kernel
theorem dX8_isLetter_17 : decode mX8_isLetter.2.1 17 = .ok (.ireturn, 1) := by decide +kernel
theorem sX8_isLetter {SC : Nat → Nat} {X : mh_X} {d kc ks : Nat} {Q : Option am_V → am_W → Prop} {w : am_W} {x0 : Int}
    (h : Q (some (.inl (if (¬ x0 < 97 ∧ (¬ 122 < x0)) then 1 else 0))) w) : am_M (mh_G X) SC (d + 1) kc ks mX8_isLetter [.inl x0] w Q := by
  refine am_M_of (by decide) (Nat.le_of_ble_eq_true rfl) ?_
  show am_A (mh_G X) SC (d + 1) mX8_isLetter Q 0 [(0, .inl x0)] [] w kc ks
  refine am_iload_n dX8_isLetter_0 (List.Mem.head _) ?_
  refine am_bipush dX8_isLetter_1 (by decide) (by unfold am_rg; omega) ?_
  refine am_icmplt (tgt := 16) dX8_isLetter_3 (by decide) (fun c1 => ?_) (fun c1 => ?_)
  · refine am_iconst dX8_isLetter_16 (by unfold am_rg; omega) ?_
    rw [if_neg (by omega)] at h
    exact am_ret (r := some (.inl 0)) dX8_isLetter_17 (Or.inr (Or.inl ⟨rfl, (Or.inl rfl)⟩)) rfl h
  · refine am_iload_n dX8_isLetter_6 (List.Mem.head _) ?_
    refine am_bipush dX8_isLetter_7 (by decide) (by unfold am_rg; omega) ?_
    refine am_icmpgt (tgt := 16) dX8_isLetter_9 (by decide) (fun c2 => ?_) (fun c2 => ?_)
    · refine am_iconst dX8_isLetter_16 (by unfold am_rg; omega) ?_
      rw [if_neg (by omega)] at h
      exact am_ret (r := some (.inl 0)) dX8_isLetter_17 (Or.inr (Or.inl ⟨rfl, (Or.inl rfl)⟩)) rfl h
    · refine am_iconst dX8_isLetter_12 (by unfold am_rg; omega) ?_
      refine am_goto (tgt := 17) dX8_isLetter_13 (by decide) ?_
      rw [if_pos (by omega)] at h
      exact am_ret (r := some (.inl 1)) dX8_isLetter_17 (Or.inr (Or.inl ⟨rfl, (Or.inr rfl)⟩)) rfl h
-- MourningHouse$Reader.endOfToken(II)I
theorem dX8_endOfToken_0 : decode mX8_endOfToken.2.1 0 = .ok (.iload_n 1, 1) := by decide +kernel
theorem dX8_endOfToken_1 : decode mX8_endOfToken.2.1 1 = .ok (.iconst 1, 1) := by decide +kernel
theorem dX8_endOfToken_2 : decode mX8_endOfToken.2.1 2 = .ok (.iadd, 1) := by decide +kernel
theorem dX8_endOfToken_3 : decode mX8_endOfToken.2.1 3 = .ok (.istore_n 3, 1) := by decide +kernel
theorem dX8_endOfToken_4 : decode mX8_endOfToken.2.1 4 = .ok (.aload_n 0, 1) := by decide +kernel
theorem dX8_endOfToken_5 : decode mX8_endOfToken.2.1 5 = .ok (.getfield 9, 3) := by decide +kernel
theorem dX8_endOfToken_8 : decode mX8_endOfToken.2.1 8 = .ok (.iload_n 1, 1) := by decide +kernel
theorem dX8_endOfToken_9 : decode mX8_endOfToken.2.1 9 = .ok (.caload, 1) := by decide +kernel
theorem dX8_endOfToken_10 : decode mX8_endOfToken.2.1 10 = .ok (.invokestatic 100, 3) := by decide +kernel
theorem dX8_endOfToken_13 : decode mX8_endOfToken.2.1 13 = .ok (.ifCond .eq 26, 3) := by decide +kernel
theorem dX8_endOfToken_16 : decode mX8_endOfToken.2.1 16 = .ok (.iload_n 3, 1) := by decide +kernel
theorem dX8_endOfToken_17 : decode mX8_endOfToken.2.1 17 = .ok (.iload_n 2, 1) := by decide +kernel
theorem dX8_endOfToken_18 : decode mX8_endOfToken.2.1 18 = .ok (.if_icmp .ge 56, 3) := by decide +kernel
theorem dX8_endOfToken_21 : decode mX8_endOfToken.2.1 21 = .ok (.aload_n 0, 1) := by decide +kernel
theorem dX8_endOfToken_22 : decode mX8_endOfToken.2.1 22 = .ok (.getfield 9, 3) := by decide +kernel
theorem dX8_endOfToken_25 : decode mX8_endOfToken.2.1 25 = .ok (.iload_n 3, 1) := by decide +kernel
theorem dX8_endOfToken_26 : decode mX8_endOfToken.2.1 26 = .ok (.caload, 1) := by decide +kernel
theorem dX8_endOfToken_27 : decode mX8_endOfToken.2.1 27 = .ok (.invokestatic 100, 3) := by decide +kernel
theorem dX8_endOfToken_30 : decode mX8_endOfToken.2.1 30 = .ok (.ifCond .eq 44, 3) := by decide +kernel
theorem dX8_endOfToken_33 : decode mX8_endOfToken.2.1 33 = .ok (.iinc 3 1, 3) := by decide +kernel
theorem dX8_endOfToken_36 : decode mX8_endOfToken.2.1 36 = .ok (.goto (-20), 3) := by decide +kernel
theorem dX8_endOfToken_39 : decode mX8_endOfToken.2.1 39 = .ok (.aload_n 0, 1) := by decide +kernel
theorem dX8_endOfToken_40 : decode mX8_endOfToken.2.1 40 = .ok (.getfield 9, 3) := by decide +kernel
theorem dX8_endOfToken_43 : decode mX8_endOfToken.2.1 43 = .ok (.iload_n 1, 1) := by decide +kernel
theorem dX8_endOfToken_44 : decode mX8_endOfToken.2.1 44 = .ok (.caload, 1) := by decide +kernel
theorem dX8_endOfToken_45 : decode mX8_endOfToken.2.1 45 = .ok (.invokestatic 104, 3) := by decide +kernel
theorem dX8_endOfToken_48 : decode mX8_endOfToken.2.1 48 = .ok (.ifCond .eq 26, 3) := by decide +kernel
theorem dX8_endOfToken_51 : decode mX8_endOfToken.2.1 51 = .ok (.iload_n 3, 1) := by decide +kernel
theorem dX8_endOfToken_52 : decode mX8_endOfToken.2.1 52 = .ok (.iload_n 2, 1) := by decide +kernel
theorem dX8_endOfToken_53 : decode mX8_endOfToken.2.1 53 = .ok (.if_icmp .ge 21, 3) := by decide +kernel
theorem dX8_endOfToken_56 : decode mX8_endOfToken.2.1 56 = .ok (.aload_n 0, 1) := by decide +kernel
theorem dX8_endOfToken_57 : decode mX8_endOfToken.2.1 57 = .ok (.getfield 9, 3) := by decide +kernel
theorem dX8_endOfToken_60 : decode mX8_endOfToken.2.1 60 = .ok (.iload_n 3, 1) := by decide +kernel
theorem dX8_endOfToken_61 : decode mX8_endOfToken.2.1 61 = .ok (.caload, 1) := by decide +kernel
theorem dX8_endOfToken_62 : decode mX8_endOfToken.2.1 62 = .ok (.invokestatic 104, 3) := by decide +kernel
theorem dX8_endOfToken_65 : decode mX8_endOfToken.2.1 65 = .ok (.ifCond .eq 9, 3) := by decide +kernel
theorem dX8_endOfToken_68 : decode mX8_endOfToken.2.1 68 = .ok (.iinc 3 1, 3) := by decide +kernel
theorem dX8_endOfToken_71 : decode mX8_endOfToken.2.1 71 = .ok (.goto (-20), 3) := by decide +kernel
theorem dX8_endOfToken_74 : decode mX8_endOfToken.2.1 74 = .ok (.iload_n 3, 1) := by decide +kernel
theorem dX8_endOfToken_75 : decode mX8_endOfToken.2.1 75 = .ok (.ireturn, 1) := by decide +kernel
theorem bX8_endOfToken_0 {SC : Nat → Nat} {X : mh_X} {d : Nat} {Q : Option am_V → am_W → Prop} {bc bs : Nat} {w : am_W} {x1 : Int} {x2 : Int}
    (h : (0 ≤ x1 ∧ (x1 < 3000 ∧ ((¬ (¬ (w.1 24 0 x1.toNat) < 97 ∧ (¬ 122 < (w.1 24 0 x1.toNat))) → ((¬ (¬ (w.1 24 0 x1.toNat) < 48 ∧ (¬ 57 < (w.1 24 0 x1.toNat))) → Q (some (.inl (am_w (x1 + 1)))) w) ∧ ((¬ (w.1 24 0 x1.toNat) < 48 ∧ (¬ 57 < (w.1 24 0 x1.toNat))) → am_A (mh_G X) SC (d + 2) mX8_endOfToken Q 51 [(0, .inr (.inr (some (2, 0)))), (2, .inl x2), (3, .inl (am_w (x1 + 1)))] [] w bc bs))) ∧ ((¬ (w.1 24 0 x1.toNat) < 97 ∧ (¬ 122 < (w.1 24 0 x1.toNat))) → am_A (mh_G X) SC (d + 2) mX8_endOfToken Q 16 [(0, .inr (.inr (some (2, 0)))), (2, .inl x2), (3, .inl (am_w (x1 + 1)))] [] w bc bs))))) :
    am_A (mh_G X) SC (d + 2) mX8_endOfToken Q 0 [(0, .inr (.inr (some (2, 0)))), (1, .inl x1), (2, .inl x2)] [] w bc bs := by
  refine am_iload_n dX8_endOfToken_0 (List.Mem.tail _ (List.Mem.head _)) ?_
  refine am_iconst dX8_endOfToken_1 (by unfold am_rg; omega) ?_
  refine am_iadd dX8_endOfToken_2 ?_
  refine am_istore_n (ls' := [(3, .inl (am_w (x1 + 1))), (0, .inr (.inr (some (2, 0)))), (1, .inl x1), (2, .inl x2)]) dX8_endOfToken_3 (by decide) rfl ?_
  refine am_aload_n dX8_endOfToken_4 (List.Mem.tail _ (List.Mem.head _)) ?_
  refine am_getf (f := 0) (v := .inr (.inr (some (24, 0)))) dX8_endOfToken_5 hc_1 (by decide) wd_150 (by decide) rfl rfl ?_
  refine am_iload_n dX8_endOfToken_8 (List.Mem.tail _ (List.Mem.tail _ (List.Mem.head _))) ?_
  have o1 := h.1
  replace h := h.2
  have o2 := h.1
  replace h := h.2
  refine am_caload (v := (w.1 24 0 x1.toNat)) dX8_endOfToken_9 (by decide) rfl o1 o2 rfl ?_
  refine am_calls (d' := d + 1) (kc := 0) (ks := 0) (as := [.inl (w.1 24 0 x1.toNat)]) dX8_endOfToken_10 wc_X8_isLetter wd_653 wd_654 wd_113 ds_X8_isLetter (by decide) (by omega) (Nat.le_of_ble_eq_true rfl) (Nat.zero_le _) (Nat.zero_le _) rfl (sX8_isLetter (d := d + 0) (x0 := (w.1 24 0 x1.toNat))  ?_)
  show am_A (mh_G X) SC (d + 2) mX8_endOfToken Q 13 [(3, .inl (am_w (x1 + 1))), (0, .inr (.inr (some (2, 0)))), (1, .inl x1), (2, .inl x2)] [.inl (if (¬ (w.1 24 0 x1.toNat) < 97 ∧ (¬ 122 < (w.1 24 0 x1.toNat))) then 1 else 0)] w bc bs
  refine am_ifeq (tgt := 39) dX8_endOfToken_13 (by decide) (fun c3 => ?_) (fun c3 => ?_)
  · replace c3 := am_beq1 c3
    replace h := h.1 c3
    refine am_aload_n dX8_endOfToken_39 (List.Mem.tail _ (List.Mem.head _)) ?_
    refine am_getf (f := 0) (v := .inr (.inr (some (24, 0)))) dX8_endOfToken_40 hc_1 (by decide) wd_150 (by decide) rfl rfl ?_
    refine am_iload_n dX8_endOfToken_43 (List.Mem.tail _ (List.Mem.tail _ (List.Mem.head _))) ?_
    refine am_caload (v := (w.1 24 0 x1.toNat)) dX8_endOfToken_44 (by decide) rfl o1 o2 rfl ?_
    refine am_calls (d' := d + 1) (kc := 0) (ks := 0) (as := [.inl (w.1 24 0 x1.toNat)]) dX8_endOfToken_45 wc_X8_isDigit wd_656 wd_657 wd_113 ds_X8_isDigit (by decide) (by omega) (Nat.le_of_ble_eq_true rfl) (Nat.zero_le _) (Nat.zero_le _) rfl (sX8_isDigit (d := d + 0) (x0 := (w.1 24 0 x1.toNat))  ?_)
    show am_A (mh_G X) SC (d + 2) mX8_endOfToken Q 48 [(3, .inl (am_w (x1 + 1))), (0, .inr (.inr (some (2, 0)))), (1, .inl x1), (2, .inl x2)] [.inl (if (¬ (w.1 24 0 x1.toNat) < 48 ∧ (¬ 57 < (w.1 24 0 x1.toNat))) then 1 else 0)] w bc bs
    refine am_ifeq (tgt := 74) dX8_endOfToken_48 (by decide) (fun c4 => ?_) (fun c4 => ?_)
    · replace c4 := am_beq1 c4
      replace h := h.1 c4
      refine am_iload_n dX8_endOfToken_74 (List.Mem.head _) ?_
      exact am_ret (r := some (.inl (am_w (x1 + 1)))) dX8_endOfToken_75 (Or.inl rfl) rfl h
    · replace c4 := am_beq2 c4
      replace h := h.2 c4
      exact am_sub [1, 3, 0] rfl h
  · replace c3 := am_beq2 c3
    replace h := h.2 c3
    exact am_sub [1, 3, 0] rfl h
theorem bX8_endOfToken_51 {SC : Nat → Nat} {X : mh_X} {d : Nat} {Q : Option am_V → am_W → Prop} {bc bs : Nat} {w : am_W} {x2 : Int} {x3 : Int}
    (h : ((x2 ≤ x3 → Q (some (.inl x3)) w) ∧ (¬ x2 ≤ x3 → (0 ≤ x3 ∧ (x3 < 3000 ∧ ((¬ (¬ (w.1 24 0 x3.toNat) < 48 ∧ (¬ 57 < (w.1 24 0 x3.toNat))) → Q (some (.inl x3)) w) ∧ ((¬ (w.1 24 0 x3.toNat) < 48 ∧ (¬ 57 < (w.1 24 0 x3.toNat))) → am_A (mh_G X) SC (d + 2) mX8_endOfToken Q 51 [(0, .inr (.inr (some (2, 0)))), (2, .inl x2), (3, .inl (am_w (x3 + 1)))] [] w bc bs))))))) :
    am_A (mh_G X) SC (d + 2) mX8_endOfToken Q 51 [(0, .inr (.inr (some (2, 0)))), (2, .inl x2), (3, .inl x3)] [] w bc bs := by
  refine am_iload_n dX8_endOfToken_51 (List.Mem.tail _ (List.Mem.tail _ (List.Mem.head _))) ?_
  refine am_iload_n dX8_endOfToken_52 (List.Mem.tail _ (List.Mem.head _)) ?_
  refine am_icmpge (tgt := 74) dX8_endOfToken_53 (by decide) (fun c1 => ?_) (fun c1 => ?_)
  · replace h := h.1 c1
    refine am_iload_n dX8_endOfToken_74 (List.Mem.tail _ (List.Mem.tail _ (List.Mem.head _))) ?_
    exact am_ret (r := some (.inl x3)) dX8_endOfToken_75 (Or.inl rfl) rfl h
  · replace h := h.2 c1
    refine am_aload_n dX8_endOfToken_56 (List.Mem.head _) ?_
    refine am_getf (f := 0) (v := .inr (.inr (some (24, 0)))) dX8_endOfToken_57 hc_1 (by decide) wd_150 (by decide) rfl rfl ?_
    refine am_iload_n dX8_endOfToken_60 (List.Mem.tail _ (List.Mem.tail _ (List.Mem.head _))) ?_
    have o2 := h.1
    replace h := h.2
    have o3 := h.1
    replace h := h.2
    refine am_caload (v := (w.1 24 0 x3.toNat)) dX8_endOfToken_61 (by decide) rfl o2 o3 rfl ?_
    refine am_calls (d' := d + 1) (kc := 0) (ks := 0) (as := [.inl (w.1 24 0 x3.toNat)]) dX8_endOfToken_62 wc_X8_isDigit wd_656 wd_657 wd_113 ds_X8_isDigit (by decide) (by omega) (Nat.le_of_ble_eq_true rfl) (Nat.zero_le _) (Nat.zero_le _) rfl (sX8_isDigit (d := d + 0) (x0 := (w.1 24 0 x3.toNat))  ?_)
    show am_A (mh_G X) SC (d + 2) mX8_endOfToken Q 65 [(0, .inr (.inr (some (2, 0)))), (2, .inl x2), (3, .inl x3)] [.inl (if (¬ (w.1 24 0 x3.toNat) < 48 ∧ (¬ 57 < (w.1 24 0 x3.toNat))) then 1 else 0)] w bc bs
    refine am_ifeq (tgt := 74) dX8_endOfToken_65 (by decide) (fun c4 => ?_) (fun c4 => ?_)
    · replace c4 := am_beq1 c4
      replace h := h.1 c4
      refine am_iload_n dX8_endOfToken_74 (List.Mem.tail _ (List.Mem.tail _ (List.Mem.head _))) ?_
      exact am_ret (r := some (.inl x3)) dX8_endOfToken_75 (Or.inl rfl) rfl h
    · replace c4 := am_beq2 c4
      replace h := h.2 c4
      refine am_iinc (ls' := [(3, .inl (am_w (x3 + 1))), (0, .inr (.inr (some (2, 0)))), (2, .inl x2)]) dX8_endOfToken_68 (List.Mem.tail _ (List.Mem.tail _ (List.Mem.head _))) (by decide) rfl ?_
      refine am_goto (tgt := 51) dX8_endOfToken_71 (by decide) ?_
      exact am_sub [1, 2, 0] rfl h
theorem bX8_endOfToken_16 {SC : Nat → Nat} {X : mh_X} {d : Nat} {Q : Option am_V → am_W → Prop} {bc bs : Nat} {w : am_W} {x2 : Int} {x3 : Int}
    (h : ((x2 ≤ x3 → Q (some (.inl x3)) w) ∧ (¬ x2 ≤ x3 → (0 ≤ x3 ∧ (x3 < 3000 ∧ ((¬ (¬ (w.1 24 0 x3.toNat) < 97 ∧ (¬ 122 < (w.1 24 0 x3.toNat))) → Q (some (.inl x3)) w) ∧ ((¬ (w.1 24 0 x3.toNat) < 97 ∧ (¬ 122 < (w.1 24 0 x3.toNat))) → am_A (mh_G X) SC (d + 2) mX8_endOfToken Q 16 [(0, .inr (.inr (some (2, 0)))), (2, .inl x2), (3, .inl (am_w (x3 + 1)))] [] w bc bs))))))) :
    am_A (mh_G X) SC (d + 2) mX8_endOfToken Q 16 [(0, .inr (.inr (some (2, 0)))), (2, .inl x2), (3, .inl x3)] [] w bc bs := by
  refine am_iload_n dX8_endOfToken_16 (List.Mem.tail _ (List.Mem.tail _ (List.Mem.head _))) ?_
  refine am_iload_n dX8_endOfToken_17 (List.Mem.tail _ (List.Mem.head _)) ?_
  refine am_icmpge (tgt := 74) dX8_endOfToken_18 (by decide) (fun c1 => ?_) (fun c1 => ?_)
  · replace h := h.1 c1
    refine am_iload_n dX8_endOfToken_74 (List.Mem.tail _ (List.Mem.tail _ (List.Mem.head _))) ?_
    exact am_ret (r := some (.inl x3)) dX8_endOfToken_75 (Or.inl rfl) rfl h
  · replace h := h.2 c1
    refine am_aload_n dX8_endOfToken_21 (List.Mem.head _) ?_
    refine am_getf (f := 0) (v := .inr (.inr (some (24, 0)))) dX8_endOfToken_22 hc_1 (by decide) wd_150 (by decide) rfl rfl ?_
    refine am_iload_n dX8_endOfToken_25 (List.Mem.tail _ (List.Mem.tail _ (List.Mem.head _))) ?_
    have o2 := h.1
    replace h := h.2
    have o3 := h.1
    replace h := h.2
    refine am_caload (v := (w.1 24 0 x3.toNat)) dX8_endOfToken_26 (by decide) rfl o2 o3 rfl ?_
    refine am_calls (d' := d + 1) (kc := 0) (ks := 0) (as := [.inl (w.1 24 0 x3.toNat)]) dX8_endOfToken_27 wc_X8_isLetter wd_653 wd_654 wd_113 ds_X8_isLetter (by decide) (by omega) (Nat.le_of_ble_eq_true rfl) (Nat.zero_le _) (Nat.zero_le _) rfl (sX8_isLetter (d := d + 0) (x0 := (w.1 24 0 x3.toNat))  ?_)
    show am_A (mh_G X) SC (d + 2) mX8_endOfToken Q 30 [(0, .inr (.inr (some (2, 0)))), (2, .inl x2), (3, .inl x3)] [.inl (if (¬ (w.1 24 0 x3.toNat) < 97 ∧ (¬ 122 < (w.1 24 0 x3.toNat))) then 1 else 0)] w bc bs
    refine am_ifeq (tgt := 74) dX8_endOfToken_30 (by decide) (fun c4 => ?_) (fun c4 => ?_)
    · replace c4 := am_beq1 c4
      replace h := h.1 c4
      refine am_iload_n dX8_endOfToken_74 (List.Mem.tail _ (List.Mem.tail _ (List.Mem.head _))) ?_
      exact am_ret (r := some (.inl x3)) dX8_endOfToken_75 (Or.inl rfl) rfl h
    · replace c4 := am_beq2 c4
      replace h := h.2 c4
      refine am_iinc (ls' := [(3, .inl (am_w (x3 + 1))), (0, .inr (.inr (some (2, 0)))), (2, .inl x2)]) dX8_endOfToken_33 (List.Mem.tail _ (List.Mem.tail _ (List.Mem.head _))) (by decide) rfl ?_
      refine am_goto (tgt := 16) dX8_endOfToken_36 (by decide) ?_
      exact am_sub [1, 2, 0] rfl h
-- MourningHouse$Reader.valueOf(II)I
theorem dX8_valueOf_0 : decode mX8_valueOf.2.1 0 = .ok (.iconst 0, 1) := by decide +kernel
theorem dX8_valueOf_1 : decode mX8_valueOf.2.1 1 = .ok (.istore_n 3, 1) := by decide +kernel
theorem dX8_valueOf_2 : decode mX8_valueOf.2.1 2 = .ok (.iload_n 1, 1) := by decide +kernel
theorem dX8_valueOf_3 : decode mX8_valueOf.2.1 3 = .ok (.istore 4, 2) := by decide +kernel
theorem dX8_valueOf_5 : decode mX8_valueOf.2.1 5 = .ok (.iload 4, 2) := by decide +kernel
theorem dX8_valueOf_7 : decode mX8_valueOf.2.1 7 = .ok (.iload_n 2, 1) := by decide +kernel
theorem dX8_valueOf_8 : decode mX8_valueOf.2.1 8 = .ok (.if_icmp .ge 30, 3) := by decide +kernel
theorem dX8_valueOf_11 : decode mX8_valueOf.2.1 11 = .ok (.iload_n 3, 1) := by decide +kernel
theorem dX8_valueOf_12 : decode mX8_valueOf.2.1 12 = .ok (.bipush 10, 2) := by decide +kernel
theorem dX8_valueOf_14 : decode mX8_valueOf.2.1 14 = .ok (.imul, 1) := by decide +kernel
theorem dX8_valueOf_15 : decode mX8_valueOf.2.1 15 = .ok (.aload_n 0, 1) := by decide +kernel
theorem dX8_valueOf_16 : decode mX8_valueOf.2.1 16 = .ok (.getfield 9, 3) := by decide +kernel
theorem dX8_valueOf_19 : decode mX8_valueOf.2.1 19 = .ok (.iload 4, 2) := by decide +kernel
theorem dX8_valueOf_21 : decode mX8_valueOf.2.1 21 = .ok (.caload, 1) := by decide +kernel
theorem dX8_valueOf_22 : decode mX8_valueOf.2.1 22 = .ok (.iadd, 1) := by decide +kernel
theorem dX8_valueOf_23 : decode mX8_valueOf.2.1 23 = .ok (.bipush 48, 2) := by decide +kernel
theorem dX8_valueOf_25 : decode mX8_valueOf.2.1 25 = .ok (.isub, 1) := by decide +kernel
theorem dX8_valueOf_26 : decode mX8_valueOf.2.1 26 = .ok (.ldc 118, 2) := by decide +kernel
theorem dX8_valueOf_28 : decode mX8_valueOf.2.1 28 = .ok (.invokestatic 119, 3) := by decide +kernel
theorem dX8_valueOf_31 : decode mX8_valueOf.2.1 31 = .ok (.istore_n 3, 1) := by decide +kernel
theorem dX8_valueOf_32 : decode mX8_valueOf.2.1 32 = .ok (.iinc 4 1, 3) := by decide +kernel
theorem dX8_valueOf_35 : decode mX8_valueOf.2.1 35 = .ok (.goto (-30), 3) := by decide +kernel
theorem dX8_valueOf_38 : decode mX8_valueOf.2.1 38 = .ok (.iload_n 3, 1) := by decide +kernel
theorem dX8_valueOf_39 : decode mX8_valueOf.2.1 39 = .ok (.ireturn, 1) := by decide +kernel
theorem bX8_valueOf_0 {SC : Nat → Nat} {X : mh_X} {d : Nat} {Q : Option am_V → am_W → Prop} {bc bs : Nat} {w : am_W} {x1 : Int} {x2 : Int}
    (h : am_A (mh_G X) SC (d + 2) mX8_valueOf Q 5 [(0, .inr (.inr (some (2, 0)))), (2, .inl x2), (3, .inl 0), (4, .inl x1)] [] w bc bs) :
    am_A (mh_G X) SC (d + 2) mX8_valueOf Q 0 [(0, .inr (.inr (some (2, 0)))), (1, .inl x1), (2, .inl x2)] [] w bc bs := by
  refine am_iconst dX8_valueOf_0 (by unfold am_rg; omega) ?_
  refine am_istore_n (ls' := [(3, .inl 0), (0, .inr (.inr (some (2, 0)))), (1, .inl x1), (2, .inl x2)]) dX8_valueOf_1 (by decide) rfl ?_
  refine am_iload_n dX8_valueOf_2 (List.Mem.tail _ (List.Mem.tail _ (List.Mem.head _))) ?_
  refine am_istore (ls' := [(4, .inl x1), (3, .inl 0), (0, .inr (.inr (some (2, 0)))), (1, .inl x1), (2, .inl x2)]) dX8_valueOf_3 (by decide) rfl ?_
  exact am_sub [2, 4, 1, 0] rfl h
theorem bX8_valueOf_5 {SC : Nat → Nat} {X : mh_X} {d : Nat} {Q : Option am_V → am_W → Prop} {bc bs : Nat} {w : am_W} {x2 : Int} {x3 : Int} {x4 : Int}
    (h : ((x2 ≤ x4 → Q (some (.inl x3)) w) ∧ (¬ x2 ≤ x4 → (0 ≤ x4 ∧ (x4 < 3000 ∧ (∀ n4 : Int, n4 = (min (am_w ((am_w ((am_w (x3 * 10)) + (w.1 24 0 x4.toNat))) - 48)) 100000) → am_A (mh_G X) SC (d + 2) mX8_valueOf Q 5 [(0, .inr (.inr (some (2, 0)))), (2, .inl x2), (3, .inl n4), (4, .inl (am_w (x4 + 1)))] [] w bc bs)))))) :
    am_A (mh_G X) SC (d + 2) mX8_valueOf Q 5 [(0, .inr (.inr (some (2, 0)))), (2, .inl x2), (3, .inl x3), (4, .inl x4)] [] w bc bs := by
  refine am_iload dX8_valueOf_5 (List.Mem.tail _ (List.Mem.tail _ (List.Mem.tail _ (List.Mem.head _)))) ?_
  refine am_iload_n dX8_valueOf_7 (List.Mem.tail _ (List.Mem.head _)) ?_
  refine am_icmpge (tgt := 38) dX8_valueOf_8 (by decide) (fun c1 => ?_) (fun c1 => ?_)
  · replace h := h.1 c1
    refine am_iload_n dX8_valueOf_38 (List.Mem.tail _ (List.Mem.tail _ (List.Mem.head _))) ?_
    exact am_ret (r := some (.inl x3)) dX8_valueOf_39 (Or.inl rfl) rfl h
  · replace h := h.2 c1
    refine am_iload_n dX8_valueOf_11 (List.Mem.tail _ (List.Mem.tail _ (List.Mem.head _))) ?_
    refine am_bipush dX8_valueOf_12 (by decide) (by unfold am_rg; omega) ?_
    refine am_imul dX8_valueOf_14 ?_
    refine am_aload_n dX8_valueOf_15 (List.Mem.head _) ?_
    refine am_getf (f := 0) (v := .inr (.inr (some (24, 0)))) dX8_valueOf_16 hc_1 (by decide) wd_150 (by decide) rfl rfl ?_
    refine am_iload dX8_valueOf_19 (List.Mem.tail _ (List.Mem.tail _ (List.Mem.tail _ (List.Mem.head _)))) ?_
    have o2 := h.1
    replace h := h.2
    have o3 := h.1
    replace h := h.2
    refine am_caload (v := (w.1 24 0 x4.toNat)) dX8_valueOf_21 (by decide) rfl o2 o3 rfl ?_
    refine am_iadd dX8_valueOf_22 ?_
    refine am_bipush dX8_valueOf_23 (by decide) (by unfold am_rg; omega) ?_
    refine am_isub dX8_valueOf_25 ?_
    refine am_ldcV (n := 100000) dX8_valueOf_26 (by decide) wd_780 (by unfold am_rg; omega) ?_
    refine am_mmin dX8_valueOf_28 wd_781 (by omega) (Nat.le_of_ble_eq_true rfl) ?_
    refine am_named (fun n4 en4 => ?_)
    replace h := h n4 en4
    refine am_istore_n (ls' := [(3, .inl n4), (0, .inr (.inr (some (2, 0)))), (2, .inl x2), (4, .inl x4)]) dX8_valueOf_31 (by decide) rfl ?_
    refine am_iinc (ls' := [(4, .inl (am_w (x4 + 1))), (3, .inl n4), (0, .inr (.inr (some (2, 0)))), (2, .inl x2)]) dX8_valueOf_32 (List.Mem.tail _ (List.Mem.tail _ (List.Mem.tail _ (List.Mem.head _)))) (by decide) rfl ?_
    refine am_goto (tgt := 5) dX8_valueOf_35 (by decide) ?_
    exact am_sub [2, 3, 1, 0] rfl h
-- MourningHouse$Reader.keepToken(III)V
theorem dX8_keepToken_0 : decode mX8_keepToken.2.1 0 = .ok (.aload_n 0, 1) := by decide +kernel
theorem dX8_keepToken_1 : decode mX8_keepToken.2.1 1 = .ok (.getfield 36, 3) := by decide +kernel
theorem dX8_keepToken_4 : decode mX8_keepToken.2.1 4 = .ok (.bipush 64, 2) := by decide +kernel
theorem dX8_keepToken_6 : decode mX8_keepToken.2.1 6 = .ok (.if_icmp .ge 38, 3) := by decide +kernel
theorem dX8_keepToken_9 : decode mX8_keepToken.2.1 9 = .ok (.aload_n 0, 1) := by decide +kernel
theorem dX8_keepToken_10 : decode mX8_keepToken.2.1 10 = .ok (.getfield 13, 3) := by decide +kernel
theorem dX8_keepToken_13 : decode mX8_keepToken.2.1 13 = .ok (.aload_n 0, 1) := by decide +kernel
theorem dX8_keepToken_14 : decode mX8_keepToken.2.1 14 = .ok (.getfield 36, 3) := by decide +kernel
theorem dX8_keepToken_17 : decode mX8_keepToken.2.1 17 = .ok (.iload_n 1, 1) := by decide +kernel
theorem dX8_keepToken_18 : decode mX8_keepToken.2.1 18 = .ok (.iastore, 1) := by decide +kernel
theorem dX8_keepToken_19 : decode mX8_keepToken.2.1 19 = .ok (.aload_n 0, 1) := by decide +kernel
theorem dX8_keepToken_20 : decode mX8_keepToken.2.1 20 = .ok (.getfield 17, 3) := by decide +kernel
theorem dX8_keepToken_23 : decode mX8_keepToken.2.1 23 = .ok (.aload_n 0, 1) := by decide +kernel
theorem dX8_keepToken_24 : decode mX8_keepToken.2.1 24 = .ok (.getfield 36, 3) := by decide +kernel
theorem dX8_keepToken_27 : decode mX8_keepToken.2.1 27 = .ok (.iload_n 1, 1) := by decide +kernel
theorem dX8_keepToken_28 : decode mX8_keepToken.2.1 28 = .ok (.bipush 41, 2) := by decide +kernel
theorem dX8_keepToken_30 : decode mX8_keepToken.2.1 30 = .ok (.if_icmp .ne 12, 3) := by decide +kernel
theorem dX8_keepToken_33 : decode mX8_keepToken.2.1 33 = .ok (.aload_n 0, 1) := by decide +kernel
theorem dX8_keepToken_34 : decode mX8_keepToken.2.1 34 = .ok (.iload_n 2, 1) := by decide +kernel
theorem dX8_keepToken_35 : decode mX8_keepToken.2.1 35 = .ok (.iload_n 3, 1) := by decide +kernel
theorem dX8_keepToken_36 : decode mX8_keepToken.2.1 36 = .ok (.invokevirtual 115, 3) := by decide +kernel
theorem dX8_keepToken_39 : decode mX8_keepToken.2.1 39 = .ok (.goto 4, 3) := by decide +kernel
theorem dX8_keepToken_42 : decode mX8_keepToken.2.1 42 = .ok (.iconst 0, 1) := by decide +kernel
theorem dX8_keepToken_43 : decode mX8_keepToken.2.1 43 = .ok (.iastore, 1) := by decide +kernel
theorem dX8_keepToken_44 : decode mX8_keepToken.2.1 44 = .ok (.aload_n 0, 1) := by decide +kernel
theorem dX8_keepToken_45 : decode mX8_keepToken.2.1 45 = .ok (.dup, 1) := by decide +kernel
theorem dX8_keepToken_46 : decode mX8_keepToken.2.1 46 = .ok (.getfield 36, 3) := by decide +kernel
theorem dX8_keepToken_49 : decode mX8_keepToken.2.1 49 = .ok (.iconst 1, 1) := by decide +kernel
theorem dX8_keepToken_50 : decode mX8_keepToken.2.1 50 = .ok (.iadd, 1) := by decide +kernel
theorem dX8_keepToken_51 : decode mX8_keepToken.2.1 51 = .ok (.putfield 36, 3) := by decide +kernel
theorem dX8_keepToken_54 : decode mX8_keepToken.2.1 54 = .ok (.return_, 1) := by decide +kernel
theorem bX8_keepToken_0 {SC : Nat → Nat} {X : mh_X} {d : Nat} {Q : Option am_V → am_W → Prop} {bc bs : Nat} {w : am_W} {x1 : Int} {x2 : Int} {x3 : Int}
    (h : ((64 ≤ (w.1 2 0 8) → Q none ((am_up w.1 2 0 8 (am_w ((w.1 2 0 8) + 1))), w.2)) ∧ (¬ 64 ≤ (w.1 2 0 8) → (0 ≤ (w.1 2 0 8) ∧ ((w.1 2 0 8) < 64 ∧ ((¬ x1 = 41 → am_A (mh_G X) SC (d + 3) mX8_keepToken Q 43 [(0, .inr (.inr (some (2, 0))))] [.inl 0, .inl (w.1 2 0 8), .inr (.inr (some (26, 0)))] ((am_up w.1 25 0 (w.1 2 0 8).toNat x1), w.2) bc bs) ∧ (x1 = 41 → am_M (mh_G X) SC (d + 2) 0 0 mX8_valueOf [.inr (.inr (some (2, 0))), .inl x2, .inl x3] ((am_up w.1 25 0 (w.1 2 0 8).toNat x1), w.2) (fun r w1 => am_A (mh_G X) SC (d + 3) mX8_keepToken Q 39 [(0, .inr (.inr (some (2, 0)))), (1, .inl x1), (2, .inl x2), (3, .inl x3)] (r.toList ++ [.inl (w.1 2 0 8), .inr (.inr (some (26, 0)))]) w1 bc bs)))))))) :
    am_A (mh_G X) SC (d + 3) mX8_keepToken Q 0 [(0, .inr (.inr (some (2, 0)))), (1, .inl x1), (2, .inl x2), (3, .inl x3)] [] w bc bs := by
  refine am_aload_n dX8_keepToken_0 (List.Mem.head _) ?_
  refine am_getf (f := 8) (v := .inl (w.1 2 0 8)) dX8_keepToken_1 hc_1 (by decide) wd_162 (by decide) rfl rfl ?_
  refine am_bipush dX8_keepToken_4 (by decide) (by unfold am_rg; omega) ?_
  refine am_icmpge (tgt := 44) dX8_keepToken_6 (by decide) (fun c1 => ?_) (fun c1 => ?_)
  · replace h := h.1 c1
    refine am_aload_n dX8_keepToken_44 (List.Mem.head _) ?_
    refine am_dup dX8_keepToken_45 rfl ?_
    refine am_getf (f := 8) (v := .inl (w.1 2 0 8)) dX8_keepToken_46 hc_1 (by decide) wd_162 (by decide) rfl rfl ?_
    refine am_iconst dX8_keepToken_49 (by unfold am_rg; omega) ?_
    refine am_iadd dX8_keepToken_50 ?_
    refine am_putf (f := 8) dX8_keepToken_51 hc_1 (by decide) wd_162 rfl (Or.inl rfl) (Or.inl (by decide)) rfl ?_
    exact am_ret (r := none) dX8_keepToken_54 rfl rfl h
  · replace h := h.2 c1
    refine am_aload_n dX8_keepToken_9 (List.Mem.head _) ?_
    refine am_getf (f := 1) (v := .inr (.inr (some (25, 0)))) dX8_keepToken_10 hc_1 (by decide) wd_151 (by decide) rfl rfl ?_
    refine am_aload_n dX8_keepToken_13 (List.Mem.head _) ?_
    refine am_getf (f := 8) (v := .inl (w.1 2 0 8)) dX8_keepToken_14 hc_1 (by decide) wd_162 (by decide) rfl rfl ?_
    refine am_iload_n dX8_keepToken_17 (List.Mem.tail _ (List.Mem.head _)) ?_
    have o2 := h.1
    replace h := h.2
    have o3 := h.1
    replace h := h.2
    refine am_iastore dX8_keepToken_18 (Or.inl (by decide)) rfl o2 o3 ?_
    refine am_aload_n dX8_keepToken_19 (List.Mem.head _) ?_
    refine am_getf (f := 2) (v := .inr (.inr (some (26, 0)))) dX8_keepToken_20 hc_1 (by decide) wd_152 (by decide) rfl rfl ?_
    refine am_aload_n dX8_keepToken_23 (List.Mem.head _) ?_
    refine am_getf (f := 8) (v := .inl (w.1 2 0 8)) dX8_keepToken_24 hc_1 (by decide) wd_162 (by decide) rfl rfl ?_
    refine am_iload_n dX8_keepToken_27 (List.Mem.tail _ (List.Mem.head _)) ?_
    refine am_bipush dX8_keepToken_28 (by decide) (by unfold am_rg; omega) ?_
    refine am_icmpne (tgt := 42) dX8_keepToken_30 (by decide) (fun c4 => ?_) (fun c4 => ?_)
    · replace h := h.1 c4
      refine am_iconst dX8_keepToken_42 (by unfold am_rg; omega) ?_
      exact am_sub [0] rfl h
    · replace h := h.2 c4
      refine am_aload_n dX8_keepToken_33 (List.Mem.head _) ?_
      refine am_iload_n dX8_keepToken_34 (List.Mem.tail _ (List.Mem.tail _ (List.Mem.head _))) ?_
      refine am_iload_n dX8_keepToken_35 (List.Mem.tail _ (List.Mem.tail _ (List.Mem.tail _ (List.Mem.head _)))) ?_
      exact am_callv (d' := d + 2) (kc := 0) (ks := 0) (as := [.inl x2, .inl x3]) dX8_keepToken_36 wc_X8_valueOf wd_776 wd_778 wd_5 wd_113 ds_X8_valueOf (by decide) (by omega) (Nat.le_of_ble_eq_true rfl) (Nat.zero_le _) (Nat.zero_le _) hc_1 (by decide) rfl rfl h
theorem bX8_keepToken_43 {SC : Nat → Nat} {X : mh_X} {d : Nat} {Q : Option am_V → am_W → Prop} {bc bs : Nat} {w : am_W} {xs0 : Int} {xs1 : Int}
    (h : (0 ≤ xs1 ∧ (xs1 < 64 ∧ Q none ((am_up (am_up w.1 26 0 xs1.toNat xs0) 2 0 8 (am_w ((w.1 2 0 8) + 1))), w.2)))) :
    am_A (mh_G X) SC (d + 3) mX8_keepToken Q 43 [(0, .inr (.inr (some (2, 0))))] [.inl xs0, .inl xs1, .inr (.inr (some (26, 0)))] w bc bs := by
  have o1 := h.1
  replace h := h.2
  have o2 := h.1
  replace h := h.2
  refine am_iastore dX8_keepToken_43 (Or.inl (by decide)) rfl o1 o2 ?_
  refine am_aload_n dX8_keepToken_44 (List.Mem.head _) ?_
  refine am_dup dX8_keepToken_45 rfl ?_
  refine am_getf (f := 8) (v := .inl (w.1 2 0 8)) dX8_keepToken_46 hc_1 (by decide) wd_162 (by decide) rfl rfl ?_
  refine am_iconst dX8_keepToken_49 (by unfold am_rg; omega) ?_
  refine am_iadd dX8_keepToken_50 ?_
  refine am_putf (f := 8) dX8_keepToken_51 hc_1 (by decide) wd_162 rfl (Or.inl rfl) (Or.inl (by decide)) rfl ?_
  exact am_ret (r := none) dX8_keepToken_54 rfl rfl h
theorem bX8_keepToken_39 {SC : Nat → Nat} {X : mh_X} {d : Nat} {Q : Option am_V → am_W → Prop} {bc bs : Nat} {w : am_W} {x1 : Int} {x2 : Int} {x3 : Int} {xs0 : Int} {xs1 : Int}
    (h : am_A (mh_G X) SC (d + 3) mX8_keepToken Q 43 [(0, .inr (.inr (some (2, 0))))] [.inl xs0, .inl xs1, .inr (.inr (some (26, 0)))] w bc bs) :
    am_A (mh_G X) SC (d + 3) mX8_keepToken Q 39 [(0, .inr (.inr (some (2, 0)))), (1, .inl x1), (2, .inl x2), (3, .inl x3)] [.inl xs0, .inl xs1, .inr (.inr (some (26, 0)))] w bc bs := by
  refine am_goto (tgt := 43) dX8_keepToken_39 (by decide) ?_
  exact am_sub [0] rfl h
-- MourningHouse$Words.isAt(Ljava/lang/String;[CII)Z
theorem dX10_isAt_0 : decode mX10_isAt.2.1 0 = .ok (.aload_n 0, 1) := by decide +kernel
theorem dX10_isAt_1 : decode mX10_isAt.2.1 1 = .ok (.invokevirtual 106, 3) := by decide +kernel
theorem dX10_isAt_4 : decode mX10_isAt.2.1 4 = .ok (.iload_n 3, 1) := by decide +kernel
theorem dX10_isAt_5 : decode mX10_isAt.2.1 5 = .ok (.iload_n 2, 1) := by decide +kernel
theorem dX10_isAt_6 : decode mX10_isAt.2.1 6 = .ok (.isub, 1) := by decide +kernel
theorem dX10_isAt_7 : decode mX10_isAt.2.1 7 = .ok (.if_icmp .eq 5, 3) := by decide +kernel
theorem dX10_isAt_10 : decode mX10_isAt.2.1 10 = .ok (.iconst 0, 1) := by decide +kernel
theorem dX10_isAt_11 : decode mX10_isAt.2.1 11 = .ok (.ireturn, 1) := by decide +kernel
theorem dX10_isAt_12 : decode mX10_isAt.2.1 12 = .ok (.iconst 0, 1) := by decide +kernel
theorem dX10_isAt_13 : decode mX10_isAt.2.1 13 = .ok (.istore 4, 2) := by decide +kernel
theorem dX10_isAt_15 : decode mX10_isAt.2.1 15 = .ok (.iload 4, 2) := by decide +kernel
theorem dX10_isAt_17 : decode mX10_isAt.2.1 17 = .ok (.aload_n 0, 1) := by decide +kernel
theorem dX10_isAt_18 : decode mX10_isAt.2.1 18 = .ok (.invokevirtual 106, 3) := by decide +kernel
theorem dX10_isAt_21 : decode mX10_isAt.2.1 21 = .ok (.if_icmp .ge 26, 3) := by decide +kernel
theorem dX10_isAt_24 : decode mX10_isAt.2.1 24 = .ok (.aload_n 0, 1) := by decide +kernel
theorem dX10_isAt_25 : decode mX10_isAt.2.1 25 = .ok (.iload 4, 2) := by decide +kernel
theorem dX10_isAt_27 : decode mX10_isAt.2.1 27 = .ok (.invokevirtual 112, 3) := by decide +kernel
theorem dX10_isAt_30 : decode mX10_isAt.2.1 30 = .ok (.aload_n 1, 1) := by decide +kernel
theorem dX10_isAt_31 : decode mX10_isAt.2.1 31 = .ok (.iload_n 2, 1) := by decide +kernel
theorem dX10_isAt_32 : decode mX10_isAt.2.1 32 = .ok (.iload 4, 2) := by decide +kernel
theorem dX10_isAt_34 : decode mX10_isAt.2.1 34 = .ok (.iadd, 1) := by decide +kernel
theorem dX10_isAt_35 : decode mX10_isAt.2.1 35 = .ok (.caload, 1) := by decide +kernel
theorem dX10_isAt_36 : decode mX10_isAt.2.1 36 = .ok (.if_icmp .eq 5, 3) := by decide +kernel
theorem dX10_isAt_39 : decode mX10_isAt.2.1 39 = .ok (.iconst 0, 1) := by decide +kernel
theorem dX10_isAt_40 : decode mX10_isAt.2.1 40 = .ok (.ireturn, 1) := by decide +kernel
theorem dX10_isAt_41 : decode mX10_isAt.2.1 41 = .ok (.iinc 4 1, 3) := by decide +kernel
theorem dX10_isAt_44 : decode mX10_isAt.2.1 44 = .ok (.goto (-29), 3) := by decide +kernel
theorem dX10_isAt_47 : decode mX10_isAt.2.1 47 = .ok (.iconst 1, 1) := by decide +kernel
theorem dX10_isAt_48 : decode mX10_isAt.2.1 48 = .ok (.ireturn, 1) := by decide +kernel
theorem bX10_isAt_0 {SC : Nat → Nat} {X : mh_X} {d : Nat} {Q : Option am_V → am_W → Prop} {bc bs : Nat} {w : am_W} {t0 : Nat} {j0 : Nat} {x2 : Int} {x3 : Int}
    (h : (t0 < 1100 ∧ (am_kd (mh_G X) w t0 j0 = 111 ∧ am_M (mh_G X) SC (d + 5) 0 0 mJ0_length_8abf5 [.inr (.inr (some (t0, j0)))] w (fun r w1 => am_A (mh_G X) SC (d + 6) mX10_isAt Q 4 [(0, .inr (.inr (some (t0, j0)))), (1, .inr (.inr (some (24, 0)))), (2, .inl x2), (3, .inl x3)] (r.toList ++ []) w1 bc bs)))) :
    am_A (mh_G X) SC (d + 6) mX10_isAt Q 0 [(0, .inr (.inr (some (t0, j0)))), (1, .inr (.inr (some (24, 0)))), (2, .inl x2), (3, .inl x3)] [] w bc bs := by
  refine am_aload_n dX10_isAt_0 (List.Mem.head _) ?_
  have o1 := h.1
  replace h := h.2
  have o2 := h.1
  replace h := h.2
  exact am_callv (d' := d + 5) (kc := 0) (ks := 0) (as := []) dX10_isAt_1 wc_J0_length_8abf5 wd_721 wd_722 wd_723 wd_124 ds_J0_length_8abf5 (by decide) (by omega) (Nat.le_of_ble_eq_true rfl) (Nat.zero_le _) (Nat.zero_le _) hc_11 o1 o2 rfl h
theorem bX10_isAt_4 {SC : Nat → Nat} {X : mh_X} {d : Nat} {Q : Option am_V → am_W → Prop} {bc bs : Nat} {w : am_W} {t0 : Nat} {j0 : Nat} {x2 : Int} {x3 : Int} {xs0 : Int}
    (h : ((xs0 = (am_w (x3 - x2)) → am_A (mh_G X) SC (d + 6) mX10_isAt Q 15 [(0, .inr (.inr (some (t0, j0)))), (1, .inr (.inr (some (24, 0)))), (2, .inl x2), (4, .inl 0)] [] w bc bs) ∧ (¬ xs0 = (am_w (x3 - x2)) → Q (some (.inl 0)) w))) :
    am_A (mh_G X) SC (d + 6) mX10_isAt Q 4 [(0, .inr (.inr (some (t0, j0)))), (1, .inr (.inr (some (24, 0)))), (2, .inl x2), (3, .inl x3)] [.inl xs0] w bc bs := by
  refine am_iload_n dX10_isAt_4 (List.Mem.tail _ (List.Mem.tail _ (List.Mem.tail _ (List.Mem.head _)))) ?_
  refine am_iload_n dX10_isAt_5 (List.Mem.tail _ (List.Mem.tail _ (List.Mem.head _))) ?_
  refine am_isub dX10_isAt_6 ?_
  refine am_icmpeq (tgt := 12) dX10_isAt_7 (by decide) (fun c1 => ?_) (fun c1 => ?_)
  · replace h := h.1 c1
    refine am_iconst dX10_isAt_12 (by unfold am_rg; omega) ?_
    refine am_istore (ls' := [(4, .inl 0), (0, .inr (.inr (some (t0, j0)))), (1, .inr (.inr (some (24, 0)))), (2, .inl x2), (3, .inl x3)]) dX10_isAt_13 (by decide) rfl ?_
    exact am_sub [1, 2, 3, 0] rfl h
  · replace h := h.2 c1
    refine am_iconst dX10_isAt_10 (by unfold am_rg; omega) ?_
    exact am_ret (r := some (.inl 0)) dX10_isAt_11 (Or.inr (Or.inl ⟨rfl, (Or.inl rfl)⟩)) rfl h
theorem bX10_isAt_15 {SC : Nat → Nat} {X : mh_X} {d : Nat} {Q : Option am_V → am_W → Prop} {bc bs : Nat} {w : am_W} {t0 : Nat} {j0 : Nat} {x2 : Int} {x4 : Int}
    (h : (t0 < 1100 ∧ (am_kd (mh_G X) w t0 j0 = 111 ∧ am_M (mh_G X) SC (d + 5) 0 0 mJ0_length_8abf5 [.inr (.inr (some (t0, j0)))] w (fun r w1 => am_A (mh_G X) SC (d + 6) mX10_isAt Q 21 [(0, .inr (.inr (some (t0, j0)))), (1, .inr (.inr (some (24, 0)))), (2, .inl x2), (4, .inl x4)] (r.toList ++ [.inl x4]) w1 bc bs)))) :
    am_A (mh_G X) SC (d + 6) mX10_isAt Q 15 [(0, .inr (.inr (some (t0, j0)))), (1, .inr (.inr (some (24, 0)))), (2, .inl x2), (4, .inl x4)] [] w bc bs := by
  refine am_iload dX10_isAt_15 (List.Mem.tail _ (List.Mem.tail _ (List.Mem.tail _ (List.Mem.head _)))) ?_
  refine am_aload_n dX10_isAt_17 (List.Mem.head _) ?_
  have o1 := h.1
  replace h := h.2
  have o2 := h.1
  replace h := h.2
  exact am_callv (d' := d + 5) (kc := 0) (ks := 0) (as := []) dX10_isAt_18 wc_J0_length_8abf5 wd_721 wd_722 wd_723 wd_124 ds_J0_length_8abf5 (by decide) (by omega) (Nat.le_of_ble_eq_true rfl) (Nat.zero_le _) (Nat.zero_le _) hc_11 o1 o2 rfl h
theorem bX10_isAt_21 {SC : Nat → Nat} {X : mh_X} {d : Nat} {Q : Option am_V → am_W → Prop} {bc bs : Nat} {w : am_W} {t0 : Nat} {j0 : Nat} {x2 : Int} {x4 : Int} {xs0 : Int} {xs1 : Int}
    (h : ((xs0 ≤ xs1 → Q (some (.inl 1)) w) ∧ (¬ xs0 ≤ xs1 → (t0 < 1100 ∧ (am_kd (mh_G X) w t0 j0 = 111 ∧ am_M (mh_G X) SC (d + 5) 0 0 mJ0_charAt_5068e [.inr (.inr (some (t0, j0))), .inl x4] w (fun r w1 => am_A (mh_G X) SC (d + 6) mX10_isAt Q 30 [(0, .inr (.inr (some (t0, j0)))), (1, .inr (.inr (some (24, 0)))), (2, .inl x2), (4, .inl x4)] (r.toList ++ []) w1 bc bs)))))) :
    am_A (mh_G X) SC (d + 6) mX10_isAt Q 21 [(0, .inr (.inr (some (t0, j0)))), (1, .inr (.inr (some (24, 0)))), (2, .inl x2), (4, .inl x4)] [.inl xs0, .inl xs1] w bc bs := by
  refine am_icmpge (tgt := 47) dX10_isAt_21 (by decide) (fun c1 => ?_) (fun c1 => ?_)
  · replace h := h.1 c1
    refine am_iconst dX10_isAt_47 (by unfold am_rg; omega) ?_
    exact am_ret (r := some (.inl 1)) dX10_isAt_48 (Or.inr (Or.inl ⟨rfl, (Or.inr rfl)⟩)) rfl h
  · replace h := h.2 c1
    refine am_aload_n dX10_isAt_24 (List.Mem.head _) ?_
    refine am_iload dX10_isAt_25 (List.Mem.tail _ (List.Mem.tail _ (List.Mem.tail _ (List.Mem.head _)))) ?_
    have o2 := h.1
    replace h := h.2
    have o3 := h.1
    replace h := h.2
    exact am_callv (d' := d + 5) (kc := 0) (ks := 0) (as := [.inl x4]) dX10_isAt_27 wc_J0_charAt_5068e wd_731 wd_732 wd_733 wd_124 ds_J0_charAt_5068e (by decide) (by omega) (Nat.le_of_ble_eq_true rfl) (Nat.zero_le _) (Nat.zero_le _) hc_11 o2 o3 rfl h
theorem bX10_isAt_30 {SC : Nat → Nat} {X : mh_X} {d : Nat} {Q : Option am_V → am_W → Prop} {bc bs : Nat} {w : am_W} {t0 : Nat} {j0 : Nat} {x2 : Int} {x4 : Int} {xs0 : Int}
    (h : (0 ≤ (am_w (x2 + x4)) ∧ ((am_w (x2 + x4)) < 3000 ∧ ((xs0 = (w.1 24 0 (am_w (x2 + x4)).toNat) → am_A (mh_G X) SC (d + 6) mX10_isAt Q 15 [(0, .inr (.inr (some (t0, j0)))), (1, .inr (.inr (some (24, 0)))), (2, .inl x2), (4, .inl (am_w (x4 + 1)))] [] w bc bs) ∧ (¬ xs0 = (w.1 24 0 (am_w (x2 + x4)).toNat) → Q (some (.inl 0)) w))))) :
    am_A (mh_G X) SC (d + 6) mX10_isAt Q 30 [(0, .inr (.inr (some (t0, j0)))), (1, .inr (.inr (some (24, 0)))), (2, .inl x2), (4, .inl x4)] [.inl xs0] w bc bs := by
  refine am_aload_n dX10_isAt_30 (List.Mem.tail _ (List.Mem.head _)) ?_
  refine am_iload_n dX10_isAt_31 (List.Mem.tail _ (List.Mem.tail _ (List.Mem.head _))) ?_
  refine am_iload dX10_isAt_32 (List.Mem.tail _ (List.Mem.tail _ (List.Mem.tail _ (List.Mem.head _)))) ?_
  refine am_iadd dX10_isAt_34 ?_
  have o1 := h.1
  replace h := h.2
  have o2 := h.1
  replace h := h.2
  refine am_caload (v := (w.1 24 0 (am_w (x2 + x4)).toNat)) dX10_isAt_35 (by decide) rfl o1 o2 rfl ?_
  refine am_icmpeq (tgt := 41) dX10_isAt_36 (by decide) (fun c3 => ?_) (fun c3 => ?_)
  · replace h := h.1 c3
    refine am_iinc (ls' := [(4, .inl (am_w (x4 + 1))), (0, .inr (.inr (some (t0, j0)))), (1, .inr (.inr (some (24, 0)))), (2, .inl x2)]) dX10_isAt_41 (List.Mem.tail _ (List.Mem.tail _ (List.Mem.tail _ (List.Mem.head _)))) (by decide) rfl ?_
    refine am_goto (tgt := 15) dX10_isAt_44 (by decide) ?_
    exact am_sub [1, 2, 3, 0] rfl h
  · replace h := h.2 c3
    refine am_iconst dX10_isAt_39 (by unfold am_rg; omega) ?_
    exact am_ret (r := some (.inl 0)) dX10_isAt_40 (Or.inr (Or.inl ⟨rfl, (Or.inl rfl)⟩)) rfl h
-- MourningHouse$Words.codeOf([CII)I
theorem dX10_codeOf_0 : decode mX10_codeOf.2.1 0 = .ok (.iconst 0, 1) := by decide +kernel
theorem dX10_codeOf_1 : decode mX10_codeOf.2.1 1 = .ok (.istore_n 3, 1) := by decide +kernel
theorem dX10_codeOf_2 : decode mX10_codeOf.2.1 2 = .ok (.iload_n 3, 1) := by decide +kernel
theorem dX10_codeOf_3 : decode mX10_codeOf.2.1 3 = .ok (.bipush 40, 2) := by decide +kernel
theorem dX10_codeOf_5 : decode mX10_codeOf.2.1 5 = .ok (.if_icmp .ge 24, 3) := by decide +kernel
theorem dX10_codeOf_8 : decode mX10_codeOf.2.1 8 = .ok (.iload_n 3, 1) := by decide +kernel
theorem dX10_codeOf_9 : decode mX10_codeOf.2.1 9 = .ok (.invokestatic 99, 3) := by decide +kernel
theorem dX10_codeOf_12 : decode mX10_codeOf.2.1 12 = .ok (.aload_n 0, 1) := by decide +kernel
theorem dX10_codeOf_13 : decode mX10_codeOf.2.1 13 = .ok (.iload_n 1, 1) := by decide +kernel
theorem dX10_codeOf_14 : decode mX10_codeOf.2.1 14 = .ok (.iload_n 2, 1) := by decide +kernel
theorem dX10_codeOf_15 : decode mX10_codeOf.2.1 15 = .ok (.invokestatic 102, 3) := by decide +kernel
theorem dX10_codeOf_18 : decode mX10_codeOf.2.1 18 = .ok (.ifCond .eq 5, 3) := by decide +kernel
theorem dX10_codeOf_21 : decode mX10_codeOf.2.1 21 = .ok (.iload_n 3, 1) := by decide +kernel
theorem dX10_codeOf_22 : decode mX10_codeOf.2.1 22 = .ok (.ireturn, 1) := by decide +kernel
theorem dX10_codeOf_23 : decode mX10_codeOf.2.1 23 = .ok (.iinc 3 1, 3) := by decide +kernel
theorem dX10_codeOf_26 : decode mX10_codeOf.2.1 26 = .ok (.goto (-24), 3) := by decide +kernel
theorem dX10_codeOf_29 : decode mX10_codeOf.2.1 29 = .ok (.bipush 40, 2) := by decide +kernel
theorem dX10_codeOf_31 : decode mX10_codeOf.2.1 31 = .ok (.ireturn, 1) := by decide +kernel
theorem bX10_codeOf_0 {SC : Nat → Nat} {X : mh_X} {d : Nat} {Q : Option am_V → am_W → Prop} {bc bs : Nat} {w : am_W} {x1 : Int} {x2 : Int}
    (h : am_A (mh_G X) SC (d + 7) mX10_codeOf Q 2 [(0, .inr (.inr (some (24, 0)))), (1, .inl x1), (2, .inl x2), (3, .inl 0)] [] w bc bs) :
    am_A (mh_G X) SC (d + 7) mX10_codeOf Q 0 [(0, .inr (.inr (some (24, 0)))), (1, .inl x1), (2, .inl x2)] [] w bc bs := by
  refine am_iconst dX10_codeOf_0 (by unfold am_rg; omega) ?_
  refine am_istore_n (ls' := [(3, .inl 0), (0, .inr (.inr (some (24, 0)))), (1, .inl x1), (2, .inl x2)]) dX10_codeOf_1 (by decide) rfl ?_
  exact am_sub [1, 2, 3, 0] rfl h
theorem bX10_codeOf_2 {SC : Nat → Nat} {X : mh_X} {d : Nat} {Q : Option am_V → am_W → Prop} {bc bs : Nat} {w : am_W} {x1 : Int} {x2 : Int} {x3 : Int}
    (h : ((40 ≤ x3 → Q (some (.inl 40)) w) ∧ (¬ 40 ≤ x3 → am_M (mh_G X) SC (d + 6) 0 0 mX10_nameOf [.inl x3] w (fun r w1 => am_A (mh_G X) SC (d + 7) mX10_codeOf Q 12 [(0, .inr (.inr (some (24, 0)))), (1, .inl x1), (2, .inl x2), (3, .inl x3)] (r.toList ++ []) w1 bc bs)))) :
    am_A (mh_G X) SC (d + 7) mX10_codeOf Q 2 [(0, .inr (.inr (some (24, 0)))), (1, .inl x1), (2, .inl x2), (3, .inl x3)] [] w bc bs := by
  refine am_iload_n dX10_codeOf_2 (List.Mem.tail _ (List.Mem.tail _ (List.Mem.tail _ (List.Mem.head _)))) ?_
  refine am_bipush dX10_codeOf_3 (by decide) (by unfold am_rg; omega) ?_
  refine am_icmpge (tgt := 29) dX10_codeOf_5 (by decide) (fun c1 => ?_) (fun c1 => ?_)
  · replace h := h.1 c1
    refine am_bipush dX10_codeOf_29 (by decide) (by unfold am_rg; omega) ?_
    exact am_ret (r := some (.inl 40)) dX10_codeOf_31 (Or.inl rfl) rfl h
  · replace h := h.2 c1
    refine am_iload_n dX10_codeOf_8 (List.Mem.tail _ (List.Mem.tail _ (List.Mem.tail _ (List.Mem.head _)))) ?_
    exact am_calls (d' := d + 6) (kc := 0) (ks := 0) (as := [.inl x3]) dX10_codeOf_9 wc_X10_nameOf wd_666 wd_667 wd_123 ds_X10_nameOf (by decide) (by omega) (Nat.le_of_ble_eq_true rfl) (Nat.zero_le _) (Nat.zero_le _) rfl h
theorem bX10_codeOf_12 {SC : Nat → Nat} {X : mh_X} {d : Nat} {Q : Option am_V → am_W → Prop} {bc bs : Nat} {w : am_W} {x1 : Int} {x2 : Int} {x3 : Int} {ts0 : Nat} {js0 : Nat}
    (h : am_M (mh_G X) SC (d + 6) 0 0 mX10_isAt [.inr (.inr (some (ts0, js0))), .inr (.inr (some (24, 0))), .inl x1, .inl x2] w (fun r w1 => am_A (mh_G X) SC (d + 7) mX10_codeOf Q 18 [(0, .inr (.inr (some (24, 0)))), (1, .inl x1), (2, .inl x2), (3, .inl x3)] (r.toList ++ []) w1 bc bs)) :
    am_A (mh_G X) SC (d + 7) mX10_codeOf Q 12 [(0, .inr (.inr (some (24, 0)))), (1, .inl x1), (2, .inl x2), (3, .inl x3)] [.inr (.inr (some (ts0, js0)))] w bc bs := by
  refine am_aload_n dX10_codeOf_12 (List.Mem.head _) ?_
  refine am_iload_n dX10_codeOf_13 (List.Mem.tail _ (List.Mem.head _)) ?_
  refine am_iload_n dX10_codeOf_14 (List.Mem.tail _ (List.Mem.tail _ (List.Mem.head _))) ?_
  exact am_calls (d' := d + 6) (kc := 0) (ks := 0) (as := [.inr (.inr (some (ts0, js0))), .inr (.inr (some (24, 0))), .inl x1, .inl x2]) dX10_codeOf_15 wc_X10_isAt wd_718 wd_719 wd_123 ds_X10_isAt (by decide) (by omega) (Nat.le_of_ble_eq_true rfl) (Nat.zero_le _) (Nat.zero_le _) rfl h
theorem bX10_codeOf_18 {SC : Nat → Nat} {X : mh_X} {d : Nat} {Q : Option am_V → am_W → Prop} {bc bs : Nat} {w : am_W} {x1 : Int} {x2 : Int} {x3 : Int} {xs0 : Int}
    (h : ((xs0 = 0 → am_A (mh_G X) SC (d + 7) mX10_codeOf Q 2 [(0, .inr (.inr (some (24, 0)))), (1, .inl x1), (2, .inl x2), (3, .inl (am_w (x3 + 1)))] [] w bc bs) ∧ (¬ xs0 = 0 → Q (some (.inl x3)) w))) :
    am_A (mh_G X) SC (d + 7) mX10_codeOf Q 18 [(0, .inr (.inr (some (24, 0)))), (1, .inl x1), (2, .inl x2), (3, .inl x3)] [.inl xs0] w bc bs := by
  refine am_ifeq (tgt := 23) dX10_codeOf_18 (by decide) (fun c1 => ?_) (fun c1 => ?_)
  · replace h := h.1 c1
    refine am_iinc (ls' := [(3, .inl (am_w (x3 + 1))), (0, .inr (.inr (some (24, 0)))), (1, .inl x1), (2, .inl x2)]) dX10_codeOf_23 (List.Mem.tail _ (List.Mem.tail _ (List.Mem.tail _ (List.Mem.head _)))) (by decide) rfl ?_
    refine am_goto (tgt := 2) dX10_codeOf_26 (by decide) ?_
    exact am_sub [1, 2, 3, 0] rfl h
  · replace h := h.2 c1
    refine am_iload_n dX10_codeOf_21 (List.Mem.tail _ (List.Mem.tail _ (List.Mem.tail _ (List.Mem.head _)))) ?_
    exact am_ret (r := some (.inl x3)) dX10_codeOf_22 (Or.inl rfl) rfl h
-- MourningHouse$Words.signOf(C)I
theorem dX10_signOf_0 : decode mX10_signOf.2.1 0 = .ok (.iload_n 0, 1) := by decide +kernel
theorem dX10_signOf_1 : decode mX10_signOf.2.1 1 = .ok (.lookupswitch 55 #[(44, 46), (46, 52), (58, 43), (59, 49)], 43) := by decide +kernel
theorem dX10_signOf_44 : decode mX10_signOf.2.1 44 = .ok (.bipush 42, 2) := by decide +kernel
theorem dX10_signOf_46 : decode mX10_signOf.2.1 46 = .ok (.ireturn, 1) := by decide +kernel
theorem dX10_signOf_47 : decode mX10_signOf.2.1 47 = .ok (.bipush 43, 2) := by decide +kernel
theorem dX10_signOf_49 : decode mX10_signOf.2.1 49 = .ok (.ireturn, 1) := by decide +kernel
theorem dX10_signOf_50 : decode mX10_signOf.2.1 50 = .ok (.bipush 44, 2) := by decide +kernel
theorem dX10_signOf_52 : decode mX10_signOf.2.1 52 = .ok (.ireturn, 1) := by decide +kernel
theorem dX10_signOf_53 : decode mX10_signOf.2.1 53 = .ok (.bipush 45, 2) := by decide +kernel
theorem dX10_signOf_55 : decode mX10_signOf.2.1 55 = .ok (.ireturn, 1) := by decide +kernel
theorem dX10_signOf_56 : decode mX10_signOf.2.1 56 = .ok (.bipush 47, 2) := by decide +kernel
theorem dX10_signOf_58 : decode mX10_signOf.2.1 58 = .ok (.ireturn, 1) := by decide +kernel
theorem sX10_signOf {SC : Nat → Nat} {X : mh_X} {d kc ks : Nat} {Q : Option am_V → am_W → Prop} {w : am_W} {x0 : Int}
    (h : Q (some (.inl (if x0 = 59 then 44 else (if x0 = 58 then 42 else (if x0 = 46 then 45 else (if x0 = 44 then 43 else 47)))))) w) : am_M (mh_G X) SC (d + 1) kc ks mX10_signOf [.inl x0] w Q := by
  refine am_M_of (by decide) (Nat.le_of_ble_eq_true rfl) ?_
  show am_A (mh_G X) SC (d + 1) mX10_signOf Q 0 [(0, .inl x0)] [] w kc ks
  refine am_iload_n dX10_signOf_0 (List.Mem.head _) ?_
  by_cases c1 : (¬ x0 = 44 ∧ ¬ x0 = 46 ∧ ¬ x0 = 58 ∧ ¬ x0 = 59)
  · refine am_lsw (off := 55) (tgt := 56) dX10_signOf_1 (by decide) (by show Op.lookupswitch.offset [(44, 46), (46, 52), (58, 43), (59, 49)] 55 x0 = 55; rw [am_off1 c1.1, am_off1 c1.2.1, am_off1 c1.2.2.1, am_off1 c1.2.2.2]; rfl) (by decide) ?_
    refine am_bipush dX10_signOf_56 (by decide) (by unfold am_rg; omega) ?_
    rw [show ((if x0 = 59 then 44 else (if x0 = 58 then 42 else (if x0 = 46 then 45 else (if x0 = 44 then 43 else 47)))) : Int) = 47 from (if_neg (show ¬ x0 = 59 by omega)).trans ((if_neg (show ¬ x0 = 58 by omega)).trans ((if_neg (show ¬ x0 = 46 by omega)).trans (if_neg (show ¬ x0 = 44 by omega))))] at h
    exact am_ret (r := some (.inl 47)) dX10_signOf_58 (Or.inl rfl) rfl h
  · rcases (show x0 = 44 ∨ x0 = 46 ∨ x0 = 58 ∨ x0 = 59 by omega) with c1 | c1 | c1 | c1
    · refine am_lsw (off := 46) (tgt := 47) dX10_signOf_1 (by decide) (by rw [c1]; decide) (by decide) ?_
      refine am_bipush dX10_signOf_47 (by decide) (by unfold am_rg; omega) ?_
      rw [show ((if x0 = 59 then 44 else (if x0 = 58 then 42 else (if x0 = 46 then 45 else (if x0 = 44 then 43 else 47)))) : Int) = 43 from (if_neg (show ¬ x0 = 59 by omega)).trans ((if_neg (show ¬ x0 = 58 by omega)).trans ((if_neg (show ¬ x0 = 46 by omega)).trans (if_pos c1)))] at h
      exact am_ret (r := some (.inl 43)) dX10_signOf_49 (Or.inl rfl) rfl h
    · refine am_lsw (off := 52) (tgt := 53) dX10_signOf_1 (by decide) (by rw [c1]; decide) (by decide) ?_
      refine am_bipush dX10_signOf_53 (by decide) (by unfold am_rg; omega) ?_
      rw [show ((if x0 = 59 then 44 else (if x0 = 58 then 42 else (if x0 = 46 then 45 else (if x0 = 44 then 43 else 47)))) : Int) = 45 from (if_neg (show ¬ x0 = 59 by omega)).trans ((if_neg (show ¬ x0 = 58 by omega)).trans (if_pos c1))] at h
      exact am_ret (r := some (.inl 45)) dX10_signOf_55 (Or.inl rfl) rfl h
    · refine am_lsw (off := 43) (tgt := 44) dX10_signOf_1 (by decide) (by rw [c1]; decide) (by decide) ?_
      refine am_bipush dX10_signOf_44 (by decide) (by unfold am_rg; omega) ?_
      rw [show ((if x0 = 59 then 44 else (if x0 = 58 then 42 else (if x0 = 46 then 45 else (if x0 = 44 then 43 else 47)))) : Int) = 42 from (if_neg (show ¬ x0 = 59 by omega)).trans (if_pos c1)] at h
      exact am_ret (r := some (.inl 42)) dX10_signOf_46 (Or.inl rfl) rfl h
    · refine am_lsw (off := 49) (tgt := 50) dX10_signOf_1 (by decide) (by rw [c1]; decide) (by decide) ?_
      refine am_bipush dX10_signOf_50 (by decide) (by unfold am_rg; omega) ?_
      rw [show ((if x0 = 59 then 44 else (if x0 = 58 then 42 else (if x0 = 46 then 45 else (if x0 = 44 then 43 else 47)))) : Int) = 44 from if_pos c1] at h
      exact am_ret (r := some (.inl 44)) dX10_signOf_52 (Or.inl rfl) rfl h
-- MourningHouse$Reader.kindOf(II)I
theorem dX8_kindOf_0 : decode mX8_kindOf.2.1 0 = .ok (.aload_n 0, 1) := by decide +kernel
theorem dX8_kindOf_1 : decode mX8_kindOf.2.1 1 = .ok (.getfield 9, 3) := by decide +kernel
theorem dX8_kindOf_4 : decode mX8_kindOf.2.1 4 = .ok (.iload_n 1, 1) := by decide +kernel
theorem dX8_kindOf_5 : decode mX8_kindOf.2.1 5 = .ok (.caload, 1) := by decide +kernel
theorem dX8_kindOf_6 : decode mX8_kindOf.2.1 6 = .ok (.istore_n 3, 1) := by decide +kernel
theorem dX8_kindOf_7 : decode mX8_kindOf.2.1 7 = .ok (.iload_n 3, 1) := by decide +kernel
theorem dX8_kindOf_8 : decode mX8_kindOf.2.1 8 = .ok (.invokestatic 100, 3) := by decide +kernel
theorem dX8_kindOf_11 : decode mX8_kindOf.2.1 11 = .ok (.ifCond .eq 13, 3) := by decide +kernel
theorem dX8_kindOf_14 : decode mX8_kindOf.2.1 14 = .ok (.aload_n 0, 1) := by decide +kernel
theorem dX8_kindOf_15 : decode mX8_kindOf.2.1 15 = .ok (.getfield 9, 3) := by decide +kernel
theorem dX8_kindOf_18 : decode mX8_kindOf.2.1 18 = .ok (.iload_n 1, 1) := by decide +kernel
theorem dX8_kindOf_19 : decode mX8_kindOf.2.1 19 = .ok (.iload_n 2, 1) := by decide +kernel
theorem dX8_kindOf_20 : decode mX8_kindOf.2.1 20 = .ok (.invokestatic 107, 3) := by decide +kernel
theorem dX8_kindOf_23 : decode mX8_kindOf.2.1 23 = .ok (.ireturn, 1) := by decide +kernel
theorem dX8_kindOf_24 : decode mX8_kindOf.2.1 24 = .ok (.iload_n 3, 1) := by decide +kernel
theorem dX8_kindOf_25 : decode mX8_kindOf.2.1 25 = .ok (.invokestatic 104, 3) := by decide +kernel
theorem dX8_kindOf_28 : decode mX8_kindOf.2.1 28 = .ok (.ifCond .eq 8, 3) := by decide +kernel
theorem dX8_kindOf_31 : decode mX8_kindOf.2.1 31 = .ok (.bipush 41, 2) := by decide +kernel
theorem dX8_kindOf_33 : decode mX8_kindOf.2.1 33 = .ok (.goto 7, 3) := by decide +kernel
theorem dX8_kindOf_36 : decode mX8_kindOf.2.1 36 = .ok (.iload_n 3, 1) := by decide +kernel
theorem dX8_kindOf_37 : decode mX8_kindOf.2.1 37 = .ok (.invokestatic 111, 3) := by decide +kernel
theorem dX8_kindOf_40 : decode mX8_kindOf.2.1 40 = .ok (.ireturn, 1) := by decide +kernel
theorem bX8_kindOf_0 {SC : Nat → Nat} {X : mh_X} {d : Nat} {Q : Option am_V → am_W → Prop} {bc bs : Nat} {w : am_W} {x1 : Int} {x2 : Int}
    (h : (0 ≤ x1 ∧ (x1 < 3000 ∧ ((¬ (¬ (w.1 24 0 x1.toNat) < 97 ∧ (¬ 122 < (w.1 24 0 x1.toNat))) → ((¬ (¬ (w.1 24 0 x1.toNat) < 48 ∧ (¬ 57 < (w.1 24 0 x1.toNat))) → Q (some (.inl (if (w.1 24 0 x1.toNat) = 59 then 44 else (if (w.1 24 0 x1.toNat) = 58 then 42 else (if (w.1 24 0 x1.toNat) = 46 then 45 else (if (w.1 24 0 x1.toNat) = 44 then 43 else 47)))))) w) ∧ ((¬ (w.1 24 0 x1.toNat) < 48 ∧ (¬ 57 < (w.1 24 0 x1.toNat))) → Q (some (.inl 41)) w))) ∧ ((¬ (w.1 24 0 x1.toNat) < 97 ∧ (¬ 122 < (w.1 24 0 x1.toNat))) → am_M (mh_G X) SC (d + 7) 0 0 mX10_codeOf [.inr (.inr (some (24, 0))), .inl x1, .inl x2] w (fun r w1 => am_A (mh_G X) SC (d + 8) mX8_kindOf Q 23 [(3, .inl (w.1 24 0 x1.toNat)), (0, .inr (.inr (some (2, 0)))), (1, .inl x1), (2, .inl x2)] (r.toList ++ []) w1 bc bs)))))) :
    am_A (mh_G X) SC (d + 8) mX8_kindOf Q 0 [(0, .inr (.inr (some (2, 0)))), (1, .inl x1), (2, .inl x2)] [] w bc bs := by
  refine am_aload_n dX8_kindOf_0 (List.Mem.head _) ?_
  refine am_getf (f := 0) (v := .inr (.inr (some (24, 0)))) dX8_kindOf_1 hc_1 (by decide) wd_150 (by decide) rfl rfl ?_
  refine am_iload_n dX8_kindOf_4 (List.Mem.tail _ (List.Mem.head _)) ?_
  have o1 := h.1
  replace h := h.2
  have o2 := h.1
  replace h := h.2
  refine am_caload (v := (w.1 24 0 x1.toNat)) dX8_kindOf_5 (by decide) rfl o1 o2 rfl ?_
  refine am_istore_n (ls' := [(3, .inl (w.1 24 0 x1.toNat)), (0, .inr (.inr (some (2, 0)))), (1, .inl x1), (2, .inl x2)]) dX8_kindOf_6 (by decide) rfl ?_
  refine am_iload_n dX8_kindOf_7 (List.Mem.head _) ?_
  refine am_calls (d' := d + 7) (kc := 0) (ks := 0) (as := [.inl (w.1 24 0 x1.toNat)]) dX8_kindOf_8 wc_X8_isLetter wd_653 wd_654 wd_113 ds_X8_isLetter (by decide) (by omega) (Nat.le_of_ble_eq_true rfl) (Nat.zero_le _) (Nat.zero_le _) rfl (sX8_isLetter (d := d + 6) (x0 := (w.1 24 0 x1.toNat))  ?_)
  show am_A (mh_G X) SC (d + 8) mX8_kindOf Q 11 [(3, .inl (w.1 24 0 x1.toNat)), (0, .inr (.inr (some (2, 0)))), (1, .inl x1), (2, .inl x2)] [.inl (if (¬ (w.1 24 0 x1.toNat) < 97 ∧ (¬ 122 < (w.1 24 0 x1.toNat))) then 1 else 0)] w bc bs
  refine am_ifeq (tgt := 24) dX8_kindOf_11 (by decide) (fun c3 => ?_) (fun c3 => ?_)
  · replace c3 := am_beq1 c3
    replace h := h.1 c3
    refine am_iload_n dX8_kindOf_24 (List.Mem.head _) ?_
    refine am_calls (d' := d + 7) (kc := 0) (ks := 0) (as := [.inl (w.1 24 0 x1.toNat)]) dX8_kindOf_25 wc_X8_isDigit wd_656 wd_657 wd_113 ds_X8_isDigit (by decide) (by omega) (Nat.le_of_ble_eq_true rfl) (Nat.zero_le _) (Nat.zero_le _) rfl (sX8_isDigit (d := d + 6) (x0 := (w.1 24 0 x1.toNat))  ?_)
    show am_A (mh_G X) SC (d + 8) mX8_kindOf Q 28 [(3, .inl (w.1 24 0 x1.toNat)), (0, .inr (.inr (some (2, 0)))), (1, .inl x1), (2, .inl x2)] [.inl (if (¬ (w.1 24 0 x1.toNat) < 48 ∧ (¬ 57 < (w.1 24 0 x1.toNat))) then 1 else 0)] w bc bs
    refine am_ifeq (tgt := 36) dX8_kindOf_28 (by decide) (fun c4 => ?_) (fun c4 => ?_)
    · replace c4 := am_beq1 c4
      replace h := h.1 c4
      refine am_iload_n dX8_kindOf_36 (List.Mem.head _) ?_
      refine am_calls (d' := d + 7) (kc := 0) (ks := 0) (as := [.inl (w.1 24 0 x1.toNat)]) dX8_kindOf_37 wc_X10_signOf wd_769 wd_770 wd_123 ds_X10_signOf (by decide) (by omega) (Nat.le_of_ble_eq_true rfl) (Nat.zero_le _) (Nat.zero_le _) rfl (sX10_signOf (d := d + 6) (x0 := (w.1 24 0 x1.toNat))  ?_)
      show am_A (mh_G X) SC (d + 8) mX8_kindOf Q 40 [(3, .inl (w.1 24 0 x1.toNat)), (0, .inr (.inr (some (2, 0)))), (1, .inl x1), (2, .inl x2)] [.inl (if (w.1 24 0 x1.toNat) = 59 then 44 else (if (w.1 24 0 x1.toNat) = 58 then 42 else (if (w.1 24 0 x1.toNat) = 46 then 45 else (if (w.1 24 0 x1.toNat) = 44 then 43 else 47))))] w bc bs
      exact am_ret (r := some (.inl (if (w.1 24 0 x1.toNat) = 59 then 44 else (if (w.1 24 0 x1.toNat) = 58 then 42 else (if (w.1 24 0 x1.toNat) = 46 then 45 else (if (w.1 24 0 x1.toNat) = 44 then 43 else 47)))))) dX8_kindOf_40 (Or.inl rfl) rfl h
    · replace c4 := am_beq2 c4
      replace h := h.2 c4
      refine am_bipush dX8_kindOf_31 (by decide) (by unfold am_rg; omega) ?_
      refine am_goto (tgt := 40) dX8_kindOf_33 (by decide) ?_
      exact am_ret (r := some (.inl 41)) dX8_kindOf_40 (Or.inl rfl) rfl h
  · replace c3 := am_beq2 c3
    replace h := h.2 c3
    refine am_aload_n dX8_kindOf_14 (List.Mem.tail _ (List.Mem.head _)) ?_
    refine am_getf (f := 0) (v := .inr (.inr (some (24, 0)))) dX8_kindOf_15 hc_1 (by decide) wd_150 (by decide) rfl rfl ?_
    refine am_iload_n dX8_kindOf_18 (List.Mem.tail _ (List.Mem.tail _ (List.Mem.head _))) ?_
    refine am_iload_n dX8_kindOf_19 (List.Mem.tail _ (List.Mem.tail _ (List.Mem.tail _ (List.Mem.head _)))) ?_
    exact am_calls (d' := d + 7) (kc := 0) (ks := 0) (as := [.inr (.inr (some (24, 0))), .inl x1, .inl x2]) dX8_kindOf_20 wc_X10_codeOf wd_663 wd_664 wd_123 ds_X10_codeOf (by decide) (by omega) (Nat.le_of_ble_eq_true rfl) (Nat.zero_le _) (Nat.zero_le _) rfl h
theorem bX8_kindOf_23 {SC : Nat → Nat} {X : mh_X} {d : Nat} {Q : Option am_V → am_W → Prop} {bc bs : Nat} {w : am_W} {x3 : Int} {x1 : Int} {x2 : Int} {xs0 : Int}
    (h : Q (some (.inl xs0)) w) :
    am_A (mh_G X) SC (d + 8) mX8_kindOf Q 23 [(3, .inl x3), (0, .inr (.inr (some (2, 0)))), (1, .inl x1), (2, .inl x2)] [.inl xs0] w bc bs := by
  exact am_ret (r := some (.inl xs0)) dX8_kindOf_23 (Or.inl rfl) rfl h
-- MourningHouse$Reader.findTokens(II)Z
theorem dX8_findTokens_0 : decode mX8_findTokens.2.1 0 = .ok (.aload_n 0, 1) := by decide +kernel
theorem dX8_findTokens_1 : decode mX8_findTokens.2.1 1 = .ok (.iconst 0, 1) := by decide +kernel
theorem dX8_findTokens_2 : decode mX8_findTokens.2.1 2 = .ok (.putfield 36, 3) := by decide +kernel
theorem dX8_findTokens_5 : decode mX8_findTokens.2.1 5 = .ok (.iload_n 1, 1) := by decide +kernel
theorem dX8_findTokens_6 : decode mX8_findTokens.2.1 6 = .ok (.istore_n 3, 1) := by decide +kernel
theorem dX8_findTokens_7 : decode mX8_findTokens.2.1 7 = .ok (.iload_n 1, 1) := by decide +kernel
theorem dX8_findTokens_8 : decode mX8_findTokens.2.1 8 = .ok (.istore 4, 2) := by decide +kernel
theorem dX8_findTokens_10 : decode mX8_findTokens.2.1 10 = .ok (.iload 4, 2) := by decide +kernel
theorem dX8_findTokens_12 : decode mX8_findTokens.2.1 12 = .ok (.iload_n 2, 1) := by decide +kernel
theorem dX8_findTokens_13 : decode mX8_findTokens.2.1 13 = .ok (.if_icmp .ge 78, 3) := by decide +kernel
theorem dX8_findTokens_16 : decode mX8_findTokens.2.1 16 = .ok (.aload_n 0, 1) := by decide +kernel
theorem dX8_findTokens_17 : decode mX8_findTokens.2.1 17 = .ok (.getfield 9, 3) := by decide +kernel
theorem dX8_findTokens_20 : decode mX8_findTokens.2.1 20 = .ok (.iload 4, 2) := by decide +kernel
theorem dX8_findTokens_22 : decode mX8_findTokens.2.1 22 = .ok (.caload, 1) := by decide +kernel
theorem dX8_findTokens_23 : decode mX8_findTokens.2.1 23 = .ok (.bipush 35, 2) := by decide +kernel
theorem dX8_findTokens_25 : decode mX8_findTokens.2.1 25 = .ok (.if_icmp .eq 66, 3) := by decide +kernel
theorem dX8_findTokens_28 : decode mX8_findTokens.2.1 28 = .ok (.aload_n 0, 1) := by decide +kernel
theorem dX8_findTokens_29 : decode mX8_findTokens.2.1 29 = .ok (.getfield 9, 3) := by decide +kernel
theorem dX8_findTokens_32 : decode mX8_findTokens.2.1 32 = .ok (.iload 4, 2) := by decide +kernel
theorem dX8_findTokens_34 : decode mX8_findTokens.2.1 34 = .ok (.caload, 1) := by decide +kernel
theorem dX8_findTokens_35 : decode mX8_findTokens.2.1 35 = .ok (.bipush 32, 2) := by decide +kernel
theorem dX8_findTokens_37 : decode mX8_findTokens.2.1 37 = .ok (.if_icmp .ne 6, 3) := by decide +kernel
theorem dX8_findTokens_40 : decode mX8_findTokens.2.1 40 = .ok (.goto 38, 3) := by decide +kernel
theorem dX8_findTokens_43 : decode mX8_findTokens.2.1 43 = .ok (.aload_n 0, 1) := by decide +kernel
theorem dX8_findTokens_44 : decode mX8_findTokens.2.1 44 = .ok (.iload 4, 2) := by decide +kernel
theorem dX8_findTokens_46 : decode mX8_findTokens.2.1 46 = .ok (.iload_n 2, 1) := by decide +kernel
theorem dX8_findTokens_47 : decode mX8_findTokens.2.1 47 = .ok (.invokevirtual 82, 3) := by decide +kernel
theorem dX8_findTokens_50 : decode mX8_findTokens.2.1 50 = .ok (.istore_n 3, 1) := by decide +kernel
theorem dX8_findTokens_51 : decode mX8_findTokens.2.1 51 = .ok (.aload_n 0, 1) := by decide +kernel
theorem dX8_findTokens_52 : decode mX8_findTokens.2.1 52 = .ok (.iload 4, 2) := by decide +kernel
theorem dX8_findTokens_54 : decode mX8_findTokens.2.1 54 = .ok (.iload_n 3, 1) := by decide +kernel
theorem dX8_findTokens_55 : decode mX8_findTokens.2.1 55 = .ok (.invokevirtual 86, 3) := by decide +kernel
theorem dX8_findTokens_58 : decode mX8_findTokens.2.1 58 = .ok (.istore 5, 2) := by decide +kernel
theorem dX8_findTokens_60 : decode mX8_findTokens.2.1 60 = .ok (.iload 5, 2) := by decide +kernel
theorem dX8_findTokens_62 : decode mX8_findTokens.2.1 62 = .ok (.bipush 47, 2) := by decide +kernel
theorem dX8_findTokens_64 : decode mX8_findTokens.2.1 64 = .ok (.if_icmp .ne 5, 3) := by decide +kernel
theorem dX8_findTokens_67 : decode mX8_findTokens.2.1 67 = .ok (.iconst 0, 1) := by decide +kernel
theorem dX8_findTokens_68 : decode mX8_findTokens.2.1 68 = .ok (.ireturn, 1) := by decide +kernel
theorem dX8_findTokens_69 : decode mX8_findTokens.2.1 69 = .ok (.aload_n 0, 1) := by decide +kernel
theorem dX8_findTokens_70 : decode mX8_findTokens.2.1 70 = .ok (.iload 5, 2) := by decide +kernel
theorem dX8_findTokens_72 : decode mX8_findTokens.2.1 72 = .ok (.iload 4, 2) := by decide +kernel
theorem dX8_findTokens_74 : decode mX8_findTokens.2.1 74 = .ok (.iload_n 3, 1) := by decide +kernel
theorem dX8_findTokens_75 : decode mX8_findTokens.2.1 75 = .ok (.invokevirtual 91, 3) := by decide +kernel
theorem dX8_findTokens_78 : decode mX8_findTokens.2.1 78 = .ok (.iload_n 3, 1) := by decide +kernel
theorem dX8_findTokens_79 : decode mX8_findTokens.2.1 79 = .ok (.iload 4, 2) := by decide +kernel
theorem dX8_findTokens_81 : decode mX8_findTokens.2.1 81 = .ok (.iconst 1, 1) := by decide +kernel
theorem dX8_findTokens_82 : decode mX8_findTokens.2.1 82 = .ok (.iadd, 1) := by decide +kernel
theorem dX8_findTokens_83 : decode mX8_findTokens.2.1 83 = .ok (.invokestatic 95, 3) := by decide +kernel
theorem dX8_findTokens_86 : decode mX8_findTokens.2.1 86 = .ok (.istore 4, 2) := by decide +kernel
theorem dX8_findTokens_88 : decode mX8_findTokens.2.1 88 = .ok (.goto (-78), 3) := by decide +kernel
theorem dX8_findTokens_91 : decode mX8_findTokens.2.1 91 = .ok (.iconst 1, 1) := by decide +kernel
theorem dX8_findTokens_92 : decode mX8_findTokens.2.1 92 = .ok (.ireturn, 1) := by decide +kernel
theorem bX8_findTokens_0 {SC : Nat → Nat} {X : mh_X} {d : Nat} {Q : Option am_V → am_W → Prop} {bc bs : Nat} {w : am_W} {x1 : Int} {x2 : Int}
    (h : am_A (mh_G X) SC (d + 9) mX8_findTokens Q 10 [(0, .inr (.inr (some (2, 0)))), (2, .inl x2), (3, .inl x1), (4, .inl x1)] [] ((am_up w.1 2 0 8 0), w.2) bc bs) :
    am_A (mh_G X) SC (d + 9) mX8_findTokens Q 0 [(0, .inr (.inr (some (2, 0)))), (1, .inl x1), (2, .inl x2)] [] w bc bs := by
  refine am_aload_n dX8_findTokens_0 (List.Mem.head _) ?_
  refine am_iconst dX8_findTokens_1 (by unfold am_rg; omega) ?_
  refine am_putf (f := 8) dX8_findTokens_2 hc_1 (by decide) wd_162 rfl (Or.inl rfl) (Or.inl (by decide)) rfl ?_
  refine am_iload_n dX8_findTokens_5 (List.Mem.tail _ (List.Mem.head _)) ?_
  refine am_istore_n (ls' := [(3, .inl x1), (0, .inr (.inr (some (2, 0)))), (1, .inl x1), (2, .inl x2)]) dX8_findTokens_6 (by decide) rfl ?_
  refine am_iload_n dX8_findTokens_7 (List.Mem.tail _ (List.Mem.tail _ (List.Mem.head _))) ?_
  refine am_istore (ls' := [(4, .inl x1), (3, .inl x1), (0, .inr (.inr (some (2, 0)))), (1, .inl x1), (2, .inl x2)]) dX8_findTokens_8 (by decide) rfl ?_
  exact am_sub [2, 4, 1, 0] rfl h
theorem bX8_findTokens_10 {SC : Nat → Nat} {X : mh_X} {d : Nat} {Q : Option am_V → am_W → Prop} {bc bs : Nat} {w : am_W} {x2 : Int} {x3 : Int} {x4 : Int}
    (h : ((x2 ≤ x4 → Q (some (.inl 1)) w) ∧ (¬ x2 ≤ x4 → (0 ≤ x4 ∧ (x4 < 3000 ∧ (((w.1 24 0 x4.toNat) = 35 → Q (some (.inl 1)) w) ∧ (¬ (w.1 24 0 x4.toNat) = 35 → ((¬ (w.1 24 0 x4.toNat) = 32 → am_M (mh_G X) SC (d + 8) 0 0 mX8_endOfToken [.inr (.inr (some (2, 0))), .inl x4, .inl x2] w (fun r w1 => am_A (mh_G X) SC (d + 9) mX8_findTokens Q 50 [(0, .inr (.inr (some (2, 0)))), (2, .inl x2), (3, .inl x3), (4, .inl x4)] (r.toList ++ []) w1 bc bs)) ∧ ((w.1 24 0 x4.toNat) = 32 → am_A (mh_G X) SC (d + 9) mX8_findTokens Q 78 [(0, .inr (.inr (some (2, 0)))), (2, .inl x2), (3, .inl x3), (4, .inl x4)] [] w bc bs))))))))) :
    am_A (mh_G X) SC (d + 9) mX8_findTokens Q 10 [(0, .inr (.inr (some (2, 0)))), (2, .inl x2), (3, .inl x3), (4, .inl x4)] [] w bc bs := by
  refine am_iload dX8_findTokens_10 (List.Mem.tail _ (List.Mem.tail _ (List.Mem.tail _ (List.Mem.head _)))) ?_
  refine am_iload_n dX8_findTokens_12 (List.Mem.tail _ (List.Mem.head _)) ?_
  refine am_icmpge (tgt := 91) dX8_findTokens_13 (by decide) (fun c1 => ?_) (fun c1 => ?_)
  · replace h := h.1 c1
    refine am_iconst dX8_findTokens_91 (by unfold am_rg; omega) ?_
    exact am_ret (r := some (.inl 1)) dX8_findTokens_92 (Or.inr (Or.inl ⟨rfl, (Or.inr rfl)⟩)) rfl h
  · replace h := h.2 c1
    refine am_aload_n dX8_findTokens_16 (List.Mem.head _) ?_
    refine am_getf (f := 0) (v := .inr (.inr (some (24, 0)))) dX8_findTokens_17 hc_1 (by decide) wd_150 (by decide) rfl rfl ?_
    refine am_iload dX8_findTokens_20 (List.Mem.tail _ (List.Mem.tail _ (List.Mem.tail _ (List.Mem.head _)))) ?_
    have o2 := h.1
    replace h := h.2
    have o3 := h.1
    replace h := h.2
    refine am_caload (v := (w.1 24 0 x4.toNat)) dX8_findTokens_22 (by decide) rfl o2 o3 rfl ?_
    refine am_bipush dX8_findTokens_23 (by decide) (by unfold am_rg; omega) ?_
    refine am_icmpeq (tgt := 91) dX8_findTokens_25 (by decide) (fun c4 => ?_) (fun c4 => ?_)
    · replace h := h.1 c4
      refine am_iconst dX8_findTokens_91 (by unfold am_rg; omega) ?_
      exact am_ret (r := some (.inl 1)) dX8_findTokens_92 (Or.inr (Or.inl ⟨rfl, (Or.inr rfl)⟩)) rfl h
    · replace h := h.2 c4
      refine am_aload_n dX8_findTokens_28 (List.Mem.head _) ?_
      refine am_getf (f := 0) (v := .inr (.inr (some (24, 0)))) dX8_findTokens_29 hc_1 (by decide) wd_150 (by decide) rfl rfl ?_
      refine am_iload dX8_findTokens_32 (List.Mem.tail _ (List.Mem.tail _ (List.Mem.tail _ (List.Mem.head _)))) ?_
      refine am_caload (v := (w.1 24 0 x4.toNat)) dX8_findTokens_34 (by decide) rfl o2 o3 rfl ?_
      refine am_bipush dX8_findTokens_35 (by decide) (by unfold am_rg; omega) ?_
      refine am_icmpne (tgt := 43) dX8_findTokens_37 (by decide) (fun c5 => ?_) (fun c5 => ?_)
      · replace h := h.1 c5
        refine am_aload_n dX8_findTokens_43 (List.Mem.head _) ?_
        refine am_iload dX8_findTokens_44 (List.Mem.tail _ (List.Mem.tail _ (List.Mem.tail _ (List.Mem.head _)))) ?_
        refine am_iload_n dX8_findTokens_46 (List.Mem.tail _ (List.Mem.head _)) ?_
        exact am_callv (d' := d + 8) (kc := 0) (ks := 0) (as := [.inl x4, .inl x2]) dX8_findTokens_47 wc_X8_endOfToken wd_649 wd_651 wd_2 wd_113 ds_X8_endOfToken (by decide) (by omega) (Nat.le_of_ble_eq_true rfl) (Nat.zero_le _) (Nat.zero_le _) hc_1 (by decide) rfl rfl h
      · replace h := h.2 c5
        refine am_goto (tgt := 78) dX8_findTokens_40 (by decide) ?_
        exact h
theorem bX8_findTokens_50 {SC : Nat → Nat} {X : mh_X} {d : Nat} {Q : Option am_V → am_W → Prop} {bc bs : Nat} {w : am_W} {x2 : Int} {x3 : Int} {x4 : Int} {xs0 : Int}
    (h : am_M (mh_G X) SC (d + 8) 0 0 mX8_kindOf [.inr (.inr (some (2, 0))), .inl x4, .inl xs0] w (fun r w1 => am_A (mh_G X) SC (d + 9) mX8_findTokens Q 58 [(3, .inl xs0), (0, .inr (.inr (some (2, 0)))), (2, .inl x2), (4, .inl x4)] (r.toList ++ []) w1 bc bs)) :
    am_A (mh_G X) SC (d + 9) mX8_findTokens Q 50 [(0, .inr (.inr (some (2, 0)))), (2, .inl x2), (3, .inl x3), (4, .inl x4)] [.inl xs0] w bc bs := by
  refine am_istore_n (ls' := [(3, .inl xs0), (0, .inr (.inr (some (2, 0)))), (2, .inl x2), (4, .inl x4)]) dX8_findTokens_50 (by decide) rfl ?_
  refine am_aload_n dX8_findTokens_51 (List.Mem.tail _ (List.Mem.head _)) ?_
  refine am_iload dX8_findTokens_52 (List.Mem.tail _ (List.Mem.tail _ (List.Mem.tail _ (List.Mem.head _)))) ?_
  refine am_iload_n dX8_findTokens_54 (List.Mem.head _) ?_
  exact am_callv (d' := d + 8) (kc := 0) (ks := 0) (as := [.inl x4, .inl xs0]) dX8_findTokens_55 wc_X8_kindOf wd_659 wd_661 wd_3 wd_113 ds_X8_kindOf (by decide) (by omega) (Nat.le_of_ble_eq_true rfl) (Nat.zero_le _) (Nat.zero_le _) hc_1 (by decide) rfl rfl h
theorem bX8_findTokens_78 {SC : Nat → Nat} {X : mh_X} {d : Nat} {Q : Option am_V → am_W → Prop} {bc bs : Nat} {w : am_W} {x2 : Int} {x3 : Int} {x4 : Int}
    (h : am_A (mh_G X) SC (d + 9) mX8_findTokens Q 10 [(0, .inr (.inr (some (2, 0)))), (2, .inl x2), (3, .inl x3), (4, .inl (max x3 (am_w (x4 + 1))))] [] w bc bs) :
    am_A (mh_G X) SC (d + 9) mX8_findTokens Q 78 [(0, .inr (.inr (some (2, 0)))), (2, .inl x2), (3, .inl x3), (4, .inl x4)] [] w bc bs := by
  refine am_iload_n dX8_findTokens_78 (List.Mem.tail _ (List.Mem.tail _ (List.Mem.head _))) ?_
  refine am_iload dX8_findTokens_79 (List.Mem.tail _ (List.Mem.tail _ (List.Mem.tail _ (List.Mem.head _)))) ?_
  refine am_iconst dX8_findTokens_81 (by unfold am_rg; omega) ?_
  refine am_iadd dX8_findTokens_82 ?_
  refine am_mmax dX8_findTokens_83 wd_784 (by omega) (Nat.le_of_ble_eq_true rfl) ?_
  refine am_istore (ls' := [(4, .inl (max x3 (am_w (x4 + 1)))), (0, .inr (.inr (some (2, 0)))), (2, .inl x2), (3, .inl x3)]) dX8_findTokens_86 (by decide) rfl ?_
  refine am_goto (tgt := 10) dX8_findTokens_88 (by decide) ?_
  exact am_sub [1, 2, 3, 0] rfl h
theorem bX8_findTokens_58 {SC : Nat → Nat} {X : mh_X} {d : Nat} {Q : Option am_V → am_W → Prop} {bc bs : Nat} {w : am_W} {x3 : Int} {x2 : Int} {x4 : Int} {xs0 : Int}
    (h : ((¬ xs0 = 47 → am_M (mh_G X) SC (d + 8) 0 0 mX8_keepToken [.inr (.inr (some (2, 0))), .inl xs0, .inl x4, .inl x3] w (fun r w1 => am_A (mh_G X) SC (d + 9) mX8_findTokens Q 78 [(5, .inl xs0), (3, .inl x3), (0, .inr (.inr (some (2, 0)))), (2, .inl x2), (4, .inl x4)] (r.toList ++ []) w1 bc bs)) ∧ (xs0 = 47 → Q (some (.inl 0)) w))) :
    am_A (mh_G X) SC (d + 9) mX8_findTokens Q 58 [(3, .inl x3), (0, .inr (.inr (some (2, 0)))), (2, .inl x2), (4, .inl x4)] [.inl xs0] w bc bs := by
  refine am_istore (ls' := [(5, .inl xs0), (3, .inl x3), (0, .inr (.inr (some (2, 0)))), (2, .inl x2), (4, .inl x4)]) dX8_findTokens_58 (by decide) rfl ?_
  refine am_iload dX8_findTokens_60 (List.Mem.head _) ?_
  refine am_bipush dX8_findTokens_62 (by decide) (by unfold am_rg; omega) ?_
  refine am_icmpne (tgt := 69) dX8_findTokens_64 (by decide) (fun c1 => ?_) (fun c1 => ?_)
  · replace h := h.1 c1
    refine am_aload_n dX8_findTokens_69 (List.Mem.tail _ (List.Mem.tail _ (List.Mem.head _))) ?_
    refine am_iload dX8_findTokens_70 (List.Mem.head _) ?_
    refine am_iload dX8_findTokens_72 (List.Mem.tail _ (List.Mem.tail _ (List.Mem.tail _ (List.Mem.tail _ (List.Mem.head _))))) ?_
    refine am_iload_n dX8_findTokens_74 (List.Mem.tail _ (List.Mem.head _)) ?_
    exact am_callv (d' := d + 8) (kc := 0) (ks := 0) (as := [.inl xs0, .inl x4, .inl x3]) dX8_findTokens_75 wc_X8_keepToken wd_772 wd_774 wd_4 wd_113 ds_X8_keepToken (by decide) (by omega) (Nat.le_of_ble_eq_true rfl) (Nat.zero_le _) (Nat.zero_le _) hc_1 (by decide) rfl rfl h
  · replace h := h.2 c1
    refine am_iconst dX8_findTokens_67 (by unfold am_rg; omega) ?_
    exact am_ret (r := some (.inl 0)) dX8_findTokens_68 (Or.inr (Or.inl ⟨rfl, (Or.inl rfl)⟩)) rfl h
theorem bX8_findTokens_78a {SC : Nat → Nat} {X : mh_X} {d : Nat} {Q : Option am_V → am_W → Prop} {bc bs : Nat} {w : am_W} {x5 : Int} {x3 : Int} {x2 : Int} {x4 : Int}
    (h : am_A (mh_G X) SC (d + 9) mX8_findTokens Q 10 [(0, .inr (.inr (some (2, 0)))), (2, .inl x2), (3, .inl x3), (4, .inl (max x3 (am_w (x4 + 1))))] [] w bc bs) :
    am_A (mh_G X) SC (d + 9) mX8_findTokens Q 78 [(5, .inl x5), (3, .inl x3), (0, .inr (.inr (some (2, 0)))), (2, .inl x2), (4, .inl x4)] [] w bc bs := by
  refine am_iload_n dX8_findTokens_78 (List.Mem.tail _ (List.Mem.head _)) ?_
  refine am_iload dX8_findTokens_79 (List.Mem.tail _ (List.Mem.tail _ (List.Mem.tail _ (List.Mem.tail _ (List.Mem.head _))))) ?_
  refine am_iconst dX8_findTokens_81 (by unfold am_rg; omega) ?_
  refine am_iadd dX8_findTokens_82 ?_
  refine am_mmax dX8_findTokens_83 wd_784 (by omega) (Nat.le_of_ble_eq_true rfl) ?_
  refine am_istore (ls' := [(4, .inl (max x3 (am_w (x4 + 1)))), (5, .inl x5), (3, .inl x3), (0, .inr (.inr (some (2, 0)))), (2, .inl x2)]) dX8_findTokens_86 (by decide) rfl ?_
  refine am_goto (tgt := 10) dX8_findTokens_88 (by decide) ?_
  exact am_sub [3, 4, 2, 0] rfl h
-- MourningHouse$Reader.depthAt(I)I
theorem dX8_depthAt_0 : decode mX8_depthAt.2.1 0 = .ok (.aload_n 0, 1) := by decide +kernel
theorem dX8_depthAt_1 : decode mX8_depthAt.2.1 1 = .ok (.iload_n 1, 1) := by decide +kernel
theorem dX8_depthAt_2 : decode mX8_depthAt.2.1 2 = .ok (.invokevirtual 59, 3) := by decide +kernel
theorem dX8_depthAt_5 : decode mX8_depthAt.2.1 5 = .ok (.bipush 12, 2) := by decide +kernel
theorem dX8_depthAt_7 : decode mX8_depthAt.2.1 7 = .ok (.isub, 1) := by decide +kernel
theorem dX8_depthAt_8 : decode mX8_depthAt.2.1 8 = .ok (.ireturn, 1) := by decide +kernel
theorem sX8_depthAt {SC : Nat → Nat} {X : mh_X} {d kc ks : Nat} {Q : Option am_V → am_W → Prop} {w : am_W} {x1 : Int} (Ho1 : (¬ x1 < 0 → ¬ (w.1 2 0 8) ≤ x1 → ¬ 64 ≤ x1 → 0 ≤ x1)) (Ho2 : (¬ x1 < 0 → ¬ (w.1 2 0 8) ≤ x1 → ¬ 64 ≤ x1 → x1 < 64))
    (h : Q (some (.inl (am_w ((if x1 < 0 then 46 else (if (w.1 2 0 8) ≤ x1 then 46 else (if 64 ≤ x1 then 46 else (w.1 25 0 x1.toNat)))) - 12)))) w) : am_M (mh_G X) SC (d + 2) kc ks mX8_depthAt [.inr (.inr (some (2, 0))), .inl x1] w Q := by
  refine am_M_of (by decide) (Nat.le_of_ble_eq_true rfl) ?_
  show am_A (mh_G X) SC (d + 2) mX8_depthAt Q 0 [(0, .inr (.inr (some (2, 0)))), (1, .inl x1)] [] w kc ks
  refine am_aload_n dX8_depthAt_0 (List.Mem.head _) ?_
  refine am_iload_n dX8_depthAt_1 (List.Mem.tail _ (List.Mem.head _)) ?_
  have o1 := Ho1
  have o2 := Ho2
  refine am_callv (d' := d + 1) (kc := 0) (ks := 0) (as := [.inl x1]) dX8_depthAt_2 wc_X8_codeAt wd_791 wd_793 wd_7 wd_113 ds_X8_codeAt (by decide) (by omega) (Nat.le_of_ble_eq_true rfl) (Nat.zero_le _) (Nat.zero_le _) hc_1 (by decide) rfl rfl (sX8_codeAt (d := d + 0) (x1 := x1) o1 o2 ?_)
  show am_A (mh_G X) SC (d + 2) mX8_depthAt Q 5 [(0, .inr (.inr (some (2, 0)))), (1, .inl x1)] [.inl (if x1 < 0 then 46 else (if (w.1 2 0 8) ≤ x1 then 46 else (if 64 ≤ x1 then 46 else (w.1 25 0 x1.toNat))))] w kc ks
  refine am_bipush dX8_depthAt_5 (by decide) (by unfold am_rg; omega) ?_
  refine am_isub dX8_depthAt_7 ?_
  exact am_ret (r := some (.inl (am_w ((if x1 < 0 then 46 else (if (w.1 2 0 8) ≤ x1 then 46 else (if 64 ≤ x1 then 46 else (w.1 25 0 x1.toNat)))) - 12)))) dX8_depthAt_8 (Or.inl rfl) rfl h
-- MourningHouse$Reader.expect(I)Z
theorem dX8_expect_0 : decode mX8_expect.2.1 0 = .ok (.aload_n 0, 1) := by decide +kernel
theorem dX8_expect_1 : decode mX8_expect.2.1 1 = .ok (.aload_n 0, 1) := by decide +kernel
theorem dX8_expect_2 : decode mX8_expect.2.1 2 = .ok (.getfield 39, 3) := by decide +kernel
theorem dX8_expect_5 : decode mX8_expect.2.1 5 = .ok (.invokevirtual 59, 3) := by decide +kernel
theorem dX8_expect_8 : decode mX8_expect.2.1 8 = .ok (.iload_n 1, 1) := by decide +kernel
theorem dX8_expect_9 : decode mX8_expect.2.1 9 = .ok (.if_icmp .eq 9, 3) := by decide +kernel
theorem dX8_expect_12 : decode mX8_expect.2.1 12 = .ok (.aload_n 0, 1) := by decide +kernel
theorem dX8_expect_13 : decode mX8_expect.2.1 13 = .ok (.iconst 2, 1) := by decide +kernel
theorem dX8_expect_14 : decode mX8_expect.2.1 14 = .ok (.invokevirtual 55, 3) := by decide +kernel
theorem dX8_expect_17 : decode mX8_expect.2.1 17 = .ok (.ireturn, 1) := by decide +kernel
theorem dX8_expect_18 : decode mX8_expect.2.1 18 = .ok (.aload_n 0, 1) := by decide +kernel
theorem dX8_expect_19 : decode mX8_expect.2.1 19 = .ok (.dup, 1) := by decide +kernel
theorem dX8_expect_20 : decode mX8_expect.2.1 20 = .ok (.getfield 39, 3) := by decide +kernel
theorem dX8_expect_23 : decode mX8_expect.2.1 23 = .ok (.iconst 1, 1) := by decide +kernel
theorem dX8_expect_24 : decode mX8_expect.2.1 24 = .ok (.iadd, 1) := by decide +kernel
theorem dX8_expect_25 : decode mX8_expect.2.1 25 = .ok (.putfield 39, 3) := by decide +kernel
theorem dX8_expect_28 : decode mX8_expect.2.1 28 = .ok (.iconst 1, 1) := by decide +kernel
theorem dX8_expect_29 : decode mX8_expect.2.1 29 = .ok (.ireturn, 1) := by decide +kernel
theorem bX8_expect_0 {SC : Nat → Nat} {X : mh_X} {d : Nat} {Q : Option am_V → am_W → Prop} {bc bs : Nat} {w : am_W} {x1 : Int}
    (h : ((¬ (w.1 2 0 9) < 0 → ¬ (w.1 2 0 8) ≤ (w.1 2 0 9) → ¬ 64 ≤ (w.1 2 0 9) → 0 ≤ (w.1 2 0 9)) ∧ ((¬ (w.1 2 0 9) < 0 → ¬ (w.1 2 0 8) ≤ (w.1 2 0 9) → ¬ 64 ≤ (w.1 2 0 9) → (w.1 2 0 9) < 64) ∧ (((if (w.1 2 0 9) < 0 then 46 else (if (w.1 2 0 8) ≤ (w.1 2 0 9) then 46 else (if 64 ≤ (w.1 2 0 9) then 46 else (w.1 25 0 (w.1 2 0 9).toNat)))) = x1 → Q (some (.inl 1)) ((am_up w.1 2 0 9 (am_w ((w.1 2 0 9) + 1))), w.2)) ∧ (¬ (if (w.1 2 0 9) < 0 then 46 else (if (w.1 2 0 8) ≤ (w.1 2 0 9) then 46 else (if 64 ≤ (w.1 2 0 9) then 46 else (w.1 25 0 (w.1 2 0 9).toNat)))) = x1 → Q (some (.inl 0)) ((am_up (am_up (am_up w.1 2 0 4 (w.1 2 0 7)) 2 0 5 (am_w (((am_up w.1 2 0 4 (w.1 2 0 7)) 2 0 9) + 1))) 2 0 6 (2 : Int)), w.2)))))) :
    am_A (mh_G X) SC (d + 2) mX8_expect Q 0 [(0, .inr (.inr (some (2, 0)))), (1, .inl x1)] [] w bc bs := by
  refine am_aload_n dX8_expect_0 (List.Mem.head _) ?_
  refine am_aload_n dX8_expect_1 (List.Mem.head _) ?_
  refine am_getf (f := 9) (v := .inl (w.1 2 0 9)) dX8_expect_2 hc_1 (by decide) wd_163 (by decide) rfl rfl ?_
  have o1 := h.1
  replace h := h.2
  have o2 := h.1
  replace h := h.2
  refine am_callv (d' := d + 1) (kc := 0) (ks := 0) (as := [.inl (w.1 2 0 9)]) dX8_expect_5 wc_X8_codeAt wd_791 wd_793 wd_7 wd_113 ds_X8_codeAt (by decide) (by omega) (Nat.le_of_ble_eq_true rfl) (Nat.zero_le _) (Nat.zero_le _) hc_1 (by decide) rfl rfl (sX8_codeAt (d := d + 0) (x1 := (w.1 2 0 9)) o1 o2 ?_)
  show am_A (mh_G X) SC (d + 2) mX8_expect Q 8 [(0, .inr (.inr (some (2, 0)))), (1, .inl x1)] [.inl (if (w.1 2 0 9) < 0 then 46 else (if (w.1 2 0 8) ≤ (w.1 2 0 9) then 46 else (if 64 ≤ (w.1 2 0 9) then 46 else (w.1 25 0 (w.1 2 0 9).toNat))))] w bc bs
  refine am_iload_n dX8_expect_8 (List.Mem.tail _ (List.Mem.head _)) ?_
  refine am_icmpeq (tgt := 18) dX8_expect_9 (by decide) (fun c3 => ?_) (fun c3 => ?_)
  · replace h := h.1 c3
    refine am_aload_n dX8_expect_18 (List.Mem.head _) ?_
    refine am_dup dX8_expect_19 rfl ?_
    refine am_getf (f := 9) (v := .inl (w.1 2 0 9)) dX8_expect_20 hc_1 (by decide) wd_163 (by decide) rfl rfl ?_
    refine am_iconst dX8_expect_23 (by unfold am_rg; omega) ?_
    refine am_iadd dX8_expect_24 ?_
    refine am_putf (f := 9) dX8_expect_25 hc_1 (by decide) wd_163 rfl (Or.inl rfl) (Or.inl (by decide)) rfl ?_
    refine am_iconst dX8_expect_28 (by unfold am_rg; omega) ?_
    exact am_ret (r := some (.inl 1)) dX8_expect_29 (Or.inr (Or.inl ⟨rfl, (Or.inr rfl)⟩)) rfl h
  · replace h := h.2 c3
    refine am_aload_n dX8_expect_12 (List.Mem.head _) ?_
    refine am_iconst dX8_expect_13 (by unfold am_rg; omega) ?_
    refine am_callv (d' := d + 1) (kc := 0) (ks := 0) (as := [.inl 2]) dX8_expect_14 wc_X8_fail wd_787 wd_789 wd_6 wd_113 ds_X8_fail (by decide) (by omega) (Nat.le_of_ble_eq_true rfl) (Nat.zero_le _) (Nat.zero_le _) hc_1 (by decide) rfl rfl (sX8_fail (d := d + 0) (x1 := 2)  ?_)
    show am_A (mh_G X) SC (d + 2) mX8_expect Q 17 [(0, .inr (.inr (some (2, 0)))), (1, .inl x1)] [.inl 0] ((am_up (am_up (am_up w.1 2 0 4 (w.1 2 0 7)) 2 0 5 (am_w (((am_up w.1 2 0 4 (w.1 2 0 7)) 2 0 9) + 1))) 2 0 6 (2 : Int)), w.2) bc bs
    exact am_ret (r := some (.inl 0)) dX8_expect_17 (Or.inr (Or.inl ⟨rfl, (Or.inl rfl)⟩)) rfl h
-- MourningHouse$Reader.value()I
theorem dX8_value_0 : decode mX8_value.2.1 0 = .ok (.aload_n 0, 1) := by decide +kernel
theorem dX8_value_1 : decode mX8_value.2.1 1 = .ok (.getfield 39, 3) := by decide +kernel
theorem dX8_value_4 : decode mX8_value.2.1 4 = .ok (.ifCond .lt 35, 3) := by decide +kernel
theorem dX8_value_7 : decode mX8_value.2.1 7 = .ok (.aload_n 0, 1) := by decide +kernel
theorem dX8_value_8 : decode mX8_value.2.1 8 = .ok (.getfield 39, 3) := by decide +kernel
theorem dX8_value_11 : decode mX8_value.2.1 11 = .ok (.aload_n 0, 1) := by decide +kernel
theorem dX8_value_12 : decode mX8_value.2.1 12 = .ok (.getfield 36, 3) := by decide +kernel
theorem dX8_value_15 : decode mX8_value.2.1 15 = .ok (.if_icmp .ge 24, 3) := by decide +kernel
theorem dX8_value_18 : decode mX8_value.2.1 18 = .ok (.aload_n 0, 1) := by decide +kernel
theorem dX8_value_19 : decode mX8_value.2.1 19 = .ok (.getfield 39, 3) := by decide +kernel
theorem dX8_value_22 : decode mX8_value.2.1 22 = .ok (.bipush 64, 2) := by decide +kernel
theorem dX8_value_24 : decode mX8_value.2.1 24 = .ok (.if_icmp .ge 15, 3) := by decide +kernel
theorem dX8_value_27 : decode mX8_value.2.1 27 = .ok (.aload_n 0, 1) := by decide +kernel
theorem dX8_value_28 : decode mX8_value.2.1 28 = .ok (.getfield 17, 3) := by decide +kernel
theorem dX8_value_31 : decode mX8_value.2.1 31 = .ok (.aload_n 0, 1) := by decide +kernel
theorem dX8_value_32 : decode mX8_value.2.1 32 = .ok (.getfield 39, 3) := by decide +kernel
theorem dX8_value_35 : decode mX8_value.2.1 35 = .ok (.iaload, 1) := by decide +kernel
theorem dX8_value_36 : decode mX8_value.2.1 36 = .ok (.goto 4, 3) := by decide +kernel
theorem dX8_value_39 : decode mX8_value.2.1 39 = .ok (.iconst 0, 1) := by decide +kernel
theorem dX8_value_40 : decode mX8_value.2.1 40 = .ok (.ireturn, 1) := by decide +kernel
theorem sX8_value {SC : Nat → Nat} {X : mh_X} {d kc ks : Nat} {Q : Option am_V → am_W → Prop} {w : am_W}  (Ho4 : ¬ (w.1 2 0 9) < 0 → ¬ (w.1 2 0 8) ≤ (w.1 2 0 9) → ¬ 64 ≤ (w.1 2 0 9) → 0 ≤ (w.1 2 0 9)) (Ho5 : ¬ (w.1 2 0 9) < 0 → ¬ (w.1 2 0 8) ≤ (w.1 2 0 9) → ¬ 64 ≤ (w.1 2 0 9) → (w.1 2 0 9) < 64)
    (h : Q (some (.inl (if (w.1 2 0 9) < 0 then 0 else (if (w.1 2 0 8) ≤ (w.1 2 0 9) then 0 else (if 64 ≤ (w.1 2 0 9) then 0 else (w.1 26 0 (w.1 2 0 9).toNat)))))) w) : am_M (mh_G X) SC (d + 1) kc ks mX8_value [.inr (.inr (some (2, 0)))] w Q := by
  refine am_M_of (by decide) (Nat.le_of_ble_eq_true rfl) ?_
  show am_A (mh_G X) SC (d + 1) mX8_value Q 0 [(0, .inr (.inr (some (2, 0))))] [] w kc ks
  refine am_aload_n dX8_value_0 (List.Mem.head _) ?_
  refine am_getf (f := 9) (v := .inl (w.1 2 0 9)) dX8_value_1 hc_1 (by decide) wd_163 (by decide) rfl rfl ?_
  refine am_iflt (tgt := 39) dX8_value_4 (by decide) (fun c1 => ?_) (fun c1 => ?_)
  · refine am_iconst dX8_value_39 (by unfold am_rg; omega) ?_
    rw [show ((if (w.1 2 0 9) < 0 then 0 else (if (w.1 2 0 8) ≤ (w.1 2 0 9) then 0 else (if 64 ≤ (w.1 2 0 9) then 0 else (w.1 26 0 (w.1 2 0 9).toNat)))) : Int) = 0 from if_pos c1] at h
    exact am_ret (r := some (.inl 0)) dX8_value_40 (Or.inl rfl) rfl h
  · refine am_aload_n dX8_value_7 (List.Mem.head _) ?_
    refine am_getf (f := 9) (v := .inl (w.1 2 0 9)) dX8_value_8 hc_1 (by decide) wd_163 (by decide) rfl rfl ?_
    refine am_aload_n dX8_value_11 (List.Mem.head _) ?_
    refine am_getf (f := 8) (v := .inl (w.1 2 0 8)) dX8_value_12 hc_1 (by decide) wd_162 (by decide) rfl rfl ?_
    refine am_icmpge (tgt := 39) dX8_value_15 (by decide) (fun c2 => ?_) (fun c2 => ?_)
    · refine am_iconst dX8_value_39 (by unfold am_rg; omega) ?_
      rw [show ((if (w.1 2 0 9) < 0 then 0 else (if (w.1 2 0 8) ≤ (w.1 2 0 9) then 0 else (if 64 ≤ (w.1 2 0 9) then 0 else (w.1 26 0 (w.1 2 0 9).toNat)))) : Int) = 0 from (if_neg c1).trans (if_pos c2)] at h
      exact am_ret (r := some (.inl 0)) dX8_value_40 (Or.inl rfl) rfl h
    · refine am_aload_n dX8_value_18 (List.Mem.head _) ?_
      refine am_getf (f := 9) (v := .inl (w.1 2 0 9)) dX8_value_19 hc_1 (by decide) wd_163 (by decide) rfl rfl ?_
      refine am_bipush dX8_value_22 (by decide) (by unfold am_rg; omega) ?_
      refine am_icmpge (tgt := 39) dX8_value_24 (by decide) (fun c3 => ?_) (fun c3 => ?_)
      · refine am_iconst dX8_value_39 (by unfold am_rg; omega) ?_
        rw [show ((if (w.1 2 0 9) < 0 then 0 else (if (w.1 2 0 8) ≤ (w.1 2 0 9) then 0 else (if 64 ≤ (w.1 2 0 9) then 0 else (w.1 26 0 (w.1 2 0 9).toNat)))) : Int) = 0 from (if_neg c1).trans ((if_neg c2).trans (if_pos c3))] at h
        exact am_ret (r := some (.inl 0)) dX8_value_40 (Or.inl rfl) rfl h
      · refine am_aload_n dX8_value_27 (List.Mem.head _) ?_
        refine am_getf (f := 2) (v := .inr (.inr (some (26, 0)))) dX8_value_28 hc_1 (by decide) wd_152 (by decide) rfl rfl ?_
        refine am_aload_n dX8_value_31 (List.Mem.head _) ?_
        refine am_getf (f := 9) (v := .inl (w.1 2 0 9)) dX8_value_32 hc_1 (by decide) wd_163 (by decide) rfl rfl ?_
        have o4 := Ho4 c1 c2 c3
        have o5 := Ho5 c1 c2 c3
        refine am_iaload (v := (w.1 26 0 (w.1 2 0 9).toNat)) dX8_value_35 (by decide) rfl o4 o5 rfl ?_
        refine am_goto (tgt := 40) dX8_value_36 (by decide) ?_
        rw [show ((if (w.1 2 0 9) < 0 then 0 else (if (w.1 2 0 8) ≤ (w.1 2 0 9) then 0 else (if 64 ≤ (w.1 2 0 9) then 0 else (w.1 26 0 (w.1 2 0 9).toNat)))) : Int) = (w.1 26 0 (w.1 2 0 9).toNat) from (if_neg c1).trans ((if_neg c2).trans (if_neg c3))] at h
        exact am_ret (r := some (.inl (w.1 26 0 (w.1 2 0 9).toNat))) dX8_value_40 (Or.inl rfl) rfl h
