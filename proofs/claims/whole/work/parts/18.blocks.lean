-- MourningHouseModel.reads(II)V
theorem dX12_reads_0 : decode mX12_reads.2.1 0 = .ok (.aload_n 0, 1) := by decide +kernel
theorem dX12_reads_1 : decode mX12_reads.2.1 1 = .ok (.iload_n 1, 1) := by decide +kernel
theorem dX12_reads_2 : decode mX12_reads.2.1 2 = .ok (.iload_n 2, 1) := by decide +kernel
theorem dX12_reads_3 : decode mX12_reads.2.1 3 = .ok (.invokevirtual 420, 3) := by decide +kernel
theorem dX12_reads_6 : decode mX12_reads.2.1 6 = .ok (.aload_n 0, 1) := by decide +kernel
theorem dX12_reads_7 : decode mX12_reads.2.1 7 = .ok (.getfield 337, 3) := by decide +kernel
theorem dX12_reads_10 : decode mX12_reads.2.1 10 = .ok (.ifCond .ne 10, 3) := by decide +kernel
theorem dX12_reads_13 : decode mX12_reads.2.1 13 = .ok (.aload_n 0, 1) := by decide +kernel
theorem dX12_reads_14 : decode mX12_reads.2.1 14 = .ok (.getfield 349, 3) := by decide +kernel
theorem dX12_reads_17 : decode mX12_reads.2.1 17 = .ok (.ifCond .ne 4, 3) := by decide +kernel
theorem dX12_reads_20 : decode mX12_reads.2.1 20 = .ok (.return_, 1) := by decide +kernel
theorem dX12_reads_21 : decode mX12_reads.2.1 21 = .ok (.aload_n 0, 1) := by decide +kernel
theorem dX12_reads_22 : decode mX12_reads.2.1 22 = .ok (.iconst 0, 1) := by decide +kernel
theorem dX12_reads_23 : decode mX12_reads.2.1 23 = .ok (.putfield 362, 3) := by decide +kernel
theorem dX12_reads_26 : decode mX12_reads.2.1 26 = .ok (.aload_n 0, 1) := by decide +kernel
theorem dX12_reads_27 : decode mX12_reads.2.1 27 = .ok (.ldc_w 423, 3) := by decide +kernel
theorem dX12_reads_30 : decode mX12_reads.2.1 30 = .ok (.invokevirtual 373, 3) := by decide +kernel
theorem dX12_reads_33 : decode mX12_reads.2.1 33 = .ok (.ifCond .eq 20, 3) := by decide +kernel
theorem dX12_reads_36 : decode mX12_reads.2.1 36 = .ok (.aload_n 0, 1) := by decide +kernel
theorem dX12_reads_37 : decode mX12_reads.2.1 37 = .ok (.dup, 1) := by decide +kernel
theorem dX12_reads_38 : decode mX12_reads.2.1 38 = .ok (.getfield 362, 3) := by decide +kernel
theorem dX12_reads_41 : decode mX12_reads.2.1 41 = .ok (.iconst 1, 1) := by decide +kernel
theorem dX12_reads_42 : decode mX12_reads.2.1 42 = .ok (.iadd, 1) := by decide +kernel
theorem dX12_reads_43 : decode mX12_reads.2.1 43 = .ok (.putfield 362, 3) := by decide +kernel
theorem dX12_reads_46 : decode mX12_reads.2.1 46 = .ok (.aload_n 0, 1) := by decide +kernel
theorem dX12_reads_47 : decode mX12_reads.2.1 47 = .ok (.invokevirtual 425, 3) := by decide +kernel
theorem dX12_reads_50 : decode mX12_reads.2.1 50 = .ok (.goto 34, 3) := by decide +kernel
theorem dX12_reads_53 : decode mX12_reads.2.1 53 = .ok (.aload_n 0, 1) := by decide +kernel
theorem dX12_reads_54 : decode mX12_reads.2.1 54 = .ok (.ldc_w 428, 3) := by decide +kernel
theorem dX12_reads_57 : decode mX12_reads.2.1 57 = .ok (.invokevirtual 373, 3) := by decide +kernel
theorem dX12_reads_60 : decode mX12_reads.2.1 60 = .ok (.ifCond .eq 20, 3) := by decide +kernel
theorem dX12_reads_63 : decode mX12_reads.2.1 63 = .ok (.aload_n 0, 1) := by decide +kernel
theorem dX12_reads_64 : decode mX12_reads.2.1 64 = .ok (.dup, 1) := by decide +kernel
theorem dX12_reads_65 : decode mX12_reads.2.1 65 = .ok (.getfield 362, 3) := by decide +kernel
theorem dX12_reads_68 : decode mX12_reads.2.1 68 = .ok (.iconst 1, 1) := by decide +kernel
theorem dX12_reads_69 : decode mX12_reads.2.1 69 = .ok (.iadd, 1) := by decide +kernel
theorem dX12_reads_70 : decode mX12_reads.2.1 70 = .ok (.putfield 362, 3) := by decide +kernel
theorem dX12_reads_73 : decode mX12_reads.2.1 73 = .ok (.aload_n 0, 1) := by decide +kernel
theorem dX12_reads_74 : decode mX12_reads.2.1 74 = .ok (.invokevirtual 430, 3) := by decide +kernel
theorem dX12_reads_77 : decode mX12_reads.2.1 77 = .ok (.goto 7, 3) := by decide +kernel
theorem dX12_reads_80 : decode mX12_reads.2.1 80 = .ok (.aload_n 0, 1) := by decide +kernel
theorem dX12_reads_81 : decode mX12_reads.2.1 81 = .ok (.invokevirtual 432, 3) := by decide +kernel
theorem dX12_reads_84 : decode mX12_reads.2.1 84 = .ok (.aload_n 0, 1) := by decide +kernel
theorem dX12_reads_85 : decode mX12_reads.2.1 85 = .ok (.getfield 362, 3) := by decide +kernel
theorem dX12_reads_88 : decode mX12_reads.2.1 88 = .ok (.aload_n 0, 1) := by decide +kernel
theorem dX12_reads_89 : decode mX12_reads.2.1 89 = .ok (.getfield 349, 3) := by decide +kernel
theorem dX12_reads_92 : decode mX12_reads.2.1 92 = .ok (.if_icmp .ge 12, 3) := by decide +kernel
theorem dX12_reads_95 : decode mX12_reads.2.1 95 = .ok (.aload_n 0, 1) := by decide +kernel
theorem dX12_reads_96 : decode mX12_reads.2.1 96 = .ok (.aload_n 0, 1) := by decide +kernel
theorem dX12_reads_97 : decode mX12_reads.2.1 97 = .ok (.getfield 362, 3) := by decide +kernel
theorem dX12_reads_100 : decode mX12_reads.2.1 100 = .ok (.iconst 2, 1) := by decide +kernel
theorem dX12_reads_101 : decode mX12_reads.2.1 101 = .ok (.invokevirtual 358, 3) := by decide +kernel
theorem dX12_reads_104 : decode mX12_reads.2.1 104 = .ok (.return_, 1) := by decide +kernel
theorem bX12_reads_0 {SC : Nat → Nat} {X : mh_X} {d : Nat} {Q : Option am_V → am_W → Prop} {bc bs : Nat} {w : am_W} {x1 : Int} {x2 : Int}
    (h : am_M (mh_G X) SC (d + 10) 0 0 mX12_splits [.inr (.inr (some (9, 0))), .inl x1, .inl x2] w (fun r w1 => am_A (mh_G X) SC (d + 11) mX12_reads Q 6 [(0, .inr (.inr (some (9, 0)))), (1, .inl x1), (2, .inl x2)] (r.toList ++ []) w1 bc bs)) :
    am_A (mh_G X) SC (d + 11) mX12_reads Q 0 [(0, .inr (.inr (some (9, 0)))), (1, .inl x1), (2, .inl x2)] [] w bc bs := by
  refine am_aload_n dX12_reads_0 (List.Mem.head _) ?_
  refine am_iload_n dX12_reads_1 (List.Mem.tail _ (List.Mem.head _)) ?_
  refine am_iload_n dX12_reads_2 (List.Mem.tail _ (List.Mem.tail _ (List.Mem.head _))) ?_
  exact am_callv (d' := d + 10) (kc := 0) (ks := 0) (as := [.inl x1, .inl x2]) dX12_reads_3 wc_X12_splits wd_1915 wd_1917 wd_55 wd_122 ds_X12_splits (by decide) (by omega) (Nat.le_of_ble_eq_true rfl) (Nat.zero_le _) (Nat.zero_le _) hc_10 (by decide) rfl rfl h
theorem bX12_reads_6 {SC : Nat → Nat} {X : mh_X} {d : Nat} {Q : Option am_V → am_W → Prop} {bc bs : Nat} {w : am_W} {x1 : Int} {x2 : Int}
    (h : ((¬ (w.1 9 0 4) = 0 → Q none w) ∧ ((w.1 9 0 4) = 0 → ((¬ (w.1 9 0 30) = 0 → am_M (mh_G X) SC (d + 10) 0 0 mX12_isWord [.inr (.inr (some (9, 0))), .inr (.inr (some (1000, 76)))] ((am_up w.1 9 0 32 0), w.2) (fun r w1 => am_A (mh_G X) SC (d + 11) mX12_reads Q 33 [(0, .inr (.inr (some (9, 0)))), (1, .inl x1), (2, .inl x2)] (r.toList ++ []) w1 bc bs)) ∧ ((w.1 9 0 30) = 0 → Q none w))))) :
    am_A (mh_G X) SC (d + 11) mX12_reads Q 6 [(0, .inr (.inr (some (9, 0)))), (1, .inl x1), (2, .inl x2)] [] w bc bs := by
  refine am_aload_n dX12_reads_6 (List.Mem.head _) ?_
  refine am_getf (f := 4) (v := .inl (w.1 9 0 4)) dX12_reads_7 hc_10 (by decide) wd_1553 (by decide) rfl rfl ?_
  refine am_ifne (tgt := 20) dX12_reads_10 (by decide) (fun c1 => ?_) (fun c1 => ?_)
  · replace h := h.1 c1
    exact am_ret (r := none) dX12_reads_20 rfl rfl h
  · replace h := h.2 c1
    refine am_aload_n dX12_reads_13 (List.Mem.head _) ?_
    refine am_getf (f := 30) (v := .inl (w.1 9 0 30)) dX12_reads_14 hc_10 (by decide) wd_1579 (by decide) rfl rfl ?_
    refine am_ifne (tgt := 21) dX12_reads_17 (by decide) (fun c2 => ?_) (fun c2 => ?_)
    · replace h := h.1 c2
      refine am_aload_n dX12_reads_21 (List.Mem.head _) ?_
      refine am_iconst dX12_reads_22 (by unfold am_rg; omega) ?_
      refine am_putf (f := 32) dX12_reads_23 hc_10 (by decide) wd_1581 rfl (Or.inl rfl) (Or.inl (by decide)) rfl ?_
      refine am_aload_n dX12_reads_26 (List.Mem.head _) ?_
      refine am_ldcwS (sid := 76) dX12_reads_27 rfl ?_
      exact am_callv (d' := d + 10) (kc := 0) (ks := 0) (as := [.inr (.inr (some (1000, 76)))]) dX12_reads_30 wc_X12_isWord wd_1930 wd_1932 wd_57 wd_122 ds_X12_isWord (by decide) (by omega) (Nat.le_of_ble_eq_true rfl) (Nat.zero_le _) (Nat.zero_le _) hc_10 (by decide) rfl rfl h
    · replace h := h.2 c2
      exact am_ret (r := none) dX12_reads_20 rfl rfl h
theorem bX12_reads_33 {SC : Nat → Nat} {X : mh_X} {d : Nat} {Q : Option am_V → am_W → Prop} {bc bs : Nat} {w : am_W} {x1 : Int} {x2 : Int} {xs0 : Int}
    (h : ((xs0 = 0 → am_M (mh_G X) SC (d + 10) 0 0 mX12_isWord [.inr (.inr (some (9, 0))), .inr (.inr (some (1000, 79)))] w (fun r w1 => am_A (mh_G X) SC (d + 11) mX12_reads Q 60 [(0, .inr (.inr (some (9, 0)))), (1, .inl x1), (2, .inl x2)] (r.toList ++ []) w1 bc bs)) ∧ (¬ xs0 = 0 → am_M (mh_G X) SC (d + 10) 0 0 mX12_rule [.inr (.inr (some (9, 0)))] ((am_up w.1 9 0 32 (am_w ((w.1 9 0 32) + 1))), w.2) (fun r w1 => am_A (mh_G X) SC (d + 11) mX12_reads Q 50 [(0, .inr (.inr (some (9, 0)))), (1, .inl x1), (2, .inl x2)] (r.toList ++ []) w1 bc bs)))) :
    am_A (mh_G X) SC (d + 11) mX12_reads Q 33 [(0, .inr (.inr (some (9, 0)))), (1, .inl x1), (2, .inl x2)] [.inl xs0] w bc bs := by
  refine am_ifeq (tgt := 53) dX12_reads_33 (by decide) (fun c1 => ?_) (fun c1 => ?_)
  · replace h := h.1 c1
    refine am_aload_n dX12_reads_53 (List.Mem.head _) ?_
    refine am_ldcwS (sid := 79) dX12_reads_54 rfl ?_
    exact am_callv (d' := d + 10) (kc := 0) (ks := 0) (as := [.inr (.inr (some (1000, 79)))]) dX12_reads_57 wc_X12_isWord wd_1930 wd_1932 wd_57 wd_122 ds_X12_isWord (by decide) (by omega) (Nat.le_of_ble_eq_true rfl) (Nat.zero_le _) (Nat.zero_le _) hc_10 (by decide) rfl rfl h
  · replace h := h.2 c1
    refine am_aload_n dX12_reads_36 (List.Mem.head _) ?_
    refine am_dup dX12_reads_37 rfl ?_
    refine am_getf (f := 32) (v := .inl (w.1 9 0 32)) dX12_reads_38 hc_10 (by decide) wd_1581 (by decide) rfl rfl ?_
    refine am_iconst dX12_reads_41 (by unfold am_rg; omega) ?_
    refine am_iadd dX12_reads_42 ?_
    refine am_putf (f := 32) dX12_reads_43 hc_10 (by decide) wd_1581 rfl (Or.inl rfl) (Or.inl (by decide)) rfl ?_
    refine am_aload_n dX12_reads_46 (List.Mem.head _) ?_
    exact am_callv (d' := d + 10) (kc := 0) (ks := 0) (as := []) dX12_reads_47 wc_X12_rule wd_1936 wd_1938 wd_58 wd_122 ds_X12_rule (by decide) (by omega) (Nat.le_of_ble_eq_true rfl) (Nat.zero_le _) (Nat.zero_le _) hc_10 (by decide) rfl rfl h
theorem bX12_reads_60 {SC : Nat → Nat} {X : mh_X} {d : Nat} {Q : Option am_V → am_W → Prop} {bc bs : Nat} {w : am_W} {x1 : Int} {x2 : Int} {xs0 : Int}
    (h : ((xs0 = 0 → am_M (mh_G X) SC (d + 10) 0 0 mX12_others [.inr (.inr (some (9, 0)))] w (fun r w1 => am_A (mh_G X) SC (d + 11) mX12_reads Q 84 [(0, .inr (.inr (some (9, 0)))), (1, .inl x1), (2, .inl x2)] (r.toList ++ []) w1 bc bs)) ∧ (¬ xs0 = 0 → am_M (mh_G X) SC (d + 10) 0 0 mX12_feast [.inr (.inr (some (9, 0)))] ((am_up w.1 9 0 32 (am_w ((w.1 9 0 32) + 1))), w.2) (fun r w1 => am_A (mh_G X) SC (d + 11) mX12_reads Q 77 [(0, .inr (.inr (some (9, 0)))), (1, .inl x1), (2, .inl x2)] (r.toList ++ []) w1 bc bs)))) :
    am_A (mh_G X) SC (d + 11) mX12_reads Q 60 [(0, .inr (.inr (some (9, 0)))), (1, .inl x1), (2, .inl x2)] [.inl xs0] w bc bs := by
  refine am_ifeq (tgt := 80) dX12_reads_60 (by decide) (fun c1 => ?_) (fun c1 => ?_)
  · replace h := h.1 c1
    refine am_aload_n dX12_reads_80 (List.Mem.head _) ?_
    exact am_callv (d' := d + 10) (kc := 0) (ks := 0) (as := []) dX12_reads_81 wc_X12_others wd_1984 wd_1986 wd_69 wd_122 ds_X12_others (by decide) (by omega) (Nat.le_of_ble_eq_true rfl) (Nat.zero_le _) (Nat.zero_le _) hc_10 (by decide) rfl rfl h
  · replace h := h.2 c1
    refine am_aload_n dX12_reads_63 (List.Mem.head _) ?_
    refine am_dup dX12_reads_64 rfl ?_
    refine am_getf (f := 32) (v := .inl (w.1 9 0 32)) dX12_reads_65 hc_10 (by decide) wd_1581 (by decide) rfl rfl ?_
    refine am_iconst dX12_reads_68 (by unfold am_rg; omega) ?_
    refine am_iadd dX12_reads_69 ?_
    refine am_putf (f := 32) dX12_reads_70 hc_10 (by decide) wd_1581 rfl (Or.inl rfl) (Or.inl (by decide)) rfl ?_
    refine am_aload_n dX12_reads_73 (List.Mem.head _) ?_
    exact am_callv (d' := d + 10) (kc := 0) (ks := 0) (as := []) dX12_reads_74 wc_X12_feast wd_1979 wd_1981 wd_68 wd_122 ds_X12_feast (by decide) (by omega) (Nat.le_of_ble_eq_true rfl) (Nat.zero_le _) (Nat.zero_le _) hc_10 (by decide) rfl rfl h
theorem bX12_reads_50 {SC : Nat → Nat} {X : mh_X} {d : Nat} {Q : Option am_V → am_W → Prop} {bc bs : Nat} {w : am_W} {x1 : Int} {x2 : Int}
    (h : am_A (mh_G X) SC (d + 11) mX12_reads Q 84 [(0, .inr (.inr (some (9, 0))))] [] w bc bs) :
    am_A (mh_G X) SC (d + 11) mX12_reads Q 50 [(0, .inr (.inr (some (9, 0)))), (1, .inl x1), (2, .inl x2)] [] w bc bs := by
  refine am_goto (tgt := 84) dX12_reads_50 (by decide) ?_
  exact am_sub [0] rfl h
theorem bX12_reads_84 {SC : Nat → Nat} {X : mh_X} {d : Nat} {Q : Option am_V → am_W → Prop} {bc bs : Nat} {w : am_W} {x1 : Int} {x2 : Int}
    (h : (((w.1 9 0 30) ≤ (w.1 9 0 32) → Q none w) ∧ (¬ (w.1 9 0 30) ≤ (w.1 9 0 32) → am_M (mh_G X) SC (d + 10) 0 0 mX12_faults [.inr (.inr (some (9, 0))), .inl (w.1 9 0 32), .inl 2] w (fun r w1 => am_A (mh_G X) SC (d + 11) mX12_reads Q 104 [(0, .inr (.inr (some (9, 0)))), (1, .inl x1), (2, .inl x2)] (r.toList ++ []) w1 bc bs)))) :
    am_A (mh_G X) SC (d + 11) mX12_reads Q 84 [(0, .inr (.inr (some (9, 0)))), (1, .inl x1), (2, .inl x2)] [] w bc bs := by
  refine am_aload_n dX12_reads_84 (List.Mem.head _) ?_
  refine am_getf (f := 32) (v := .inl (w.1 9 0 32)) dX12_reads_85 hc_10 (by decide) wd_1581 (by decide) rfl rfl ?_
  refine am_aload_n dX12_reads_88 (List.Mem.head _) ?_
  refine am_getf (f := 30) (v := .inl (w.1 9 0 30)) dX12_reads_89 hc_10 (by decide) wd_1579 (by decide) rfl rfl ?_
  refine am_icmpge (tgt := 104) dX12_reads_92 (by decide) (fun c1 => ?_) (fun c1 => ?_)
  · replace h := h.1 c1
    exact am_ret (r := none) dX12_reads_104 rfl rfl h
  · replace h := h.2 c1
    refine am_aload_n dX12_reads_95 (List.Mem.head _) ?_
    refine am_aload_n dX12_reads_96 (List.Mem.head _) ?_
    refine am_getf (f := 32) (v := .inl (w.1 9 0 32)) dX12_reads_97 hc_10 (by decide) wd_1581 (by decide) rfl rfl ?_
    refine am_iconst dX12_reads_100 (by unfold am_rg; omega) ?_
    exact am_callv (d' := d + 10) (kc := 0) (ks := 0) (as := [.inl (w.1 9 0 32), .inl 2]) dX12_reads_101 wc_X12_faults wd_1925 wd_1927 wd_56 wd_122 ds_X12_faults (by decide) (by omega) (Nat.le_of_ble_eq_true rfl) (Nat.zero_le _) (Nat.zero_le _) hc_10 (by decide) rfl rfl h
theorem bX12_reads_77 {SC : Nat → Nat} {X : mh_X} {d : Nat} {Q : Option am_V → am_W → Prop} {bc bs : Nat} {w : am_W} {x1 : Int} {x2 : Int}
    (h : am_A (mh_G X) SC (d + 11) mX12_reads Q 84 [(0, .inr (.inr (some (9, 0))))] [] w bc bs) :
    am_A (mh_G X) SC (d + 11) mX12_reads Q 77 [(0, .inr (.inr (some (9, 0)))), (1, .inl x1), (2, .inl x2)] [] w bc bs := by
  refine am_goto (tgt := 84) dX12_reads_77 (by decide) ?_
  exact am_sub [0] rfl h
theorem bX12_reads_84a {SC : Nat → Nat} {X : mh_X} {d : Nat} {Q : Option am_V → am_W → Prop} {bc bs : Nat} {w : am_W} 
    (h : (((w.1 9 0 30) ≤ (w.1 9 0 32) → Q none w) ∧ (¬ (w.1 9 0 30) ≤ (w.1 9 0 32) → am_M (mh_G X) SC (d + 10) 0 0 mX12_faults [.inr (.inr (some (9, 0))), .inl (w.1 9 0 32), .inl 2] w (fun r w1 => am_A (mh_G X) SC (d + 11) mX12_reads Q 104 [(0, .inr (.inr (some (9, 0))))] (r.toList ++ []) w1 bc bs)))) :
    am_A (mh_G X) SC (d + 11) mX12_reads Q 84 [(0, .inr (.inr (some (9, 0))))] [] w bc bs := by
  refine am_aload_n dX12_reads_84 (List.Mem.head _) ?_
  refine am_getf (f := 32) (v := .inl (w.1 9 0 32)) dX12_reads_85 hc_10 (by decide) wd_1581 (by decide) rfl rfl ?_
  refine am_aload_n dX12_reads_88 (List.Mem.head _) ?_
  refine am_getf (f := 30) (v := .inl (w.1 9 0 30)) dX12_reads_89 hc_10 (by decide) wd_1579 (by decide) rfl rfl ?_
  refine am_icmpge (tgt := 104) dX12_reads_92 (by decide) (fun c1 => ?_) (fun c1 => ?_)
  · replace h := h.1 c1
    exact am_ret (r := none) dX12_reads_104 rfl rfl h
  · replace h := h.2 c1
    refine am_aload_n dX12_reads_95 (List.Mem.head _) ?_
    refine am_aload_n dX12_reads_96 (List.Mem.head _) ?_
    refine am_getf (f := 32) (v := .inl (w.1 9 0 32)) dX12_reads_97 hc_10 (by decide) wd_1581 (by decide) rfl rfl ?_
    refine am_iconst dX12_reads_100 (by unfold am_rg; omega) ?_
    exact am_callv (d' := d + 10) (kc := 0) (ks := 0) (as := [.inl (w.1 9 0 32), .inl 2]) dX12_reads_101 wc_X12_faults wd_1925 wd_1927 wd_56 wd_122 ds_X12_faults (by decide) (by omega) (Nat.le_of_ble_eq_true rfl) (Nat.zero_le _) (Nat.zero_le _) hc_10 (by decide) rfl rfl h
theorem bX12_reads_104 {SC : Nat → Nat} {X : mh_X} {d : Nat} {Q : Option am_V → am_W → Prop} {bc bs : Nat} {w : am_W} {x1 : Int} {x2 : Int}
    (h : Q none w) :
    am_A (mh_G X) SC (d + 11) mX12_reads Q 104 [(0, .inr (.inr (some (9, 0)))), (1, .inl x1), (2, .inl x2)] [] w bc bs := by
  exact am_ret (r := none) dX12_reads_104 rfl rfl h
theorem bX12_reads_104a {SC : Nat → Nat} {X : mh_X} {d : Nat} {Q : Option am_V → am_W → Prop} {bc bs : Nat} {w : am_W} 
    (h : Q none w) :
    am_A (mh_G X) SC (d + 11) mX12_reads Q 104 [(0, .inr (.inr (some (9, 0))))] [] w bc bs := by
  exact am_ret (r := none) dX12_reads_104 rfl rfl h
-- MourningHouseModel.copies(I)V
theorem dX12_copies_0 : decode mX12_copies.2.1 0 = .ok (.aload_n 0, 1) := by decide +kernel
theorem dX12_copies_1 : decode mX12_copies.2.1 1 = .ok (.getfield 17, 3) := by decide +kernel
theorem dX12_copies_4 : decode mX12_copies.2.1 4 = .ok (.iload_n 1, 1) := by decide +kernel
theorem dX12_copies_5 : decode mX12_copies.2.1 5 = .ok (.aload_n 0, 1) := by decide +kernel
theorem dX12_copies_6 : decode mX12_copies.2.1 6 = .ok (.getfield 17, 3) := by decide +kernel
theorem dX12_copies_9 : decode mX12_copies.2.1 9 = .ok (.bipush 6, 2) := by decide +kernel
theorem dX12_copies_11 : decode mX12_copies.2.1 11 = .ok (.iaload, 1) := by decide +kernel
theorem dX12_copies_12 : decode mX12_copies.2.1 12 = .ok (.iastore, 1) := by decide +kernel
theorem dX12_copies_13 : decode mX12_copies.2.1 13 = .ok (.aload_n 0, 1) := by decide +kernel
theorem dX12_copies_14 : decode mX12_copies.2.1 14 = .ok (.getfield 20, 3) := by decide +kernel
theorem dX12_copies_17 : decode mX12_copies.2.1 17 = .ok (.iload_n 1, 1) := by decide +kernel
theorem dX12_copies_18 : decode mX12_copies.2.1 18 = .ok (.aload_n 0, 1) := by decide +kernel
theorem dX12_copies_19 : decode mX12_copies.2.1 19 = .ok (.getfield 20, 3) := by decide +kernel
theorem dX12_copies_22 : decode mX12_copies.2.1 22 = .ok (.bipush 6, 2) := by decide +kernel
theorem dX12_copies_24 : decode mX12_copies.2.1 24 = .ok (.iaload, 1) := by decide +kernel
theorem dX12_copies_25 : decode mX12_copies.2.1 25 = .ok (.iastore, 1) := by decide +kernel
theorem dX12_copies_26 : decode mX12_copies.2.1 26 = .ok (.iconst 0, 1) := by decide +kernel
theorem dX12_copies_27 : decode mX12_copies.2.1 27 = .ok (.istore_n 2, 1) := by decide +kernel
theorem dX12_copies_28 : decode mX12_copies.2.1 28 = .ok (.iload_n 2, 1) := by decide +kernel
theorem dX12_copies_29 : decode mX12_copies.2.1 29 = .ok (.bipush 30, 2) := by decide +kernel
theorem dX12_copies_31 : decode mX12_copies.2.1 31 = .ok (.if_icmp .ge 129, 3) := by decide +kernel
theorem dX12_copies_34 : decode mX12_copies.2.1 34 = .ok (.aload_n 0, 1) := by decide +kernel
theorem dX12_copies_35 : decode mX12_copies.2.1 35 = .ok (.getfield 25, 3) := by decide +kernel
theorem dX12_copies_38 : decode mX12_copies.2.1 38 = .ok (.iload_n 1, 1) := by decide +kernel
theorem dX12_copies_39 : decode mX12_copies.2.1 39 = .ok (.aaload, 1) := by decide +kernel
theorem dX12_copies_40 : decode mX12_copies.2.1 40 = .ok (.iload_n 2, 1) := by decide +kernel
theorem dX12_copies_41 : decode mX12_copies.2.1 41 = .ok (.aload_n 0, 1) := by decide +kernel
theorem dX12_copies_42 : decode mX12_copies.2.1 42 = .ok (.getfield 25, 3) := by decide +kernel
theorem dX12_copies_45 : decode mX12_copies.2.1 45 = .ok (.bipush 6, 2) := by decide +kernel
theorem dX12_copies_47 : decode mX12_copies.2.1 47 = .ok (.aaload, 1) := by decide +kernel
theorem dX12_copies_48 : decode mX12_copies.2.1 48 = .ok (.iload_n 2, 1) := by decide +kernel
theorem dX12_copies_49 : decode mX12_copies.2.1 49 = .ok (.iaload, 1) := by decide +kernel
theorem dX12_copies_50 : decode mX12_copies.2.1 50 = .ok (.iastore, 1) := by decide +kernel
theorem dX12_copies_51 : decode mX12_copies.2.1 51 = .ok (.aload_n 0, 1) := by decide +kernel
theorem dX12_copies_52 : decode mX12_copies.2.1 52 = .ok (.getfield 28, 3) := by decide +kernel
theorem dX12_copies_55 : decode mX12_copies.2.1 55 = .ok (.iload_n 1, 1) := by decide +kernel
theorem dX12_copies_56 : decode mX12_copies.2.1 56 = .ok (.aaload, 1) := by decide +kernel
theorem dX12_copies_57 : decode mX12_copies.2.1 57 = .ok (.iload_n 2, 1) := by decide +kernel
theorem dX12_copies_58 : decode mX12_copies.2.1 58 = .ok (.aload_n 0, 1) := by decide +kernel
theorem dX12_copies_59 : decode mX12_copies.2.1 59 = .ok (.getfield 28, 3) := by decide +kernel
theorem dX12_copies_62 : decode mX12_copies.2.1 62 = .ok (.bipush 6, 2) := by decide +kernel
theorem dX12_copies_64 : decode mX12_copies.2.1 64 = .ok (.aaload, 1) := by decide +kernel
theorem dX12_copies_65 : decode mX12_copies.2.1 65 = .ok (.iload_n 2, 1) := by decide +kernel
theorem dX12_copies_66 : decode mX12_copies.2.1 66 = .ok (.iaload, 1) := by decide +kernel
theorem dX12_copies_67 : decode mX12_copies.2.1 67 = .ok (.iastore, 1) := by decide +kernel
theorem dX12_copies_68 : decode mX12_copies.2.1 68 = .ok (.aload_n 0, 1) := by decide +kernel
theorem dX12_copies_69 : decode mX12_copies.2.1 69 = .ok (.getfield 31, 3) := by decide +kernel
theorem dX12_copies_72 : decode mX12_copies.2.1 72 = .ok (.iload_n 1, 1) := by decide +kernel
theorem dX12_copies_73 : decode mX12_copies.2.1 73 = .ok (.aaload, 1) := by decide +kernel
theorem dX12_copies_74 : decode mX12_copies.2.1 74 = .ok (.iload_n 2, 1) := by decide +kernel
theorem dX12_copies_75 : decode mX12_copies.2.1 75 = .ok (.aload_n 0, 1) := by decide +kernel
theorem dX12_copies_76 : decode mX12_copies.2.1 76 = .ok (.getfield 31, 3) := by decide +kernel
theorem dX12_copies_79 : decode mX12_copies.2.1 79 = .ok (.bipush 6, 2) := by decide +kernel
theorem dX12_copies_81 : decode mX12_copies.2.1 81 = .ok (.aaload, 1) := by decide +kernel
theorem dX12_copies_82 : decode mX12_copies.2.1 82 = .ok (.iload_n 2, 1) := by decide +kernel
theorem dX12_copies_83 : decode mX12_copies.2.1 83 = .ok (.iaload, 1) := by decide +kernel
theorem dX12_copies_84 : decode mX12_copies.2.1 84 = .ok (.iastore, 1) := by decide +kernel
theorem dX12_copies_85 : decode mX12_copies.2.1 85 = .ok (.iconst 0, 1) := by decide +kernel
theorem dX12_copies_86 : decode mX12_copies.2.1 86 = .ok (.istore_n 3, 1) := by decide +kernel
theorem dX12_copies_87 : decode mX12_copies.2.1 87 = .ok (.iload_n 3, 1) := by decide +kernel
theorem dX12_copies_88 : decode mX12_copies.2.1 88 = .ok (.iconst 4, 1) := by decide +kernel
theorem dX12_copies_89 : decode mX12_copies.2.1 89 = .ok (.if_icmp .ge 30, 3) := by decide +kernel
theorem dX12_copies_92 : decode mX12_copies.2.1 92 = .ok (.aload_n 0, 1) := by decide +kernel
theorem dX12_copies_93 : decode mX12_copies.2.1 93 = .ok (.getfield 36, 3) := by decide +kernel
theorem dX12_copies_96 : decode mX12_copies.2.1 96 = .ok (.iload_n 1, 1) := by decide +kernel
theorem dX12_copies_97 : decode mX12_copies.2.1 97 = .ok (.aaload, 1) := by decide +kernel
theorem dX12_copies_98 : decode mX12_copies.2.1 98 = .ok (.iload_n 2, 1) := by decide +kernel
theorem dX12_copies_99 : decode mX12_copies.2.1 99 = .ok (.aaload, 1) := by decide +kernel
theorem dX12_copies_100 : decode mX12_copies.2.1 100 = .ok (.iload_n 3, 1) := by decide +kernel
theorem dX12_copies_101 : decode mX12_copies.2.1 101 = .ok (.aload_n 0, 1) := by decide +kernel
theorem dX12_copies_102 : decode mX12_copies.2.1 102 = .ok (.getfield 36, 3) := by decide +kernel
theorem dX12_copies_105 : decode mX12_copies.2.1 105 = .ok (.bipush 6, 2) := by decide +kernel
theorem dX12_copies_107 : decode mX12_copies.2.1 107 = .ok (.aaload, 1) := by decide +kernel
theorem dX12_copies_108 : decode mX12_copies.2.1 108 = .ok (.iload_n 2, 1) := by decide +kernel
theorem dX12_copies_109 : decode mX12_copies.2.1 109 = .ok (.aaload, 1) := by decide +kernel
theorem dX12_copies_110 : decode mX12_copies.2.1 110 = .ok (.iload_n 3, 1) := by decide +kernel
theorem dX12_copies_111 : decode mX12_copies.2.1 111 = .ok (.iaload, 1) := by decide +kernel
theorem dX12_copies_112 : decode mX12_copies.2.1 112 = .ok (.iastore, 1) := by decide +kernel
theorem dX12_copies_113 : decode mX12_copies.2.1 113 = .ok (.iinc 3 1, 3) := by decide +kernel
theorem dX12_copies_116 : decode mX12_copies.2.1 116 = .ok (.goto (-29), 3) := by decide +kernel
theorem dX12_copies_119 : decode mX12_copies.2.1 119 = .ok (.iconst 0, 1) := by decide +kernel
theorem dX12_copies_120 : decode mX12_copies.2.1 120 = .ok (.istore_n 3, 1) := by decide +kernel
theorem dX12_copies_121 : decode mX12_copies.2.1 121 = .ok (.iload_n 3, 1) := by decide +kernel
theorem dX12_copies_122 : decode mX12_copies.2.1 122 = .ok (.bipush 12, 2) := by decide +kernel
theorem dX12_copies_124 : decode mX12_copies.2.1 124 = .ok (.if_icmp .ge 30, 3) := by decide +kernel
theorem dX12_copies_127 : decode mX12_copies.2.1 127 = .ok (.aload_n 0, 1) := by decide +kernel
theorem dX12_copies_128 : decode mX12_copies.2.1 128 = .ok (.getfield 39, 3) := by decide +kernel
theorem dX12_copies_131 : decode mX12_copies.2.1 131 = .ok (.iload_n 1, 1) := by decide +kernel
theorem dX12_copies_132 : decode mX12_copies.2.1 132 = .ok (.aaload, 1) := by decide +kernel
theorem dX12_copies_133 : decode mX12_copies.2.1 133 = .ok (.iload_n 2, 1) := by decide +kernel
theorem dX12_copies_134 : decode mX12_copies.2.1 134 = .ok (.aaload, 1) := by decide +kernel
theorem dX12_copies_135 : decode mX12_copies.2.1 135 = .ok (.iload_n 3, 1) := by decide +kernel
theorem dX12_copies_136 : decode mX12_copies.2.1 136 = .ok (.aload_n 0, 1) := by decide +kernel
theorem dX12_copies_137 : decode mX12_copies.2.1 137 = .ok (.getfield 39, 3) := by decide +kernel
theorem dX12_copies_140 : decode mX12_copies.2.1 140 = .ok (.bipush 6, 2) := by decide +kernel
theorem dX12_copies_142 : decode mX12_copies.2.1 142 = .ok (.aaload, 1) := by decide +kernel
theorem dX12_copies_143 : decode mX12_copies.2.1 143 = .ok (.iload_n 2, 1) := by decide +kernel
theorem dX12_copies_144 : decode mX12_copies.2.1 144 = .ok (.aaload, 1) := by decide +kernel
theorem dX12_copies_145 : decode mX12_copies.2.1 145 = .ok (.iload_n 3, 1) := by decide +kernel
theorem dX12_copies_146 : decode mX12_copies.2.1 146 = .ok (.iaload, 1) := by decide +kernel
theorem dX12_copies_147 : decode mX12_copies.2.1 147 = .ok (.iastore, 1) := by decide +kernel
theorem dX12_copies_148 : decode mX12_copies.2.1 148 = .ok (.iinc 3 1, 3) := by decide +kernel
theorem dX12_copies_151 : decode mX12_copies.2.1 151 = .ok (.goto (-30), 3) := by decide +kernel
theorem dX12_copies_154 : decode mX12_copies.2.1 154 = .ok (.iinc 2 1, 3) := by decide +kernel
theorem dX12_copies_157 : decode mX12_copies.2.1 157 = .ok (.goto (-129), 3) := by decide +kernel
theorem dX12_copies_160 : decode mX12_copies.2.1 160 = .ok (.iconst 0, 1) := by decide +kernel
theorem dX12_copies_161 : decode mX12_copies.2.1 161 = .ok (.istore_n 2, 1) := by decide +kernel
theorem dX12_copies_162 : decode mX12_copies.2.1 162 = .ok (.iload_n 2, 1) := by decide +kernel
theorem dX12_copies_163 : decode mX12_copies.2.1 163 = .ok (.iconst 4, 1) := by decide +kernel
theorem dX12_copies_164 : decode mX12_copies.2.1 164 = .ok (.if_icmp .ge 26, 3) := by decide +kernel
theorem dX12_copies_167 : decode mX12_copies.2.1 167 = .ok (.aload_n 0, 1) := by decide +kernel
theorem dX12_copies_168 : decode mX12_copies.2.1 168 = .ok (.getfield 42, 3) := by decide +kernel
theorem dX12_copies_171 : decode mX12_copies.2.1 171 = .ok (.iload_n 1, 1) := by decide +kernel
theorem dX12_copies_172 : decode mX12_copies.2.1 172 = .ok (.aaload, 1) := by decide +kernel
theorem dX12_copies_173 : decode mX12_copies.2.1 173 = .ok (.iload_n 2, 1) := by decide +kernel
theorem dX12_copies_174 : decode mX12_copies.2.1 174 = .ok (.aload_n 0, 1) := by decide +kernel
theorem dX12_copies_175 : decode mX12_copies.2.1 175 = .ok (.getfield 42, 3) := by decide +kernel
theorem dX12_copies_178 : decode mX12_copies.2.1 178 = .ok (.bipush 6, 2) := by decide +kernel
theorem dX12_copies_180 : decode mX12_copies.2.1 180 = .ok (.aaload, 1) := by decide +kernel
theorem dX12_copies_181 : decode mX12_copies.2.1 181 = .ok (.iload_n 2, 1) := by decide +kernel
theorem dX12_copies_182 : decode mX12_copies.2.1 182 = .ok (.iaload, 1) := by decide +kernel
theorem dX12_copies_183 : decode mX12_copies.2.1 183 = .ok (.iastore, 1) := by decide +kernel
theorem dX12_copies_184 : decode mX12_copies.2.1 184 = .ok (.iinc 2 1, 3) := by decide +kernel
theorem dX12_copies_187 : decode mX12_copies.2.1 187 = .ok (.goto (-25), 3) := by decide +kernel
theorem dX12_copies_190 : decode mX12_copies.2.1 190 = .ok (.iconst 0, 1) := by decide +kernel
theorem dX12_copies_191 : decode mX12_copies.2.1 191 = .ok (.istore_n 2, 1) := by decide +kernel
theorem dX12_copies_192 : decode mX12_copies.2.1 192 = .ok (.iload_n 2, 1) := by decide +kernel
theorem dX12_copies_193 : decode mX12_copies.2.1 193 = .ok (.bipush 8, 2) := by decide +kernel
theorem dX12_copies_195 : decode mX12_copies.2.1 195 = .ok (.if_icmp .ge 43, 3) := by decide +kernel
theorem dX12_copies_198 : decode mX12_copies.2.1 198 = .ok (.aload_n 0, 1) := by decide +kernel
theorem dX12_copies_199 : decode mX12_copies.2.1 199 = .ok (.getfield 45, 3) := by decide +kernel
theorem dX12_copies_202 : decode mX12_copies.2.1 202 = .ok (.iload_n 1, 1) := by decide +kernel
theorem dX12_copies_203 : decode mX12_copies.2.1 203 = .ok (.aaload, 1) := by decide +kernel
theorem dX12_copies_204 : decode mX12_copies.2.1 204 = .ok (.iload_n 2, 1) := by decide +kernel
theorem dX12_copies_205 : decode mX12_copies.2.1 205 = .ok (.aload_n 0, 1) := by decide +kernel
theorem dX12_copies_206 : decode mX12_copies.2.1 206 = .ok (.getfield 45, 3) := by decide +kernel
theorem dX12_copies_209 : decode mX12_copies.2.1 209 = .ok (.bipush 6, 2) := by decide +kernel
theorem dX12_copies_211 : decode mX12_copies.2.1 211 = .ok (.aaload, 1) := by decide +kernel
theorem dX12_copies_212 : decode mX12_copies.2.1 212 = .ok (.iload_n 2, 1) := by decide +kernel
theorem dX12_copies_213 : decode mX12_copies.2.1 213 = .ok (.iaload, 1) := by decide +kernel
theorem dX12_copies_214 : decode mX12_copies.2.1 214 = .ok (.iastore, 1) := by decide +kernel
theorem dX12_copies_215 : decode mX12_copies.2.1 215 = .ok (.aload_n 0, 1) := by decide +kernel
theorem dX12_copies_216 : decode mX12_copies.2.1 216 = .ok (.getfield 48, 3) := by decide +kernel
theorem dX12_copies_219 : decode mX12_copies.2.1 219 = .ok (.iload_n 1, 1) := by decide +kernel
theorem dX12_copies_220 : decode mX12_copies.2.1 220 = .ok (.aaload, 1) := by decide +kernel
theorem dX12_copies_221 : decode mX12_copies.2.1 221 = .ok (.iload_n 2, 1) := by decide +kernel
theorem dX12_copies_222 : decode mX12_copies.2.1 222 = .ok (.aload_n 0, 1) := by decide +kernel
theorem dX12_copies_223 : decode mX12_copies.2.1 223 = .ok (.getfield 48, 3) := by decide +kernel
theorem dX12_copies_226 : decode mX12_copies.2.1 226 = .ok (.bipush 6, 2) := by decide +kernel
theorem dX12_copies_228 : decode mX12_copies.2.1 228 = .ok (.aaload, 1) := by decide +kernel
theorem dX12_copies_229 : decode mX12_copies.2.1 229 = .ok (.iload_n 2, 1) := by decide +kernel
theorem dX12_copies_230 : decode mX12_copies.2.1 230 = .ok (.iaload, 1) := by decide +kernel
theorem dX12_copies_231 : decode mX12_copies.2.1 231 = .ok (.iastore, 1) := by decide +kernel
theorem dX12_copies_232 : decode mX12_copies.2.1 232 = .ok (.iinc 2 1, 3) := by decide +kernel
theorem dX12_copies_235 : decode mX12_copies.2.1 235 = .ok (.goto (-43), 3) := by decide +kernel
theorem dX12_copies_238 : decode mX12_copies.2.1 238 = .ok (.aload_n 0, 1) := by decide +kernel
theorem dX12_copies_239 : decode mX12_copies.2.1 239 = .ok (.getfield 51, 3) := by decide +kernel
theorem dX12_copies_242 : decode mX12_copies.2.1 242 = .ok (.iload_n 1, 1) := by decide +kernel
theorem dX12_copies_243 : decode mX12_copies.2.1 243 = .ok (.aload_n 0, 1) := by decide +kernel
theorem dX12_copies_244 : decode mX12_copies.2.1 244 = .ok (.getfield 51, 3) := by decide +kernel
theorem dX12_copies_247 : decode mX12_copies.2.1 247 = .ok (.bipush 6, 2) := by decide +kernel
theorem dX12_copies_249 : decode mX12_copies.2.1 249 = .ok (.iaload, 1) := by decide +kernel
theorem dX12_copies_250 : decode mX12_copies.2.1 250 = .ok (.iastore, 1) := by decide +kernel
theorem dX12_copies_251 : decode mX12_copies.2.1 251 = .ok (.aload_n 0, 1) := by decide +kernel
theorem dX12_copies_252 : decode mX12_copies.2.1 252 = .ok (.getfield 54, 3) := by decide +kernel
theorem dX12_copies_255 : decode mX12_copies.2.1 255 = .ok (.iload_n 1, 1) := by decide +kernel
theorem dX12_copies_256 : decode mX12_copies.2.1 256 = .ok (.aload_n 0, 1) := by decide +kernel
theorem dX12_copies_257 : decode mX12_copies.2.1 257 = .ok (.getfield 54, 3) := by decide +kernel
theorem dX12_copies_260 : decode mX12_copies.2.1 260 = .ok (.bipush 6, 2) := by decide +kernel
theorem dX12_copies_262 : decode mX12_copies.2.1 262 = .ok (.iaload, 1) := by decide +kernel
theorem dX12_copies_263 : decode mX12_copies.2.1 263 = .ok (.iastore, 1) := by decide +kernel
theorem dX12_copies_264 : decode mX12_copies.2.1 264 = .ok (.aload_n 0, 1) := by decide +kernel
theorem dX12_copies_265 : decode mX12_copies.2.1 265 = .ok (.getfield 57, 3) := by decide +kernel
theorem dX12_copies_268 : decode mX12_copies.2.1 268 = .ok (.iload_n 1, 1) := by decide +kernel
theorem dX12_copies_269 : decode mX12_copies.2.1 269 = .ok (.aload_n 0, 1) := by decide +kernel
theorem dX12_copies_270 : decode mX12_copies.2.1 270 = .ok (.getfield 57, 3) := by decide +kernel
theorem dX12_copies_273 : decode mX12_copies.2.1 273 = .ok (.bipush 6, 2) := by decide +kernel
theorem dX12_copies_275 : decode mX12_copies.2.1 275 = .ok (.iaload, 1) := by decide +kernel
theorem dX12_copies_276 : decode mX12_copies.2.1 276 = .ok (.iastore, 1) := by decide +kernel
theorem dX12_copies_277 : decode mX12_copies.2.1 277 = .ok (.aload_n 0, 1) := by decide +kernel
theorem dX12_copies_278 : decode mX12_copies.2.1 278 = .ok (.getfield 60, 3) := by decide +kernel
theorem dX12_copies_281 : decode mX12_copies.2.1 281 = .ok (.iload_n 1, 1) := by decide +kernel
theorem dX12_copies_282 : decode mX12_copies.2.1 282 = .ok (.aload_n 0, 1) := by decide +kernel
theorem dX12_copies_283 : decode mX12_copies.2.1 283 = .ok (.getfield 60, 3) := by decide +kernel
theorem dX12_copies_286 : decode mX12_copies.2.1 286 = .ok (.bipush 6, 2) := by decide +kernel
theorem dX12_copies_288 : decode mX12_copies.2.1 288 = .ok (.iaload, 1) := by decide +kernel
theorem dX12_copies_289 : decode mX12_copies.2.1 289 = .ok (.iastore, 1) := by decide +kernel
theorem dX12_copies_290 : decode mX12_copies.2.1 290 = .ok (.aload_n 0, 1) := by decide +kernel
theorem dX12_copies_291 : decode mX12_copies.2.1 291 = .ok (.getfield 63, 3) := by decide +kernel
theorem dX12_copies_294 : decode mX12_copies.2.1 294 = .ok (.iload_n 1, 1) := by decide +kernel
theorem dX12_copies_295 : decode mX12_copies.2.1 295 = .ok (.aload_n 0, 1) := by decide +kernel
theorem dX12_copies_296 : decode mX12_copies.2.1 296 = .ok (.getfield 63, 3) := by decide +kernel
theorem dX12_copies_299 : decode mX12_copies.2.1 299 = .ok (.bipush 6, 2) := by decide +kernel
theorem dX12_copies_301 : decode mX12_copies.2.1 301 = .ok (.iaload, 1) := by decide +kernel
theorem dX12_copies_302 : decode mX12_copies.2.1 302 = .ok (.iastore, 1) := by decide +kernel
theorem dX12_copies_303 : decode mX12_copies.2.1 303 = .ok (.return_, 1) := by decide +kernel
theorem bX12_copies_0 {SC : Nat → Nat} {X : mh_X} {d : Nat} {Q : Option am_V → am_W → Prop} {bc bs : Nat} {w : am_W} {x1 : Int}
    (h : (0 ≤ x1 ∧ (x1 < 7 ∧ am_A (mh_G X) SC (d + 1) mX12_copies Q 28 [(0, .inr (.inr (some (9, 0)))), (1, .inl x1), (2, .inl 0)] [] ((am_up (am_up w.1 68 0 x1.toNat (w.1 68 0 6)) 69 0 x1.toNat (w.1 69 0 6)), w.2) bc bs))) :
    am_A (mh_G X) SC (d + 1) mX12_copies Q 0 [(0, .inr (.inr (some (9, 0)))), (1, .inl x1)] [] w bc bs := by
  refine am_aload_n dX12_copies_0 (List.Mem.head _) ?_
  refine am_getf (f := 6) (v := .inr (.inr (some (68, 0)))) dX12_copies_1 hc_10 (by decide) wd_1555 (by decide) rfl rfl ?_
  refine am_iload_n dX12_copies_4 (List.Mem.tail _ (List.Mem.head _)) ?_
  refine am_aload_n dX12_copies_5 (List.Mem.head _) ?_
  refine am_getf (f := 6) (v := .inr (.inr (some (68, 0)))) dX12_copies_6 hc_10 (by decide) wd_1555 (by decide) rfl rfl ?_
  refine am_bipush dX12_copies_9 (by decide) (by unfold am_rg; omega) ?_
  refine am_iaload (v := (w.1 68 0 6)) dX12_copies_11 (by decide) rfl (by decide) (show (6 : Int) < (7 : Nat) by decide) rfl ?_
  have o1 := h.1
  replace h := h.2
  have o2 := h.1
  replace h := h.2
  refine am_iastore dX12_copies_12 (Or.inl (by decide)) rfl o1 o2 ?_
  refine am_aload_n dX12_copies_13 (List.Mem.head _) ?_
  refine am_getf (f := 7) (v := .inr (.inr (some (69, 0)))) dX12_copies_14 hc_10 (by decide) wd_1556 (by decide) rfl rfl ?_
  refine am_iload_n dX12_copies_17 (List.Mem.tail _ (List.Mem.head _)) ?_
  refine am_aload_n dX12_copies_18 (List.Mem.head _) ?_
  refine am_getf (f := 7) (v := .inr (.inr (some (69, 0)))) dX12_copies_19 hc_10 (by decide) wd_1556 (by decide) rfl rfl ?_
  refine am_bipush dX12_copies_22 (by decide) (by unfold am_rg; omega) ?_
  refine am_iaload (v := (w.1 69 0 6)) dX12_copies_24 (by decide) rfl (by decide) (show (6 : Int) < (7 : Nat) by decide) rfl ?_
  refine am_iastore dX12_copies_25 (Or.inl (by decide)) rfl o1 o2 ?_
  refine am_iconst dX12_copies_26 (by unfold am_rg; omega) ?_
  refine am_istore_n (ls' := [(2, .inl 0), (0, .inr (.inr (some (9, 0)))), (1, .inl x1)]) dX12_copies_27 (by decide) rfl ?_
  exact am_sub [1, 2, 0] rfl h
theorem bX12_copies_28 {SC : Nat → Nat} {X : mh_X} {d : Nat} {Q : Option am_V → am_W → Prop} {bc bs : Nat} {w : am_W} {x1 : Int} {x2 : Int}
    (h : ((30 ≤ x2 → am_A (mh_G X) SC (d + 1) mX12_copies Q 162 [(0, .inr (.inr (some (9, 0)))), (1, .inl x1), (2, .inl 0)] [] w bc bs) ∧ (¬ 30 ≤ x2 → (0 ≤ x1 ∧ (x1 < 7 ∧ (0 ≤ x2 ∧ (x2 < 30 ∧ am_A (mh_G X) SC (d + 1) mX12_copies Q 87 [(0, .inr (.inr (some (9, 0)))), (1, .inl x1), (2, .inl x2), (3, .inl 0)] [] ((am_up (am_up (am_up w.1 71 x1.toNat x2.toNat (w.1 71 6 x2.toNat)) 73 x1.toNat x2.toNat (w.1 73 6 x2.toNat)) 75 x1.toNat x2.toNat (w.1 75 6 x2.toNat)), w.2) bc bs))))))) :
    am_A (mh_G X) SC (d + 1) mX12_copies Q 28 [(0, .inr (.inr (some (9, 0)))), (1, .inl x1), (2, .inl x2)] [] w bc bs := by
  refine am_iload_n dX12_copies_28 (List.Mem.tail _ (List.Mem.tail _ (List.Mem.head _))) ?_
  refine am_bipush dX12_copies_29 (by decide) (by unfold am_rg; omega) ?_
  refine am_icmpge (tgt := 160) dX12_copies_31 (by decide) (fun c1 => ?_) (fun c1 => ?_)
  · replace h := h.1 c1
    refine am_iconst dX12_copies_160 (by unfold am_rg; omega) ?_
    refine am_istore_n (ls' := [(2, .inl 0), (0, .inr (.inr (some (9, 0)))), (1, .inl x1)]) dX12_copies_161 (by decide) rfl ?_
    exact am_sub [1, 2, 0] rfl h
  · replace h := h.2 c1
    refine am_aload_n dX12_copies_34 (List.Mem.head _) ?_
    refine am_getf (f := 8) (v := .inr (.inr (some (70, 0)))) dX12_copies_35 hc_10 (by decide) wd_1557 (by decide) rfl rfl ?_
    refine am_iload_n dX12_copies_38 (List.Mem.tail _ (List.Mem.head _)) ?_
    have o2 := h.1
    replace h := h.2
    have o3 := h.1
    replace h := h.2
    refine am_aaload (kd := 5) (r := some (71, x1.toNat)) dX12_copies_39 (by decide) rfl (by decide) (by decide) o2 o3 rfl ?_
    refine am_iload_n dX12_copies_40 (List.Mem.tail _ (List.Mem.tail _ (List.Mem.head _))) ?_
    refine am_aload_n dX12_copies_41 (List.Mem.head _) ?_
    refine am_getf (f := 8) (v := .inr (.inr (some (70, 0)))) dX12_copies_42 hc_10 (by decide) wd_1557 (by decide) rfl rfl ?_
    refine am_bipush dX12_copies_45 (by decide) (by unfold am_rg; omega) ?_
    refine am_aaload (kd := 5) (r := some (71, 6)) dX12_copies_47 (by decide) rfl (by decide) (by decide) (by decide) (show (6 : Int) < (7 : Nat) by decide) rfl ?_
    refine am_iload_n dX12_copies_48 (List.Mem.tail _ (List.Mem.tail _ (List.Mem.head _))) ?_
    have o4 := h.1
    replace h := h.2
    have o5 := h.1
    replace h := h.2
    refine am_iaload (v := (w.1 71 6 x2.toNat)) dX12_copies_49 (by decide) rfl o4 o5 rfl ?_
    refine am_iastore dX12_copies_50 (Or.inl (by decide)) rfl o4 o5 ?_
    refine am_aload_n dX12_copies_51 (List.Mem.head _) ?_
    refine am_getf (f := 9) (v := .inr (.inr (some (72, 0)))) dX12_copies_52 hc_10 (by decide) wd_1558 (by decide) rfl rfl ?_
    refine am_iload_n dX12_copies_55 (List.Mem.tail _ (List.Mem.head _)) ?_
    refine am_aaload (kd := 5) (r := some (73, x1.toNat)) dX12_copies_56 (by decide) rfl (by decide) (by decide) o2 o3 rfl ?_
    refine am_iload_n dX12_copies_57 (List.Mem.tail _ (List.Mem.tail _ (List.Mem.head _))) ?_
    refine am_aload_n dX12_copies_58 (List.Mem.head _) ?_
    refine am_getf (f := 9) (v := .inr (.inr (some (72, 0)))) dX12_copies_59 hc_10 (by decide) wd_1558 (by decide) rfl rfl ?_
    refine am_bipush dX12_copies_62 (by decide) (by unfold am_rg; omega) ?_
    refine am_aaload (kd := 5) (r := some (73, 6)) dX12_copies_64 (by decide) rfl (by decide) (by decide) (by decide) (show (6 : Int) < (7 : Nat) by decide) rfl ?_
    refine am_iload_n dX12_copies_65 (List.Mem.tail _ (List.Mem.tail _ (List.Mem.head _))) ?_
    refine am_iaload (v := (w.1 73 6 x2.toNat)) dX12_copies_66 (by decide) rfl o4 o5 rfl ?_
    refine am_iastore dX12_copies_67 (Or.inl (by decide)) rfl o4 o5 ?_
    refine am_aload_n dX12_copies_68 (List.Mem.head _) ?_
    refine am_getf (f := 10) (v := .inr (.inr (some (74, 0)))) dX12_copies_69 hc_10 (by decide) wd_1559 (by decide) rfl rfl ?_
    refine am_iload_n dX12_copies_72 (List.Mem.tail _ (List.Mem.head _)) ?_
    refine am_aaload (kd := 5) (r := some (75, x1.toNat)) dX12_copies_73 (by decide) rfl (by decide) (by decide) o2 o3 rfl ?_
    refine am_iload_n dX12_copies_74 (List.Mem.tail _ (List.Mem.tail _ (List.Mem.head _))) ?_
    refine am_aload_n dX12_copies_75 (List.Mem.head _) ?_
    refine am_getf (f := 10) (v := .inr (.inr (some (74, 0)))) dX12_copies_76 hc_10 (by decide) wd_1559 (by decide) rfl rfl ?_
    refine am_bipush dX12_copies_79 (by decide) (by unfold am_rg; omega) ?_
    refine am_aaload (kd := 5) (r := some (75, 6)) dX12_copies_81 (by decide) rfl (by decide) (by decide) (by decide) (show (6 : Int) < (7 : Nat) by decide) rfl ?_
    refine am_iload_n dX12_copies_82 (List.Mem.tail _ (List.Mem.tail _ (List.Mem.head _))) ?_
    refine am_iaload (v := (w.1 75 6 x2.toNat)) dX12_copies_83 (by decide) rfl o4 o5 rfl ?_
    refine am_iastore dX12_copies_84 (Or.inl (by decide)) rfl o4 o5 ?_
    refine am_iconst dX12_copies_85 (by unfold am_rg; omega) ?_
    refine am_istore_n (ls' := [(3, .inl 0), (0, .inr (.inr (some (9, 0)))), (1, .inl x1), (2, .inl x2)]) dX12_copies_86 (by decide) rfl ?_
    exact am_sub [1, 2, 3, 0] rfl h
theorem bX12_copies_162 {SC : Nat → Nat} {X : mh_X} {d : Nat} {Q : Option am_V → am_W → Prop} {bc bs : Nat} {w : am_W} {x1 : Int} {x2 : Int}
    (h : ((4 ≤ x2 → am_A (mh_G X) SC (d + 1) mX12_copies Q 192 [(0, .inr (.inr (some (9, 0)))), (1, .inl x1), (2, .inl 0)] [] w bc bs) ∧ (¬ 4 ≤ x2 → (0 ≤ x1 ∧ (x1 < 7 ∧ (0 ≤ x2 ∧ (x2 < 4 ∧ am_A (mh_G X) SC (d + 1) mX12_copies Q 162 [(0, .inr (.inr (some (9, 0)))), (1, .inl x1), (2, .inl (am_w (x2 + 1)))] [] ((am_up w.1 83 x1.toNat x2.toNat (w.1 83 6 x2.toNat)), w.2) bc bs))))))) :
    am_A (mh_G X) SC (d + 1) mX12_copies Q 162 [(0, .inr (.inr (some (9, 0)))), (1, .inl x1), (2, .inl x2)] [] w bc bs := by
  refine am_iload_n dX12_copies_162 (List.Mem.tail _ (List.Mem.tail _ (List.Mem.head _))) ?_
  refine am_iconst dX12_copies_163 (by unfold am_rg; omega) ?_
  refine am_icmpge (tgt := 190) dX12_copies_164 (by decide) (fun c1 => ?_) (fun c1 => ?_)
  · replace h := h.1 c1
    refine am_iconst dX12_copies_190 (by unfold am_rg; omega) ?_
    refine am_istore_n (ls' := [(2, .inl 0), (0, .inr (.inr (some (9, 0)))), (1, .inl x1)]) dX12_copies_191 (by decide) rfl ?_
    exact am_sub [1, 2, 0] rfl h
  · replace h := h.2 c1
    refine am_aload_n dX12_copies_167 (List.Mem.head _) ?_
    refine am_getf (f := 13) (v := .inr (.inr (some (82, 0)))) dX12_copies_168 hc_10 (by decide) wd_1562 (by decide) rfl rfl ?_
    refine am_iload_n dX12_copies_171 (List.Mem.tail _ (List.Mem.head _)) ?_
    have o2 := h.1
    replace h := h.2
    have o3 := h.1
    replace h := h.2
    refine am_aaload (kd := 5) (r := some (83, x1.toNat)) dX12_copies_172 (by decide) rfl (by decide) (by decide) o2 o3 rfl ?_
    refine am_iload_n dX12_copies_173 (List.Mem.tail _ (List.Mem.tail _ (List.Mem.head _))) ?_
    refine am_aload_n dX12_copies_174 (List.Mem.head _) ?_
    refine am_getf (f := 13) (v := .inr (.inr (some (82, 0)))) dX12_copies_175 hc_10 (by decide) wd_1562 (by decide) rfl rfl ?_
    refine am_bipush dX12_copies_178 (by decide) (by unfold am_rg; omega) ?_
    refine am_aaload (kd := 5) (r := some (83, 6)) dX12_copies_180 (by decide) rfl (by decide) (by decide) (by decide) (show (6 : Int) < (7 : Nat) by decide) rfl ?_
    refine am_iload_n dX12_copies_181 (List.Mem.tail _ (List.Mem.tail _ (List.Mem.head _))) ?_
    have o4 := h.1
    replace h := h.2
    have o5 := h.1
    replace h := h.2
    refine am_iaload (v := (w.1 83 6 x2.toNat)) dX12_copies_182 (by decide) rfl o4 o5 rfl ?_
    refine am_iastore dX12_copies_183 (Or.inl (by decide)) rfl o4 o5 ?_
    refine am_iinc (ls' := [(2, .inl (am_w (x2 + 1))), (0, .inr (.inr (some (9, 0)))), (1, .inl x1)]) dX12_copies_184 (List.Mem.tail _ (List.Mem.tail _ (List.Mem.head _))) (by decide) rfl ?_
    refine am_goto (tgt := 162) dX12_copies_187 (by decide) ?_
    exact am_sub [1, 2, 0] rfl h
theorem bX12_copies_87 {SC : Nat → Nat} {X : mh_X} {d : Nat} {Q : Option am_V → am_W → Prop} {bc bs : Nat} {w : am_W} {x1 : Int} {x2 : Int} {x3 : Int}
    (h : ((4 ≤ x3 → am_A (mh_G X) SC (d + 1) mX12_copies Q 121 [(0, .inr (.inr (some (9, 0)))), (1, .inl x1), (2, .inl x2), (3, .inl 0)] [] w bc bs) ∧ (¬ 4 ≤ x3 → (0 ≤ x1 ∧ (x1 < 7 ∧ (0 ≤ x2 ∧ (x2 < 30 ∧ (0 ≤ x3 ∧ (x3 < 4 ∧ am_A (mh_G X) SC (d + 1) mX12_copies Q 87 [(0, .inr (.inr (some (9, 0)))), (1, .inl x1), (2, .inl x2), (3, .inl (am_w (x3 + 1)))] [] ((am_up w.1 78 (30 * x1.toNat + x2.toNat) x3.toNat (w.1 78 (30 * 6 + x2.toNat) x3.toNat)), w.2) bc bs))))))))) :
    am_A (mh_G X) SC (d + 1) mX12_copies Q 87 [(0, .inr (.inr (some (9, 0)))), (1, .inl x1), (2, .inl x2), (3, .inl x3)] [] w bc bs := by
  refine am_iload_n dX12_copies_87 (List.Mem.tail _ (List.Mem.tail _ (List.Mem.tail _ (List.Mem.head _)))) ?_
  refine am_iconst dX12_copies_88 (by unfold am_rg; omega) ?_
  refine am_icmpge (tgt := 119) dX12_copies_89 (by decide) (fun c1 => ?_) (fun c1 => ?_)
  · replace h := h.1 c1
    refine am_iconst dX12_copies_119 (by unfold am_rg; omega) ?_
    refine am_istore_n (ls' := [(3, .inl 0), (0, .inr (.inr (some (9, 0)))), (1, .inl x1), (2, .inl x2)]) dX12_copies_120 (by decide) rfl ?_
    exact am_sub [1, 2, 3, 0] rfl h
  · replace h := h.2 c1
    refine am_aload_n dX12_copies_92 (List.Mem.head _) ?_
    refine am_getf (f := 11) (v := .inr (.inr (some (76, 0)))) dX12_copies_93 hc_10 (by decide) wd_1560 (by decide) rfl rfl ?_
    refine am_iload_n dX12_copies_96 (List.Mem.tail _ (List.Mem.head _)) ?_
    have o2 := h.1
    replace h := h.2
    have o3 := h.1
    replace h := h.2
    refine am_aaload (kd := 6) (r := some (77, x1.toNat)) dX12_copies_97 (by decide) rfl (by decide) (by decide) o2 o3 rfl ?_
    refine am_iload_n dX12_copies_98 (List.Mem.tail _ (List.Mem.tail _ (List.Mem.head _))) ?_
    have o4 := h.1
    replace h := h.2
    have o5 := h.1
    replace h := h.2
    refine am_aaload (kd := 5) (r := some (78, (30 * x1.toNat + x2.toNat))) dX12_copies_99 (by decide) rfl (by decide) (by decide) o4 o5 rfl ?_
    refine am_iload_n dX12_copies_100 (List.Mem.tail _ (List.Mem.tail _ (List.Mem.tail _ (List.Mem.head _)))) ?_
    refine am_aload_n dX12_copies_101 (List.Mem.head _) ?_
    refine am_getf (f := 11) (v := .inr (.inr (some (76, 0)))) dX12_copies_102 hc_10 (by decide) wd_1560 (by decide) rfl rfl ?_
    refine am_bipush dX12_copies_105 (by decide) (by unfold am_rg; omega) ?_
    refine am_aaload (kd := 6) (r := some (77, 6)) dX12_copies_107 (by decide) rfl (by decide) (by decide) (by decide) (show (6 : Int) < (7 : Nat) by decide) rfl ?_
    refine am_iload_n dX12_copies_108 (List.Mem.tail _ (List.Mem.tail _ (List.Mem.head _))) ?_
    refine am_aaload (kd := 5) (r := some (78, (30 * 6 + x2.toNat))) dX12_copies_109 (by decide) rfl (by decide) (by decide) o4 o5 rfl ?_
    refine am_iload_n dX12_copies_110 (List.Mem.tail _ (List.Mem.tail _ (List.Mem.tail _ (List.Mem.head _)))) ?_
    have o6 := h.1
    replace h := h.2
    have o7 := h.1
    replace h := h.2
    refine am_iaload (v := (w.1 78 (30 * 6 + x2.toNat) x3.toNat)) dX12_copies_111 (by decide) rfl o6 o7 rfl ?_
    refine am_iastore dX12_copies_112 (Or.inl (by decide)) rfl o6 o7 ?_
    refine am_iinc (ls' := [(3, .inl (am_w (x3 + 1))), (0, .inr (.inr (some (9, 0)))), (1, .inl x1), (2, .inl x2)]) dX12_copies_113 (List.Mem.tail _ (List.Mem.tail _ (List.Mem.tail _ (List.Mem.head _)))) (by decide) rfl ?_
    refine am_goto (tgt := 87) dX12_copies_116 (by decide) ?_
    exact am_sub [1, 2, 3, 0] rfl h
theorem bX12_copies_192 {SC : Nat → Nat} {X : mh_X} {d : Nat} {Q : Option am_V → am_W → Prop} {bc bs : Nat} {w : am_W} {x1 : Int} {x2 : Int}
    (h : ((8 ≤ x2 → (0 ≤ x1 ∧ (x1 < 7 ∧ Q none ((am_up (am_up (am_up (am_up (am_up w.1 88 0 x1.toNat (w.1 88 0 6)) 89 0 x1.toNat (w.1 89 0 6)) 90 0 x1.toNat (w.1 90 0 6)) 91 0 x1.toNat (w.1 91 0 6)) 92 0 x1.toNat (w.1 92 0 6)), w.2)))) ∧ (¬ 8 ≤ x2 → (0 ≤ x1 ∧ (x1 < 7 ∧ (0 ≤ x2 ∧ (x2 < 8 ∧ am_A (mh_G X) SC (d + 1) mX12_copies Q 192 [(0, .inr (.inr (some (9, 0)))), (1, .inl x1), (2, .inl (am_w (x2 + 1)))] [] ((am_up (am_up w.1 85 x1.toNat x2.toNat (w.1 85 6 x2.toNat)) 87 x1.toNat x2.toNat (w.1 87 6 x2.toNat)), w.2) bc bs))))))) :
    am_A (mh_G X) SC (d + 1) mX12_copies Q 192 [(0, .inr (.inr (some (9, 0)))), (1, .inl x1), (2, .inl x2)] [] w bc bs := by
  refine am_iload_n dX12_copies_192 (List.Mem.tail _ (List.Mem.tail _ (List.Mem.head _))) ?_
  refine am_bipush dX12_copies_193 (by decide) (by unfold am_rg; omega) ?_
  refine am_icmpge (tgt := 238) dX12_copies_195 (by decide) (fun c1 => ?_) (fun c1 => ?_)
  · replace h := h.1 c1
    refine am_aload_n dX12_copies_238 (List.Mem.head _) ?_
    refine am_getf (f := 16) (v := .inr (.inr (some (88, 0)))) dX12_copies_239 hc_10 (by decide) wd_1565 (by decide) rfl rfl ?_
    refine am_iload_n dX12_copies_242 (List.Mem.tail _ (List.Mem.head _)) ?_
    refine am_aload_n dX12_copies_243 (List.Mem.head _) ?_
    refine am_getf (f := 16) (v := .inr (.inr (some (88, 0)))) dX12_copies_244 hc_10 (by decide) wd_1565 (by decide) rfl rfl ?_
    refine am_bipush dX12_copies_247 (by decide) (by unfold am_rg; omega) ?_
    refine am_iaload (v := (w.1 88 0 6)) dX12_copies_249 (by decide) rfl (by decide) (show (6 : Int) < (7 : Nat) by decide) rfl ?_
    have o2 := h.1
    replace h := h.2
    have o3 := h.1
    replace h := h.2
    refine am_iastore dX12_copies_250 (Or.inl (by decide)) rfl o2 o3 ?_
    refine am_aload_n dX12_copies_251 (List.Mem.head _) ?_
    refine am_getf (f := 17) (v := .inr (.inr (some (89, 0)))) dX12_copies_252 hc_10 (by decide) wd_1566 (by decide) rfl rfl ?_
    refine am_iload_n dX12_copies_255 (List.Mem.tail _ (List.Mem.head _)) ?_
    refine am_aload_n dX12_copies_256 (List.Mem.head _) ?_
    refine am_getf (f := 17) (v := .inr (.inr (some (89, 0)))) dX12_copies_257 hc_10 (by decide) wd_1566 (by decide) rfl rfl ?_
    refine am_bipush dX12_copies_260 (by decide) (by unfold am_rg; omega) ?_
    refine am_iaload (v := (w.1 89 0 6)) dX12_copies_262 (by decide) rfl (by decide) (show (6 : Int) < (7 : Nat) by decide) rfl ?_
    refine am_iastore dX12_copies_263 (Or.inl (by decide)) rfl o2 o3 ?_
    refine am_aload_n dX12_copies_264 (List.Mem.head _) ?_
    refine am_getf (f := 18) (v := .inr (.inr (some (90, 0)))) dX12_copies_265 hc_10 (by decide) wd_1567 (by decide) rfl rfl ?_
    refine am_iload_n dX12_copies_268 (List.Mem.tail _ (List.Mem.head _)) ?_
    refine am_aload_n dX12_copies_269 (List.Mem.head _) ?_
    refine am_getf (f := 18) (v := .inr (.inr (some (90, 0)))) dX12_copies_270 hc_10 (by decide) wd_1567 (by decide) rfl rfl ?_
    refine am_bipush dX12_copies_273 (by decide) (by unfold am_rg; omega) ?_
    refine am_iaload (v := (w.1 90 0 6)) dX12_copies_275 (by decide) rfl (by decide) (show (6 : Int) < (7 : Nat) by decide) rfl ?_
    refine am_iastore dX12_copies_276 (Or.inl (by decide)) rfl o2 o3 ?_
    refine am_aload_n dX12_copies_277 (List.Mem.head _) ?_
    refine am_getf (f := 19) (v := .inr (.inr (some (91, 0)))) dX12_copies_278 hc_10 (by decide) wd_1568 (by decide) rfl rfl ?_
    refine am_iload_n dX12_copies_281 (List.Mem.tail _ (List.Mem.head _)) ?_
    refine am_aload_n dX12_copies_282 (List.Mem.head _) ?_
    refine am_getf (f := 19) (v := .inr (.inr (some (91, 0)))) dX12_copies_283 hc_10 (by decide) wd_1568 (by decide) rfl rfl ?_
    refine am_bipush dX12_copies_286 (by decide) (by unfold am_rg; omega) ?_
    refine am_iaload (v := (w.1 91 0 6)) dX12_copies_288 (by decide) rfl (by decide) (show (6 : Int) < (7 : Nat) by decide) rfl ?_
    refine am_iastore dX12_copies_289 (Or.inl (by decide)) rfl o2 o3 ?_
    refine am_aload_n dX12_copies_290 (List.Mem.head _) ?_
    refine am_getf (f := 20) (v := .inr (.inr (some (92, 0)))) dX12_copies_291 hc_10 (by decide) wd_1569 (by decide) rfl rfl ?_
    refine am_iload_n dX12_copies_294 (List.Mem.tail _ (List.Mem.head _)) ?_
    refine am_aload_n dX12_copies_295 (List.Mem.head _) ?_
    refine am_getf (f := 20) (v := .inr (.inr (some (92, 0)))) dX12_copies_296 hc_10 (by decide) wd_1569 (by decide) rfl rfl ?_
    refine am_bipush dX12_copies_299 (by decide) (by unfold am_rg; omega) ?_
    refine am_iaload (v := (w.1 92 0 6)) dX12_copies_301 (by decide) rfl (by decide) (show (6 : Int) < (7 : Nat) by decide) rfl ?_
    refine am_iastore dX12_copies_302 (Or.inl (by decide)) rfl o2 o3 ?_
    exact am_ret (r := none) dX12_copies_303 rfl rfl h
  · replace h := h.2 c1
    refine am_aload_n dX12_copies_198 (List.Mem.head _) ?_
    refine am_getf (f := 14) (v := .inr (.inr (some (84, 0)))) dX12_copies_199 hc_10 (by decide) wd_1563 (by decide) rfl rfl ?_
    refine am_iload_n dX12_copies_202 (List.Mem.tail _ (List.Mem.head _)) ?_
    have o4 := h.1
    replace h := h.2
    have o5 := h.1
    replace h := h.2
    refine am_aaload (kd := 5) (r := some (85, x1.toNat)) dX12_copies_203 (by decide) rfl (by decide) (by decide) o4 o5 rfl ?_
    refine am_iload_n dX12_copies_204 (List.Mem.tail _ (List.Mem.tail _ (List.Mem.head _))) ?_
    refine am_aload_n dX12_copies_205 (List.Mem.head _) ?_
    refine am_getf (f := 14) (v := .inr (.inr (some (84, 0)))) dX12_copies_206 hc_10 (by decide) wd_1563 (by decide) rfl rfl ?_
    refine am_bipush dX12_copies_209 (by decide) (by unfold am_rg; omega) ?_
    refine am_aaload (kd := 5) (r := some (85, 6)) dX12_copies_211 (by decide) rfl (by decide) (by decide) (by decide) (show (6 : Int) < (7 : Nat) by decide) rfl ?_
    refine am_iload_n dX12_copies_212 (List.Mem.tail _ (List.Mem.tail _ (List.Mem.head _))) ?_
    have o6 := h.1
    replace h := h.2
    have o7 := h.1
    replace h := h.2
    refine am_iaload (v := (w.1 85 6 x2.toNat)) dX12_copies_213 (by decide) rfl o6 o7 rfl ?_
    refine am_iastore dX12_copies_214 (Or.inl (by decide)) rfl o6 o7 ?_
    refine am_aload_n dX12_copies_215 (List.Mem.head _) ?_
    refine am_getf (f := 15) (v := .inr (.inr (some (86, 0)))) dX12_copies_216 hc_10 (by decide) wd_1564 (by decide) rfl rfl ?_
    refine am_iload_n dX12_copies_219 (List.Mem.tail _ (List.Mem.head _)) ?_
    refine am_aaload (kd := 5) (r := some (87, x1.toNat)) dX12_copies_220 (by decide) rfl (by decide) (by decide) o4 o5 rfl ?_
    refine am_iload_n dX12_copies_221 (List.Mem.tail _ (List.Mem.tail _ (List.Mem.head _))) ?_
    refine am_aload_n dX12_copies_222 (List.Mem.head _) ?_
    refine am_getf (f := 15) (v := .inr (.inr (some (86, 0)))) dX12_copies_223 hc_10 (by decide) wd_1564 (by decide) rfl rfl ?_
    refine am_bipush dX12_copies_226 (by decide) (by unfold am_rg; omega) ?_
    refine am_aaload (kd := 5) (r := some (87, 6)) dX12_copies_228 (by decide) rfl (by decide) (by decide) (by decide) (show (6 : Int) < (7 : Nat) by decide) rfl ?_
    refine am_iload_n dX12_copies_229 (List.Mem.tail _ (List.Mem.tail _ (List.Mem.head _))) ?_
    refine am_iaload (v := (w.1 87 6 x2.toNat)) dX12_copies_230 (by decide) rfl o6 o7 rfl ?_
    refine am_iastore dX12_copies_231 (Or.inl (by decide)) rfl o6 o7 ?_
    refine am_iinc (ls' := [(2, .inl (am_w (x2 + 1))), (0, .inr (.inr (some (9, 0)))), (1, .inl x1)]) dX12_copies_232 (List.Mem.tail _ (List.Mem.tail _ (List.Mem.head _))) (by decide) rfl ?_
    refine am_goto (tgt := 192) dX12_copies_235 (by decide) ?_
    exact am_sub [1, 2, 0] rfl h
theorem bX12_copies_121 {SC : Nat → Nat} {X : mh_X} {d : Nat} {Q : Option am_V → am_W → Prop} {bc bs : Nat} {w : am_W} {x1 : Int} {x2 : Int} {x3 : Int}
    (h : ((12 ≤ x3 → am_A (mh_G X) SC (d + 1) mX12_copies Q 28 [(0, .inr (.inr (some (9, 0)))), (1, .inl x1), (2, .inl (am_w (x2 + 1)))] [] w bc bs) ∧ (¬ 12 ≤ x3 → (0 ≤ x1 ∧ (x1 < 7 ∧ (0 ≤ x2 ∧ (x2 < 30 ∧ (0 ≤ x3 ∧ (x3 < 12 ∧ am_A (mh_G X) SC (d + 1) mX12_copies Q 121 [(0, .inr (.inr (some (9, 0)))), (1, .inl x1), (2, .inl x2), (3, .inl (am_w (x3 + 1)))] [] ((am_up w.1 81 (30 * x1.toNat + x2.toNat) x3.toNat (w.1 81 (30 * 6 + x2.toNat) x3.toNat)), w.2) bc bs))))))))) :
    am_A (mh_G X) SC (d + 1) mX12_copies Q 121 [(0, .inr (.inr (some (9, 0)))), (1, .inl x1), (2, .inl x2), (3, .inl x3)] [] w bc bs := by
  refine am_iload_n dX12_copies_121 (List.Mem.tail _ (List.Mem.tail _ (List.Mem.tail _ (List.Mem.head _)))) ?_
  refine am_bipush dX12_copies_122 (by decide) (by unfold am_rg; omega) ?_
  refine am_icmpge (tgt := 154) dX12_copies_124 (by decide) (fun c1 => ?_) (fun c1 => ?_)
  · replace h := h.1 c1
    refine am_iinc (ls' := [(2, .inl (am_w (x2 + 1))), (0, .inr (.inr (some (9, 0)))), (1, .inl x1), (3, .inl x3)]) dX12_copies_154 (List.Mem.tail _ (List.Mem.tail _ (List.Mem.head _))) (by decide) rfl ?_
    refine am_goto (tgt := 28) dX12_copies_157 (by decide) ?_
    exact am_sub [1, 2, 0] rfl h
  · replace h := h.2 c1
    refine am_aload_n dX12_copies_127 (List.Mem.head _) ?_
    refine am_getf (f := 12) (v := .inr (.inr (some (79, 0)))) dX12_copies_128 hc_10 (by decide) wd_1561 (by decide) rfl rfl ?_
    refine am_iload_n dX12_copies_131 (List.Mem.tail _ (List.Mem.head _)) ?_
    have o2 := h.1
    replace h := h.2
    have o3 := h.1
    replace h := h.2
    refine am_aaload (kd := 6) (r := some (80, x1.toNat)) dX12_copies_132 (by decide) rfl (by decide) (by decide) o2 o3 rfl ?_
    refine am_iload_n dX12_copies_133 (List.Mem.tail _ (List.Mem.tail _ (List.Mem.head _))) ?_
    have o4 := h.1
    replace h := h.2
    have o5 := h.1
    replace h := h.2
    refine am_aaload (kd := 5) (r := some (81, (30 * x1.toNat + x2.toNat))) dX12_copies_134 (by decide) rfl (by decide) (by decide) o4 o5 rfl ?_
    refine am_iload_n dX12_copies_135 (List.Mem.tail _ (List.Mem.tail _ (List.Mem.tail _ (List.Mem.head _)))) ?_
    refine am_aload_n dX12_copies_136 (List.Mem.head _) ?_
    refine am_getf (f := 12) (v := .inr (.inr (some (79, 0)))) dX12_copies_137 hc_10 (by decide) wd_1561 (by decide) rfl rfl ?_
    refine am_bipush dX12_copies_140 (by decide) (by unfold am_rg; omega) ?_
    refine am_aaload (kd := 6) (r := some (80, 6)) dX12_copies_142 (by decide) rfl (by decide) (by decide) (by decide) (show (6 : Int) < (7 : Nat) by decide) rfl ?_
    refine am_iload_n dX12_copies_143 (List.Mem.tail _ (List.Mem.tail _ (List.Mem.head _))) ?_
    refine am_aaload (kd := 5) (r := some (81, (30 * 6 + x2.toNat))) dX12_copies_144 (by decide) rfl (by decide) (by decide) o4 o5 rfl ?_
    refine am_iload_n dX12_copies_145 (List.Mem.tail _ (List.Mem.tail _ (List.Mem.tail _ (List.Mem.head _)))) ?_
    have o6 := h.1
    replace h := h.2
    have o7 := h.1
    replace h := h.2
    refine am_iaload (v := (w.1 81 (30 * 6 + x2.toNat) x3.toNat)) dX12_copies_146 (by decide) rfl o6 o7 rfl ?_
    refine am_iastore dX12_copies_147 (Or.inl (by decide)) rfl o6 o7 ?_
    refine am_iinc (ls' := [(3, .inl (am_w (x3 + 1))), (0, .inr (.inr (some (9, 0)))), (1, .inl x1), (2, .inl x2)]) dX12_copies_148 (List.Mem.tail _ (List.Mem.tail _ (List.Mem.tail _ (List.Mem.head _)))) (by decide) rfl ?_
    refine am_goto (tgt := 121) dX12_copies_151 (by decide) ?_
    exact am_sub [1, 2, 3, 0] rfl h
-- MourningHouseModel.take()I
theorem dX12_take_0 : decode mX12_take.2.1 0 = .ok (.aload_n 0, 1) := by decide +kernel
theorem dX12_take_1 : decode mX12_take.2.1 1 = .ok (.getfield 435, 3) := by decide +kernel
theorem dX12_take_4 : decode mX12_take.2.1 4 = .ok (.bipush 6, 2) := by decide +kernel
theorem dX12_take_6 : decode mX12_take.2.1 6 = .ok (.if_icmp .ne 5, 3) := by decide +kernel
theorem dX12_take_9 : decode mX12_take.2.1 9 = .ok (.iconst (-1), 1) := by decide +kernel
theorem dX12_take_10 : decode mX12_take.2.1 10 = .ok (.ireturn, 1) := by decide +kernel
theorem dX12_take_11 : decode mX12_take.2.1 11 = .ok (.aload_n 0, 1) := by decide +kernel
theorem dX12_take_12 : decode mX12_take.2.1 12 = .ok (.iconst 0, 1) := by decide +kernel
theorem dX12_take_13 : decode mX12_take.2.1 13 = .ok (.putfield 343, 3) := by decide +kernel
theorem dX12_take_16 : decode mX12_take.2.1 16 = .ok (.aload_n 0, 1) := by decide +kernel
theorem dX12_take_17 : decode mX12_take.2.1 17 = .ok (.iconst 0, 1) := by decide +kernel
theorem dX12_take_18 : decode mX12_take.2.1 18 = .ok (.putfield 346, 3) := by decide +kernel
theorem dX12_take_21 : decode mX12_take.2.1 21 = .ok (.aload_n 0, 1) := by decide +kernel
theorem dX12_take_22 : decode mX12_take.2.1 22 = .ok (.iconst 0, 1) := by decide +kernel
theorem dX12_take_23 : decode mX12_take.2.1 23 = .ok (.putfield 337, 3) := by decide +kernel
theorem dX12_take_26 : decode mX12_take.2.1 26 = .ok (.aload_n 0, 1) := by decide +kernel
theorem dX12_take_27 : decode mX12_take.2.1 27 = .ok (.getfield 17, 3) := by decide +kernel
theorem dX12_take_30 : decode mX12_take.2.1 30 = .ok (.bipush 6, 2) := by decide +kernel
theorem dX12_take_32 : decode mX12_take.2.1 32 = .ok (.iconst 0, 1) := by decide +kernel
theorem dX12_take_33 : decode mX12_take.2.1 33 = .ok (.iastore, 1) := by decide +kernel
theorem dX12_take_34 : decode mX12_take.2.1 34 = .ok (.aload_n 0, 1) := by decide +kernel
theorem dX12_take_35 : decode mX12_take.2.1 35 = .ok (.getfield 20, 3) := by decide +kernel
theorem dX12_take_38 : decode mX12_take.2.1 38 = .ok (.bipush 6, 2) := by decide +kernel
theorem dX12_take_40 : decode mX12_take.2.1 40 = .ok (.iconst 0, 1) := by decide +kernel
theorem dX12_take_41 : decode mX12_take.2.1 41 = .ok (.iastore, 1) := by decide +kernel
theorem dX12_take_42 : decode mX12_take.2.1 42 = .ok (.aload_n 0, 1) := by decide +kernel
theorem dX12_take_43 : decode mX12_take.2.1 43 = .ok (.getfield 51, 3) := by decide +kernel
theorem dX12_take_46 : decode mX12_take.2.1 46 = .ok (.bipush 6, 2) := by decide +kernel
theorem dX12_take_48 : decode mX12_take.2.1 48 = .ok (.iconst 0, 1) := by decide +kernel
theorem dX12_take_49 : decode mX12_take.2.1 49 = .ok (.iastore, 1) := by decide +kernel
theorem dX12_take_50 : decode mX12_take.2.1 50 = .ok (.aload_n 0, 1) := by decide +kernel
theorem dX12_take_51 : decode mX12_take.2.1 51 = .ok (.getfield 57, 3) := by decide +kernel
theorem dX12_take_54 : decode mX12_take.2.1 54 = .ok (.bipush 6, 2) := by decide +kernel
theorem dX12_take_56 : decode mX12_take.2.1 56 = .ok (.iconst 0, 1) := by decide +kernel
theorem dX12_take_57 : decode mX12_take.2.1 57 = .ok (.iastore, 1) := by decide +kernel
theorem dX12_take_58 : decode mX12_take.2.1 58 = .ok (.aload_n 0, 1) := by decide +kernel
theorem dX12_take_59 : decode mX12_take.2.1 59 = .ok (.getfield 63, 3) := by decide +kernel
theorem dX12_take_62 : decode mX12_take.2.1 62 = .ok (.bipush 6, 2) := by decide +kernel
theorem dX12_take_64 : decode mX12_take.2.1 64 = .ok (.iconst (-1), 1) := by decide +kernel
theorem dX12_take_65 : decode mX12_take.2.1 65 = .ok (.iastore, 1) := by decide +kernel
theorem dX12_take_66 : decode mX12_take.2.1 66 = .ok (.iconst 0, 1) := by decide +kernel
theorem dX12_take_67 : decode mX12_take.2.1 67 = .ok (.istore_n 1, 1) := by decide +kernel
theorem dX12_take_68 : decode mX12_take.2.1 68 = .ok (.iload_n 1, 1) := by decide +kernel
theorem dX12_take_69 : decode mX12_take.2.1 69 = .ok (.iconst 4, 1) := by decide +kernel
theorem dX12_take_70 : decode mX12_take.2.1 70 = .ok (.if_icmp .ge 19, 3) := by decide +kernel
theorem dX12_take_73 : decode mX12_take.2.1 73 = .ok (.aload_n 0, 1) := by decide +kernel
theorem dX12_take_74 : decode mX12_take.2.1 74 = .ok (.getfield 42, 3) := by decide +kernel
theorem dX12_take_77 : decode mX12_take.2.1 77 = .ok (.bipush 6, 2) := by decide +kernel
theorem dX12_take_79 : decode mX12_take.2.1 79 = .ok (.aaload, 1) := by decide +kernel
theorem dX12_take_80 : decode mX12_take.2.1 80 = .ok (.iload_n 1, 1) := by decide +kernel
theorem dX12_take_81 : decode mX12_take.2.1 81 = .ok (.iconst 0, 1) := by decide +kernel
theorem dX12_take_82 : decode mX12_take.2.1 82 = .ok (.iastore, 1) := by decide +kernel
theorem dX12_take_83 : decode mX12_take.2.1 83 = .ok (.iinc 1 1, 3) := by decide +kernel
theorem dX12_take_86 : decode mX12_take.2.1 86 = .ok (.goto (-18), 3) := by decide +kernel
theorem dX12_take_89 : decode mX12_take.2.1 89 = .ok (.aload_n 0, 1) := by decide +kernel
theorem dX12_take_90 : decode mX12_take.2.1 90 = .ok (.iconst 0, 1) := by decide +kernel
theorem dX12_take_91 : decode mX12_take.2.1 91 = .ok (.putfield 340, 3) := by decide +kernel
theorem dX12_take_94 : decode mX12_take.2.1 94 = .ok (.iconst 0, 1) := by decide +kernel
theorem dX12_take_95 : decode mX12_take.2.1 95 = .ok (.istore_n 1, 1) := by decide +kernel
theorem dX12_take_96 : decode mX12_take.2.1 96 = .ok (.iload_n 1, 1) := by decide +kernel
theorem dX12_take_97 : decode mX12_take.2.1 97 = .ok (.aload_n 0, 1) := by decide +kernel
theorem dX12_take_98 : decode mX12_take.2.1 98 = .ok (.getfield 329, 3) := by decide +kernel
theorem dX12_take_101 : decode mX12_take.2.1 101 = .ok (.if_icmp .ge 60, 3) := by decide +kernel
theorem dX12_take_104 : decode mX12_take.2.1 104 = .ok (.aload_n 0, 1) := by decide +kernel
theorem dX12_take_105 : decode mX12_take.2.1 105 = .ok (.getfield 337, 3) := by decide +kernel
theorem dX12_take_108 : decode mX12_take.2.1 108 = .ok (.ifCond .ne 53, 3) := by decide +kernel
theorem dX12_take_111 : decode mX12_take.2.1 111 = .ok (.iload_n 1, 1) := by decide +kernel
theorem dX12_take_112 : decode mX12_take.2.1 112 = .ok (.istore_n 2, 1) := by decide +kernel
theorem dX12_take_113 : decode mX12_take.2.1 113 = .ok (.iload_n 2, 1) := by decide +kernel
theorem dX12_take_114 : decode mX12_take.2.1 114 = .ok (.aload_n 0, 1) := by decide +kernel
theorem dX12_take_115 : decode mX12_take.2.1 115 = .ok (.getfield 329, 3) := by decide +kernel
theorem dX12_take_118 : decode mX12_take.2.1 118 = .ok (.if_icmp .ge 20, 3) := by decide +kernel
theorem dX12_take_121 : decode mX12_take.2.1 121 = .ok (.aload_n 0, 1) := by decide +kernel
theorem dX12_take_122 : decode mX12_take.2.1 122 = .ok (.getfield 9, 3) := by decide +kernel
theorem dX12_take_125 : decode mX12_take.2.1 125 = .ok (.iload_n 2, 1) := by decide +kernel
theorem dX12_take_126 : decode mX12_take.2.1 126 = .ok (.baload, 1) := by decide +kernel
theorem dX12_take_127 : decode mX12_take.2.1 127 = .ok (.bipush 10, 2) := by decide +kernel
theorem dX12_take_129 : decode mX12_take.2.1 129 = .ok (.if_icmp .eq 9, 3) := by decide +kernel
theorem dX12_take_132 : decode mX12_take.2.1 132 = .ok (.iinc 2 1, 3) := by decide +kernel
theorem dX12_take_135 : decode mX12_take.2.1 135 = .ok (.goto (-22), 3) := by decide +kernel
theorem dX12_take_138 : decode mX12_take.2.1 138 = .ok (.aload_n 0, 1) := by decide +kernel
theorem dX12_take_139 : decode mX12_take.2.1 139 = .ok (.dup, 1) := by decide +kernel
theorem dX12_take_140 : decode mX12_take.2.1 140 = .ok (.getfield 340, 3) := by decide +kernel
theorem dX12_take_143 : decode mX12_take.2.1 143 = .ok (.iconst 1, 1) := by decide +kernel
theorem dX12_take_144 : decode mX12_take.2.1 144 = .ok (.iadd, 1) := by decide +kernel
theorem dX12_take_145 : decode mX12_take.2.1 145 = .ok (.putfield 340, 3) := by decide +kernel
theorem dX12_take_148 : decode mX12_take.2.1 148 = .ok (.aload_n 0, 1) := by decide +kernel
theorem dX12_take_149 : decode mX12_take.2.1 149 = .ok (.iload_n 1, 1) := by decide +kernel
theorem dX12_take_150 : decode mX12_take.2.1 150 = .ok (.iload_n 2, 1) := by decide +kernel
theorem dX12_take_151 : decode mX12_take.2.1 151 = .ok (.invokevirtual 438, 3) := by decide +kernel
theorem dX12_take_154 : decode mX12_take.2.1 154 = .ok (.iload_n 2, 1) := by decide +kernel
theorem dX12_take_155 : decode mX12_take.2.1 155 = .ok (.iconst 1, 1) := by decide +kernel
theorem dX12_take_156 : decode mX12_take.2.1 156 = .ok (.iadd, 1) := by decide +kernel
theorem dX12_take_157 : decode mX12_take.2.1 157 = .ok (.istore_n 1, 1) := by decide +kernel
theorem dX12_take_158 : decode mX12_take.2.1 158 = .ok (.goto (-62), 3) := by decide +kernel
theorem dX12_take_161 : decode mX12_take.2.1 161 = .ok (.aload_n 0, 1) := by decide +kernel
theorem dX12_take_162 : decode mX12_take.2.1 162 = .ok (.iconst 0, 1) := by decide +kernel
theorem dX12_take_163 : decode mX12_take.2.1 163 = .ok (.putfield 329, 3) := by decide +kernel
theorem dX12_take_166 : decode mX12_take.2.1 166 = .ok (.aload_n 0, 1) := by decide +kernel
theorem dX12_take_167 : decode mX12_take.2.1 167 = .ok (.getfield 337, 3) := by decide +kernel
theorem dX12_take_170 : decode mX12_take.2.1 170 = .ok (.ifCond .eq 5, 3) := by decide +kernel
theorem dX12_take_173 : decode mX12_take.2.1 173 = .ok (.iconst (-1), 1) := by decide +kernel
theorem dX12_take_174 : decode mX12_take.2.1 174 = .ok (.ireturn, 1) := by decide +kernel
theorem dX12_take_175 : decode mX12_take.2.1 175 = .ok (.aload_n 0, 1) := by decide +kernel
theorem dX12_take_176 : decode mX12_take.2.1 176 = .ok (.aload_n 0, 1) := by decide +kernel
theorem dX12_take_177 : decode mX12_take.2.1 177 = .ok (.getfield 435, 3) := by decide +kernel
theorem dX12_take_180 : decode mX12_take.2.1 180 = .ok (.invokevirtual 441, 3) := by decide +kernel
theorem dX12_take_183 : decode mX12_take.2.1 183 = .ok (.aload_n 0, 1) := by decide +kernel
theorem dX12_take_184 : decode mX12_take.2.1 184 = .ok (.getfield 13, 3) := by decide +kernel
theorem dX12_take_187 : decode mX12_take.2.1 187 = .ok (.aload_n 0, 1) := by decide +kernel
theorem dX12_take_188 : decode mX12_take.2.1 188 = .ok (.getfield 435, 3) := by decide +kernel
theorem dX12_take_191 : decode mX12_take.2.1 191 = .ok (.aload_n 0, 1) := by decide +kernel
theorem dX12_take_192 : decode mX12_take.2.1 192 = .ok (.getfield 444, 3) := by decide +kernel
theorem dX12_take_195 : decode mX12_take.2.1 195 = .ok (.iastore, 1) := by decide +kernel
theorem dX12_take_196 : decode mX12_take.2.1 196 = .ok (.aload_n 0, 1) := by decide +kernel
theorem dX12_take_197 : decode mX12_take.2.1 197 = .ok (.dup, 1) := by decide +kernel
theorem dX12_take_198 : decode mX12_take.2.1 198 = .ok (.getfield 435, 3) := by decide +kernel
theorem dX12_take_201 : decode mX12_take.2.1 201 = .ok (.iconst 1, 1) := by decide +kernel
theorem dX12_take_202 : decode mX12_take.2.1 202 = .ok (.iadd, 1) := by decide +kernel
theorem dX12_take_203 : decode mX12_take.2.1 203 = .ok (.putfield 435, 3) := by decide +kernel
theorem dX12_take_206 : decode mX12_take.2.1 206 = .ok (.aload_n 0, 1) := by decide +kernel
theorem dX12_take_207 : decode mX12_take.2.1 207 = .ok (.getfield 17, 3) := by decide +kernel
theorem dX12_take_210 : decode mX12_take.2.1 210 = .ok (.aload_n 0, 1) := by decide +kernel
theorem dX12_take_211 : decode mX12_take.2.1 211 = .ok (.getfield 435, 3) := by decide +kernel
theorem dX12_take_214 : decode mX12_take.2.1 214 = .ok (.iconst 1, 1) := by decide +kernel
theorem dX12_take_215 : decode mX12_take.2.1 215 = .ok (.isub, 1) := by decide +kernel
theorem dX12_take_216 : decode mX12_take.2.1 216 = .ok (.iaload, 1) := by decide +kernel
theorem dX12_take_217 : decode mX12_take.2.1 217 = .ok (.ireturn, 1) := by decide +kernel
theorem bX12_take_0 {SC : Nat → Nat} {X : mh_X} {d : Nat} {Q : Option am_V → am_W → Prop} {bc bs : Nat} {w : am_W} 
    (h : ((¬ (w.1 9 0 21) = 6 → am_A (mh_G X) SC (d + 12) mX12_take Q 68 [(0, .inr (.inr (some (9, 0)))), (1, .inl 0)] [] ((am_up (am_up (am_up (am_up (am_up (am_up (am_up (am_up w.1 9 0 2 0) 9 0 3 0) 9 0 4 0) 68 0 6 0) 69 0 6 0) 88 0 6 0) 90 0 6 0) 92 0 6 (-1)), w.2) bc bs) ∧ ((w.1 9 0 21) = 6 → Q (some (.inl (-1))) w))) :
    am_A (mh_G X) SC (d + 12) mX12_take Q 0 [(0, .inr (.inr (some (9, 0))))] [] w bc bs := by
  refine am_aload_n dX12_take_0 (List.Mem.head _) ?_
  refine am_getf (f := 21) (v := .inl (w.1 9 0 21)) dX12_take_1 hc_10 (by decide) wd_1570 (by decide) rfl rfl ?_
  refine am_bipush dX12_take_4 (by decide) (by unfold am_rg; omega) ?_
  refine am_icmpne (tgt := 11) dX12_take_6 (by decide) (fun c1 => ?_) (fun c1 => ?_)
  · replace h := h.1 c1
    refine am_aload_n dX12_take_11 (List.Mem.head _) ?_
    refine am_iconst dX12_take_12 (by unfold am_rg; omega) ?_
    refine am_putf (f := 2) dX12_take_13 hc_10 (by decide) wd_1551 rfl (Or.inl rfl) (Or.inl (by decide)) rfl ?_
    refine am_aload_n dX12_take_16 (List.Mem.head _) ?_
    refine am_iconst dX12_take_17 (by unfold am_rg; omega) ?_
    refine am_putf (f := 3) dX12_take_18 hc_10 (by decide) wd_1552 rfl (Or.inl rfl) (Or.inl (by decide)) rfl ?_
    refine am_aload_n dX12_take_21 (List.Mem.head _) ?_
    refine am_iconst dX12_take_22 (by unfold am_rg; omega) ?_
    refine am_putf (f := 4) dX12_take_23 hc_10 (by decide) wd_1553 rfl (Or.inl rfl) (Or.inl (by decide)) rfl ?_
    refine am_aload_n dX12_take_26 (List.Mem.head _) ?_
    refine am_getf (f := 6) (v := .inr (.inr (some (68, 0)))) dX12_take_27 hc_10 (by decide) wd_1555 (by decide) rfl rfl ?_
    refine am_bipush dX12_take_30 (by decide) (by unfold am_rg; omega) ?_
    refine am_iconst dX12_take_32 (by unfold am_rg; omega) ?_
    refine am_iastore dX12_take_33 (Or.inl (by decide)) rfl (by decide) (show (6 : Int) < (7 : Nat) by decide) ?_
    refine am_aload_n dX12_take_34 (List.Mem.head _) ?_
    refine am_getf (f := 7) (v := .inr (.inr (some (69, 0)))) dX12_take_35 hc_10 (by decide) wd_1556 (by decide) rfl rfl ?_
    refine am_bipush dX12_take_38 (by decide) (by unfold am_rg; omega) ?_
    refine am_iconst dX12_take_40 (by unfold am_rg; omega) ?_
    refine am_iastore dX12_take_41 (Or.inl (by decide)) rfl (by decide) (show (6 : Int) < (7 : Nat) by decide) ?_
    refine am_aload_n dX12_take_42 (List.Mem.head _) ?_
    refine am_getf (f := 16) (v := .inr (.inr (some (88, 0)))) dX12_take_43 hc_10 (by decide) wd_1565 (by decide) rfl rfl ?_
    refine am_bipush dX12_take_46 (by decide) (by unfold am_rg; omega) ?_
    refine am_iconst dX12_take_48 (by unfold am_rg; omega) ?_
    refine am_iastore dX12_take_49 (Or.inl (by decide)) rfl (by decide) (show (6 : Int) < (7 : Nat) by decide) ?_
    refine am_aload_n dX12_take_50 (List.Mem.head _) ?_
    refine am_getf (f := 18) (v := .inr (.inr (some (90, 0)))) dX12_take_51 hc_10 (by decide) wd_1567 (by decide) rfl rfl ?_
    refine am_bipush dX12_take_54 (by decide) (by unfold am_rg; omega) ?_
    refine am_iconst dX12_take_56 (by unfold am_rg; omega) ?_
    refine am_iastore dX12_take_57 (Or.inl (by decide)) rfl (by decide) (show (6 : Int) < (7 : Nat) by decide) ?_
    refine am_aload_n dX12_take_58 (List.Mem.head _) ?_
    refine am_getf (f := 20) (v := .inr (.inr (some (92, 0)))) dX12_take_59 hc_10 (by decide) wd_1569 (by decide) rfl rfl ?_
    refine am_bipush dX12_take_62 (by decide) (by unfold am_rg; omega) ?_
    refine am_iconst dX12_take_64 (by unfold am_rg; omega) ?_
    refine am_iastore dX12_take_65 (Or.inl (by decide)) rfl (by decide) (show (6 : Int) < (7 : Nat) by decide) ?_
    refine am_iconst dX12_take_66 (by unfold am_rg; omega) ?_
    refine am_istore_n (ls' := [(1, .inl 0), (0, .inr (.inr (some (9, 0))))]) dX12_take_67 (by decide) rfl ?_
    exact am_sub [1, 0] rfl h
  · replace h := h.2 c1
    refine am_iconst dX12_take_9 (by unfold am_rg; omega) ?_
    exact am_ret (r := some (.inl (-1))) dX12_take_10 (Or.inl rfl) rfl h
theorem bX12_take_68 {SC : Nat → Nat} {X : mh_X} {d : Nat} {Q : Option am_V → am_W → Prop} {bc bs : Nat} {w : am_W} {x1 : Int}
    (h : ((4 ≤ x1 → am_A (mh_G X) SC (d + 12) mX12_take Q 96 [(0, .inr (.inr (some (9, 0)))), (1, .inl 0)] [] ((am_up w.1 9 0 31 0), w.2) bc bs) ∧ (¬ 4 ≤ x1 → (0 ≤ x1 ∧ (x1 < 4 ∧ am_A (mh_G X) SC (d + 12) mX12_take Q 68 [(0, .inr (.inr (some (9, 0)))), (1, .inl (am_w (x1 + 1)))] [] ((am_up w.1 83 6 x1.toNat 0), w.2) bc bs))))) :
    am_A (mh_G X) SC (d + 12) mX12_take Q 68 [(0, .inr (.inr (some (9, 0)))), (1, .inl x1)] [] w bc bs := by
  refine am_iload_n dX12_take_68 (List.Mem.tail _ (List.Mem.head _)) ?_
  refine am_iconst dX12_take_69 (by unfold am_rg; omega) ?_
  refine am_icmpge (tgt := 89) dX12_take_70 (by decide) (fun c1 => ?_) (fun c1 => ?_)
  · replace h := h.1 c1
    refine am_aload_n dX12_take_89 (List.Mem.head _) ?_
    refine am_iconst dX12_take_90 (by unfold am_rg; omega) ?_
    refine am_putf (f := 31) dX12_take_91 hc_10 (by decide) wd_1580 rfl (Or.inl rfl) (Or.inl (by decide)) rfl ?_
    refine am_iconst dX12_take_94 (by unfold am_rg; omega) ?_
    refine am_istore_n (ls' := [(1, .inl 0), (0, .inr (.inr (some (9, 0))))]) dX12_take_95 (by decide) rfl ?_
    exact am_sub [1, 0] rfl h
  · replace h := h.2 c1
    refine am_aload_n dX12_take_73 (List.Mem.head _) ?_
    refine am_getf (f := 13) (v := .inr (.inr (some (82, 0)))) dX12_take_74 hc_10 (by decide) wd_1562 (by decide) rfl rfl ?_
    refine am_bipush dX12_take_77 (by decide) (by unfold am_rg; omega) ?_
    refine am_aaload (kd := 5) (r := some (83, 6)) dX12_take_79 (by decide) rfl (by decide) (by decide) (by decide) (show (6 : Int) < (7 : Nat) by decide) rfl ?_
    refine am_iload_n dX12_take_80 (List.Mem.tail _ (List.Mem.head _)) ?_
    refine am_iconst dX12_take_81 (by unfold am_rg; omega) ?_
    have o2 := h.1
    replace h := h.2
    have o3 := h.1
    replace h := h.2
    refine am_iastore dX12_take_82 (Or.inl (by decide)) rfl o2 o3 ?_
    refine am_iinc (ls' := [(1, .inl (am_w (x1 + 1))), (0, .inr (.inr (some (9, 0))))]) dX12_take_83 (List.Mem.tail _ (List.Mem.head _)) (by decide) rfl ?_
    refine am_goto (tgt := 68) dX12_take_86 (by decide) ?_
    exact am_sub [1, 0] rfl h
theorem bX12_take_96 {SC : Nat → Nat} {X : mh_X} {d : Nat} {Q : Option am_V → am_W → Prop} {bc bs : Nat} {w : am_W} {x1 : Int}
    (h : (((w.1 9 0 1) ≤ x1 → am_A (mh_G X) SC (d + 12) mX12_take Q 161 [(0, .inr (.inr (some (9, 0))))] [] w bc bs) ∧ (¬ (w.1 9 0 1) ≤ x1 → ((¬ (w.1 9 0 4) = 0 → am_A (mh_G X) SC (d + 12) mX12_take Q 161 [(0, .inr (.inr (some (9, 0))))] [] w bc bs) ∧ ((w.1 9 0 4) = 0 → am_A (mh_G X) SC (d + 12) mX12_take Q 113 [(0, .inr (.inr (some (9, 0)))), (1, .inl x1), (2, .inl x1)] [] w bc bs))))) :
    am_A (mh_G X) SC (d + 12) mX12_take Q 96 [(0, .inr (.inr (some (9, 0)))), (1, .inl x1)] [] w bc bs := by
  refine am_iload_n dX12_take_96 (List.Mem.tail _ (List.Mem.head _)) ?_
  refine am_aload_n dX12_take_97 (List.Mem.head _) ?_
  refine am_getf (f := 1) (v := .inl (w.1 9 0 1)) dX12_take_98 hc_10 (by decide) wd_1550 (by decide) rfl rfl ?_
  refine am_icmpge (tgt := 161) dX12_take_101 (by decide) (fun c1 => ?_) (fun c1 => ?_)
  · replace h := h.1 c1
    exact am_sub [0] rfl h
  · replace h := h.2 c1
    refine am_aload_n dX12_take_104 (List.Mem.head _) ?_
    refine am_getf (f := 4) (v := .inl (w.1 9 0 4)) dX12_take_105 hc_10 (by decide) wd_1553 (by decide) rfl rfl ?_
    refine am_ifne (tgt := 161) dX12_take_108 (by decide) (fun c2 => ?_) (fun c2 => ?_)
    · replace h := h.1 c2
      exact am_sub [0] rfl h
    · replace h := h.2 c2
      refine am_iload_n dX12_take_111 (List.Mem.tail _ (List.Mem.head _)) ?_
      refine am_istore_n (ls' := [(2, .inl x1), (0, .inr (.inr (some (9, 0)))), (1, .inl x1)]) dX12_take_112 (by decide) rfl ?_
      exact am_sub [1, 2, 0] rfl h
theorem bX12_take_161 {SC : Nat → Nat} {X : mh_X} {d : Nat} {Q : Option am_V → am_W → Prop} {bc bs : Nat} {w : am_W} 
    (h : ((((am_up w.1 9 0 1 0) 9 0 4) = 0 → am_M (mh_G X) SC (d + 11) 0 0 mX12_copies [.inr (.inr (some (9, 0))), .inl ((am_up w.1 9 0 1 0) 9 0 21)] ((am_up w.1 9 0 1 0), w.2) (fun r w1 => am_A (mh_G X) SC (d + 12) mX12_take Q 183 [(0, .inr (.inr (some (9, 0))))] (r.toList ++ []) w1 bc bs)) ∧ (¬ ((am_up w.1 9 0 1 0) 9 0 4) = 0 → Q (some (.inl (-1))) ((am_up w.1 9 0 1 0), w.2)))) :
    am_A (mh_G X) SC (d + 12) mX12_take Q 161 [(0, .inr (.inr (some (9, 0))))] [] w bc bs := by
  refine am_aload_n dX12_take_161 (List.Mem.head _) ?_
  refine am_iconst dX12_take_162 (by unfold am_rg; omega) ?_
  refine am_putf (f := 1) dX12_take_163 hc_10 (by decide) wd_1550 rfl (Or.inl rfl) (Or.inl (by decide)) rfl ?_
  refine am_aload_n dX12_take_166 (List.Mem.head _) ?_
  refine am_getf (f := 4) (v := .inl ((am_up w.1 9 0 1 0) 9 0 4)) dX12_take_167 hc_10 (by decide) wd_1553 (by decide) rfl rfl ?_
  refine am_ifeq (tgt := 175) dX12_take_170 (by decide) (fun c1 => ?_) (fun c1 => ?_)
  · replace h := h.1 c1
    refine am_aload_n dX12_take_175 (List.Mem.head _) ?_
    refine am_aload_n dX12_take_176 (List.Mem.head _) ?_
    refine am_getf (f := 21) (v := .inl ((am_up w.1 9 0 1 0) 9 0 21)) dX12_take_177 hc_10 (by decide) wd_1570 (by decide) rfl rfl ?_
    exact am_callv (d' := d + 11) (kc := 0) (ks := 0) (as := [.inl ((am_up w.1 9 0 1 0) 9 0 21)]) dX12_take_180 wc_X12_copies wd_1994 wd_1996 wd_70 wd_122 ds_X12_copies (by decide) (by omega) (Nat.le_of_ble_eq_true rfl) (Nat.zero_le _) (Nat.zero_le _) hc_10 (by decide) rfl rfl h
  · replace h := h.2 c1
    refine am_iconst dX12_take_173 (by unfold am_rg; omega) ?_
    exact am_ret (r := some (.inl (-1))) dX12_take_174 (Or.inl rfl) rfl h
theorem bX12_take_113 {SC : Nat → Nat} {X : mh_X} {d : Nat} {Q : Option am_V → am_W → Prop} {bc bs : Nat} {w : am_W} {x1 : Int} {x2 : Int}
    (h : (((w.1 9 0 1) ≤ x2 → am_A (mh_G X) SC (d + 12) mX12_take Q 138 [(0, .inr (.inr (some (9, 0)))), (1, .inl x1), (2, .inl x2)] [] w bc bs) ∧ (¬ (w.1 9 0 1) ≤ x2 → (0 ≤ x2 ∧ (x2 < 3000 ∧ (((w.1 66 0 x2.toNat) = 10 → am_A (mh_G X) SC (d + 12) mX12_take Q 138 [(0, .inr (.inr (some (9, 0)))), (1, .inl x1), (2, .inl x2)] [] w bc bs) ∧ (¬ (w.1 66 0 x2.toNat) = 10 → am_A (mh_G X) SC (d + 12) mX12_take Q 113 [(0, .inr (.inr (some (9, 0)))), (1, .inl x1), (2, .inl (am_w (x2 + 1)))] [] w bc bs))))))) :
    am_A (mh_G X) SC (d + 12) mX12_take Q 113 [(0, .inr (.inr (some (9, 0)))), (1, .inl x1), (2, .inl x2)] [] w bc bs := by
  refine am_iload_n dX12_take_113 (List.Mem.tail _ (List.Mem.tail _ (List.Mem.head _))) ?_
  refine am_aload_n dX12_take_114 (List.Mem.head _) ?_
  refine am_getf (f := 1) (v := .inl (w.1 9 0 1)) dX12_take_115 hc_10 (by decide) wd_1550 (by decide) rfl rfl ?_
  refine am_icmpge (tgt := 138) dX12_take_118 (by decide) (fun c1 => ?_) (fun c1 => ?_)
  · replace h := h.1 c1
    exact h
  · replace h := h.2 c1
    refine am_aload_n dX12_take_121 (List.Mem.head _) ?_
    refine am_getf (f := 0) (v := .inr (.inr (some (66, 0)))) dX12_take_122 hc_10 (by decide) wd_1549 (by decide) rfl rfl ?_
    refine am_iload_n dX12_take_125 (List.Mem.tail _ (List.Mem.tail _ (List.Mem.head _))) ?_
    have o2 := h.1
    replace h := h.2
    have o3 := h.1
    replace h := h.2
    refine am_baload (v := (w.1 66 0 x2.toNat)) dX12_take_126 (by decide) rfl o2 o3 rfl ?_
    refine am_bipush dX12_take_127 (by decide) (by unfold am_rg; omega) ?_
    refine am_icmpeq (tgt := 138) dX12_take_129 (by decide) (fun c4 => ?_) (fun c4 => ?_)
    · replace h := h.1 c4
      exact h
    · replace h := h.2 c4
      refine am_iinc (ls' := [(2, .inl (am_w (x2 + 1))), (0, .inr (.inr (some (9, 0)))), (1, .inl x1)]) dX12_take_132 (List.Mem.tail _ (List.Mem.tail _ (List.Mem.head _))) (by decide) rfl ?_
      refine am_goto (tgt := 113) dX12_take_135 (by decide) ?_
      exact am_sub [1, 2, 0] rfl h
theorem bX12_take_183 {SC : Nat → Nat} {X : mh_X} {d : Nat} {Q : Option am_V → am_W → Prop} {bc bs : Nat} {w : am_W} 
    (h : (0 ≤ (w.1 9 0 21) ∧ ((w.1 9 0 21) < 6 ∧ (0 ≤ (am_w (((am_up w.1 9 0 21 (am_w ((w.1 9 0 21) + 1))) 9 0 21) - 1)) ∧ ((am_w (((am_up w.1 9 0 21 (am_w ((w.1 9 0 21) + 1))) 9 0 21) - 1)) < 7 ∧ Q (some (.inl (w.1 68 0 (am_w (((am_up w.1 9 0 21 (am_w ((w.1 9 0 21) + 1))) 9 0 21) - 1)).toNat))) ((am_up (am_up w.1 67 0 (w.1 9 0 21).toNat (w.1 9 0 33)) 9 0 21 (am_w ((w.1 9 0 21) + 1))), w.2)))))) :
    am_A (mh_G X) SC (d + 12) mX12_take Q 183 [(0, .inr (.inr (some (9, 0))))] [] w bc bs := by
  refine am_aload_n dX12_take_183 (List.Mem.head _) ?_
  refine am_getf (f := 5) (v := .inr (.inr (some (67, 0)))) dX12_take_184 hc_10 (by decide) wd_1554 (by decide) rfl rfl ?_
  refine am_aload_n dX12_take_187 (List.Mem.head _) ?_
  refine am_getf (f := 21) (v := .inl (w.1 9 0 21)) dX12_take_188 hc_10 (by decide) wd_1570 (by decide) rfl rfl ?_
  refine am_aload_n dX12_take_191 (List.Mem.head _) ?_
  refine am_getf (f := 33) (v := .inl (w.1 9 0 33)) dX12_take_192 hc_10 (by decide) wd_1582 (by decide) rfl rfl ?_
  have o1 := h.1
  replace h := h.2
  have o2 := h.1
  replace h := h.2
  refine am_iastore dX12_take_195 (Or.inl (by decide)) rfl o1 o2 ?_
  refine am_aload_n dX12_take_196 (List.Mem.head _) ?_
  refine am_dup dX12_take_197 rfl ?_
  refine am_getf (f := 21) (v := .inl (w.1 9 0 21)) dX12_take_198 hc_10 (by decide) wd_1570 (by decide) rfl rfl ?_
  refine am_iconst dX12_take_201 (by unfold am_rg; omega) ?_
  refine am_iadd dX12_take_202 ?_
  refine am_putf (f := 21) dX12_take_203 hc_10 (by decide) wd_1570 rfl (Or.inl rfl) (Or.inl (by decide)) rfl ?_
  refine am_aload_n dX12_take_206 (List.Mem.head _) ?_
  refine am_getf (f := 6) (v := .inr (.inr (some (68, 0)))) dX12_take_207 hc_10 (by decide) wd_1555 (by decide) rfl rfl ?_
  refine am_aload_n dX12_take_210 (List.Mem.head _) ?_
  refine am_getf (f := 21) (v := .inl ((am_up w.1 9 0 21 (am_w ((w.1 9 0 21) + 1))) 9 0 21)) dX12_take_211 hc_10 (by decide) wd_1570 (by decide) rfl rfl ?_
  refine am_iconst dX12_take_214 (by unfold am_rg; omega) ?_
  refine am_isub dX12_take_215 ?_
  have o3 := h.1
  replace h := h.2
  have o4 := h.1
  replace h := h.2
  refine am_iaload (v := (w.1 68 0 (am_w (((am_up w.1 9 0 21 (am_w ((w.1 9 0 21) + 1))) 9 0 21) - 1)).toNat)) dX12_take_216 (by decide) rfl o3 o4 rfl ?_
  exact am_ret (r := some (.inl (w.1 68 0 (am_w (((am_up w.1 9 0 21 (am_w ((w.1 9 0 21) + 1))) 9 0 21) - 1)).toNat))) dX12_take_217 (Or.inl rfl) rfl h
theorem bX12_take_138 {SC : Nat → Nat} {X : mh_X} {d : Nat} {Q : Option am_V → am_W → Prop} {bc bs : Nat} {w : am_W} {x1 : Int} {x2 : Int}
    (h : am_M (mh_G X) SC (d + 11) 0 0 mX12_reads [.inr (.inr (some (9, 0))), .inl x1, .inl x2] ((am_up w.1 9 0 31 (am_w ((w.1 9 0 31) + 1))), w.2) (fun r w1 => am_A (mh_G X) SC (d + 12) mX12_take Q 154 [(0, .inr (.inr (some (9, 0)))), (1, .inl x1), (2, .inl x2)] (r.toList ++ []) w1 bc bs)) :
    am_A (mh_G X) SC (d + 12) mX12_take Q 138 [(0, .inr (.inr (some (9, 0)))), (1, .inl x1), (2, .inl x2)] [] w bc bs := by
  refine am_aload_n dX12_take_138 (List.Mem.head _) ?_
  refine am_dup dX12_take_139 rfl ?_
  refine am_getf (f := 31) (v := .inl (w.1 9 0 31)) dX12_take_140 hc_10 (by decide) wd_1580 (by decide) rfl rfl ?_
  refine am_iconst dX12_take_143 (by unfold am_rg; omega) ?_
  refine am_iadd dX12_take_144 ?_
  refine am_putf (f := 31) dX12_take_145 hc_10 (by decide) wd_1580 rfl (Or.inl rfl) (Or.inl (by decide)) rfl ?_
  refine am_aload_n dX12_take_148 (List.Mem.head _) ?_
  refine am_iload_n dX12_take_149 (List.Mem.tail _ (List.Mem.head _)) ?_
  refine am_iload_n dX12_take_150 (List.Mem.tail _ (List.Mem.tail _ (List.Mem.head _))) ?_
  exact am_callv (d' := d + 11) (kc := 0) (ks := 0) (as := [.inl x1, .inl x2]) dX12_take_151 wc_X12_reads wd_1911 wd_1913 wd_54 wd_122 ds_X12_reads (by decide) (by omega) (Nat.le_of_ble_eq_true rfl) (Nat.zero_le _) (Nat.zero_le _) hc_10 (by decide) rfl rfl h
theorem bX12_take_154 {SC : Nat → Nat} {X : mh_X} {d : Nat} {Q : Option am_V → am_W → Prop} {bc bs : Nat} {w : am_W} {x1 : Int} {x2 : Int}
    (h : am_A (mh_G X) SC (d + 12) mX12_take Q 96 [(0, .inr (.inr (some (9, 0)))), (1, .inl (am_w (x2 + 1)))] [] w bc bs) :
    am_A (mh_G X) SC (d + 12) mX12_take Q 154 [(0, .inr (.inr (some (9, 0)))), (1, .inl x1), (2, .inl x2)] [] w bc bs := by
  refine am_iload_n dX12_take_154 (List.Mem.tail _ (List.Mem.tail _ (List.Mem.head _))) ?_
  refine am_iconst dX12_take_155 (by unfold am_rg; omega) ?_
  refine am_iadd dX12_take_156 ?_
  refine am_istore_n (ls' := [(1, .inl (am_w (x2 + 1))), (0, .inr (.inr (some (9, 0)))), (2, .inl x2)]) dX12_take_157 (by decide) rfl ?_
  refine am_goto (tgt := 96) dX12_take_158 (by decide) ?_
  exact am_sub [1, 0] rfl h
-- MourningHouseModel.fault(I)I
theorem dX12_fault_0 : decode mX12_fault.2.1 0 = .ok (.iload_n 1, 1) := by decide +kernel
theorem dX12_fault_1 : decode mX12_fault.2.1 1 = .ok (.ifCond .ne 10, 3) := by decide +kernel
theorem dX12_fault_4 : decode mX12_fault.2.1 4 = .ok (.aload_n 0, 1) := by decide +kernel
theorem dX12_fault_5 : decode mX12_fault.2.1 5 = .ok (.getfield 343, 3) := by decide +kernel
theorem dX12_fault_8 : decode mX12_fault.2.1 8 = .ok (.goto 28, 3) := by decide +kernel
theorem dX12_fault_11 : decode mX12_fault.2.1 11 = .ok (.iload_n 1, 1) := by decide +kernel
theorem dX12_fault_12 : decode mX12_fault.2.1 12 = .ok (.iconst 1, 1) := by decide +kernel
theorem dX12_fault_13 : decode mX12_fault.2.1 13 = .ok (.if_icmp .ne 10, 3) := by decide +kernel
theorem dX12_fault_16 : decode mX12_fault.2.1 16 = .ok (.aload_n 0, 1) := by decide +kernel
theorem dX12_fault_17 : decode mX12_fault.2.1 17 = .ok (.getfield 346, 3) := by decide +kernel
theorem dX12_fault_20 : decode mX12_fault.2.1 20 = .ok (.goto 16, 3) := by decide +kernel
theorem dX12_fault_23 : decode mX12_fault.2.1 23 = .ok (.iload_n 1, 1) := by decide +kernel
theorem dX12_fault_24 : decode mX12_fault.2.1 24 = .ok (.iconst 2, 1) := by decide +kernel
theorem dX12_fault_25 : decode mX12_fault.2.1 25 = .ok (.if_icmp .ne 10, 3) := by decide +kernel
theorem dX12_fault_28 : decode mX12_fault.2.1 28 = .ok (.aload_n 0, 1) := by decide +kernel
theorem dX12_fault_29 : decode mX12_fault.2.1 29 = .ok (.getfield 337, 3) := by decide +kernel
theorem dX12_fault_32 : decode mX12_fault.2.1 32 = .ok (.goto 4, 3) := by decide +kernel
theorem dX12_fault_35 : decode mX12_fault.2.1 35 = .ok (.iconst (-1), 1) := by decide +kernel
theorem dX12_fault_36 : decode mX12_fault.2.1 36 = .ok (.ireturn, 1) := by decide +kernel
theorem sX12_fault {SC : Nat → Nat} {X : mh_X} {d kc ks : Nat} {Q : Option am_V → am_W → Prop} {w : am_W} {x1 : Int}
    (h : Q (some (.inl (if x1 = 0 then (w.1 9 0 2) else (if x1 = 1 then (w.1 9 0 3) else (if x1 = 2 then (w.1 9 0 4) else (-1)))))) w) : am_M (mh_G X) SC (d + 1) kc ks mX12_fault [.inr (.inr (some (9, 0))), .inl x1] w Q := by
  refine am_M_of (by decide) (Nat.le_of_ble_eq_true rfl) ?_
  show am_A (mh_G X) SC (d + 1) mX12_fault Q 0 [(0, .inr (.inr (some (9, 0)))), (1, .inl x1)] [] w kc ks
  refine am_iload_n dX12_fault_0 (List.Mem.tail _ (List.Mem.head _)) ?_
  refine am_ifne (tgt := 11) dX12_fault_1 (by decide) (fun c1 => ?_) (fun c1 => ?_)
  · refine am_iload_n dX12_fault_11 (List.Mem.tail _ (List.Mem.head _)) ?_
    refine am_iconst dX12_fault_12 (by unfold am_rg; omega) ?_
    refine am_icmpne (tgt := 23) dX12_fault_13 (by decide) (fun c2 => ?_) (fun c2 => ?_)
    · refine am_iload_n dX12_fault_23 (List.Mem.tail _ (List.Mem.head _)) ?_
      refine am_iconst dX12_fault_24 (by unfold am_rg; omega) ?_
      refine am_icmpne (tgt := 35) dX12_fault_25 (by decide) (fun c3 => ?_) (fun c3 => ?_)
      · refine am_iconst dX12_fault_35 (by unfold am_rg; omega) ?_
        rw [show ((if x1 = 0 then (w.1 9 0 2) else (if x1 = 1 then (w.1 9 0 3) else (if x1 = 2 then (w.1 9 0 4) else (-1)))) : Int) = (-1) from (if_neg c1).trans ((if_neg c2).trans (if_neg c3))] at h
        exact am_ret (r := some (.inl (-1))) dX12_fault_36 (Or.inl rfl) rfl h
      · refine am_aload_n dX12_fault_28 (List.Mem.head _) ?_
        refine am_getf (f := 4) (v := .inl (w.1 9 0 4)) dX12_fault_29 hc_10 (by decide) wd_1553 (by decide) rfl rfl ?_
        refine am_goto (tgt := 36) dX12_fault_32 (by decide) ?_
        rw [show ((if x1 = 0 then (w.1 9 0 2) else (if x1 = 1 then (w.1 9 0 3) else (if x1 = 2 then (w.1 9 0 4) else (-1)))) : Int) = (w.1 9 0 4) from (if_neg c1).trans ((if_neg c2).trans (if_pos c3))] at h
        exact am_ret (r := some (.inl (w.1 9 0 4))) dX12_fault_36 (Or.inl rfl) rfl h
    · refine am_aload_n dX12_fault_16 (List.Mem.head _) ?_
      refine am_getf (f := 3) (v := .inl (w.1 9 0 3)) dX12_fault_17 hc_10 (by decide) wd_1552 (by decide) rfl rfl ?_
      refine am_goto (tgt := 36) dX12_fault_20 (by decide) ?_
      rw [show ((if x1 = 0 then (w.1 9 0 2) else (if x1 = 1 then (w.1 9 0 3) else (if x1 = 2 then (w.1 9 0 4) else (-1)))) : Int) = (w.1 9 0 3) from (if_neg c1).trans (if_pos c2)] at h
      exact am_ret (r := some (.inl (w.1 9 0 3))) dX12_fault_36 (Or.inl rfl) rfl h
  · refine am_aload_n dX12_fault_4 (List.Mem.head _) ?_
    refine am_getf (f := 2) (v := .inl (w.1 9 0 2)) dX12_fault_5 hc_10 (by decide) wd_1551 (by decide) rfl rfl ?_
    refine am_goto (tgt := 36) dX12_fault_8 (by decide) ?_
    rw [show ((if x1 = 0 then (w.1 9 0 2) else (if x1 = 1 then (w.1 9 0 3) else (if x1 = 2 then (w.1 9 0 4) else (-1)))) : Int) = (w.1 9 0 2) from if_pos c1] at h
    exact am_ret (r := some (.inl (w.1 9 0 2))) dX12_fault_36 (Or.inl rfl) rfl h
-- MourningHouseModel.lawOf(II)I
theorem dX12_lawOf_0 : decode mX12_lawOf.2.1 0 = .ok (.iconst (-1), 1) := by decide +kernel
theorem dX12_lawOf_1 : decode mX12_lawOf.2.1 1 = .ok (.istore_n 3, 1) := by decide +kernel
theorem dX12_lawOf_2 : decode mX12_lawOf.2.1 2 = .ok (.iconst 0, 1) := by decide +kernel
theorem dX12_lawOf_3 : decode mX12_lawOf.2.1 3 = .ok (.istore 4, 2) := by decide +kernel
theorem dX12_lawOf_5 : decode mX12_lawOf.2.1 5 = .ok (.iload 4, 2) := by decide +kernel
theorem dX12_lawOf_7 : decode mX12_lawOf.2.1 7 = .ok (.aload_n 0, 1) := by decide +kernel
theorem dX12_lawOf_8 : decode mX12_lawOf.2.1 8 = .ok (.getfield 435, 3) := by decide +kernel
theorem dX12_lawOf_11 : decode mX12_lawOf.2.1 11 = .ok (.if_icmp .ge 34, 3) := by decide +kernel
theorem dX12_lawOf_14 : decode mX12_lawOf.2.1 14 = .ok (.aload_n 0, 1) := by decide +kernel
theorem dX12_lawOf_15 : decode mX12_lawOf.2.1 15 = .ok (.getfield 13, 3) := by decide +kernel
theorem dX12_lawOf_18 : decode mX12_lawOf.2.1 18 = .ok (.iload 4, 2) := by decide +kernel
theorem dX12_lawOf_20 : decode mX12_lawOf.2.1 20 = .ok (.iaload, 1) := by decide +kernel
theorem dX12_lawOf_21 : decode mX12_lawOf.2.1 21 = .ok (.iload_n 1, 1) := by decide +kernel
theorem dX12_lawOf_22 : decode mX12_lawOf.2.1 22 = .ok (.if_icmp .gt 17, 3) := by decide +kernel
theorem dX12_lawOf_25 : decode mX12_lawOf.2.1 25 = .ok (.aload_n 0, 1) := by decide +kernel
theorem dX12_lawOf_26 : decode mX12_lawOf.2.1 26 = .ok (.getfield 13, 3) := by decide +kernel
theorem dX12_lawOf_29 : decode mX12_lawOf.2.1 29 = .ok (.iload 4, 2) := by decide +kernel
theorem dX12_lawOf_31 : decode mX12_lawOf.2.1 31 = .ok (.iaload, 1) := by decide +kernel
theorem dX12_lawOf_32 : decode mX12_lawOf.2.1 32 = .ok (.iload_n 2, 1) := by decide +kernel
theorem dX12_lawOf_33 : decode mX12_lawOf.2.1 33 = .ok (.if_icmp .gt 6, 3) := by decide +kernel
theorem dX12_lawOf_36 : decode mX12_lawOf.2.1 36 = .ok (.iload 4, 2) := by decide +kernel
theorem dX12_lawOf_38 : decode mX12_lawOf.2.1 38 = .ok (.istore_n 3, 1) := by decide +kernel
theorem dX12_lawOf_39 : decode mX12_lawOf.2.1 39 = .ok (.iinc 4 1, 3) := by decide +kernel
theorem dX12_lawOf_42 : decode mX12_lawOf.2.1 42 = .ok (.goto (-37), 3) := by decide +kernel
theorem dX12_lawOf_45 : decode mX12_lawOf.2.1 45 = .ok (.iload_n 3, 1) := by decide +kernel
theorem dX12_lawOf_46 : decode mX12_lawOf.2.1 46 = .ok (.ireturn, 1) := by decide +kernel
theorem bX12_lawOf_0 {SC : Nat → Nat} {X : mh_X} {d : Nat} {Q : Option am_V → am_W → Prop} {bc bs : Nat} {w : am_W} {x1 : Int} {x2 : Int}
    (h : am_A (mh_G X) SC (d + 1) mX12_lawOf Q 5 [(0, .inr (.inr (some (9, 0)))), (1, .inl x1), (2, .inl x2), (3, .inl (-1)), (4, .inl 0)] [] w bc bs) :
    am_A (mh_G X) SC (d + 1) mX12_lawOf Q 0 [(0, .inr (.inr (some (9, 0)))), (1, .inl x1), (2, .inl x2)] [] w bc bs := by
  refine am_iconst dX12_lawOf_0 (by unfold am_rg; omega) ?_
  refine am_istore_n (ls' := [(3, .inl (-1)), (0, .inr (.inr (some (9, 0)))), (1, .inl x1), (2, .inl x2)]) dX12_lawOf_1 (by decide) rfl ?_
  refine am_iconst dX12_lawOf_2 (by unfold am_rg; omega) ?_
  refine am_istore (ls' := [(4, .inl 0), (3, .inl (-1)), (0, .inr (.inr (some (9, 0)))), (1, .inl x1), (2, .inl x2)]) dX12_lawOf_3 (by decide) rfl ?_
  exact am_sub [2, 3, 4, 1, 0] rfl h
theorem bX12_lawOf_5 {SC : Nat → Nat} {X : mh_X} {d : Nat} {Q : Option am_V → am_W → Prop} {bc bs : Nat} {w : am_W} {x1 : Int} {x2 : Int} {x3 : Int} {x4 : Int}
    (h : (((w.1 9 0 21) ≤ x4 → Q (some (.inl x3)) w) ∧ (¬ (w.1 9 0 21) ≤ x4 → (0 ≤ x4 ∧ (x4 < 6 ∧ ((x1 < (w.1 67 0 x4.toNat) → am_A (mh_G X) SC (d + 1) mX12_lawOf Q 39 [(0, .inr (.inr (some (9, 0)))), (1, .inl x1), (2, .inl x2), (3, .inl x3), (4, .inl x4)] [] w bc bs) ∧ (¬ x1 < (w.1 67 0 x4.toNat) → ((x2 < (w.1 67 0 x4.toNat) → am_A (mh_G X) SC (d + 1) mX12_lawOf Q 39 [(0, .inr (.inr (some (9, 0)))), (1, .inl x1), (2, .inl x2), (3, .inl x3), (4, .inl x4)] [] w bc bs) ∧ (¬ x2 < (w.1 67 0 x4.toNat) → am_A (mh_G X) SC (d + 1) mX12_lawOf Q 39 [(0, .inr (.inr (some (9, 0)))), (1, .inl x1), (2, .inl x2), (3, .inl x4), (4, .inl x4)] [] w bc bs))))))))) :
    am_A (mh_G X) SC (d + 1) mX12_lawOf Q 5 [(0, .inr (.inr (some (9, 0)))), (1, .inl x1), (2, .inl x2), (3, .inl x3), (4, .inl x4)] [] w bc bs := by
  refine am_iload dX12_lawOf_5 (List.Mem.tail _ (List.Mem.tail _ (List.Mem.tail _ (List.Mem.tail _ (List.Mem.head _))))) ?_
  refine am_aload_n dX12_lawOf_7 (List.Mem.head _) ?_
  refine am_getf (f := 21) (v := .inl (w.1 9 0 21)) dX12_lawOf_8 hc_10 (by decide) wd_1570 (by decide) rfl rfl ?_
  refine am_icmpge (tgt := 45) dX12_lawOf_11 (by decide) (fun c1 => ?_) (fun c1 => ?_)
  · replace h := h.1 c1
    refine am_iload_n dX12_lawOf_45 (List.Mem.tail _ (List.Mem.tail _ (List.Mem.tail _ (List.Mem.head _)))) ?_
    exact am_ret (r := some (.inl x3)) dX12_lawOf_46 (Or.inl rfl) rfl h
  · replace h := h.2 c1
    refine am_aload_n dX12_lawOf_14 (List.Mem.head _) ?_
    refine am_getf (f := 5) (v := .inr (.inr (some (67, 0)))) dX12_lawOf_15 hc_10 (by decide) wd_1554 (by decide) rfl rfl ?_
    refine am_iload dX12_lawOf_18 (List.Mem.tail _ (List.Mem.tail _ (List.Mem.tail _ (List.Mem.tail _ (List.Mem.head _))))) ?_
    have o2 := h.1
    replace h := h.2
    have o3 := h.1
    replace h := h.2
    refine am_iaload (v := (w.1 67 0 x4.toNat)) dX12_lawOf_20 (by decide) rfl o2 o3 rfl ?_
    refine am_iload_n dX12_lawOf_21 (List.Mem.tail _ (List.Mem.head _)) ?_
    refine am_icmpgt (tgt := 39) dX12_lawOf_22 (by decide) (fun c4 => ?_) (fun c4 => ?_)
    · replace h := h.1 c4
      exact h
    · replace h := h.2 c4
      refine am_aload_n dX12_lawOf_25 (List.Mem.head _) ?_
      refine am_getf (f := 5) (v := .inr (.inr (some (67, 0)))) dX12_lawOf_26 hc_10 (by decide) wd_1554 (by decide) rfl rfl ?_
      refine am_iload dX12_lawOf_29 (List.Mem.tail _ (List.Mem.tail _ (List.Mem.tail _ (List.Mem.tail _ (List.Mem.head _))))) ?_
      refine am_iaload (v := (w.1 67 0 x4.toNat)) dX12_lawOf_31 (by decide) rfl o2 o3 rfl ?_
      refine am_iload_n dX12_lawOf_32 (List.Mem.tail _ (List.Mem.tail _ (List.Mem.head _))) ?_
      refine am_icmpgt (tgt := 39) dX12_lawOf_33 (by decide) (fun c5 => ?_) (fun c5 => ?_)
      · replace h := h.1 c5
        exact h
      · replace h := h.2 c5
        refine am_iload dX12_lawOf_36 (List.Mem.tail _ (List.Mem.tail _ (List.Mem.tail _ (List.Mem.tail _ (List.Mem.head _))))) ?_
        refine am_istore_n (ls' := [(3, .inl x4), (0, .inr (.inr (some (9, 0)))), (1, .inl x1), (2, .inl x2), (4, .inl x4)]) dX12_lawOf_38 (by decide) rfl ?_
        exact am_sub [1, 2, 3, 0, 4] rfl h
theorem bX12_lawOf_39 {SC : Nat → Nat} {X : mh_X} {d : Nat} {Q : Option am_V → am_W → Prop} {bc bs : Nat} {w : am_W} {x1 : Int} {x2 : Int} {x3 : Int} {x4 : Int}
    (h : am_A (mh_G X) SC (d + 1) mX12_lawOf Q 5 [(0, .inr (.inr (some (9, 0)))), (1, .inl x1), (2, .inl x2), (3, .inl x3), (4, .inl (am_w (x4 + 1)))] [] w bc bs) :
    am_A (mh_G X) SC (d + 1) mX12_lawOf Q 39 [(0, .inr (.inr (some (9, 0)))), (1, .inl x1), (2, .inl x2), (3, .inl x3), (4, .inl x4)] [] w bc bs := by
  refine am_iinc (ls' := [(4, .inl (am_w (x4 + 1))), (0, .inr (.inr (some (9, 0)))), (1, .inl x1), (2, .inl x2), (3, .inl x3)]) dX12_lawOf_39 (List.Mem.tail _ (List.Mem.tail _ (List.Mem.tail _ (List.Mem.tail _ (List.Mem.head _))))) (by decide) rfl ?_
  refine am_goto (tgt := 5) dX12_lawOf_42 (by decide) ?_
  exact am_sub [1, 2, 3, 4, 0] rfl h
-- MourningHouseModel.isPerson(I)Z
theorem dX12_isPerson_0 : decode mX12_isPerson.2.1 0 = .ok (.iload_n 1, 1) := by decide +kernel
theorem dX12_isPerson_1 : decode mX12_isPerson.2.1 1 = .ok (.iconst 0, 1) := by decide +kernel
theorem dX12_isPerson_2 : decode mX12_isPerson.2.1 2 = .ok (.aload_n 0, 1) := by decide +kernel
theorem dX12_isPerson_3 : decode mX12_isPerson.2.1 3 = .ok (.getfield 447, 3) := by decide +kernel
theorem dX12_isPerson_6 : decode mX12_isPerson.2.1 6 = .ok (.iconst 1, 1) := by decide +kernel
theorem dX12_isPerson_7 : decode mX12_isPerson.2.1 7 = .ok (.isub, 1) := by decide +kernel
theorem dX12_isPerson_8 : decode mX12_isPerson.2.1 8 = .ok (.invokestatic 318, 3) := by decide +kernel
theorem dX12_isPerson_11 : decode mX12_isPerson.2.1 11 = .ok (.ireturn, 1) := by decide +kernel
theorem sX12_isPerson {SC : Nat → Nat} {X : mh_X} {d kc ks : Nat} {Q : Option am_V → am_W → Prop} {w : am_W} {x1 : Int}
    (h : Q (some (.inl (if (¬ x1 < (0 : Int) ∧ (¬ (am_w ((w.1 9 0 42) - 1)) < x1)) then 1 else 0))) w) : am_M (mh_G X) SC (d + 2) kc ks mX12_isPerson [.inr (.inr (some (9, 0))), .inl x1] w Q := by
  refine am_M_of (by decide) (Nat.le_of_ble_eq_true rfl) ?_
  show am_A (mh_G X) SC (d + 2) mX12_isPerson Q 0 [(0, .inr (.inr (some (9, 0)))), (1, .inl x1)] [] w kc ks
  refine am_iload_n dX12_isPerson_0 (List.Mem.tail _ (List.Mem.head _)) ?_
  refine am_iconst dX12_isPerson_1 (by unfold am_rg; omega) ?_
  refine am_aload_n dX12_isPerson_2 (List.Mem.head _) ?_
  refine am_getf (f := 42) (v := .inl (w.1 9 0 42)) dX12_isPerson_3 hc_10 (by decide) wd_1591 (by decide) rfl rfl ?_
  refine am_iconst dX12_isPerson_6 (by unfold am_rg; omega) ?_
  refine am_isub dX12_isPerson_7 ?_
  refine am_calls (d' := d + 1) (kc := 0) (ks := 0) (as := [.inl x1, .inl 0, .inl (am_w ((w.1 9 0 42) - 1))]) dX12_isPerson_8 wc_X12_in wd_1859 wd_1860 wd_122 ds_X12_in (by decide) (by omega) (Nat.le_of_ble_eq_true rfl) (Nat.zero_le _) (Nat.zero_le _) rfl (sX12_in (d := d + 0) (x0 := x1) (x1 := 0) (x2 := (am_w ((w.1 9 0 42) - 1)))  ?_)
  show am_A (mh_G X) SC (d + 2) mX12_isPerson Q 11 [(0, .inr (.inr (some (9, 0)))), (1, .inl x1)] [.inl (if (¬ x1 < (0 : Int) ∧ (¬ (am_w ((w.1 9 0 42) - 1)) < x1)) then 1 else 0)] w kc ks
  exact am_ret (r := some (.inl (if (¬ x1 < (0 : Int) ∧ (¬ (am_w ((w.1 9 0 42) - 1)) < x1)) then 1 else 0))) dX12_isPerson_11 (Or.inr (Or.inl ⟨rfl, am_b01⟩)) rfl h
-- MourningHouseModel.done(I)V
theorem dX12_done_0 : decode mX12_done.2.1 0 = .ok (.aload_n 0, 1) := by decide +kernel
theorem dX12_done_1 : decode mX12_done.2.1 1 = .ok (.getfield 246, 3) := by decide +kernel
theorem dX12_done_4 : decode mX12_done.2.1 4 = .ok (.iload_n 1, 1) := by decide +kernel
theorem dX12_done_5 : decode mX12_done.2.1 5 = .ok (.iaload, 1) := by decide +kernel
theorem dX12_done_6 : decode mX12_done.2.1 6 = .ok (.iconst (-1), 1) := by decide +kernel
theorem dX12_done_7 : decode mX12_done.2.1 7 = .ok (.if_icmp .ne 46, 3) := by decide +kernel
theorem dX12_done_10 : decode mX12_done.2.1 10 = .ok (.aload_n 0, 1) := by decide +kernel
theorem dX12_done_11 : decode mX12_done.2.1 11 = .ok (.getfield 237, 3) := by decide +kernel
theorem dX12_done_14 : decode mX12_done.2.1 14 = .ok (.aload_n 0, 1) := by decide +kernel
theorem dX12_done_15 : decode mX12_done.2.1 15 = .ok (.getfield 582, 3) := by decide +kernel
theorem dX12_done_18 : decode mX12_done.2.1 18 = .ok (.aload_n 0, 1) := by decide +kernel
theorem dX12_done_19 : decode mX12_done.2.1 19 = .ok (.getfield 249, 3) := by decide +kernel
theorem dX12_done_22 : decode mX12_done.2.1 22 = .ok (.iload_n 1, 1) := by decide +kernel
theorem dX12_done_23 : decode mX12_done.2.1 23 = .ok (.iaload, 1) := by decide +kernel
theorem dX12_done_24 : decode mX12_done.2.1 24 = .ok (.iastore, 1) := by decide +kernel
theorem dX12_done_25 : decode mX12_done.2.1 25 = .ok (.aload_n 0, 1) := by decide +kernel
theorem dX12_done_26 : decode mX12_done.2.1 26 = .ok (.getfield 240, 3) := by decide +kernel
theorem dX12_done_29 : decode mX12_done.2.1 29 = .ok (.aload_n 0, 1) := by decide +kernel
theorem dX12_done_30 : decode mX12_done.2.1 30 = .ok (.getfield 582, 3) := by decide +kernel
theorem dX12_done_33 : decode mX12_done.2.1 33 = .ok (.aload_n 0, 1) := by decide +kernel
theorem dX12_done_34 : decode mX12_done.2.1 34 = .ok (.getfield 252, 3) := by decide +kernel
theorem dX12_done_37 : decode mX12_done.2.1 37 = .ok (.iload_n 1, 1) := by decide +kernel
theorem dX12_done_38 : decode mX12_done.2.1 38 = .ok (.iaload, 1) := by decide +kernel
theorem dX12_done_39 : decode mX12_done.2.1 39 = .ok (.iastore, 1) := by decide +kernel
theorem dX12_done_40 : decode mX12_done.2.1 40 = .ok (.aload_n 0, 1) := by decide +kernel
theorem dX12_done_41 : decode mX12_done.2.1 41 = .ok (.dup, 1) := by decide +kernel
theorem dX12_done_42 : decode mX12_done.2.1 42 = .ok (.getfield 582, 3) := by decide +kernel
theorem dX12_done_45 : decode mX12_done.2.1 45 = .ok (.iconst 1, 1) := by decide +kernel
theorem dX12_done_46 : decode mX12_done.2.1 46 = .ok (.iadd, 1) := by decide +kernel
theorem dX12_done_47 : decode mX12_done.2.1 47 = .ok (.putfield 582, 3) := by decide +kernel
theorem dX12_done_50 : decode mX12_done.2.1 50 = .ok (.goto 20, 3) := by decide +kernel
theorem dX12_done_53 : decode mX12_done.2.1 53 = .ok (.aload_n 0, 1) := by decide +kernel
theorem dX12_done_54 : decode mX12_done.2.1 54 = .ok (.getfield 240, 3) := by decide +kernel
theorem dX12_done_57 : decode mX12_done.2.1 57 = .ok (.aload_n 0, 1) := by decide +kernel
theorem dX12_done_58 : decode mX12_done.2.1 58 = .ok (.getfield 246, 3) := by decide +kernel
theorem dX12_done_61 : decode mX12_done.2.1 61 = .ok (.iload_n 1, 1) := by decide +kernel
theorem dX12_done_62 : decode mX12_done.2.1 62 = .ok (.iaload, 1) := by decide +kernel
theorem dX12_done_63 : decode mX12_done.2.1 63 = .ok (.aload_n 0, 1) := by decide +kernel
theorem dX12_done_64 : decode mX12_done.2.1 64 = .ok (.getfield 252, 3) := by decide +kernel
theorem dX12_done_67 : decode mX12_done.2.1 67 = .ok (.iload_n 1, 1) := by decide +kernel
theorem dX12_done_68 : decode mX12_done.2.1 68 = .ok (.iaload, 1) := by decide +kernel
theorem dX12_done_69 : decode mX12_done.2.1 69 = .ok (.iastore, 1) := by decide +kernel
theorem dX12_done_70 : decode mX12_done.2.1 70 = .ok (.return_, 1) := by decide +kernel
theorem bX12_done_0 {SC : Nat → Nat} {X : mh_X} {d : Nat} {Q : Option am_V → am_W → Prop} {bc bs : Nat} {w : am_W} {x1 : Int}
    (h : (0 ≤ x1 ∧ (x1 < 20 ∧ ((¬ (w.1 129 0 x1.toNat) = (-1) → (0 ≤ (w.1 129 0 x1.toNat) ∧ ((w.1 129 0 x1.toNat) < 40 ∧ Q none ((am_up w.1 127 0 (w.1 129 0 x1.toNat).toNat (w.1 131 0 x1.toNat)), w.2)))) ∧ ((w.1 129 0 x1.toNat) = (-1) → (0 ≤ (w.1 9 0 75) ∧ ((w.1 9 0 75) < 40 ∧ Q none ((am_up (am_up (am_up w.1 126 0 (w.1 9 0 75).toNat (w.1 130 0 x1.toNat)) 127 0 (w.1 9 0 75).toNat (w.1 131 0 x1.toNat)) 9 0 75 (am_w ((w.1 9 0 75) + 1))), w.2)))))))) :
    am_A (mh_G X) SC (d + 1) mX12_done Q 0 [(0, .inr (.inr (some (9, 0)))), (1, .inl x1)] [] w bc bs := by
  refine am_aload_n dX12_done_0 (List.Mem.head _) ?_
  refine am_getf (f := 77) (v := .inr (.inr (some (129, 0)))) dX12_done_1 hc_10 (by decide) wd_1626 (by decide) rfl rfl ?_
  refine am_iload_n dX12_done_4 (List.Mem.tail _ (List.Mem.head _)) ?_
  have o1 := h.1
  replace h := h.2
  have o2 := h.1
  replace h := h.2
  refine am_iaload (v := (w.1 129 0 x1.toNat)) dX12_done_5 (by decide) rfl o1 o2 rfl ?_
  refine am_iconst dX12_done_6 (by unfold am_rg; omega) ?_
  refine am_icmpne (tgt := 53) dX12_done_7 (by decide) (fun c3 => ?_) (fun c3 => ?_)
  · replace h := h.1 c3
    refine am_aload_n dX12_done_53 (List.Mem.head _) ?_
    refine am_getf (f := 73) (v := .inr (.inr (some (127, 0)))) dX12_done_54 hc_10 (by decide) wd_1622 (by decide) rfl rfl ?_
    refine am_aload_n dX12_done_57 (List.Mem.head _) ?_
    refine am_getf (f := 77) (v := .inr (.inr (some (129, 0)))) dX12_done_58 hc_10 (by decide) wd_1626 (by decide) rfl rfl ?_
    refine am_iload_n dX12_done_61 (List.Mem.tail _ (List.Mem.head _)) ?_
    refine am_iaload (v := (w.1 129 0 x1.toNat)) dX12_done_62 (by decide) rfl o1 o2 rfl ?_
    refine am_aload_n dX12_done_63 (List.Mem.head _) ?_
    refine am_getf (f := 79) (v := .inr (.inr (some (131, 0)))) dX12_done_64 hc_10 (by decide) wd_1628 (by decide) rfl rfl ?_
    refine am_iload_n dX12_done_67 (List.Mem.tail _ (List.Mem.head _)) ?_
    refine am_iaload (v := (w.1 131 0 x1.toNat)) dX12_done_68 (by decide) rfl o1 o2 rfl ?_
    have o4 := h.1
    replace h := h.2
    have o5 := h.1
    replace h := h.2
    refine am_iastore dX12_done_69 (Or.inl (by decide)) rfl o4 o5 ?_
    exact am_ret (r := none) dX12_done_70 rfl rfl h
  · replace h := h.2 c3
    refine am_aload_n dX12_done_10 (List.Mem.head _) ?_
    refine am_getf (f := 72) (v := .inr (.inr (some (126, 0)))) dX12_done_11 hc_10 (by decide) wd_1621 (by decide) rfl rfl ?_
    refine am_aload_n dX12_done_14 (List.Mem.head _) ?_
    refine am_getf (f := 75) (v := .inl (w.1 9 0 75)) dX12_done_15 hc_10 (by decide) wd_1624 (by decide) rfl rfl ?_
    refine am_aload_n dX12_done_18 (List.Mem.head _) ?_
    refine am_getf (f := 78) (v := .inr (.inr (some (130, 0)))) dX12_done_19 hc_10 (by decide) wd_1627 (by decide) rfl rfl ?_
    refine am_iload_n dX12_done_22 (List.Mem.tail _ (List.Mem.head _)) ?_
    refine am_iaload (v := (w.1 130 0 x1.toNat)) dX12_done_23 (by decide) rfl o1 o2 rfl ?_
    have o6 := h.1
    replace h := h.2
    have o7 := h.1
    replace h := h.2
    refine am_iastore dX12_done_24 (Or.inl (by decide)) rfl o6 o7 ?_
    refine am_aload_n dX12_done_25 (List.Mem.head _) ?_
    refine am_getf (f := 73) (v := .inr (.inr (some (127, 0)))) dX12_done_26 hc_10 (by decide) wd_1622 (by decide) rfl rfl ?_
    refine am_aload_n dX12_done_29 (List.Mem.head _) ?_
    refine am_getf (f := 75) (v := .inl (w.1 9 0 75)) dX12_done_30 hc_10 (by decide) wd_1624 (by decide) rfl rfl ?_
    refine am_aload_n dX12_done_33 (List.Mem.head _) ?_
    refine am_getf (f := 79) (v := .inr (.inr (some (131, 0)))) dX12_done_34 hc_10 (by decide) wd_1628 (by decide) rfl rfl ?_
    refine am_iload_n dX12_done_37 (List.Mem.tail _ (List.Mem.head _)) ?_
    refine am_iaload (v := (w.1 131 0 x1.toNat)) dX12_done_38 (by decide) rfl o1 o2 rfl ?_
    refine am_iastore dX12_done_39 (Or.inl (by decide)) rfl o6 o7 ?_
    refine am_aload_n dX12_done_40 (List.Mem.head _) ?_
    refine am_dup dX12_done_41 rfl ?_
    refine am_getf (f := 75) (v := .inl (w.1 9 0 75)) dX12_done_42 hc_10 (by decide) wd_1624 (by decide) rfl rfl ?_
    refine am_iconst dX12_done_45 (by unfold am_rg; omega) ?_
    refine am_iadd dX12_done_46 ?_
    refine am_putf (f := 75) dX12_done_47 hc_10 (by decide) wd_1624 rfl (Or.inl rfl) (Or.inl (by decide)) rfl ?_
    refine am_goto (tgt := 70) dX12_done_50 (by decide) ?_
    exact am_ret (r := none) dX12_done_70 rfl rfl h
-- MourningHouseModel.works()V
theorem dX12_works_0 : decode mX12_works.2.1 0 = .ok (.iconst 0, 1) := by decide +kernel
theorem dX12_works_1 : decode mX12_works.2.1 1 = .ok (.istore_n 1, 1) := by decide +kernel
theorem dX12_works_2 : decode mX12_works.2.1 2 = .ok (.iload_n 1, 1) := by decide +kernel
theorem dX12_works_3 : decode mX12_works.2.1 3 = .ok (.aload_n 0, 1) := by decide +kernel
theorem dX12_works_4 : decode mX12_works.2.1 4 = .ok (.getfield 576, 3) := by decide +kernel
theorem dX12_works_7 : decode mX12_works.2.1 7 = .ok (.if_icmp .ge 27, 3) := by decide +kernel
theorem dX12_works_10 : decode mX12_works.2.1 10 = .ok (.iload_n 1, 1) := by decide +kernel
theorem dX12_works_11 : decode mX12_works.2.1 11 = .ok (.aload_n 0, 1) := by decide +kernel
theorem dX12_works_12 : decode mX12_works.2.1 12 = .ok (.getfield 588, 3) := by decide +kernel
theorem dX12_works_15 : decode mX12_works.2.1 15 = .ok (.if_icmp .ge 19, 3) := by decide +kernel
theorem dX12_works_18 : decode mX12_works.2.1 18 = .ok (.aload_n 0, 1) := by decide +kernel
theorem dX12_works_19 : decode mX12_works.2.1 19 = .ok (.getfield 255, 3) := by decide +kernel
theorem dX12_works_22 : decode mX12_works.2.1 22 = .ok (.iload_n 1, 1) := by decide +kernel
theorem dX12_works_23 : decode mX12_works.2.1 23 = .ok (.dup2, 1) := by decide +kernel
theorem dX12_works_24 : decode mX12_works.2.1 24 = .ok (.iaload, 1) := by decide +kernel
theorem dX12_works_25 : decode mX12_works.2.1 25 = .ok (.iconst 1, 1) := by decide +kernel
theorem dX12_works_26 : decode mX12_works.2.1 26 = .ok (.isub, 1) := by decide +kernel
theorem dX12_works_27 : decode mX12_works.2.1 27 = .ok (.iastore, 1) := by decide +kernel
theorem dX12_works_28 : decode mX12_works.2.1 28 = .ok (.iinc 1 1, 3) := by decide +kernel
theorem dX12_works_31 : decode mX12_works.2.1 31 = .ok (.goto (-29), 3) := by decide +kernel
theorem dX12_works_34 : decode mX12_works.2.1 34 = .ok (.iconst 0, 1) := by decide +kernel
theorem dX12_works_35 : decode mX12_works.2.1 35 = .ok (.istore_n 1, 1) := by decide +kernel
theorem dX12_works_36 : decode mX12_works.2.1 36 = .ok (.iconst 0, 1) := by decide +kernel
theorem dX12_works_37 : decode mX12_works.2.1 37 = .ok (.istore_n 2, 1) := by decide +kernel
theorem dX12_works_38 : decode mX12_works.2.1 38 = .ok (.iload_n 2, 1) := by decide +kernel
theorem dX12_works_39 : decode mX12_works.2.1 39 = .ok (.aload_n 0, 1) := by decide +kernel
theorem dX12_works_40 : decode mX12_works.2.1 40 = .ok (.getfield 576, 3) := by decide +kernel
theorem dX12_works_43 : decode mX12_works.2.1 43 = .ok (.if_icmp .ge 77, 3) := by decide +kernel
theorem dX12_works_46 : decode mX12_works.2.1 46 = .ok (.aload_n 0, 1) := by decide +kernel
theorem dX12_works_47 : decode mX12_works.2.1 47 = .ok (.getfield 255, 3) := by decide +kernel
theorem dX12_works_50 : decode mX12_works.2.1 50 = .ok (.iload_n 2, 1) := by decide +kernel
theorem dX12_works_51 : decode mX12_works.2.1 51 = .ok (.iaload, 1) := by decide +kernel
theorem dX12_works_52 : decode mX12_works.2.1 52 = .ok (.ifCond .ne 11, 3) := by decide +kernel
theorem dX12_works_55 : decode mX12_works.2.1 55 = .ok (.aload_n 0, 1) := by decide +kernel
theorem dX12_works_56 : decode mX12_works.2.1 56 = .ok (.iload_n 2, 1) := by decide +kernel
theorem dX12_works_57 : decode mX12_works.2.1 57 = .ok (.invokevirtual 597, 3) := by decide +kernel
theorem dX12_works_60 : decode mX12_works.2.1 60 = .ok (.goto 54, 3) := by decide +kernel
theorem dX12_works_63 : decode mX12_works.2.1 63 = .ok (.aload_n 0, 1) := by decide +kernel
theorem dX12_works_64 : decode mX12_works.2.1 64 = .ok (.getfield 246, 3) := by decide +kernel
theorem dX12_works_67 : decode mX12_works.2.1 67 = .ok (.iload_n 1, 1) := by decide +kernel
theorem dX12_works_68 : decode mX12_works.2.1 68 = .ok (.aload_n 0, 1) := by decide +kernel
theorem dX12_works_69 : decode mX12_works.2.1 69 = .ok (.getfield 246, 3) := by decide +kernel
theorem dX12_works_72 : decode mX12_works.2.1 72 = .ok (.iload_n 2, 1) := by decide +kernel
theorem dX12_works_73 : decode mX12_works.2.1 73 = .ok (.iaload, 1) := by decide +kernel
theorem dX12_works_74 : decode mX12_works.2.1 74 = .ok (.iastore, 1) := by decide +kernel
theorem dX12_works_75 : decode mX12_works.2.1 75 = .ok (.aload_n 0, 1) := by decide +kernel
theorem dX12_works_76 : decode mX12_works.2.1 76 = .ok (.getfield 249, 3) := by decide +kernel
theorem dX12_works_79 : decode mX12_works.2.1 79 = .ok (.iload_n 1, 1) := by decide +kernel
theorem dX12_works_80 : decode mX12_works.2.1 80 = .ok (.aload_n 0, 1) := by decide +kernel
theorem dX12_works_81 : decode mX12_works.2.1 81 = .ok (.getfield 249, 3) := by decide +kernel
theorem dX12_works_84 : decode mX12_works.2.1 84 = .ok (.iload_n 2, 1) := by decide +kernel
theorem dX12_works_85 : decode mX12_works.2.1 85 = .ok (.iaload, 1) := by decide +kernel
theorem dX12_works_86 : decode mX12_works.2.1 86 = .ok (.iastore, 1) := by decide +kernel
theorem dX12_works_87 : decode mX12_works.2.1 87 = .ok (.aload_n 0, 1) := by decide +kernel
theorem dX12_works_88 : decode mX12_works.2.1 88 = .ok (.getfield 252, 3) := by decide +kernel
theorem dX12_works_91 : decode mX12_works.2.1 91 = .ok (.iload_n 1, 1) := by decide +kernel
theorem dX12_works_92 : decode mX12_works.2.1 92 = .ok (.aload_n 0, 1) := by decide +kernel
theorem dX12_works_93 : decode mX12_works.2.1 93 = .ok (.getfield 252, 3) := by decide +kernel
theorem dX12_works_96 : decode mX12_works.2.1 96 = .ok (.iload_n 2, 1) := by decide +kernel
theorem dX12_works_97 : decode mX12_works.2.1 97 = .ok (.iaload, 1) := by decide +kernel
theorem dX12_works_98 : decode mX12_works.2.1 98 = .ok (.iastore, 1) := by decide +kernel
theorem dX12_works_99 : decode mX12_works.2.1 99 = .ok (.aload_n 0, 1) := by decide +kernel
theorem dX12_works_100 : decode mX12_works.2.1 100 = .ok (.getfield 255, 3) := by decide +kernel
theorem dX12_works_103 : decode mX12_works.2.1 103 = .ok (.iload_n 1, 1) := by decide +kernel
theorem dX12_works_104 : decode mX12_works.2.1 104 = .ok (.aload_n 0, 1) := by decide +kernel
theorem dX12_works_105 : decode mX12_works.2.1 105 = .ok (.getfield 255, 3) := by decide +kernel
theorem dX12_works_108 : decode mX12_works.2.1 108 = .ok (.iload_n 2, 1) := by decide +kernel
theorem dX12_works_109 : decode mX12_works.2.1 109 = .ok (.iaload, 1) := by decide +kernel
theorem dX12_works_110 : decode mX12_works.2.1 110 = .ok (.iastore, 1) := by decide +kernel
theorem dX12_works_111 : decode mX12_works.2.1 111 = .ok (.iinc 1 1, 3) := by decide +kernel
theorem dX12_works_114 : decode mX12_works.2.1 114 = .ok (.iinc 2 1, 3) := by decide +kernel
theorem dX12_works_117 : decode mX12_works.2.1 117 = .ok (.goto (-79), 3) := by decide +kernel
theorem dX12_works_120 : decode mX12_works.2.1 120 = .ok (.aload_n 0, 1) := by decide +kernel
theorem dX12_works_121 : decode mX12_works.2.1 121 = .ok (.iload_n 1, 1) := by decide +kernel
theorem dX12_works_122 : decode mX12_works.2.1 122 = .ok (.putfield 576, 3) := by decide +kernel
theorem dX12_works_125 : decode mX12_works.2.1 125 = .ok (.return_, 1) := by decide +kernel
theorem bX12_works_0 {SC : Nat → Nat} {X : mh_X} {d : Nat} {Q : Option am_V → am_W → Prop} {bc bs : Nat} {w : am_W} 
    (h : am_A (mh_G X) SC (d + 2) mX12_works Q 2 [(0, .inr (.inr (some (9, 0)))), (1, .inl 0)] [] w bc bs) :
    am_A (mh_G X) SC (d + 2) mX12_works Q 0 [(0, .inr (.inr (some (9, 0))))] [] w bc bs := by
  refine am_iconst dX12_works_0 (by unfold am_rg; omega) ?_
  refine am_istore_n (ls' := [(1, .inl 0), (0, .inr (.inr (some (9, 0))))]) dX12_works_1 (by decide) rfl ?_
  exact am_sub [1, 0] rfl h
theorem bX12_works_2 {SC : Nat → Nat} {X : mh_X} {d : Nat} {Q : Option am_V → am_W → Prop} {bc bs : Nat} {w : am_W} {x1 : Int}
    (h : (((w.1 9 0 81) ≤ x1 → am_A (mh_G X) SC (d + 2) mX12_works Q 34 [(0, .inr (.inr (some (9, 0))))] [] w bc bs) ∧ (¬ (w.1 9 0 81) ≤ x1 → (((w.1 9 0 76) ≤ x1 → am_A (mh_G X) SC (d + 2) mX12_works Q 34 [(0, .inr (.inr (some (9, 0))))] [] w bc bs) ∧ (¬ (w.1 9 0 76) ≤ x1 → (0 ≤ x1 ∧ (x1 < 20 ∧ am_A (mh_G X) SC (d + 2) mX12_works Q 2 [(0, .inr (.inr (some (9, 0)))), (1, .inl (am_w (x1 + 1)))] [] ((am_up w.1 132 0 x1.toNat (am_w ((w.1 132 0 x1.toNat) - 1))), w.2) bc bs))))))) :
    am_A (mh_G X) SC (d + 2) mX12_works Q 2 [(0, .inr (.inr (some (9, 0)))), (1, .inl x1)] [] w bc bs := by
  refine am_iload_n dX12_works_2 (List.Mem.tail _ (List.Mem.head _)) ?_
  refine am_aload_n dX12_works_3 (List.Mem.head _) ?_
  refine am_getf (f := 81) (v := .inl (w.1 9 0 81)) dX12_works_4 hc_10 (by decide) wd_1630 (by decide) rfl rfl ?_
  refine am_icmpge (tgt := 34) dX12_works_7 (by decide) (fun c1 => ?_) (fun c1 => ?_)
  · replace h := h.1 c1
    exact am_sub [0] rfl h
  · replace h := h.2 c1
    refine am_iload_n dX12_works_10 (List.Mem.tail _ (List.Mem.head _)) ?_
    refine am_aload_n dX12_works_11 (List.Mem.head _) ?_
    refine am_getf (f := 76) (v := .inl (w.1 9 0 76)) dX12_works_12 hc_10 (by decide) wd_1625 (by decide) rfl rfl ?_
    refine am_icmpge (tgt := 34) dX12_works_15 (by decide) (fun c2 => ?_) (fun c2 => ?_)
    · replace h := h.1 c2
      exact am_sub [0] rfl h
    · replace h := h.2 c2
      refine am_aload_n dX12_works_18 (List.Mem.head _) ?_
      refine am_getf (f := 80) (v := .inr (.inr (some (132, 0)))) dX12_works_19 hc_10 (by decide) wd_1629 (by decide) rfl rfl ?_
      refine am_iload_n dX12_works_22 (List.Mem.tail _ (List.Mem.head _)) ?_
      refine am_dup2 dX12_works_23 rfl rfl ?_
      have o3 := h.1
      replace h := h.2
      have o4 := h.1
      replace h := h.2
      refine am_iaload (v := (w.1 132 0 x1.toNat)) dX12_works_24 (by decide) rfl o3 o4 rfl ?_
      refine am_iconst dX12_works_25 (by unfold am_rg; omega) ?_
      refine am_isub dX12_works_26 ?_
      refine am_iastore dX12_works_27 (Or.inl (by decide)) rfl o3 o4 ?_
      refine am_iinc (ls' := [(1, .inl (am_w (x1 + 1))), (0, .inr (.inr (some (9, 0))))]) dX12_works_28 (List.Mem.tail _ (List.Mem.head _)) (by decide) rfl ?_
      refine am_goto (tgt := 2) dX12_works_31 (by decide) ?_
      exact am_sub [1, 0] rfl h
theorem bX12_works_34 {SC : Nat → Nat} {X : mh_X} {d : Nat} {Q : Option am_V → am_W → Prop} {bc bs : Nat} {w : am_W} 
    (h : am_A (mh_G X) SC (d + 2) mX12_works Q 38 [(0, .inr (.inr (some (9, 0)))), (1, .inl 0), (2, .inl 0)] [] w bc bs) :
    am_A (mh_G X) SC (d + 2) mX12_works Q 34 [(0, .inr (.inr (some (9, 0))))] [] w bc bs := by
  refine am_iconst dX12_works_34 (by unfold am_rg; omega) ?_
  refine am_istore_n (ls' := [(1, .inl 0), (0, .inr (.inr (some (9, 0))))]) dX12_works_35 (by decide) rfl ?_
  refine am_iconst dX12_works_36 (by unfold am_rg; omega) ?_
  refine am_istore_n (ls' := [(2, .inl 0), (1, .inl 0), (0, .inr (.inr (some (9, 0))))]) dX12_works_37 (by decide) rfl ?_
  exact am_sub [2, 1, 0] rfl h
theorem bX12_works_38 {SC : Nat → Nat} {X : mh_X} {d : Nat} {Q : Option am_V → am_W → Prop} {bc bs : Nat} {w : am_W} {x1 : Int} {x2 : Int}
    (h : (((w.1 9 0 81) ≤ x2 → Q none ((am_up w.1 9 0 81 x1), w.2)) ∧ (¬ (w.1 9 0 81) ≤ x2 → (0 ≤ x2 ∧ (x2 < 20 ∧ ((¬ (w.1 132 0 x2.toNat) = 0 → (0 ≤ x1 ∧ (x1 < 20 ∧ am_A (mh_G X) SC (d + 2) mX12_works Q 114 [(0, .inr (.inr (some (9, 0)))), (1, .inl (am_w (x1 + 1))), (2, .inl x2)] [] ((am_up (am_up (am_up (am_up w.1 129 0 x1.toNat (w.1 129 0 x2.toNat)) 130 0 x1.toNat (w.1 130 0 x2.toNat)) 131 0 x1.toNat (w.1 131 0 x2.toNat)) 132 0 x1.toNat (w.1 132 0 x2.toNat)), w.2) bc bs))) ∧ ((w.1 132 0 x2.toNat) = 0 → am_M (mh_G X) SC (d + 1) 0 0 mX12_done [.inr (.inr (some (9, 0))), .inl x2] w (fun r w1 => am_A (mh_G X) SC (d + 2) mX12_works Q 60 [(0, .inr (.inr (some (9, 0)))), (1, .inl x1), (2, .inl x2)] (r.toList ++ []) w1 bc bs)))))))) :
    am_A (mh_G X) SC (d + 2) mX12_works Q 38 [(0, .inr (.inr (some (9, 0)))), (1, .inl x1), (2, .inl x2)] [] w bc bs := by
  refine am_iload_n dX12_works_38 (List.Mem.tail _ (List.Mem.tail _ (List.Mem.head _))) ?_
  refine am_aload_n dX12_works_39 (List.Mem.head _) ?_
  refine am_getf (f := 81) (v := .inl (w.1 9 0 81)) dX12_works_40 hc_10 (by decide) wd_1630 (by decide) rfl rfl ?_
  refine am_icmpge (tgt := 120) dX12_works_43 (by decide) (fun c1 => ?_) (fun c1 => ?_)
  · replace h := h.1 c1
    refine am_aload_n dX12_works_120 (List.Mem.head _) ?_
    refine am_iload_n dX12_works_121 (List.Mem.tail _ (List.Mem.head _)) ?_
    refine am_putf (f := 81) dX12_works_122 hc_10 (by decide) wd_1630 rfl (Or.inl rfl) (Or.inl (by decide)) rfl ?_
    exact am_ret (r := none) dX12_works_125 rfl rfl h
  · replace h := h.2 c1
    refine am_aload_n dX12_works_46 (List.Mem.head _) ?_
    refine am_getf (f := 80) (v := .inr (.inr (some (132, 0)))) dX12_works_47 hc_10 (by decide) wd_1629 (by decide) rfl rfl ?_
    refine am_iload_n dX12_works_50 (List.Mem.tail _ (List.Mem.tail _ (List.Mem.head _))) ?_
    have o2 := h.1
    replace h := h.2
    have o3 := h.1
    replace h := h.2
    refine am_iaload (v := (w.1 132 0 x2.toNat)) dX12_works_51 (by decide) rfl o2 o3 rfl ?_
    refine am_ifne (tgt := 63) dX12_works_52 (by decide) (fun c4 => ?_) (fun c4 => ?_)
    · replace h := h.1 c4
      refine am_aload_n dX12_works_63 (List.Mem.head _) ?_
      refine am_getf (f := 77) (v := .inr (.inr (some (129, 0)))) dX12_works_64 hc_10 (by decide) wd_1626 (by decide) rfl rfl ?_
      refine am_iload_n dX12_works_67 (List.Mem.tail _ (List.Mem.head _)) ?_
      refine am_aload_n dX12_works_68 (List.Mem.head _) ?_
      refine am_getf (f := 77) (v := .inr (.inr (some (129, 0)))) dX12_works_69 hc_10 (by decide) wd_1626 (by decide) rfl rfl ?_
      refine am_iload_n dX12_works_72 (List.Mem.tail _ (List.Mem.tail _ (List.Mem.head _))) ?_
      refine am_iaload (v := (w.1 129 0 x2.toNat)) dX12_works_73 (by decide) rfl o2 o3 rfl ?_
      have o5 := h.1
      replace h := h.2
      have o6 := h.1
      replace h := h.2
      refine am_iastore dX12_works_74 (Or.inl (by decide)) rfl o5 o6 ?_
      refine am_aload_n dX12_works_75 (List.Mem.head _) ?_
      refine am_getf (f := 78) (v := .inr (.inr (some (130, 0)))) dX12_works_76 hc_10 (by decide) wd_1627 (by decide) rfl rfl ?_
      refine am_iload_n dX12_works_79 (List.Mem.tail _ (List.Mem.head _)) ?_
      refine am_aload_n dX12_works_80 (List.Mem.head _) ?_
      refine am_getf (f := 78) (v := .inr (.inr (some (130, 0)))) dX12_works_81 hc_10 (by decide) wd_1627 (by decide) rfl rfl ?_
      refine am_iload_n dX12_works_84 (List.Mem.tail _ (List.Mem.tail _ (List.Mem.head _))) ?_
      refine am_iaload (v := (w.1 130 0 x2.toNat)) dX12_works_85 (by decide) rfl o2 o3 rfl ?_
      refine am_iastore dX12_works_86 (Or.inl (by decide)) rfl o5 o6 ?_
      refine am_aload_n dX12_works_87 (List.Mem.head _) ?_
      refine am_getf (f := 79) (v := .inr (.inr (some (131, 0)))) dX12_works_88 hc_10 (by decide) wd_1628 (by decide) rfl rfl ?_
      refine am_iload_n dX12_works_91 (List.Mem.tail _ (List.Mem.head _)) ?_
      refine am_aload_n dX12_works_92 (List.Mem.head _) ?_
      refine am_getf (f := 79) (v := .inr (.inr (some (131, 0)))) dX12_works_93 hc_10 (by decide) wd_1628 (by decide) rfl rfl ?_
      refine am_iload_n dX12_works_96 (List.Mem.tail _ (List.Mem.tail _ (List.Mem.head _))) ?_
      refine am_iaload (v := (w.1 131 0 x2.toNat)) dX12_works_97 (by decide) rfl o2 o3 rfl ?_
      refine am_iastore dX12_works_98 (Or.inl (by decide)) rfl o5 o6 ?_
      refine am_aload_n dX12_works_99 (List.Mem.head _) ?_
      refine am_getf (f := 80) (v := .inr (.inr (some (132, 0)))) dX12_works_100 hc_10 (by decide) wd_1629 (by decide) rfl rfl ?_
      refine am_iload_n dX12_works_103 (List.Mem.tail _ (List.Mem.head _)) ?_
      refine am_aload_n dX12_works_104 (List.Mem.head _) ?_
      refine am_getf (f := 80) (v := .inr (.inr (some (132, 0)))) dX12_works_105 hc_10 (by decide) wd_1629 (by decide) rfl rfl ?_
      refine am_iload_n dX12_works_108 (List.Mem.tail _ (List.Mem.tail _ (List.Mem.head _))) ?_
      refine am_iaload (v := (w.1 132 0 x2.toNat)) dX12_works_109 (by decide) rfl o2 o3 rfl ?_
      refine am_iastore dX12_works_110 (Or.inl (by decide)) rfl o5 o6 ?_
      refine am_iinc (ls' := [(1, .inl (am_w (x1 + 1))), (0, .inr (.inr (some (9, 0)))), (2, .inl x2)]) dX12_works_111 (List.Mem.tail _ (List.Mem.head _)) (by decide) rfl ?_
      exact am_sub [1, 0, 2] rfl h
    · replace h := h.2 c4
      refine am_aload_n dX12_works_55 (List.Mem.head _) ?_
      refine am_iload_n dX12_works_56 (List.Mem.tail _ (List.Mem.tail _ (List.Mem.head _))) ?_
      exact am_callv (d' := d + 1) (kc := 0) (ks := 0) (as := [.inl x2]) dX12_works_57 wc_X12_done wd_2010 wd_2012 wd_72 wd_122 ds_X12_done (by decide) (by omega) (Nat.le_of_ble_eq_true rfl) (Nat.zero_le _) (Nat.zero_le _) hc_10 (by decide) rfl rfl h
theorem bX12_works_114 {SC : Nat → Nat} {X : mh_X} {d : Nat} {Q : Option am_V → am_W → Prop} {bc bs : Nat} {w : am_W} {x1 : Int} {x2 : Int}
    (h : am_A (mh_G X) SC (d + 2) mX12_works Q 38 [(0, .inr (.inr (some (9, 0)))), (1, .inl x1), (2, .inl (am_w (x2 + 1)))] [] w bc bs) :
    am_A (mh_G X) SC (d + 2) mX12_works Q 114 [(0, .inr (.inr (some (9, 0)))), (1, .inl x1), (2, .inl x2)] [] w bc bs := by
  refine am_iinc (ls' := [(2, .inl (am_w (x2 + 1))), (0, .inr (.inr (some (9, 0)))), (1, .inl x1)]) dX12_works_114 (List.Mem.tail _ (List.Mem.tail _ (List.Mem.head _))) (by decide) rfl ?_
  refine am_goto (tgt := 38) dX12_works_117 (by decide) ?_
  exact am_sub [1, 2, 0] rfl h
theorem bX12_works_60 {SC : Nat → Nat} {X : mh_X} {d : Nat} {Q : Option am_V → am_W → Prop} {bc bs : Nat} {w : am_W} {x1 : Int} {x2 : Int}
    (h : am_A (mh_G X) SC (d + 2) mX12_works Q 114 [(0, .inr (.inr (some (9, 0)))), (1, .inl x1), (2, .inl x2)] [] w bc bs) :
    am_A (mh_G X) SC (d + 2) mX12_works Q 60 [(0, .inr (.inr (some (9, 0)))), (1, .inl x1), (2, .inl x2)] [] w bc bs := by
  refine am_goto (tgt := 114) dX12_works_60 (by decide) ?_
  exact h
-- MourningHouseModel.go(I)I
theorem dX12_go_0 : decode mX12_go.2.1 0 = .ok (.iload_n 1, 1) := by decide +kernel
theorem dX12_go_1 : decode mX12_go.2.1 1 = .ok (.iconst 0, 1) := by decide +kernel
theorem dX12_go_2 : decode mX12_go.2.1 2 = .ok (.sipush 2000, 3) := by decide +kernel
theorem dX12_go_5 : decode mX12_go.2.1 5 = .ok (.invokestatic 318, 3) := by decide +kernel
theorem dX12_go_8 : decode mX12_go.2.1 8 = .ok (.ifCond .ne 5, 3) := by decide +kernel
theorem dX12_go_11 : decode mX12_go.2.1 11 = .ok (.iconst (-1), 1) := by decide +kernel
theorem dX12_go_12 : decode mX12_go.2.1 12 = .ok (.ireturn, 1) := by decide +kernel
theorem dX12_go_13 : decode mX12_go.2.1 13 = .ok (.iconst 0, 1) := by decide +kernel
theorem dX12_go_14 : decode mX12_go.2.1 14 = .ok (.istore_n 2, 1) := by decide +kernel
theorem dX12_go_15 : decode mX12_go.2.1 15 = .ok (.iload_n 2, 1) := by decide +kernel
theorem dX12_go_16 : decode mX12_go.2.1 16 = .ok (.iload_n 1, 1) := by decide +kernel
theorem dX12_go_17 : decode mX12_go.2.1 17 = .ok (.if_icmp .ge 33, 3) := by decide +kernel
theorem dX12_go_20 : decode mX12_go.2.1 20 = .ok (.aload_n 0, 1) := by decide +kernel
theorem dX12_go_21 : decode mX12_go.2.1 21 = .ok (.getfield 444, 3) := by decide +kernel
theorem dX12_go_24 : decode mX12_go.2.1 24 = .ok (.ldc_w 317, 3) := by decide +kernel
theorem dX12_go_27 : decode mX12_go.2.1 27 = .ok (.if_icmp .ge 23, 3) := by decide +kernel
theorem dX12_go_30 : decode mX12_go.2.1 30 = .ok (.aload_n 0, 1) := by decide +kernel
theorem dX12_go_31 : decode mX12_go.2.1 31 = .ok (.invokevirtual 450, 3) := by decide +kernel
theorem dX12_go_34 : decode mX12_go.2.1 34 = .ok (.aload_n 0, 1) := by decide +kernel
theorem dX12_go_35 : decode mX12_go.2.1 35 = .ok (.dup, 1) := by decide +kernel
theorem dX12_go_36 : decode mX12_go.2.1 36 = .ok (.getfield 444, 3) := by decide +kernel
theorem dX12_go_39 : decode mX12_go.2.1 39 = .ok (.iconst 1, 1) := by decide +kernel
theorem dX12_go_40 : decode mX12_go.2.1 40 = .ok (.iadd, 1) := by decide +kernel
theorem dX12_go_41 : decode mX12_go.2.1 41 = .ok (.putfield 444, 3) := by decide +kernel
theorem dX12_go_44 : decode mX12_go.2.1 44 = .ok (.iinc 2 1, 3) := by decide +kernel
theorem dX12_go_47 : decode mX12_go.2.1 47 = .ok (.goto (-32), 3) := by decide +kernel
theorem dX12_go_50 : decode mX12_go.2.1 50 = .ok (.aload_n 0, 1) := by decide +kernel
theorem dX12_go_51 : decode mX12_go.2.1 51 = .ok (.getfield 444, 3) := by decide +kernel
theorem dX12_go_54 : decode mX12_go.2.1 54 = .ok (.ireturn, 1) := by decide +kernel
theorem bX12_go_0 {SC : Nat → Nat} {X : mh_X} {d : Nat} {Q : Option am_V → am_W → Prop} {bc bs : Nat} {w : am_W} {x1 : Int}
    (h : (((¬ x1 < (0 : Int) ∧ (¬ (2000 : Int) < x1)) → am_A (mh_G X) SC (d + 3) mX12_go Q 15 [(0, .inr (.inr (some (9, 0)))), (1, .inl x1), (2, .inl 0)] [] w bc bs) ∧ (¬ (¬ x1 < (0 : Int) ∧ (¬ (2000 : Int) < x1)) → Q (some (.inl (-1))) w))) :
    am_A (mh_G X) SC (d + 3) mX12_go Q 0 [(0, .inr (.inr (some (9, 0)))), (1, .inl x1)] [] w bc bs := by
  refine am_iload_n dX12_go_0 (List.Mem.tail _ (List.Mem.head _)) ?_
  refine am_iconst dX12_go_1 (by unfold am_rg; omega) ?_
  refine am_sipush dX12_go_2 (by decide) (by unfold am_rg; omega) ?_
  refine am_calls (d' := d + 2) (kc := 0) (ks := 0) (as := [.inl x1, .inl 0, .inl 2000]) dX12_go_5 wc_X12_in wd_1859 wd_1860 wd_122 ds_X12_in (by decide) (by omega) (Nat.le_of_ble_eq_true rfl) (Nat.zero_le _) (Nat.zero_le _) rfl (sX12_in (d := d + 1) (x0 := x1) (x1 := 0) (x2 := 2000)  ?_)
  show am_A (mh_G X) SC (d + 3) mX12_go Q 8 [(0, .inr (.inr (some (9, 0)))), (1, .inl x1)] [.inl (if (¬ x1 < (0 : Int) ∧ (¬ (2000 : Int) < x1)) then 1 else 0)] w bc bs
  refine am_ifne (tgt := 13) dX12_go_8 (by decide) (fun c1 => ?_) (fun c1 => ?_)
  · replace c1 := am_bne1 c1
    replace h := h.1 c1
    refine am_iconst dX12_go_13 (by unfold am_rg; omega) ?_
    refine am_istore_n (ls' := [(2, .inl 0), (0, .inr (.inr (some (9, 0)))), (1, .inl x1)]) dX12_go_14 (by decide) rfl ?_
    exact am_sub [1, 2, 0] rfl h
  · replace c1 := am_bne2 c1
    replace h := h.2 c1
    refine am_iconst dX12_go_11 (by unfold am_rg; omega) ?_
    exact am_ret (r := some (.inl (-1))) dX12_go_12 (Or.inl rfl) rfl h
theorem bX12_go_15 {SC : Nat → Nat} {X : mh_X} {d : Nat} {Q : Option am_V → am_W → Prop} {bc bs : Nat} {w : am_W} {x1 : Int} {x2 : Int}
    (h : ((x1 ≤ x2 → Q (some (.inl (w.1 9 0 33))) w) ∧ (¬ x1 ≤ x2 → ((73047 ≤ (w.1 9 0 33) → Q (some (.inl (w.1 9 0 33))) w) ∧ (¬ 73047 ≤ (w.1 9 0 33) → am_M (mh_G X) SC (d + 2) 0 0 mX12_works [.inr (.inr (some (9, 0)))] w (fun r w1 => am_A (mh_G X) SC (d + 3) mX12_go Q 34 [(0, .inr (.inr (some (9, 0)))), (1, .inl x1), (2, .inl x2)] (r.toList ++ []) w1 bc bs)))))) :
    am_A (mh_G X) SC (d + 3) mX12_go Q 15 [(0, .inr (.inr (some (9, 0)))), (1, .inl x1), (2, .inl x2)] [] w bc bs := by
  refine am_iload_n dX12_go_15 (List.Mem.tail _ (List.Mem.tail _ (List.Mem.head _))) ?_
  refine am_iload_n dX12_go_16 (List.Mem.tail _ (List.Mem.head _)) ?_
  refine am_icmpge (tgt := 50) dX12_go_17 (by decide) (fun c1 => ?_) (fun c1 => ?_)
  · replace h := h.1 c1
    refine am_aload_n dX12_go_50 (List.Mem.head _) ?_
    refine am_getf (f := 33) (v := .inl (w.1 9 0 33)) dX12_go_51 hc_10 (by decide) wd_1582 (by decide) rfl rfl ?_
    exact am_ret (r := some (.inl (w.1 9 0 33))) dX12_go_54 (Or.inl rfl) rfl h
  · replace h := h.2 c1
    refine am_aload_n dX12_go_20 (List.Mem.head _) ?_
    refine am_getf (f := 33) (v := .inl (w.1 9 0 33)) dX12_go_21 hc_10 (by decide) wd_1582 (by decide) rfl rfl ?_
    refine am_ldcwV (n := 73047) dX12_go_24 (by decide) wd_1858 (by unfold am_rg; omega) ?_
    refine am_icmpge (tgt := 50) dX12_go_27 (by decide) (fun c2 => ?_) (fun c2 => ?_)
    · replace h := h.1 c2
      refine am_aload_n dX12_go_50 (List.Mem.head _) ?_
      refine am_getf (f := 33) (v := .inl (w.1 9 0 33)) dX12_go_51 hc_10 (by decide) wd_1582 (by decide) rfl rfl ?_
      exact am_ret (r := some (.inl (w.1 9 0 33))) dX12_go_54 (Or.inl rfl) rfl h
    · replace h := h.2 c2
      refine am_aload_n dX12_go_30 (List.Mem.head _) ?_
      exact am_callv (d' := d + 2) (kc := 0) (ks := 0) (as := []) dX12_go_31 wc_X12_works wd_2006 wd_2008 wd_71 wd_122 ds_X12_works (by decide) (by omega) (Nat.le_of_ble_eq_true rfl) (Nat.zero_le _) (Nat.zero_le _) hc_10 (by decide) rfl rfl h
theorem bX12_go_34 {SC : Nat → Nat} {X : mh_X} {d : Nat} {Q : Option am_V → am_W → Prop} {bc bs : Nat} {w : am_W} {x1 : Int} {x2 : Int}
    (h : am_A (mh_G X) SC (d + 3) mX12_go Q 15 [(0, .inr (.inr (some (9, 0)))), (1, .inl x1), (2, .inl (am_w (x2 + 1)))] [] ((am_up w.1 9 0 33 (am_w ((w.1 9 0 33) + 1))), w.2) bc bs) :
    am_A (mh_G X) SC (d + 3) mX12_go Q 34 [(0, .inr (.inr (some (9, 0)))), (1, .inl x1), (2, .inl x2)] [] w bc bs := by
  refine am_aload_n dX12_go_34 (List.Mem.head _) ?_
  refine am_dup dX12_go_35 rfl ?_
  refine am_getf (f := 33) (v := .inl (w.1 9 0 33)) dX12_go_36 hc_10 (by decide) wd_1582 (by decide) rfl rfl ?_
  refine am_iconst dX12_go_39 (by unfold am_rg; omega) ?_
  refine am_iadd dX12_go_40 ?_
  refine am_putf (f := 33) dX12_go_41 hc_10 (by decide) wd_1582 rfl (Or.inl rfl) (Or.inl (by decide)) rfl ?_
  refine am_iinc (ls' := [(2, .inl (am_w (x2 + 1))), (0, .inr (.inr (some (9, 0)))), (1, .inl x1)]) dX12_go_44 (List.Mem.tail _ (List.Mem.tail _ (List.Mem.head _))) (by decide) rfl ?_
  refine am_goto (tgt := 15) dX12_go_47 (by decide) ?_
  exact am_sub [1, 2, 0] rfl h
-- MourningHouseModel.person(IIII)I
theorem dX12_person_0 : decode mX12_person.2.1 0 = .ok (.iload_n 1, 1) := by decide +kernel
theorem dX12_person_1 : decode mX12_person.2.1 1 = .ok (.bipush 10, 2) := by decide +kernel
theorem dX12_person_3 : decode mX12_person.2.1 3 = .ok (.idiv, 1) := by decide +kernel
theorem dX12_person_4 : decode mX12_person.2.1 4 = .ok (.iconst 0, 1) := by decide +kernel
theorem dX12_person_5 : decode mX12_person.2.1 5 = .ok (.iconst 1, 1) := by decide +kernel
theorem dX12_person_6 : decode mX12_person.2.1 6 = .ok (.invokestatic 318, 3) := by decide +kernel
theorem dX12_person_9 : decode mX12_person.2.1 9 = .ok (.ifCond .eq 41, 3) := by decide +kernel
theorem dX12_person_12 : decode mX12_person.2.1 12 = .ok (.iload_n 1, 1) := by decide +kernel
theorem dX12_person_13 : decode mX12_person.2.1 13 = .ok (.ifCond .lt 37, 3) := by decide +kernel
theorem dX12_person_16 : decode mX12_person.2.1 16 = .ok (.iload_n 1, 1) := by decide +kernel
theorem dX12_person_17 : decode mX12_person.2.1 17 = .ok (.bipush 10, 2) := by decide +kernel
theorem dX12_person_19 : decode mX12_person.2.1 19 = .ok (.irem, 1) := by decide +kernel
theorem dX12_person_20 : decode mX12_person.2.1 20 = .ok (.iconst 4, 1) := by decide +kernel
theorem dX12_person_21 : decode mX12_person.2.1 21 = .ok (.if_icmp .gt 29, 3) := by decide +kernel
theorem dX12_person_24 : decode mX12_person.2.1 24 = .ok (.aload_n 0, 1) := by decide +kernel
theorem dX12_person_25 : decode mX12_person.2.1 25 = .ok (.getfield 447, 3) := by decide +kernel
theorem dX12_person_28 : decode mX12_person.2.1 28 = .ok (.bipush 40, 2) := by decide +kernel
theorem dX12_person_30 : decode mX12_person.2.1 30 = .ok (.if_icmp .eq 20, 3) := by decide +kernel
theorem dX12_person_33 : decode mX12_person.2.1 33 = .ok (.iload 4, 2) := by decide +kernel
theorem dX12_person_35 : decode mX12_person.2.1 35 = .ok (.invokestatic 322, 3) := by decide +kernel
theorem dX12_person_38 : decode mX12_person.2.1 38 = .ok (.ifCond .eq 12, 3) := by decide +kernel
theorem dX12_person_41 : decode mX12_person.2.1 41 = .ok (.iload 4, 2) := by decide +kernel
theorem dX12_person_43 : decode mX12_person.2.1 43 = .ok (.aload_n 0, 1) := by decide +kernel
theorem dX12_person_44 : decode mX12_person.2.1 44 = .ok (.getfield 444, 3) := by decide +kernel
theorem dX12_person_47 : decode mX12_person.2.1 47 = .ok (.if_icmp .le 5, 3) := by decide +kernel
theorem dX12_person_50 : decode mX12_person.2.1 50 = .ok (.iconst (-1), 1) := by decide +kernel
theorem dX12_person_51 : decode mX12_person.2.1 51 = .ok (.ireturn, 1) := by decide +kernel
theorem dX12_person_52 : decode mX12_person.2.1 52 = .ok (.iload_n 2, 1) := by decide +kernel
theorem dX12_person_53 : decode mX12_person.2.1 53 = .ok (.iconst (-1), 1) := by decide +kernel
theorem dX12_person_54 : decode mX12_person.2.1 54 = .ok (.if_icmp .eq 34, 3) := by decide +kernel
theorem dX12_person_57 : decode mX12_person.2.1 57 = .ok (.aload_n 0, 1) := by decide +kernel
theorem dX12_person_58 : decode mX12_person.2.1 58 = .ok (.iload_n 2, 1) := by decide +kernel
theorem dX12_person_59 : decode mX12_person.2.1 59 = .ok (.invokevirtual 453, 3) := by decide +kernel
theorem dX12_person_62 : decode mX12_person.2.1 62 = .ok (.ifCond .eq 24, 3) := by decide +kernel
theorem dX12_person_65 : decode mX12_person.2.1 65 = .ok (.aload_n 0, 1) := by decide +kernel
theorem dX12_person_66 : decode mX12_person.2.1 66 = .ok (.getfield 151, 3) := by decide +kernel
theorem dX12_person_69 : decode mX12_person.2.1 69 = .ok (.iload_n 2, 1) := by decide +kernel
theorem dX12_person_70 : decode mX12_person.2.1 70 = .ok (.iaload, 1) := by decide +kernel
theorem dX12_person_71 : decode mX12_person.2.1 71 = .ok (.iconst 1, 1) := by decide +kernel
theorem dX12_person_72 : decode mX12_person.2.1 72 = .ok (.if_icmp .ne 14, 3) := by decide +kernel
theorem dX12_person_75 : decode mX12_person.2.1 75 = .ok (.aload_n 0, 1) := by decide +kernel
theorem dX12_person_76 : decode mX12_person.2.1 76 = .ok (.getfield 161, 3) := by decide +kernel
theorem dX12_person_79 : decode mX12_person.2.1 79 = .ok (.iload_n 2, 1) := by decide +kernel
theorem dX12_person_80 : decode mX12_person.2.1 80 = .ok (.iaload, 1) := by decide +kernel
theorem dX12_person_81 : decode mX12_person.2.1 81 = .ok (.iload 4, 2) := by decide +kernel
theorem dX12_person_83 : decode mX12_person.2.1 83 = .ok (.if_icmp .le 5, 3) := by decide +kernel
theorem dX12_person_86 : decode mX12_person.2.1 86 = .ok (.iconst (-1), 1) := by decide +kernel
theorem dX12_person_87 : decode mX12_person.2.1 87 = .ok (.ireturn, 1) := by decide +kernel
theorem dX12_person_88 : decode mX12_person.2.1 88 = .ok (.iload_n 3, 1) := by decide +kernel
theorem dX12_person_89 : decode mX12_person.2.1 89 = .ok (.iconst (-1), 1) := by decide +kernel
theorem dX12_person_90 : decode mX12_person.2.1 90 = .ok (.if_icmp .eq 33, 3) := by decide +kernel
theorem dX12_person_93 : decode mX12_person.2.1 93 = .ok (.aload_n 0, 1) := by decide +kernel
theorem dX12_person_94 : decode mX12_person.2.1 94 = .ok (.iload_n 3, 1) := by decide +kernel
theorem dX12_person_95 : decode mX12_person.2.1 95 = .ok (.invokevirtual 453, 3) := by decide +kernel
theorem dX12_person_98 : decode mX12_person.2.1 98 = .ok (.ifCond .eq 23, 3) := by decide +kernel
theorem dX12_person_101 : decode mX12_person.2.1 101 = .ok (.aload_n 0, 1) := by decide +kernel
theorem dX12_person_102 : decode mX12_person.2.1 102 = .ok (.getfield 151, 3) := by decide +kernel
theorem dX12_person_105 : decode mX12_person.2.1 105 = .ok (.iload_n 3, 1) := by decide +kernel
theorem dX12_person_106 : decode mX12_person.2.1 106 = .ok (.iaload, 1) := by decide +kernel
theorem dX12_person_107 : decode mX12_person.2.1 107 = .ok (.ifCond .ne 14, 3) := by decide +kernel
theorem dX12_person_110 : decode mX12_person.2.1 110 = .ok (.aload_n 0, 1) := by decide +kernel
theorem dX12_person_111 : decode mX12_person.2.1 111 = .ok (.getfield 161, 3) := by decide +kernel
theorem dX12_person_114 : decode mX12_person.2.1 114 = .ok (.iload_n 3, 1) := by decide +kernel
theorem dX12_person_115 : decode mX12_person.2.1 115 = .ok (.iaload, 1) := by decide +kernel
theorem dX12_person_116 : decode mX12_person.2.1 116 = .ok (.iload 4, 2) := by decide +kernel
theorem dX12_person_118 : decode mX12_person.2.1 118 = .ok (.if_icmp .le 5, 3) := by decide +kernel
theorem dX12_person_121 : decode mX12_person.2.1 121 = .ok (.iconst (-1), 1) := by decide +kernel
theorem dX12_person_122 : decode mX12_person.2.1 122 = .ok (.ireturn, 1) := by decide +kernel
theorem dX12_person_123 : decode mX12_person.2.1 123 = .ok (.aload_n 0, 1) := by decide +kernel
theorem dX12_person_124 : decode mX12_person.2.1 124 = .ok (.getfield 151, 3) := by decide +kernel
theorem dX12_person_127 : decode mX12_person.2.1 127 = .ok (.aload_n 0, 1) := by decide +kernel
theorem dX12_person_128 : decode mX12_person.2.1 128 = .ok (.getfield 447, 3) := by decide +kernel
theorem dX12_person_131 : decode mX12_person.2.1 131 = .ok (.iload_n 1, 1) := by decide +kernel
theorem dX12_person_132 : decode mX12_person.2.1 132 = .ok (.bipush 10, 2) := by decide +kernel
theorem dX12_person_134 : decode mX12_person.2.1 134 = .ok (.idiv, 1) := by decide +kernel
theorem dX12_person_135 : decode mX12_person.2.1 135 = .ok (.iastore, 1) := by decide +kernel
theorem dX12_person_136 : decode mX12_person.2.1 136 = .ok (.aload_n 0, 1) := by decide +kernel
theorem dX12_person_137 : decode mX12_person.2.1 137 = .ok (.getfield 154, 3) := by decide +kernel
theorem dX12_person_140 : decode mX12_person.2.1 140 = .ok (.aload_n 0, 1) := by decide +kernel
theorem dX12_person_141 : decode mX12_person.2.1 141 = .ok (.getfield 447, 3) := by decide +kernel
theorem dX12_person_144 : decode mX12_person.2.1 144 = .ok (.iload_n 1, 1) := by decide +kernel
theorem dX12_person_145 : decode mX12_person.2.1 145 = .ok (.bipush 10, 2) := by decide +kernel
theorem dX12_person_147 : decode mX12_person.2.1 147 = .ok (.irem, 1) := by decide +kernel
theorem dX12_person_148 : decode mX12_person.2.1 148 = .ok (.iastore, 1) := by decide +kernel
theorem dX12_person_149 : decode mX12_person.2.1 149 = .ok (.aload_n 0, 1) := by decide +kernel
theorem dX12_person_150 : decode mX12_person.2.1 150 = .ok (.getfield 157, 3) := by decide +kernel
theorem dX12_person_153 : decode mX12_person.2.1 153 = .ok (.aload_n 0, 1) := by decide +kernel
theorem dX12_person_154 : decode mX12_person.2.1 154 = .ok (.getfield 447, 3) := by decide +kernel
theorem dX12_person_157 : decode mX12_person.2.1 157 = .ok (.iload_n 2, 1) := by decide +kernel
theorem dX12_person_158 : decode mX12_person.2.1 158 = .ok (.iastore, 1) := by decide +kernel
theorem dX12_person_159 : decode mX12_person.2.1 159 = .ok (.aload_n 0, 1) := by decide +kernel
theorem dX12_person_160 : decode mX12_person.2.1 160 = .ok (.getfield 159, 3) := by decide +kernel
theorem dX12_person_163 : decode mX12_person.2.1 163 = .ok (.aload_n 0, 1) := by decide +kernel
theorem dX12_person_164 : decode mX12_person.2.1 164 = .ok (.getfield 447, 3) := by decide +kernel
theorem dX12_person_167 : decode mX12_person.2.1 167 = .ok (.iload_n 3, 1) := by decide +kernel
theorem dX12_person_168 : decode mX12_person.2.1 168 = .ok (.iastore, 1) := by decide +kernel
theorem dX12_person_169 : decode mX12_person.2.1 169 = .ok (.aload_n 0, 1) := by decide +kernel
theorem dX12_person_170 : decode mX12_person.2.1 170 = .ok (.getfield 161, 3) := by decide +kernel
theorem dX12_person_173 : decode mX12_person.2.1 173 = .ok (.aload_n 0, 1) := by decide +kernel
theorem dX12_person_174 : decode mX12_person.2.1 174 = .ok (.getfield 447, 3) := by decide +kernel
theorem dX12_person_177 : decode mX12_person.2.1 177 = .ok (.iload 4, 2) := by decide +kernel
theorem dX12_person_179 : decode mX12_person.2.1 179 = .ok (.iastore, 1) := by decide +kernel
theorem dX12_person_180 : decode mX12_person.2.1 180 = .ok (.aload_n 0, 1) := by decide +kernel
theorem dX12_person_181 : decode mX12_person.2.1 181 = .ok (.getfield 164, 3) := by decide +kernel
theorem dX12_person_184 : decode mX12_person.2.1 184 = .ok (.aload_n 0, 1) := by decide +kernel
theorem dX12_person_185 : decode mX12_person.2.1 185 = .ok (.getfield 447, 3) := by decide +kernel
theorem dX12_person_188 : decode mX12_person.2.1 188 = .ok (.aload_n 0, 1) := by decide +kernel
theorem dX12_person_189 : decode mX12_person.2.1 189 = .ok (.getfield 444, 3) := by decide +kernel
theorem dX12_person_192 : decode mX12_person.2.1 192 = .ok (.iastore, 1) := by decide +kernel
theorem dX12_person_193 : decode mX12_person.2.1 193 = .ok (.aload_n 0, 1) := by decide +kernel
theorem dX12_person_194 : decode mX12_person.2.1 194 = .ok (.getfield 167, 3) := by decide +kernel
theorem dX12_person_197 : decode mX12_person.2.1 197 = .ok (.aload_n 0, 1) := by decide +kernel
theorem dX12_person_198 : decode mX12_person.2.1 198 = .ok (.getfield 447, 3) := by decide +kernel
theorem dX12_person_201 : decode mX12_person.2.1 201 = .ok (.ldc_w 325, 3) := by decide +kernel
theorem dX12_person_204 : decode mX12_person.2.1 204 = .ok (.iastore, 1) := by decide +kernel
theorem dX12_person_205 : decode mX12_person.2.1 205 = .ok (.aload_n 0, 1) := by decide +kernel
theorem dX12_person_206 : decode mX12_person.2.1 206 = .ok (.dup, 1) := by decide +kernel
theorem dX12_person_207 : decode mX12_person.2.1 207 = .ok (.getfield 447, 3) := by decide +kernel
theorem dX12_person_210 : decode mX12_person.2.1 210 = .ok (.iconst 1, 1) := by decide +kernel
theorem dX12_person_211 : decode mX12_person.2.1 211 = .ok (.iadd, 1) := by decide +kernel
theorem dX12_person_212 : decode mX12_person.2.1 212 = .ok (.putfield 447, 3) := by decide +kernel
theorem dX12_person_215 : decode mX12_person.2.1 215 = .ok (.aload_n 0, 1) := by decide +kernel
theorem dX12_person_216 : decode mX12_person.2.1 216 = .ok (.getfield 447, 3) := by decide +kernel
theorem dX12_person_219 : decode mX12_person.2.1 219 = .ok (.iconst 1, 1) := by decide +kernel
theorem dX12_person_220 : decode mX12_person.2.1 220 = .ok (.isub, 1) := by decide +kernel
theorem dX12_person_221 : decode mX12_person.2.1 221 = .ok (.ireturn, 1) := by decide +kernel
theorem bX12_person_0 {SC : Nat → Nat} {X : mh_X} {d : Nat} {Q : Option am_V → am_W → Prop} {bc bs : Nat} {w : am_W} {x1 : Int} {x2 : Int} {x3 : Int} {x4 : Int}
    (h : ((¬ (¬ (am_w (Int.tdiv x1 10)) < (0 : Int) ∧ (¬ (1 : Int) < (am_w (Int.tdiv x1 10)))) → Q (some (.inl (-1))) w) ∧ ((¬ (am_w (Int.tdiv x1 10)) < (0 : Int) ∧ (¬ (1 : Int) < (am_w (Int.tdiv x1 10)))) → ((x1 < 0 → Q (some (.inl (-1))) w) ∧ (¬ x1 < 0 → ((4 < (am_w (Int.tmod x1 10)) → Q (some (.inl (-1))) w) ∧ (¬ 4 < (am_w (Int.tmod x1 10)) → (((w.1 9 0 42) = 40 → Q (some (.inl (-1))) w) ∧ (¬ (w.1 9 0 42) = 40 → ((¬ (¬ x4 < ((-36524) : Int) ∧ (¬ (73047 : Int) < x4)) → Q (some (.inl (-1))) w) ∧ ((¬ x4 < ((-36524) : Int) ∧ (¬ (73047 : Int) < x4)) → ((x4 ≤ (w.1 9 0 33) → ((x2 = (-1) → am_A (mh_G X) SC (d + 3) mX12_person Q 88 [(0, .inr (.inr (some (9, 0)))), (1, .inl x1), (2, .inl x2), (3, .inl x3), (4, .inl x4)] [] w bc bs) ∧ (¬ x2 = (-1) → ((¬ (¬ x2 < (0 : Int) ∧ (¬ (am_w ((w.1 9 0 42) - 1)) < x2)) → Q (some (.inl (-1))) w) ∧ ((¬ x2 < (0 : Int) ∧ (¬ (am_w ((w.1 9 0 42) - 1)) < x2)) → (0 ≤ x2 ∧ (x2 < 40 ∧ ((¬ (w.1 96 0 x2.toNat) = 1 → Q (some (.inl (-1))) w) ∧ ((w.1 96 0 x2.toNat) = 1 → (((w.1 100 0 x2.toNat) ≤ x4 → am_A (mh_G X) SC (d + 3) mX12_person Q 88 [(0, .inr (.inr (some (9, 0)))), (1, .inl x1), (2, .inl x2), (3, .inl x3), (4, .inl x4)] [] w bc bs) ∧ (¬ (w.1 100 0 x2.toNat) ≤ x4 → Q (some (.inl (-1))) w))))))))))) ∧ (¬ x4 ≤ (w.1 9 0 33) → Q (some (.inl (-1))) w))))))))))))) :
    am_A (mh_G X) SC (d + 3) mX12_person Q 0 [(0, .inr (.inr (some (9, 0)))), (1, .inl x1), (2, .inl x2), (3, .inl x3), (4, .inl x4)] [] w bc bs := by
  refine am_iload_n dX12_person_0 (List.Mem.tail _ (List.Mem.head _)) ?_
  refine am_bipush dX12_person_1 (by decide) (by unfold am_rg; omega) ?_
  refine am_idiv dX12_person_3 (by decide) ?_
  refine am_iconst dX12_person_4 (by unfold am_rg; omega) ?_
  refine am_iconst dX12_person_5 (by unfold am_rg; omega) ?_
  refine am_calls (d' := d + 2) (kc := 0) (ks := 0) (as := [.inl (am_w (Int.tdiv x1 10)), .inl 0, .inl 1]) dX12_person_6 wc_X12_in wd_1859 wd_1860 wd_122 ds_X12_in (by decide) (by omega) (Nat.le_of_ble_eq_true rfl) (Nat.zero_le _) (Nat.zero_le _) rfl (sX12_in (d := d + 1) (x0 := (am_w (Int.tdiv x1 10))) (x1 := 0) (x2 := 1)  ?_)
  show am_A (mh_G X) SC (d + 3) mX12_person Q 9 [(0, .inr (.inr (some (9, 0)))), (1, .inl x1), (2, .inl x2), (3, .inl x3), (4, .inl x4)] [.inl (if (¬ (am_w (Int.tdiv x1 10)) < (0 : Int) ∧ (¬ (1 : Int) < (am_w (Int.tdiv x1 10)))) then 1 else 0)] w bc bs
  refine am_ifeq (tgt := 50) dX12_person_9 (by decide) (fun c1 => ?_) (fun c1 => ?_)
  · replace c1 := am_beq1 c1
    replace h := h.1 c1
    refine am_iconst dX12_person_50 (by unfold am_rg; omega) ?_
    exact am_ret (r := some (.inl (-1))) dX12_person_51 (Or.inl rfl) rfl h
  · replace c1 := am_beq2 c1
    replace h := h.2 c1
    refine am_iload_n dX12_person_12 (List.Mem.tail _ (List.Mem.head _)) ?_
    refine am_iflt (tgt := 50) dX12_person_13 (by decide) (fun c2 => ?_) (fun c2 => ?_)
    · replace h := h.1 c2
      refine am_iconst dX12_person_50 (by unfold am_rg; omega) ?_
      exact am_ret (r := some (.inl (-1))) dX12_person_51 (Or.inl rfl) rfl h
    · replace h := h.2 c2
      refine am_iload_n dX12_person_16 (List.Mem.tail _ (List.Mem.head _)) ?_
      refine am_bipush dX12_person_17 (by decide) (by unfold am_rg; omega) ?_
      refine am_irem dX12_person_19 (by decide) ?_
      refine am_iconst dX12_person_20 (by unfold am_rg; omega) ?_
      refine am_icmpgt (tgt := 50) dX12_person_21 (by decide) (fun c3 => ?_) (fun c3 => ?_)
      · replace h := h.1 c3
        refine am_iconst dX12_person_50 (by unfold am_rg; omega) ?_
        exact am_ret (r := some (.inl (-1))) dX12_person_51 (Or.inl rfl) rfl h
      · replace h := h.2 c3
        refine am_aload_n dX12_person_24 (List.Mem.head _) ?_
        refine am_getf (f := 42) (v := .inl (w.1 9 0 42)) dX12_person_25 hc_10 (by decide) wd_1591 (by decide) rfl rfl ?_
        refine am_bipush dX12_person_28 (by decide) (by unfold am_rg; omega) ?_
        refine am_icmpeq (tgt := 50) dX12_person_30 (by decide) (fun c4 => ?_) (fun c4 => ?_)
        · replace h := h.1 c4
          refine am_iconst dX12_person_50 (by unfold am_rg; omega) ?_
          exact am_ret (r := some (.inl (-1))) dX12_person_51 (Or.inl rfl) rfl h
        · replace h := h.2 c4
          refine am_iload dX12_person_33 (List.Mem.tail _ (List.Mem.tail _ (List.Mem.tail _ (List.Mem.tail _ (List.Mem.head _))))) ?_
          refine am_calls (d' := d + 2) (kc := 0) (ks := 0) (as := [.inl x4]) dX12_person_35 wc_X12_isDay wd_1854 wd_1855 wd_122 ds_X12_isDay (by decide) (by omega) (Nat.le_of_ble_eq_true rfl) (Nat.zero_le _) (Nat.zero_le _) rfl (sX12_isDay (d := d + 0) (x0 := x4)  ?_)
          show am_A (mh_G X) SC (d + 3) mX12_person Q 38 [(0, .inr (.inr (some (9, 0)))), (1, .inl x1), (2, .inl x2), (3, .inl x3), (4, .inl x4)] [.inl (if (¬ x4 < ((-36524) : Int) ∧ (¬ (73047 : Int) < x4)) then 1 else 0)] w bc bs
          refine am_ifeq (tgt := 50) dX12_person_38 (by decide) (fun c5 => ?_) (fun c5 => ?_)
          · replace c5 := am_beq1 c5
            replace h := h.1 c5
            refine am_iconst dX12_person_50 (by unfold am_rg; omega) ?_
            exact am_ret (r := some (.inl (-1))) dX12_person_51 (Or.inl rfl) rfl h
          · replace c5 := am_beq2 c5
            replace h := h.2 c5
            refine am_iload dX12_person_41 (List.Mem.tail _ (List.Mem.tail _ (List.Mem.tail _ (List.Mem.tail _ (List.Mem.head _))))) ?_
            refine am_aload_n dX12_person_43 (List.Mem.head _) ?_
            refine am_getf (f := 33) (v := .inl (w.1 9 0 33)) dX12_person_44 hc_10 (by decide) wd_1582 (by decide) rfl rfl ?_
            refine am_icmple (tgt := 52) dX12_person_47 (by decide) (fun c6 => ?_) (fun c6 => ?_)
            · replace h := h.1 c6
              refine am_iload_n dX12_person_52 (List.Mem.tail _ (List.Mem.tail _ (List.Mem.head _))) ?_
              refine am_iconst dX12_person_53 (by unfold am_rg; omega) ?_
              refine am_icmpeq (tgt := 88) dX12_person_54 (by decide) (fun c7 => ?_) (fun c7 => ?_)
              · replace h := h.1 c7
                exact h
              · replace h := h.2 c7
                refine am_aload_n dX12_person_57 (List.Mem.head _) ?_
                refine am_iload_n dX12_person_58 (List.Mem.tail _ (List.Mem.tail _ (List.Mem.head _))) ?_
                refine am_callv (d' := d + 2) (kc := 0) (ks := 0) (as := [.inl x2]) dX12_person_59 wc_X12_isPerson wd_2018 wd_2020 wd_73 wd_122 ds_X12_isPerson (by decide) (by omega) (Nat.le_of_ble_eq_true rfl) (Nat.zero_le _) (Nat.zero_le _) hc_10 (by decide) rfl rfl (sX12_isPerson (d := d + 0) (x1 := x2)  ?_)
                show am_A (mh_G X) SC (d + 3) mX12_person Q 62 [(0, .inr (.inr (some (9, 0)))), (1, .inl x1), (2, .inl x2), (3, .inl x3), (4, .inl x4)] [.inl (if (¬ x2 < (0 : Int) ∧ (¬ (am_w ((w.1 9 0 42) - 1)) < x2)) then 1 else 0)] w bc bs
                refine am_ifeq (tgt := 86) dX12_person_62 (by decide) (fun c8 => ?_) (fun c8 => ?_)
                · replace c8 := am_beq1 c8
                  replace h := h.1 c8
                  refine am_iconst dX12_person_86 (by unfold am_rg; omega) ?_
                  exact am_ret (r := some (.inl (-1))) dX12_person_87 (Or.inl rfl) rfl h
                · replace c8 := am_beq2 c8
                  replace h := h.2 c8
                  refine am_aload_n dX12_person_65 (List.Mem.head _) ?_
                  refine am_getf (f := 34) (v := .inr (.inr (some (96, 0)))) dX12_person_66 hc_10 (by decide) wd_1583 (by decide) rfl rfl ?_
                  refine am_iload_n dX12_person_69 (List.Mem.tail _ (List.Mem.tail _ (List.Mem.head _))) ?_
                  have o9 := h.1
                  replace h := h.2
                  have o10 := h.1
                  replace h := h.2
                  refine am_iaload (v := (w.1 96 0 x2.toNat)) dX12_person_70 (by decide) rfl o9 o10 rfl ?_
                  refine am_iconst dX12_person_71 (by unfold am_rg; omega) ?_
                  refine am_icmpne (tgt := 86) dX12_person_72 (by decide) (fun c11 => ?_) (fun c11 => ?_)
                  · replace h := h.1 c11
                    refine am_iconst dX12_person_86 (by unfold am_rg; omega) ?_
                    exact am_ret (r := some (.inl (-1))) dX12_person_87 (Or.inl rfl) rfl h
                  · replace h := h.2 c11
                    refine am_aload_n dX12_person_75 (List.Mem.head _) ?_
                    refine am_getf (f := 38) (v := .inr (.inr (some (100, 0)))) dX12_person_76 hc_10 (by decide) wd_1587 (by decide) rfl rfl ?_
                    refine am_iload_n dX12_person_79 (List.Mem.tail _ (List.Mem.tail _ (List.Mem.head _))) ?_
                    refine am_iaload (v := (w.1 100 0 x2.toNat)) dX12_person_80 (by decide) rfl o9 o10 rfl ?_
                    refine am_iload dX12_person_81 (List.Mem.tail _ (List.Mem.tail _ (List.Mem.tail _ (List.Mem.tail _ (List.Mem.head _))))) ?_
                    refine am_icmple (tgt := 88) dX12_person_83 (by decide) (fun c12 => ?_) (fun c12 => ?_)
                    · replace h := h.1 c12
                      exact h
                    · replace h := h.2 c12
                      refine am_iconst dX12_person_86 (by unfold am_rg; omega) ?_
                      exact am_ret (r := some (.inl (-1))) dX12_person_87 (Or.inl rfl) rfl h
            · replace h := h.2 c6
              refine am_iconst dX12_person_50 (by unfold am_rg; omega) ?_
              exact am_ret (r := some (.inl (-1))) dX12_person_51 (Or.inl rfl) rfl h
theorem bX12_person_88 {SC : Nat → Nat} {X : mh_X} {d : Nat} {Q : Option am_V → am_W → Prop} {bc bs : Nat} {w : am_W} {x1 : Int} {x2 : Int} {x3 : Int} {x4 : Int}
    (h : ((x3 = (-1) → am_A (mh_G X) SC (d + 3) mX12_person Q 123 [(0, .inr (.inr (some (9, 0)))), (1, .inl x1), (2, .inl x2), (3, .inl x3), (4, .inl x4)] [] w bc bs) ∧ (¬ x3 = (-1) → ((¬ (¬ x3 < (0 : Int) ∧ (¬ (am_w ((w.1 9 0 42) - 1)) < x3)) → Q (some (.inl (-1))) w) ∧ ((¬ x3 < (0 : Int) ∧ (¬ (am_w ((w.1 9 0 42) - 1)) < x3)) → (0 ≤ x3 ∧ (x3 < 40 ∧ ((¬ (w.1 96 0 x3.toNat) = 0 → Q (some (.inl (-1))) w) ∧ ((w.1 96 0 x3.toNat) = 0 → (((w.1 100 0 x3.toNat) ≤ x4 → am_A (mh_G X) SC (d + 3) mX12_person Q 123 [(0, .inr (.inr (some (9, 0)))), (1, .inl x1), (2, .inl x2), (3, .inl x3), (4, .inl x4)] [] w bc bs) ∧ (¬ (w.1 100 0 x3.toNat) ≤ x4 → Q (some (.inl (-1))) w))))))))))) :
    am_A (mh_G X) SC (d + 3) mX12_person Q 88 [(0, .inr (.inr (some (9, 0)))), (1, .inl x1), (2, .inl x2), (3, .inl x3), (4, .inl x4)] [] w bc bs := by
  refine am_iload_n dX12_person_88 (List.Mem.tail _ (List.Mem.tail _ (List.Mem.tail _ (List.Mem.head _)))) ?_
  refine am_iconst dX12_person_89 (by unfold am_rg; omega) ?_
  refine am_icmpeq (tgt := 123) dX12_person_90 (by decide) (fun c1 => ?_) (fun c1 => ?_)
  · replace h := h.1 c1
    exact h
  · replace h := h.2 c1
    refine am_aload_n dX12_person_93 (List.Mem.head _) ?_
    refine am_iload_n dX12_person_94 (List.Mem.tail _ (List.Mem.tail _ (List.Mem.tail _ (List.Mem.head _)))) ?_
    refine am_callv (d' := d + 2) (kc := 0) (ks := 0) (as := [.inl x3]) dX12_person_95 wc_X12_isPerson wd_2018 wd_2020 wd_73 wd_122 ds_X12_isPerson (by decide) (by omega) (Nat.le_of_ble_eq_true rfl) (Nat.zero_le _) (Nat.zero_le _) hc_10 (by decide) rfl rfl (sX12_isPerson (d := d + 0) (x1 := x3)  ?_)
    show am_A (mh_G X) SC (d + 3) mX12_person Q 98 [(0, .inr (.inr (some (9, 0)))), (1, .inl x1), (2, .inl x2), (3, .inl x3), (4, .inl x4)] [.inl (if (¬ x3 < (0 : Int) ∧ (¬ (am_w ((w.1 9 0 42) - 1)) < x3)) then 1 else 0)] w bc bs
    refine am_ifeq (tgt := 121) dX12_person_98 (by decide) (fun c2 => ?_) (fun c2 => ?_)
    · replace c2 := am_beq1 c2
      replace h := h.1 c2
      refine am_iconst dX12_person_121 (by unfold am_rg; omega) ?_
      exact am_ret (r := some (.inl (-1))) dX12_person_122 (Or.inl rfl) rfl h
    · replace c2 := am_beq2 c2
      replace h := h.2 c2
      refine am_aload_n dX12_person_101 (List.Mem.head _) ?_
      refine am_getf (f := 34) (v := .inr (.inr (some (96, 0)))) dX12_person_102 hc_10 (by decide) wd_1583 (by decide) rfl rfl ?_
      refine am_iload_n dX12_person_105 (List.Mem.tail _ (List.Mem.tail _ (List.Mem.tail _ (List.Mem.head _)))) ?_
      have o3 := h.1
      replace h := h.2
      have o4 := h.1
      replace h := h.2
      refine am_iaload (v := (w.1 96 0 x3.toNat)) dX12_person_106 (by decide) rfl o3 o4 rfl ?_
      refine am_ifne (tgt := 121) dX12_person_107 (by decide) (fun c5 => ?_) (fun c5 => ?_)
      · replace h := h.1 c5
        refine am_iconst dX12_person_121 (by unfold am_rg; omega) ?_
        exact am_ret (r := some (.inl (-1))) dX12_person_122 (Or.inl rfl) rfl h
      · replace h := h.2 c5
        refine am_aload_n dX12_person_110 (List.Mem.head _) ?_
        refine am_getf (f := 38) (v := .inr (.inr (some (100, 0)))) dX12_person_111 hc_10 (by decide) wd_1587 (by decide) rfl rfl ?_
        refine am_iload_n dX12_person_114 (List.Mem.tail _ (List.Mem.tail _ (List.Mem.tail _ (List.Mem.head _)))) ?_
        refine am_iaload (v := (w.1 100 0 x3.toNat)) dX12_person_115 (by decide) rfl o3 o4 rfl ?_
        refine am_iload dX12_person_116 (List.Mem.tail _ (List.Mem.tail _ (List.Mem.tail _ (List.Mem.tail _ (List.Mem.head _))))) ?_
        refine am_icmple (tgt := 123) dX12_person_118 (by decide) (fun c6 => ?_) (fun c6 => ?_)
        · replace h := h.1 c6
          exact h
        · replace h := h.2 c6
          refine am_iconst dX12_person_121 (by unfold am_rg; omega) ?_
          exact am_ret (r := some (.inl (-1))) dX12_person_122 (Or.inl rfl) rfl h
theorem bX12_person_123 {SC : Nat → Nat} {X : mh_X} {d : Nat} {Q : Option am_V → am_W → Prop} {bc bs : Nat} {w : am_W} {x1 : Int} {x2 : Int} {x3 : Int} {x4 : Int}
    (h : (0 ≤ (w.1 9 0 42) ∧ ((w.1 9 0 42) < 40 ∧ Q (some (.inl (am_w (((am_up w.1 9 0 42 (am_w ((w.1 9 0 42) + 1))) 9 0 42) - 1)))) ((am_up (am_up (am_up (am_up (am_up (am_up (am_up (am_up w.1 96 0 (w.1 9 0 42).toNat (am_w (Int.tdiv x1 10))) 97 0 (w.1 9 0 42).toNat (am_w (Int.tmod x1 10))) 98 0 (w.1 9 0 42).toNat x2) 99 0 (w.1 9 0 42).toNat x3) 100 0 (w.1 9 0 42).toNat x4) 101 0 (w.1 9 0 42).toNat (w.1 9 0 33)) 102 0 (w.1 9 0 42).toNat (-2147483648)) 9 0 42 (am_w ((w.1 9 0 42) + 1))), w.2)))) :
    am_A (mh_G X) SC (d + 3) mX12_person Q 123 [(0, .inr (.inr (some (9, 0)))), (1, .inl x1), (2, .inl x2), (3, .inl x3), (4, .inl x4)] [] w bc bs := by
  refine am_aload_n dX12_person_123 (List.Mem.head _) ?_
  refine am_getf (f := 34) (v := .inr (.inr (some (96, 0)))) dX12_person_124 hc_10 (by decide) wd_1583 (by decide) rfl rfl ?_
  refine am_aload_n dX12_person_127 (List.Mem.head _) ?_
  refine am_getf (f := 42) (v := .inl (w.1 9 0 42)) dX12_person_128 hc_10 (by decide) wd_1591 (by decide) rfl rfl ?_
  refine am_iload_n dX12_person_131 (List.Mem.tail _ (List.Mem.head _)) ?_
  refine am_bipush dX12_person_132 (by decide) (by unfold am_rg; omega) ?_
  refine am_idiv dX12_person_134 (by decide) ?_
  have o1 := h.1
  replace h := h.2
  have o2 := h.1
  replace h := h.2
  refine am_iastore dX12_person_135 (Or.inl (by decide)) rfl o1 o2 ?_
  refine am_aload_n dX12_person_136 (List.Mem.head _) ?_
  refine am_getf (f := 35) (v := .inr (.inr (some (97, 0)))) dX12_person_137 hc_10 (by decide) wd_1584 (by decide) rfl rfl ?_
  refine am_aload_n dX12_person_140 (List.Mem.head _) ?_
  refine am_getf (f := 42) (v := .inl (w.1 9 0 42)) dX12_person_141 hc_10 (by decide) wd_1591 (by decide) rfl rfl ?_
  refine am_iload_n dX12_person_144 (List.Mem.tail _ (List.Mem.head _)) ?_
  refine am_bipush dX12_person_145 (by decide) (by unfold am_rg; omega) ?_
  refine am_irem dX12_person_147 (by decide) ?_
  refine am_iastore dX12_person_148 (Or.inl (by decide)) rfl o1 o2 ?_
  refine am_aload_n dX12_person_149 (List.Mem.head _) ?_
  refine am_getf (f := 36) (v := .inr (.inr (some (98, 0)))) dX12_person_150 hc_10 (by decide) wd_1585 (by decide) rfl rfl ?_
  refine am_aload_n dX12_person_153 (List.Mem.head _) ?_
  refine am_getf (f := 42) (v := .inl (w.1 9 0 42)) dX12_person_154 hc_10 (by decide) wd_1591 (by decide) rfl rfl ?_
  refine am_iload_n dX12_person_157 (List.Mem.tail _ (List.Mem.tail _ (List.Mem.head _))) ?_
  refine am_iastore dX12_person_158 (Or.inl (by decide)) rfl o1 o2 ?_
  refine am_aload_n dX12_person_159 (List.Mem.head _) ?_
  refine am_getf (f := 37) (v := .inr (.inr (some (99, 0)))) dX12_person_160 hc_10 (by decide) wd_1586 (by decide) rfl rfl ?_
  refine am_aload_n dX12_person_163 (List.Mem.head _) ?_
  refine am_getf (f := 42) (v := .inl (w.1 9 0 42)) dX12_person_164 hc_10 (by decide) wd_1591 (by decide) rfl rfl ?_
  refine am_iload_n dX12_person_167 (List.Mem.tail _ (List.Mem.tail _ (List.Mem.tail _ (List.Mem.head _)))) ?_
  refine am_iastore dX12_person_168 (Or.inl (by decide)) rfl o1 o2 ?_
  refine am_aload_n dX12_person_169 (List.Mem.head _) ?_
  refine am_getf (f := 38) (v := .inr (.inr (some (100, 0)))) dX12_person_170 hc_10 (by decide) wd_1587 (by decide) rfl rfl ?_
  refine am_aload_n dX12_person_173 (List.Mem.head _) ?_
  refine am_getf (f := 42) (v := .inl (w.1 9 0 42)) dX12_person_174 hc_10 (by decide) wd_1591 (by decide) rfl rfl ?_
  refine am_iload dX12_person_177 (List.Mem.tail _ (List.Mem.tail _ (List.Mem.tail _ (List.Mem.tail _ (List.Mem.head _))))) ?_
  refine am_iastore dX12_person_179 (Or.inl (by decide)) rfl o1 o2 ?_
  refine am_aload_n dX12_person_180 (List.Mem.head _) ?_
  refine am_getf (f := 39) (v := .inr (.inr (some (101, 0)))) dX12_person_181 hc_10 (by decide) wd_1588 (by decide) rfl rfl ?_
  refine am_aload_n dX12_person_184 (List.Mem.head _) ?_
  refine am_getf (f := 42) (v := .inl (w.1 9 0 42)) dX12_person_185 hc_10 (by decide) wd_1591 (by decide) rfl rfl ?_
  refine am_aload_n dX12_person_188 (List.Mem.head _) ?_
  refine am_getf (f := 33) (v := .inl (w.1 9 0 33)) dX12_person_189 hc_10 (by decide) wd_1582 (by decide) rfl rfl ?_
  refine am_iastore dX12_person_192 (Or.inl (by decide)) rfl o1 o2 ?_
  refine am_aload_n dX12_person_193 (List.Mem.head _) ?_
  refine am_getf (f := 40) (v := .inr (.inr (some (102, 0)))) dX12_person_194 hc_10 (by decide) wd_1589 (by decide) rfl rfl ?_
  refine am_aload_n dX12_person_197 (List.Mem.head _) ?_
  refine am_getf (f := 42) (v := .inl (w.1 9 0 42)) dX12_person_198 hc_10 (by decide) wd_1591 (by decide) rfl rfl ?_
  refine am_ldcwV (n := (-2147483648)) dX12_person_201 (by decide) wd_1887 (by unfold am_rg; omega) ?_
  refine am_iastore dX12_person_204 (Or.inl (by decide)) rfl o1 o2 ?_
  refine am_aload_n dX12_person_205 (List.Mem.head _) ?_
  refine am_dup dX12_person_206 rfl ?_
  refine am_getf (f := 42) (v := .inl (w.1 9 0 42)) dX12_person_207 hc_10 (by decide) wd_1591 (by decide) rfl rfl ?_
  refine am_iconst dX12_person_210 (by unfold am_rg; omega) ?_
  refine am_iadd dX12_person_211 ?_
  refine am_putf (f := 42) dX12_person_212 hc_10 (by decide) wd_1591 rfl (Or.inl rfl) (Or.inl (by decide)) rfl ?_
  refine am_aload_n dX12_person_215 (List.Mem.head _) ?_
  refine am_getf (f := 42) (v := .inl ((am_up w.1 9 0 42 (am_w ((w.1 9 0 42) + 1))) 9 0 42)) dX12_person_216 hc_10 (by decide) wd_1591 (by decide) rfl rfl ?_
  refine am_iconst dX12_person_219 (by unfold am_rg; omega) ?_
  refine am_isub dX12_person_220 ?_
  exact am_ret (r := some (.inl (am_w (((am_up w.1 9 0 42 (am_w ((w.1 9 0 42) + 1))) 9 0 42) - 1)))) dX12_person_221 (Or.inl rfl) rfl h
-- MourningHouseModel.death(II)Z
theorem dX12_death_0 : decode mX12_death.2.1 0 = .ok (.aload_n 0, 1) := by decide +kernel
theorem dX12_death_1 : decode mX12_death.2.1 1 = .ok (.iload_n 1, 1) := by decide +kernel
theorem dX12_death_2 : decode mX12_death.2.1 2 = .ok (.invokevirtual 453, 3) := by decide +kernel
theorem dX12_death_5 : decode mX12_death.2.1 5 = .ok (.ifCond .eq 40, 3) := by decide +kernel
theorem dX12_death_8 : decode mX12_death.2.1 8 = .ok (.aload_n 0, 1) := by decide +kernel
theorem dX12_death_9 : decode mX12_death.2.1 9 = .ok (.getfield 167, 3) := by decide +kernel
theorem dX12_death_12 : decode mX12_death.2.1 12 = .ok (.iload_n 1, 1) := by decide +kernel
theorem dX12_death_13 : decode mX12_death.2.1 13 = .ok (.iaload, 1) := by decide +kernel
theorem dX12_death_14 : decode mX12_death.2.1 14 = .ok (.ldc_w 325, 3) := by decide +kernel
theorem dX12_death_17 : decode mX12_death.2.1 17 = .ok (.if_icmp .ne 28, 3) := by decide +kernel
theorem dX12_death_20 : decode mX12_death.2.1 20 = .ok (.iload_n 2, 1) := by decide +kernel
theorem dX12_death_21 : decode mX12_death.2.1 21 = .ok (.invokestatic 322, 3) := by decide +kernel
theorem dX12_death_24 : decode mX12_death.2.1 24 = .ok (.ifCond .eq 21, 3) := by decide +kernel
theorem dX12_death_27 : decode mX12_death.2.1 27 = .ok (.iload_n 2, 1) := by decide +kernel
theorem dX12_death_28 : decode mX12_death.2.1 28 = .ok (.aload_n 0, 1) := by decide +kernel
theorem dX12_death_29 : decode mX12_death.2.1 29 = .ok (.getfield 161, 3) := by decide +kernel
theorem dX12_death_32 : decode mX12_death.2.1 32 = .ok (.iload_n 1, 1) := by decide +kernel
theorem dX12_death_33 : decode mX12_death.2.1 33 = .ok (.iaload, 1) := by decide +kernel
theorem dX12_death_34 : decode mX12_death.2.1 34 = .ok (.if_icmp .lt 11, 3) := by decide +kernel
theorem dX12_death_37 : decode mX12_death.2.1 37 = .ok (.iload_n 2, 1) := by decide +kernel
theorem dX12_death_38 : decode mX12_death.2.1 38 = .ok (.aload_n 0, 1) := by decide +kernel
theorem dX12_death_39 : decode mX12_death.2.1 39 = .ok (.getfield 444, 3) := by decide +kernel
theorem dX12_death_42 : decode mX12_death.2.1 42 = .ok (.if_icmp .le 5, 3) := by decide +kernel
theorem dX12_death_45 : decode mX12_death.2.1 45 = .ok (.iconst 0, 1) := by decide +kernel
theorem dX12_death_46 : decode mX12_death.2.1 46 = .ok (.ireturn, 1) := by decide +kernel
theorem dX12_death_47 : decode mX12_death.2.1 47 = .ok (.aload_n 0, 1) := by decide +kernel
theorem dX12_death_48 : decode mX12_death.2.1 48 = .ok (.getfield 167, 3) := by decide +kernel
theorem dX12_death_51 : decode mX12_death.2.1 51 = .ok (.iload_n 1, 1) := by decide +kernel
theorem dX12_death_52 : decode mX12_death.2.1 52 = .ok (.iload_n 2, 1) := by decide +kernel
theorem dX12_death_53 : decode mX12_death.2.1 53 = .ok (.iastore, 1) := by decide +kernel
theorem dX12_death_54 : decode mX12_death.2.1 54 = .ok (.aload_n 0, 1) := by decide +kernel
theorem dX12_death_55 : decode mX12_death.2.1 55 = .ok (.getfield 170, 3) := by decide +kernel
theorem dX12_death_58 : decode mX12_death.2.1 58 = .ok (.iload_n 1, 1) := by decide +kernel
theorem dX12_death_59 : decode mX12_death.2.1 59 = .ok (.aload_n 0, 1) := by decide +kernel
theorem dX12_death_60 : decode mX12_death.2.1 60 = .ok (.getfield 444, 3) := by decide +kernel
theorem dX12_death_63 : decode mX12_death.2.1 63 = .ok (.iastore, 1) := by decide +kernel
theorem dX12_death_64 : decode mX12_death.2.1 64 = .ok (.iconst 1, 1) := by decide +kernel
theorem dX12_death_65 : decode mX12_death.2.1 65 = .ok (.ireturn, 1) := by decide +kernel
theorem bX12_death_0 {SC : Nat → Nat} {X : mh_X} {d : Nat} {Q : Option am_V → am_W → Prop} {bc bs : Nat} {w : am_W} {x1 : Int} {x2 : Int}
    (h : ((¬ (¬ x1 < (0 : Int) ∧ (¬ (am_w ((w.1 9 0 42) - 1)) < x1)) → Q (some (.inl 0)) w) ∧ ((¬ x1 < (0 : Int) ∧ (¬ (am_w ((w.1 9 0 42) - 1)) < x1)) → (0 ≤ x1 ∧ (x1 < 40 ∧ ((¬ (w.1 102 0 x1.toNat) = (-2147483648) → Q (some (.inl 0)) w) ∧ ((w.1 102 0 x1.toNat) = (-2147483648) → ((¬ (¬ x2 < ((-36524) : Int) ∧ (¬ (73047 : Int) < x2)) → Q (some (.inl 0)) w) ∧ ((¬ x2 < ((-36524) : Int) ∧ (¬ (73047 : Int) < x2)) → ((x2 < (w.1 100 0 x1.toNat) → Q (some (.inl 0)) w) ∧ (¬ x2 < (w.1 100 0 x1.toNat) → ((x2 ≤ (w.1 9 0 33) → Q (some (.inl 1)) ((am_up (am_up w.1 102 0 x1.toNat x2) 103 0 x1.toNat (w.1 9 0 33)), w.2)) ∧ (¬ x2 ≤ (w.1 9 0 33) → Q (some (.inl 0)) w))))))))))))) :
    am_A (mh_G X) SC (d + 3) mX12_death Q 0 [(0, .inr (.inr (some (9, 0)))), (1, .inl x1), (2, .inl x2)] [] w bc bs := by
  refine am_aload_n dX12_death_0 (List.Mem.head _) ?_
  refine am_iload_n dX12_death_1 (List.Mem.tail _ (List.Mem.head _)) ?_
  refine am_callv (d' := d + 2) (kc := 0) (ks := 0) (as := [.inl x1]) dX12_death_2 wc_X12_isPerson wd_2018 wd_2020 wd_73 wd_122 ds_X12_isPerson (by decide) (by omega) (Nat.le_of_ble_eq_true rfl) (Nat.zero_le _) (Nat.zero_le _) hc_10 (by decide) rfl rfl (sX12_isPerson (d := d + 0) (x1 := x1)  ?_)
  show am_A (mh_G X) SC (d + 3) mX12_death Q 5 [(0, .inr (.inr (some (9, 0)))), (1, .inl x1), (2, .inl x2)] [.inl (if (¬ x1 < (0 : Int) ∧ (¬ (am_w ((w.1 9 0 42) - 1)) < x1)) then 1 else 0)] w bc bs
  refine am_ifeq (tgt := 45) dX12_death_5 (by decide) (fun c1 => ?_) (fun c1 => ?_)
  · replace c1 := am_beq1 c1
    replace h := h.1 c1
    refine am_iconst dX12_death_45 (by unfold am_rg; omega) ?_
    exact am_ret (r := some (.inl 0)) dX12_death_46 (Or.inr (Or.inl ⟨rfl, (Or.inl rfl)⟩)) rfl h
  · replace c1 := am_beq2 c1
    replace h := h.2 c1
    refine am_aload_n dX12_death_8 (List.Mem.head _) ?_
    refine am_getf (f := 40) (v := .inr (.inr (some (102, 0)))) dX12_death_9 hc_10 (by decide) wd_1589 (by decide) rfl rfl ?_
    refine am_iload_n dX12_death_12 (List.Mem.tail _ (List.Mem.head _)) ?_
    have o2 := h.1
    replace h := h.2
    have o3 := h.1
    replace h := h.2
    refine am_iaload (v := (w.1 102 0 x1.toNat)) dX12_death_13 (by decide) rfl o2 o3 rfl ?_
    refine am_ldcwV (n := (-2147483648)) dX12_death_14 (by decide) wd_1887 (by unfold am_rg; omega) ?_
    refine am_icmpne (tgt := 45) dX12_death_17 (by decide) (fun c4 => ?_) (fun c4 => ?_)
    · replace h := h.1 c4
      refine am_iconst dX12_death_45 (by unfold am_rg; omega) ?_
      exact am_ret (r := some (.inl 0)) dX12_death_46 (Or.inr (Or.inl ⟨rfl, (Or.inl rfl)⟩)) rfl h
    · replace h := h.2 c4
      refine am_iload_n dX12_death_20 (List.Mem.tail _ (List.Mem.tail _ (List.Mem.head _))) ?_
      refine am_calls (d' := d + 2) (kc := 0) (ks := 0) (as := [.inl x2]) dX12_death_21 wc_X12_isDay wd_1854 wd_1855 wd_122 ds_X12_isDay (by decide) (by omega) (Nat.le_of_ble_eq_true rfl) (Nat.zero_le _) (Nat.zero_le _) rfl (sX12_isDay (d := d + 0) (x0 := x2)  ?_)
      show am_A (mh_G X) SC (d + 3) mX12_death Q 24 [(0, .inr (.inr (some (9, 0)))), (1, .inl x1), (2, .inl x2)] [.inl (if (¬ x2 < ((-36524) : Int) ∧ (¬ (73047 : Int) < x2)) then 1 else 0)] w bc bs
      refine am_ifeq (tgt := 45) dX12_death_24 (by decide) (fun c5 => ?_) (fun c5 => ?_)
      · replace c5 := am_beq1 c5
        replace h := h.1 c5
        refine am_iconst dX12_death_45 (by unfold am_rg; omega) ?_
        exact am_ret (r := some (.inl 0)) dX12_death_46 (Or.inr (Or.inl ⟨rfl, (Or.inl rfl)⟩)) rfl h
      · replace c5 := am_beq2 c5
        replace h := h.2 c5
        refine am_iload_n dX12_death_27 (List.Mem.tail _ (List.Mem.tail _ (List.Mem.head _))) ?_
        refine am_aload_n dX12_death_28 (List.Mem.head _) ?_
        refine am_getf (f := 38) (v := .inr (.inr (some (100, 0)))) dX12_death_29 hc_10 (by decide) wd_1587 (by decide) rfl rfl ?_
        refine am_iload_n dX12_death_32 (List.Mem.tail _ (List.Mem.head _)) ?_
        refine am_iaload (v := (w.1 100 0 x1.toNat)) dX12_death_33 (by decide) rfl o2 o3 rfl ?_
        refine am_icmplt (tgt := 45) dX12_death_34 (by decide) (fun c6 => ?_) (fun c6 => ?_)
        · replace h := h.1 c6
          refine am_iconst dX12_death_45 (by unfold am_rg; omega) ?_
          exact am_ret (r := some (.inl 0)) dX12_death_46 (Or.inr (Or.inl ⟨rfl, (Or.inl rfl)⟩)) rfl h
        · replace h := h.2 c6
          refine am_iload_n dX12_death_37 (List.Mem.tail _ (List.Mem.tail _ (List.Mem.head _))) ?_
          refine am_aload_n dX12_death_38 (List.Mem.head _) ?_
          refine am_getf (f := 33) (v := .inl (w.1 9 0 33)) dX12_death_39 hc_10 (by decide) wd_1582 (by decide) rfl rfl ?_
          refine am_icmple (tgt := 47) dX12_death_42 (by decide) (fun c7 => ?_) (fun c7 => ?_)
          · replace h := h.1 c7
            refine am_aload_n dX12_death_47 (List.Mem.head _) ?_
            refine am_getf (f := 40) (v := .inr (.inr (some (102, 0)))) dX12_death_48 hc_10 (by decide) wd_1589 (by decide) rfl rfl ?_
            refine am_iload_n dX12_death_51 (List.Mem.tail _ (List.Mem.head _)) ?_
            refine am_iload_n dX12_death_52 (List.Mem.tail _ (List.Mem.tail _ (List.Mem.head _))) ?_
            refine am_iastore dX12_death_53 (Or.inl (by decide)) rfl o2 o3 ?_
            refine am_aload_n dX12_death_54 (List.Mem.head _) ?_
            refine am_getf (f := 41) (v := .inr (.inr (some (103, 0)))) dX12_death_55 hc_10 (by decide) wd_1590 (by decide) rfl rfl ?_
            refine am_iload_n dX12_death_58 (List.Mem.tail _ (List.Mem.head _)) ?_
            refine am_aload_n dX12_death_59 (List.Mem.head _) ?_
            refine am_getf (f := 33) (v := .inl (w.1 9 0 33)) dX12_death_60 hc_10 (by decide) wd_1582 (by decide) rfl rfl ?_
            refine am_iastore dX12_death_63 (Or.inl (by decide)) rfl o2 o3 ?_
            refine am_iconst dX12_death_64 (by unfold am_rg; omega) ?_
            exact am_ret (r := some (.inl 1)) dX12_death_65 (Or.inr (Or.inl ⟨rfl, (Or.inr rfl)⟩)) rfl h
          · replace h := h.2 c7
            refine am_iconst dX12_death_45 (by unfold am_rg; omega) ?_
            exact am_ret (r := some (.inl 0)) dX12_death_46 (Or.inr (Or.inl ⟨rfl, (Or.inl rfl)⟩)) rfl h
-- MourningHouseModel.wed(III)I
theorem dX12_wed_0 : decode mX12_wed.2.1 0 = .ok (.aload_n 0, 1) := by decide +kernel
theorem dX12_wed_1 : decode mX12_wed.2.1 1 = .ok (.iload_n 1, 1) := by decide +kernel
theorem dX12_wed_2 : decode mX12_wed.2.1 2 = .ok (.invokevirtual 453, 3) := by decide +kernel
theorem dX12_wed_5 : decode mX12_wed.2.1 5 = .ok (.ifCond .eq 70, 3) := by decide +kernel
theorem dX12_wed_8 : decode mX12_wed.2.1 8 = .ok (.aload_n 0, 1) := by decide +kernel
theorem dX12_wed_9 : decode mX12_wed.2.1 9 = .ok (.iload_n 2, 1) := by decide +kernel
theorem dX12_wed_10 : decode mX12_wed.2.1 10 = .ok (.invokevirtual 453, 3) := by decide +kernel
theorem dX12_wed_13 : decode mX12_wed.2.1 13 = .ok (.ifCond .eq 62, 3) := by decide +kernel
theorem dX12_wed_16 : decode mX12_wed.2.1 16 = .ok (.aload_n 0, 1) := by decide +kernel
theorem dX12_wed_17 : decode mX12_wed.2.1 17 = .ok (.getfield 151, 3) := by decide +kernel
theorem dX12_wed_20 : decode mX12_wed.2.1 20 = .ok (.iload_n 1, 1) := by decide +kernel
theorem dX12_wed_21 : decode mX12_wed.2.1 21 = .ok (.iaload, 1) := by decide +kernel
theorem dX12_wed_22 : decode mX12_wed.2.1 22 = .ok (.aload_n 0, 1) := by decide +kernel
theorem dX12_wed_23 : decode mX12_wed.2.1 23 = .ok (.getfield 151, 3) := by decide +kernel
theorem dX12_wed_26 : decode mX12_wed.2.1 26 = .ok (.iload_n 2, 1) := by decide +kernel
theorem dX12_wed_27 : decode mX12_wed.2.1 27 = .ok (.iaload, 1) := by decide +kernel
theorem dX12_wed_28 : decode mX12_wed.2.1 28 = .ok (.if_icmp .eq 47, 3) := by decide +kernel
theorem dX12_wed_31 : decode mX12_wed.2.1 31 = .ok (.iload_n 3, 1) := by decide +kernel
theorem dX12_wed_32 : decode mX12_wed.2.1 32 = .ok (.invokestatic 322, 3) := by decide +kernel
theorem dX12_wed_35 : decode mX12_wed.2.1 35 = .ok (.ifCond .eq 40, 3) := by decide +kernel
theorem dX12_wed_38 : decode mX12_wed.2.1 38 = .ok (.iload_n 3, 1) := by decide +kernel
theorem dX12_wed_39 : decode mX12_wed.2.1 39 = .ok (.aload_n 0, 1) := by decide +kernel
theorem dX12_wed_40 : decode mX12_wed.2.1 40 = .ok (.getfield 161, 3) := by decide +kernel
theorem dX12_wed_43 : decode mX12_wed.2.1 43 = .ok (.iload_n 1, 1) := by decide +kernel
theorem dX12_wed_44 : decode mX12_wed.2.1 44 = .ok (.iaload, 1) := by decide +kernel
theorem dX12_wed_45 : decode mX12_wed.2.1 45 = .ok (.if_icmp .lt 30, 3) := by decide +kernel
theorem dX12_wed_48 : decode mX12_wed.2.1 48 = .ok (.iload_n 3, 1) := by decide +kernel
theorem dX12_wed_49 : decode mX12_wed.2.1 49 = .ok (.aload_n 0, 1) := by decide +kernel
theorem dX12_wed_50 : decode mX12_wed.2.1 50 = .ok (.getfield 161, 3) := by decide +kernel
theorem dX12_wed_53 : decode mX12_wed.2.1 53 = .ok (.iload_n 2, 1) := by decide +kernel
theorem dX12_wed_54 : decode mX12_wed.2.1 54 = .ok (.iaload, 1) := by decide +kernel
theorem dX12_wed_55 : decode mX12_wed.2.1 55 = .ok (.if_icmp .lt 20, 3) := by decide +kernel
theorem dX12_wed_58 : decode mX12_wed.2.1 58 = .ok (.iload_n 3, 1) := by decide +kernel
theorem dX12_wed_59 : decode mX12_wed.2.1 59 = .ok (.aload_n 0, 1) := by decide +kernel
theorem dX12_wed_60 : decode mX12_wed.2.1 60 = .ok (.getfield 444, 3) := by decide +kernel
theorem dX12_wed_63 : decode mX12_wed.2.1 63 = .ok (.if_icmp .gt 12, 3) := by decide +kernel
theorem dX12_wed_66 : decode mX12_wed.2.1 66 = .ok (.aload_n 0, 1) := by decide +kernel
theorem dX12_wed_67 : decode mX12_wed.2.1 67 = .ok (.getfield 456, 3) := by decide +kernel
theorem dX12_wed_70 : decode mX12_wed.2.1 70 = .ok (.bipush 40, 2) := by decide +kernel
theorem dX12_wed_72 : decode mX12_wed.2.1 72 = .ok (.if_icmp .ne 5, 3) := by decide +kernel
theorem dX12_wed_75 : decode mX12_wed.2.1 75 = .ok (.iconst (-1), 1) := by decide +kernel
theorem dX12_wed_76 : decode mX12_wed.2.1 76 = .ok (.ireturn, 1) := by decide +kernel
theorem dX12_wed_77 : decode mX12_wed.2.1 77 = .ok (.aload_n 0, 1) := by decide +kernel
theorem dX12_wed_78 : decode mX12_wed.2.1 78 = .ok (.getfield 173, 3) := by decide +kernel
theorem dX12_wed_81 : decode mX12_wed.2.1 81 = .ok (.aload_n 0, 1) := by decide +kernel
theorem dX12_wed_82 : decode mX12_wed.2.1 82 = .ok (.getfield 456, 3) := by decide +kernel
theorem dX12_wed_85 : decode mX12_wed.2.1 85 = .ok (.iload_n 1, 1) := by decide +kernel
theorem dX12_wed_86 : decode mX12_wed.2.1 86 = .ok (.iastore, 1) := by decide +kernel
theorem dX12_wed_87 : decode mX12_wed.2.1 87 = .ok (.aload_n 0, 1) := by decide +kernel
theorem dX12_wed_88 : decode mX12_wed.2.1 88 = .ok (.getfield 176, 3) := by decide +kernel
theorem dX12_wed_91 : decode mX12_wed.2.1 91 = .ok (.aload_n 0, 1) := by decide +kernel
theorem dX12_wed_92 : decode mX12_wed.2.1 92 = .ok (.getfield 456, 3) := by decide +kernel
theorem dX12_wed_95 : decode mX12_wed.2.1 95 = .ok (.iload_n 2, 1) := by decide +kernel
theorem dX12_wed_96 : decode mX12_wed.2.1 96 = .ok (.iastore, 1) := by decide +kernel
theorem dX12_wed_97 : decode mX12_wed.2.1 97 = .ok (.aload_n 0, 1) := by decide +kernel
theorem dX12_wed_98 : decode mX12_wed.2.1 98 = .ok (.getfield 179, 3) := by decide +kernel
theorem dX12_wed_101 : decode mX12_wed.2.1 101 = .ok (.aload_n 0, 1) := by decide +kernel
theorem dX12_wed_102 : decode mX12_wed.2.1 102 = .ok (.getfield 456, 3) := by decide +kernel
theorem dX12_wed_105 : decode mX12_wed.2.1 105 = .ok (.iload_n 3, 1) := by decide +kernel
theorem dX12_wed_106 : decode mX12_wed.2.1 106 = .ok (.iastore, 1) := by decide +kernel
theorem dX12_wed_107 : decode mX12_wed.2.1 107 = .ok (.aload_n 0, 1) := by decide +kernel
theorem dX12_wed_108 : decode mX12_wed.2.1 108 = .ok (.getfield 182, 3) := by decide +kernel
theorem dX12_wed_111 : decode mX12_wed.2.1 111 = .ok (.aload_n 0, 1) := by decide +kernel
theorem dX12_wed_112 : decode mX12_wed.2.1 112 = .ok (.getfield 456, 3) := by decide +kernel
theorem dX12_wed_115 : decode mX12_wed.2.1 115 = .ok (.aload_n 0, 1) := by decide +kernel
theorem dX12_wed_116 : decode mX12_wed.2.1 116 = .ok (.getfield 444, 3) := by decide +kernel
theorem dX12_wed_119 : decode mX12_wed.2.1 119 = .ok (.iastore, 1) := by decide +kernel
theorem dX12_wed_120 : decode mX12_wed.2.1 120 = .ok (.aload_n 0, 1) := by decide +kernel
theorem dX12_wed_121 : decode mX12_wed.2.1 121 = .ok (.dup, 1) := by decide +kernel
theorem dX12_wed_122 : decode mX12_wed.2.1 122 = .ok (.getfield 456, 3) := by decide +kernel
theorem dX12_wed_125 : decode mX12_wed.2.1 125 = .ok (.iconst 1, 1) := by decide +kernel
theorem dX12_wed_126 : decode mX12_wed.2.1 126 = .ok (.iadd, 1) := by decide +kernel
theorem dX12_wed_127 : decode mX12_wed.2.1 127 = .ok (.putfield 456, 3) := by decide +kernel
theorem dX12_wed_130 : decode mX12_wed.2.1 130 = .ok (.aload_n 0, 1) := by decide +kernel
theorem dX12_wed_131 : decode mX12_wed.2.1 131 = .ok (.getfield 456, 3) := by decide +kernel
theorem dX12_wed_134 : decode mX12_wed.2.1 134 = .ok (.iconst 1, 1) := by decide +kernel
theorem dX12_wed_135 : decode mX12_wed.2.1 135 = .ok (.isub, 1) := by decide +kernel
theorem dX12_wed_136 : decode mX12_wed.2.1 136 = .ok (.ireturn, 1) := by decide +kernel
theorem bX12_wed_0 {SC : Nat → Nat} {X : mh_X} {d : Nat} {Q : Option am_V → am_W → Prop} {bc bs : Nat} {w : am_W} {x1 : Int} {x2 : Int} {x3 : Int}
    (h : ((¬ (¬ x1 < (0 : Int) ∧ (¬ (am_w ((w.1 9 0 42) - 1)) < x1)) → Q (some (.inl (-1))) w) ∧ ((¬ x1 < (0 : Int) ∧ (¬ (am_w ((w.1 9 0 42) - 1)) < x1)) → ((¬ (¬ x2 < (0 : Int) ∧ (¬ (am_w ((w.1 9 0 42) - 1)) < x2)) → Q (some (.inl (-1))) w) ∧ ((¬ x2 < (0 : Int) ∧ (¬ (am_w ((w.1 9 0 42) - 1)) < x2)) → (0 ≤ x1 ∧ (x1 < 40 ∧ (0 ≤ x2 ∧ (x2 < 40 ∧ (((w.1 96 0 x1.toNat) = (w.1 96 0 x2.toNat) → Q (some (.inl (-1))) w) ∧ (¬ (w.1 96 0 x1.toNat) = (w.1 96 0 x2.toNat) → ((¬ (¬ x3 < ((-36524) : Int) ∧ (¬ (73047 : Int) < x3)) → Q (some (.inl (-1))) w) ∧ ((¬ x3 < ((-36524) : Int) ∧ (¬ (73047 : Int) < x3)) → ((x3 < (w.1 100 0 x1.toNat) → Q (some (.inl (-1))) w) ∧ (¬ x3 < (w.1 100 0 x1.toNat) → ((x3 < (w.1 100 0 x2.toNat) → Q (some (.inl (-1))) w) ∧ (¬ x3 < (w.1 100 0 x2.toNat) → (((w.1 9 0 33) < x3 → Q (some (.inl (-1))) w) ∧ (¬ (w.1 9 0 33) < x3 → ((¬ (w.1 9 0 47) = 40 → (0 ≤ (w.1 9 0 47) ∧ ((w.1 9 0 47) < 40 ∧ Q (some (.inl (am_w (((am_up w.1 9 0 47 (am_w ((w.1 9 0 47) + 1))) 9 0 47) - 1)))) ((am_up (am_up (am_up (am_up (am_up w.1 104 0 (w.1 9 0 47).toNat x1) 105 0 (w.1 9 0 47).toNat x2) 106 0 (w.1 9 0 47).toNat x3) 107 0 (w.1 9 0 47).toNat (w.1 9 0 33)) 9 0 47 (am_w ((w.1 9 0 47) + 1))), w.2)))) ∧ ((w.1 9 0 47) = 40 → Q (some (.inl (-1))) w))))))))))))))))))))) :
    am_A (mh_G X) SC (d + 3) mX12_wed Q 0 [(0, .inr (.inr (some (9, 0)))), (1, .inl x1), (2, .inl x2), (3, .inl x3)] [] w bc bs := by
  refine am_aload_n dX12_wed_0 (List.Mem.head _) ?_
  refine am_iload_n dX12_wed_1 (List.Mem.tail _ (List.Mem.head _)) ?_
  refine am_callv (d' := d + 2) (kc := 0) (ks := 0) (as := [.inl x1]) dX12_wed_2 wc_X12_isPerson wd_2018 wd_2020 wd_73 wd_122 ds_X12_isPerson (by decide) (by omega) (Nat.le_of_ble_eq_true rfl) (Nat.zero_le _) (Nat.zero_le _) hc_10 (by decide) rfl rfl (sX12_isPerson (d := d + 0) (x1 := x1)  ?_)
  show am_A (mh_G X) SC (d + 3) mX12_wed Q 5 [(0, .inr (.inr (some (9, 0)))), (1, .inl x1), (2, .inl x2), (3, .inl x3)] [.inl (if (¬ x1 < (0 : Int) ∧ (¬ (am_w ((w.1 9 0 42) - 1)) < x1)) then 1 else 0)] w bc bs
  refine am_ifeq (tgt := 75) dX12_wed_5 (by decide) (fun c1 => ?_) (fun c1 => ?_)
  · replace c1 := am_beq1 c1
    replace h := h.1 c1
    refine am_iconst dX12_wed_75 (by unfold am_rg; omega) ?_
    exact am_ret (r := some (.inl (-1))) dX12_wed_76 (Or.inl rfl) rfl h
  · replace c1 := am_beq2 c1
    replace h := h.2 c1
    refine am_aload_n dX12_wed_8 (List.Mem.head _) ?_
    refine am_iload_n dX12_wed_9 (List.Mem.tail _ (List.Mem.tail _ (List.Mem.head _))) ?_
    refine am_callv (d' := d + 2) (kc := 0) (ks := 0) (as := [.inl x2]) dX12_wed_10 wc_X12_isPerson wd_2018 wd_2020 wd_73 wd_122 ds_X12_isPerson (by decide) (by omega) (Nat.le_of_ble_eq_true rfl) (Nat.zero_le _) (Nat.zero_le _) hc_10 (by decide) rfl rfl (sX12_isPerson (d := d + 0) (x1 := x2)  ?_)
    show am_A (mh_G X) SC (d + 3) mX12_wed Q 13 [(0, .inr (.inr (some (9, 0)))), (1, .inl x1), (2, .inl x2), (3, .inl x3)] [.inl (if (¬ x2 < (0 : Int) ∧ (¬ (am_w ((w.1 9 0 42) - 1)) < x2)) then 1 else 0)] w bc bs
    refine am_ifeq (tgt := 75) dX12_wed_13 (by decide) (fun c2 => ?_) (fun c2 => ?_)
    · replace c2 := am_beq1 c2
      replace h := h.1 c2
      refine am_iconst dX12_wed_75 (by unfold am_rg; omega) ?_
      exact am_ret (r := some (.inl (-1))) dX12_wed_76 (Or.inl rfl) rfl h
    · replace c2 := am_beq2 c2
      replace h := h.2 c2
      refine am_aload_n dX12_wed_16 (List.Mem.head _) ?_
      refine am_getf (f := 34) (v := .inr (.inr (some (96, 0)))) dX12_wed_17 hc_10 (by decide) wd_1583 (by decide) rfl rfl ?_
      refine am_iload_n dX12_wed_20 (List.Mem.tail _ (List.Mem.head _)) ?_
      have o3 := h.1
      replace h := h.2
      have o4 := h.1
      replace h := h.2
      refine am_iaload (v := (w.1 96 0 x1.toNat)) dX12_wed_21 (by decide) rfl o3 o4 rfl ?_
      refine am_aload_n dX12_wed_22 (List.Mem.head _) ?_
      refine am_getf (f := 34) (v := .inr (.inr (some (96, 0)))) dX12_wed_23 hc_10 (by decide) wd_1583 (by decide) rfl rfl ?_
      refine am_iload_n dX12_wed_26 (List.Mem.tail _ (List.Mem.tail _ (List.Mem.head _))) ?_
      have o5 := h.1
      replace h := h.2
      have o6 := h.1
      replace h := h.2
      refine am_iaload (v := (w.1 96 0 x2.toNat)) dX12_wed_27 (by decide) rfl o5 o6 rfl ?_
      refine am_icmpeq (tgt := 75) dX12_wed_28 (by decide) (fun c7 => ?_) (fun c7 => ?_)
      · replace h := h.1 c7
        refine am_iconst dX12_wed_75 (by unfold am_rg; omega) ?_
        exact am_ret (r := some (.inl (-1))) dX12_wed_76 (Or.inl rfl) rfl h
      · replace h := h.2 c7
        refine am_iload_n dX12_wed_31 (List.Mem.tail _ (List.Mem.tail _ (List.Mem.tail _ (List.Mem.head _)))) ?_
        refine am_calls (d' := d + 2) (kc := 0) (ks := 0) (as := [.inl x3]) dX12_wed_32 wc_X12_isDay wd_1854 wd_1855 wd_122 ds_X12_isDay (by decide) (by omega) (Nat.le_of_ble_eq_true rfl) (Nat.zero_le _) (Nat.zero_le _) rfl (sX12_isDay (d := d + 0) (x0 := x3)  ?_)
        show am_A (mh_G X) SC (d + 3) mX12_wed Q 35 [(0, .inr (.inr (some (9, 0)))), (1, .inl x1), (2, .inl x2), (3, .inl x3)] [.inl (if (¬ x3 < ((-36524) : Int) ∧ (¬ (73047 : Int) < x3)) then 1 else 0)] w bc bs
        refine am_ifeq (tgt := 75) dX12_wed_35 (by decide) (fun c8 => ?_) (fun c8 => ?_)
        · replace c8 := am_beq1 c8
          replace h := h.1 c8
          refine am_iconst dX12_wed_75 (by unfold am_rg; omega) ?_
          exact am_ret (r := some (.inl (-1))) dX12_wed_76 (Or.inl rfl) rfl h
        · replace c8 := am_beq2 c8
          replace h := h.2 c8
          refine am_iload_n dX12_wed_38 (List.Mem.tail _ (List.Mem.tail _ (List.Mem.tail _ (List.Mem.head _)))) ?_
          refine am_aload_n dX12_wed_39 (List.Mem.head _) ?_
          refine am_getf (f := 38) (v := .inr (.inr (some (100, 0)))) dX12_wed_40 hc_10 (by decide) wd_1587 (by decide) rfl rfl ?_
          refine am_iload_n dX12_wed_43 (List.Mem.tail _ (List.Mem.head _)) ?_
          refine am_iaload (v := (w.1 100 0 x1.toNat)) dX12_wed_44 (by decide) rfl o3 o4 rfl ?_
          refine am_icmplt (tgt := 75) dX12_wed_45 (by decide) (fun c9 => ?_) (fun c9 => ?_)
          · replace h := h.1 c9
            refine am_iconst dX12_wed_75 (by unfold am_rg; omega) ?_
            exact am_ret (r := some (.inl (-1))) dX12_wed_76 (Or.inl rfl) rfl h
          · replace h := h.2 c9
            refine am_iload_n dX12_wed_48 (List.Mem.tail _ (List.Mem.tail _ (List.Mem.tail _ (List.Mem.head _)))) ?_
            refine am_aload_n dX12_wed_49 (List.Mem.head _) ?_
            refine am_getf (f := 38) (v := .inr (.inr (some (100, 0)))) dX12_wed_50 hc_10 (by decide) wd_1587 (by decide) rfl rfl ?_
            refine am_iload_n dX12_wed_53 (List.Mem.tail _ (List.Mem.tail _ (List.Mem.head _))) ?_
            refine am_iaload (v := (w.1 100 0 x2.toNat)) dX12_wed_54 (by decide) rfl o5 o6 rfl ?_
            refine am_icmplt (tgt := 75) dX12_wed_55 (by decide) (fun c10 => ?_) (fun c10 => ?_)
            · replace h := h.1 c10
              refine am_iconst dX12_wed_75 (by unfold am_rg; omega) ?_
              exact am_ret (r := some (.inl (-1))) dX12_wed_76 (Or.inl rfl) rfl h
            · replace h := h.2 c10
              refine am_iload_n dX12_wed_58 (List.Mem.tail _ (List.Mem.tail _ (List.Mem.tail _ (List.Mem.head _)))) ?_
              refine am_aload_n dX12_wed_59 (List.Mem.head _) ?_
              refine am_getf (f := 33) (v := .inl (w.1 9 0 33)) dX12_wed_60 hc_10 (by decide) wd_1582 (by decide) rfl rfl ?_
              refine am_icmpgt (tgt := 75) dX12_wed_63 (by decide) (fun c11 => ?_) (fun c11 => ?_)
              · replace h := h.1 c11
                refine am_iconst dX12_wed_75 (by unfold am_rg; omega) ?_
                exact am_ret (r := some (.inl (-1))) dX12_wed_76 (Or.inl rfl) rfl h
              · replace h := h.2 c11
                refine am_aload_n dX12_wed_66 (List.Mem.head _) ?_
                refine am_getf (f := 47) (v := .inl (w.1 9 0 47)) dX12_wed_67 hc_10 (by decide) wd_1596 (by decide) rfl rfl ?_
                refine am_bipush dX12_wed_70 (by decide) (by unfold am_rg; omega) ?_
                refine am_icmpne (tgt := 77) dX12_wed_72 (by decide) (fun c12 => ?_) (fun c12 => ?_)
                · replace h := h.1 c12
                  refine am_aload_n dX12_wed_77 (List.Mem.head _) ?_
                  refine am_getf (f := 43) (v := .inr (.inr (some (104, 0)))) dX12_wed_78 hc_10 (by decide) wd_1592 (by decide) rfl rfl ?_
                  refine am_aload_n dX12_wed_81 (List.Mem.head _) ?_
                  refine am_getf (f := 47) (v := .inl (w.1 9 0 47)) dX12_wed_82 hc_10 (by decide) wd_1596 (by decide) rfl rfl ?_
                  refine am_iload_n dX12_wed_85 (List.Mem.tail _ (List.Mem.head _)) ?_
                  have o13 := h.1
                  replace h := h.2
                  have o14 := h.1
                  replace h := h.2
                  refine am_iastore dX12_wed_86 (Or.inl (by decide)) rfl o13 o14 ?_
                  refine am_aload_n dX12_wed_87 (List.Mem.head _) ?_
                  refine am_getf (f := 44) (v := .inr (.inr (some (105, 0)))) dX12_wed_88 hc_10 (by decide) wd_1593 (by decide) rfl rfl ?_
                  refine am_aload_n dX12_wed_91 (List.Mem.head _) ?_
                  refine am_getf (f := 47) (v := .inl (w.1 9 0 47)) dX12_wed_92 hc_10 (by decide) wd_1596 (by decide) rfl rfl ?_
                  refine am_iload_n dX12_wed_95 (List.Mem.tail _ (List.Mem.tail _ (List.Mem.head _))) ?_
                  refine am_iastore dX12_wed_96 (Or.inl (by decide)) rfl o13 o14 ?_
                  refine am_aload_n dX12_wed_97 (List.Mem.head _) ?_
                  refine am_getf (f := 45) (v := .inr (.inr (some (106, 0)))) dX12_wed_98 hc_10 (by decide) wd_1594 (by decide) rfl rfl ?_
                  refine am_aload_n dX12_wed_101 (List.Mem.head _) ?_
                  refine am_getf (f := 47) (v := .inl (w.1 9 0 47)) dX12_wed_102 hc_10 (by decide) wd_1596 (by decide) rfl rfl ?_
                  refine am_iload_n dX12_wed_105 (List.Mem.tail _ (List.Mem.tail _ (List.Mem.tail _ (List.Mem.head _)))) ?_
                  refine am_iastore dX12_wed_106 (Or.inl (by decide)) rfl o13 o14 ?_
                  refine am_aload_n dX12_wed_107 (List.Mem.head _) ?_
                  refine am_getf (f := 46) (v := .inr (.inr (some (107, 0)))) dX12_wed_108 hc_10 (by decide) wd_1595 (by decide) rfl rfl ?_
                  refine am_aload_n dX12_wed_111 (List.Mem.head _) ?_
                  refine am_getf (f := 47) (v := .inl (w.1 9 0 47)) dX12_wed_112 hc_10 (by decide) wd_1596 (by decide) rfl rfl ?_
                  refine am_aload_n dX12_wed_115 (List.Mem.head _) ?_
                  refine am_getf (f := 33) (v := .inl (w.1 9 0 33)) dX12_wed_116 hc_10 (by decide) wd_1582 (by decide) rfl rfl ?_
                  refine am_iastore dX12_wed_119 (Or.inl (by decide)) rfl o13 o14 ?_
                  refine am_aload_n dX12_wed_120 (List.Mem.head _) ?_
                  refine am_dup dX12_wed_121 rfl ?_
                  refine am_getf (f := 47) (v := .inl (w.1 9 0 47)) dX12_wed_122 hc_10 (by decide) wd_1596 (by decide) rfl rfl ?_
                  refine am_iconst dX12_wed_125 (by unfold am_rg; omega) ?_
                  refine am_iadd dX12_wed_126 ?_
                  refine am_putf (f := 47) dX12_wed_127 hc_10 (by decide) wd_1596 rfl (Or.inl rfl) (Or.inl (by decide)) rfl ?_
                  refine am_aload_n dX12_wed_130 (List.Mem.head _) ?_
                  refine am_getf (f := 47) (v := .inl ((am_up w.1 9 0 47 (am_w ((w.1 9 0 47) + 1))) 9 0 47)) dX12_wed_131 hc_10 (by decide) wd_1596 (by decide) rfl rfl ?_
                  refine am_iconst dX12_wed_134 (by unfold am_rg; omega) ?_
                  refine am_isub dX12_wed_135 ?_
                  exact am_ret (r := some (.inl (am_w (((am_up w.1 9 0 47 (am_w ((w.1 9 0 47) + 1))) 9 0 47) - 1)))) dX12_wed_136 (Or.inl rfl) rfl h
                · replace h := h.2 c12
                  refine am_iconst dX12_wed_75 (by unfold am_rg; omega) ?_
                  exact am_ret (r := some (.inl (-1))) dX12_wed_76 (Or.inl rfl) rfl h
-- MourningHouseModel.court(III)I
theorem dX12_court_0 : decode mX12_court.2.1 0 = .ok (.iload_n 1, 1) := by decide +kernel
theorem dX12_court_1 : decode mX12_court.2.1 1 = .ok (.invokestatic 322, 3) := by decide +kernel
theorem dX12_court_4 : decode mX12_court.2.1 4 = .ok (.ifCond .eq 32, 3) := by decide +kernel
theorem dX12_court_7 : decode mX12_court.2.1 7 = .ok (.iload_n 2, 1) := by decide +kernel
theorem dX12_court_8 : decode mX12_court.2.1 8 = .ok (.iconst 1, 1) := by decide +kernel
theorem dX12_court_9 : decode mX12_court.2.1 9 = .ok (.sipush 400, 3) := by decide +kernel
theorem dX12_court_12 : decode mX12_court.2.1 12 = .ok (.invokestatic 318, 3) := by decide +kernel
theorem dX12_court_15 : decode mX12_court.2.1 15 = .ok (.ifCond .eq 21, 3) := by decide +kernel
theorem dX12_court_18 : decode mX12_court.2.1 18 = .ok (.iload_n 3, 1) := by decide +kernel
theorem dX12_court_19 : decode mX12_court.2.1 19 = .ok (.iconst 1, 1) := by decide +kernel
theorem dX12_court_20 : decode mX12_court.2.1 20 = .ok (.iconst 4, 1) := by decide +kernel
theorem dX12_court_21 : decode mX12_court.2.1 21 = .ok (.invokestatic 318, 3) := by decide +kernel
theorem dX12_court_24 : decode mX12_court.2.1 24 = .ok (.ifCond .eq 12, 3) := by decide +kernel
theorem dX12_court_27 : decode mX12_court.2.1 27 = .ok (.aload_n 0, 1) := by decide +kernel
theorem dX12_court_28 : decode mX12_court.2.1 28 = .ok (.getfield 459, 3) := by decide +kernel
theorem dX12_court_31 : decode mX12_court.2.1 31 = .ok (.bipush 10, 2) := by decide +kernel
theorem dX12_court_33 : decode mX12_court.2.1 33 = .ok (.if_icmp .ne 5, 3) := by decide +kernel
theorem dX12_court_36 : decode mX12_court.2.1 36 = .ok (.iconst (-1), 1) := by decide +kernel
theorem dX12_court_37 : decode mX12_court.2.1 37 = .ok (.ireturn, 1) := by decide +kernel
theorem dX12_court_38 : decode mX12_court.2.1 38 = .ok (.aload_n 0, 1) := by decide +kernel
theorem dX12_court_39 : decode mX12_court.2.1 39 = .ok (.getfield 185, 3) := by decide +kernel
theorem dX12_court_42 : decode mX12_court.2.1 42 = .ok (.aload_n 0, 1) := by decide +kernel
theorem dX12_court_43 : decode mX12_court.2.1 43 = .ok (.getfield 459, 3) := by decide +kernel
theorem dX12_court_46 : decode mX12_court.2.1 46 = .ok (.iload_n 1, 1) := by decide +kernel
theorem dX12_court_47 : decode mX12_court.2.1 47 = .ok (.iastore, 1) := by decide +kernel
theorem dX12_court_48 : decode mX12_court.2.1 48 = .ok (.aload_n 0, 1) := by decide +kernel
theorem dX12_court_49 : decode mX12_court.2.1 49 = .ok (.getfield 188, 3) := by decide +kernel
theorem dX12_court_52 : decode mX12_court.2.1 52 = .ok (.aload_n 0, 1) := by decide +kernel
theorem dX12_court_53 : decode mX12_court.2.1 53 = .ok (.getfield 459, 3) := by decide +kernel
theorem dX12_court_56 : decode mX12_court.2.1 56 = .ok (.iload_n 2, 1) := by decide +kernel
theorem dX12_court_57 : decode mX12_court.2.1 57 = .ok (.iastore, 1) := by decide +kernel
theorem dX12_court_58 : decode mX12_court.2.1 58 = .ok (.aload_n 0, 1) := by decide +kernel
theorem dX12_court_59 : decode mX12_court.2.1 59 = .ok (.getfield 191, 3) := by decide +kernel
theorem dX12_court_62 : decode mX12_court.2.1 62 = .ok (.aload_n 0, 1) := by decide +kernel
theorem dX12_court_63 : decode mX12_court.2.1 63 = .ok (.getfield 459, 3) := by decide +kernel
theorem dX12_court_66 : decode mX12_court.2.1 66 = .ok (.iload_n 3, 1) := by decide +kernel
theorem dX12_court_67 : decode mX12_court.2.1 67 = .ok (.iastore, 1) := by decide +kernel
theorem dX12_court_68 : decode mX12_court.2.1 68 = .ok (.aload_n 0, 1) := by decide +kernel
theorem dX12_court_69 : decode mX12_court.2.1 69 = .ok (.getfield 194, 3) := by decide +kernel
theorem dX12_court_72 : decode mX12_court.2.1 72 = .ok (.aload_n 0, 1) := by decide +kernel
theorem dX12_court_73 : decode mX12_court.2.1 73 = .ok (.getfield 459, 3) := by decide +kernel
theorem dX12_court_76 : decode mX12_court.2.1 76 = .ok (.aload_n 0, 1) := by decide +kernel
theorem dX12_court_77 : decode mX12_court.2.1 77 = .ok (.getfield 444, 3) := by decide +kernel
theorem dX12_court_80 : decode mX12_court.2.1 80 = .ok (.iastore, 1) := by decide +kernel
theorem dX12_court_81 : decode mX12_court.2.1 81 = .ok (.aload_n 0, 1) := by decide +kernel
theorem dX12_court_82 : decode mX12_court.2.1 82 = .ok (.dup, 1) := by decide +kernel
theorem dX12_court_83 : decode mX12_court.2.1 83 = .ok (.getfield 459, 3) := by decide +kernel
theorem dX12_court_86 : decode mX12_court.2.1 86 = .ok (.iconst 1, 1) := by decide +kernel
theorem dX12_court_87 : decode mX12_court.2.1 87 = .ok (.iadd, 1) := by decide +kernel
theorem dX12_court_88 : decode mX12_court.2.1 88 = .ok (.putfield 459, 3) := by decide +kernel
theorem dX12_court_91 : decode mX12_court.2.1 91 = .ok (.aload_n 0, 1) := by decide +kernel
theorem dX12_court_92 : decode mX12_court.2.1 92 = .ok (.getfield 459, 3) := by decide +kernel
theorem dX12_court_95 : decode mX12_court.2.1 95 = .ok (.iconst 1, 1) := by decide +kernel
theorem dX12_court_96 : decode mX12_court.2.1 96 = .ok (.isub, 1) := by decide +kernel
theorem dX12_court_97 : decode mX12_court.2.1 97 = .ok (.ireturn, 1) := by decide +kernel
theorem bX12_court_0 {SC : Nat → Nat} {X : mh_X} {d : Nat} {Q : Option am_V → am_W → Prop} {bc bs : Nat} {w : am_W} {x1 : Int} {x2 : Int} {x3 : Int}
    (h : ((¬ (¬ x1 < ((-36524) : Int) ∧ (¬ (73047 : Int) < x1)) → Q (some (.inl (-1))) w) ∧ ((¬ x1 < ((-36524) : Int) ∧ (¬ (73047 : Int) < x1)) → ((¬ (¬ x2 < (1 : Int) ∧ (¬ (400 : Int) < x2)) → Q (some (.inl (-1))) w) ∧ ((¬ x2 < (1 : Int) ∧ (¬ (400 : Int) < x2)) → ((¬ (¬ x3 < (1 : Int) ∧ (¬ (4 : Int) < x3)) → Q (some (.inl (-1))) w) ∧ ((¬ x3 < (1 : Int) ∧ (¬ (4 : Int) < x3)) → ((¬ (w.1 9 0 52) = 10 → (0 ≤ (w.1 9 0 52) ∧ ((w.1 9 0 52) < 10 ∧ Q (some (.inl (am_w (((am_up w.1 9 0 52 (am_w ((w.1 9 0 52) + 1))) 9 0 52) - 1)))) ((am_up (am_up (am_up (am_up (am_up w.1 108 0 (w.1 9 0 52).toNat x1) 109 0 (w.1 9 0 52).toNat x2) 110 0 (w.1 9 0 52).toNat x3) 111 0 (w.1 9 0 52).toNat (w.1 9 0 33)) 9 0 52 (am_w ((w.1 9 0 52) + 1))), w.2)))) ∧ ((w.1 9 0 52) = 10 → Q (some (.inl (-1))) w))))))))) :
    am_A (mh_G X) SC (d + 3) mX12_court Q 0 [(0, .inr (.inr (some (9, 0)))), (1, .inl x1), (2, .inl x2), (3, .inl x3)] [] w bc bs := by
  refine am_iload_n dX12_court_0 (List.Mem.tail _ (List.Mem.head _)) ?_
  refine am_calls (d' := d + 2) (kc := 0) (ks := 0) (as := [.inl x1]) dX12_court_1 wc_X12_isDay wd_1854 wd_1855 wd_122 ds_X12_isDay (by decide) (by omega) (Nat.le_of_ble_eq_true rfl) (Nat.zero_le _) (Nat.zero_le _) rfl (sX12_isDay (d := d + 0) (x0 := x1)  ?_)
  show am_A (mh_G X) SC (d + 3) mX12_court Q 4 [(0, .inr (.inr (some (9, 0)))), (1, .inl x1), (2, .inl x2), (3, .inl x3)] [.inl (if (¬ x1 < ((-36524) : Int) ∧ (¬ (73047 : Int) < x1)) then 1 else 0)] w bc bs
  refine am_ifeq (tgt := 36) dX12_court_4 (by decide) (fun c1 => ?_) (fun c1 => ?_)
  · replace c1 := am_beq1 c1
    replace h := h.1 c1
    refine am_iconst dX12_court_36 (by unfold am_rg; omega) ?_
    exact am_ret (r := some (.inl (-1))) dX12_court_37 (Or.inl rfl) rfl h
  · replace c1 := am_beq2 c1
    replace h := h.2 c1
    refine am_iload_n dX12_court_7 (List.Mem.tail _ (List.Mem.tail _ (List.Mem.head _))) ?_
    refine am_iconst dX12_court_8 (by unfold am_rg; omega) ?_
    refine am_sipush dX12_court_9 (by decide) (by unfold am_rg; omega) ?_
    refine am_calls (d' := d + 2) (kc := 0) (ks := 0) (as := [.inl x2, .inl 1, .inl 400]) dX12_court_12 wc_X12_in wd_1859 wd_1860 wd_122 ds_X12_in (by decide) (by omega) (Nat.le_of_ble_eq_true rfl) (Nat.zero_le _) (Nat.zero_le _) rfl (sX12_in (d := d + 1) (x0 := x2) (x1 := 1) (x2 := 400)  ?_)
    show am_A (mh_G X) SC (d + 3) mX12_court Q 15 [(0, .inr (.inr (some (9, 0)))), (1, .inl x1), (2, .inl x2), (3, .inl x3)] [.inl (if (¬ x2 < (1 : Int) ∧ (¬ (400 : Int) < x2)) then 1 else 0)] w bc bs
    refine am_ifeq (tgt := 36) dX12_court_15 (by decide) (fun c2 => ?_) (fun c2 => ?_)
    · replace c2 := am_beq1 c2
      replace h := h.1 c2
      refine am_iconst dX12_court_36 (by unfold am_rg; omega) ?_
      exact am_ret (r := some (.inl (-1))) dX12_court_37 (Or.inl rfl) rfl h
    · replace c2 := am_beq2 c2
      replace h := h.2 c2
      refine am_iload_n dX12_court_18 (List.Mem.tail _ (List.Mem.tail _ (List.Mem.tail _ (List.Mem.head _)))) ?_
      refine am_iconst dX12_court_19 (by unfold am_rg; omega) ?_
      refine am_iconst dX12_court_20 (by unfold am_rg; omega) ?_
      refine am_calls (d' := d + 2) (kc := 0) (ks := 0) (as := [.inl x3, .inl 1, .inl 4]) dX12_court_21 wc_X12_in wd_1859 wd_1860 wd_122 ds_X12_in (by decide) (by omega) (Nat.le_of_ble_eq_true rfl) (Nat.zero_le _) (Nat.zero_le _) rfl (sX12_in (d := d + 1) (x0 := x3) (x1 := 1) (x2 := 4)  ?_)
      show am_A (mh_G X) SC (d + 3) mX12_court Q 24 [(0, .inr (.inr (some (9, 0)))), (1, .inl x1), (2, .inl x2), (3, .inl x3)] [.inl (if (¬ x3 < (1 : Int) ∧ (¬ (4 : Int) < x3)) then 1 else 0)] w bc bs
      refine am_ifeq (tgt := 36) dX12_court_24 (by decide) (fun c3 => ?_) (fun c3 => ?_)
      · replace c3 := am_beq1 c3
        replace h := h.1 c3
        refine am_iconst dX12_court_36 (by unfold am_rg; omega) ?_
        exact am_ret (r := some (.inl (-1))) dX12_court_37 (Or.inl rfl) rfl h
      · replace c3 := am_beq2 c3
        replace h := h.2 c3
        refine am_aload_n dX12_court_27 (List.Mem.head _) ?_
        refine am_getf (f := 52) (v := .inl (w.1 9 0 52)) dX12_court_28 hc_10 (by decide) wd_1601 (by decide) rfl rfl ?_
        refine am_bipush dX12_court_31 (by decide) (by unfold am_rg; omega) ?_
        refine am_icmpne (tgt := 38) dX12_court_33 (by decide) (fun c4 => ?_) (fun c4 => ?_)
        · replace h := h.1 c4
          refine am_aload_n dX12_court_38 (List.Mem.head _) ?_
          refine am_getf (f := 48) (v := .inr (.inr (some (108, 0)))) dX12_court_39 hc_10 (by decide) wd_1597 (by decide) rfl rfl ?_
          refine am_aload_n dX12_court_42 (List.Mem.head _) ?_
          refine am_getf (f := 52) (v := .inl (w.1 9 0 52)) dX12_court_43 hc_10 (by decide) wd_1601 (by decide) rfl rfl ?_
          refine am_iload_n dX12_court_46 (List.Mem.tail _ (List.Mem.head _)) ?_
          have o5 := h.1
          replace h := h.2
          have o6 := h.1
          replace h := h.2
          refine am_iastore dX12_court_47 (Or.inl (by decide)) rfl o5 o6 ?_
          refine am_aload_n dX12_court_48 (List.Mem.head _) ?_
          refine am_getf (f := 49) (v := .inr (.inr (some (109, 0)))) dX12_court_49 hc_10 (by decide) wd_1598 (by decide) rfl rfl ?_
          refine am_aload_n dX12_court_52 (List.Mem.head _) ?_
          refine am_getf (f := 52) (v := .inl (w.1 9 0 52)) dX12_court_53 hc_10 (by decide) wd_1601 (by decide) rfl rfl ?_
          refine am_iload_n dX12_court_56 (List.Mem.tail _ (List.Mem.tail _ (List.Mem.head _))) ?_
          refine am_iastore dX12_court_57 (Or.inl (by decide)) rfl o5 o6 ?_
          refine am_aload_n dX12_court_58 (List.Mem.head _) ?_
          refine am_getf (f := 50) (v := .inr (.inr (some (110, 0)))) dX12_court_59 hc_10 (by decide) wd_1599 (by decide) rfl rfl ?_
          refine am_aload_n dX12_court_62 (List.Mem.head _) ?_
          refine am_getf (f := 52) (v := .inl (w.1 9 0 52)) dX12_court_63 hc_10 (by decide) wd_1601 (by decide) rfl rfl ?_
          refine am_iload_n dX12_court_66 (List.Mem.tail _ (List.Mem.tail _ (List.Mem.tail _ (List.Mem.head _)))) ?_
          refine am_iastore dX12_court_67 (Or.inl (by decide)) rfl o5 o6 ?_
          refine am_aload_n dX12_court_68 (List.Mem.head _) ?_
          refine am_getf (f := 51) (v := .inr (.inr (some (111, 0)))) dX12_court_69 hc_10 (by decide) wd_1600 (by decide) rfl rfl ?_
          refine am_aload_n dX12_court_72 (List.Mem.head _) ?_
          refine am_getf (f := 52) (v := .inl (w.1 9 0 52)) dX12_court_73 hc_10 (by decide) wd_1601 (by decide) rfl rfl ?_
          refine am_aload_n dX12_court_76 (List.Mem.head _) ?_
          refine am_getf (f := 33) (v := .inl (w.1 9 0 33)) dX12_court_77 hc_10 (by decide) wd_1582 (by decide) rfl rfl ?_
          refine am_iastore dX12_court_80 (Or.inl (by decide)) rfl o5 o6 ?_
          refine am_aload_n dX12_court_81 (List.Mem.head _) ?_
          refine am_dup dX12_court_82 rfl ?_
          refine am_getf (f := 52) (v := .inl (w.1 9 0 52)) dX12_court_83 hc_10 (by decide) wd_1601 (by decide) rfl rfl ?_
          refine am_iconst dX12_court_86 (by unfold am_rg; omega) ?_
          refine am_iadd dX12_court_87 ?_
          refine am_putf (f := 52) dX12_court_88 hc_10 (by decide) wd_1601 rfl (Or.inl rfl) (Or.inl (by decide)) rfl ?_
          refine am_aload_n dX12_court_91 (List.Mem.head _) ?_
          refine am_getf (f := 52) (v := .inl ((am_up w.1 9 0 52 (am_w ((w.1 9 0 52) + 1))) 9 0 52)) dX12_court_92 hc_10 (by decide) wd_1601 (by decide) rfl rfl ?_
          refine am_iconst dX12_court_95 (by unfold am_rg; omega) ?_
          refine am_isub dX12_court_96 ?_
          exact am_ret (r := some (.inl (am_w (((am_up w.1 9 0 52 (am_w ((w.1 9 0 52) + 1))) 9 0 52) - 1)))) dX12_court_97 (Or.inl rfl) rfl h
        · replace h := h.2 c4
          refine am_iconst dX12_court_36 (by unfold am_rg; omega) ?_
          exact am_ret (r := some (.inl (-1))) dX12_court_37 (Or.inl rfl) rfl h
-- MourningHouseModel.isThere(II)Z
theorem dX12_isThere_0 : decode mX12_isThere.2.1 0 = .ok (.aload_n 0, 1) := by decide +kernel
theorem dX12_isThere_1 : decode mX12_isThere.2.1 1 = .ok (.getfield 164, 3) := by decide +kernel
theorem dX12_isThere_4 : decode mX12_isThere.2.1 4 = .ok (.iload_n 1, 1) := by decide +kernel
theorem dX12_isThere_5 : decode mX12_isThere.2.1 5 = .ok (.iaload, 1) := by decide +kernel
theorem dX12_isThere_6 : decode mX12_isThere.2.1 6 = .ok (.iload_n 2, 1) := by decide +kernel
theorem dX12_isThere_7 : decode mX12_isThere.2.1 7 = .ok (.if_icmp .gt 7, 3) := by decide +kernel
theorem dX12_isThere_10 : decode mX12_isThere.2.1 10 = .ok (.iconst 1, 1) := by decide +kernel
theorem dX12_isThere_11 : decode mX12_isThere.2.1 11 = .ok (.goto 4, 3) := by decide +kernel
theorem dX12_isThere_14 : decode mX12_isThere.2.1 14 = .ok (.iconst 0, 1) := by decide +kernel
theorem dX12_isThere_15 : decode mX12_isThere.2.1 15 = .ok (.ireturn, 1) := by decide +kernel
theorem sX12_isThere {SC : Nat → Nat} {X : mh_X} {d kc ks : Nat} {Q : Option am_V → am_W → Prop} {w : am_W} {x1 : Int} {x2 : Int} (Ho1 : 0 ≤ x1) (Ho2 : x1 < 40)
    (h : Q (some (.inl (if (¬ x2 < (w.1 101 0 x1.toNat)) then 1 else 0))) w) : am_M (mh_G X) SC (d + 1) kc ks mX12_isThere [.inr (.inr (some (9, 0))), .inl x1, .inl x2] w Q := by
  refine am_M_of (by decide) (Nat.le_of_ble_eq_true rfl) ?_
  show am_A (mh_G X) SC (d + 1) mX12_isThere Q 0 [(0, .inr (.inr (some (9, 0)))), (1, .inl x1), (2, .inl x2)] [] w kc ks
  refine am_aload_n dX12_isThere_0 (List.Mem.head _) ?_
  refine am_getf (f := 39) (v := .inr (.inr (some (101, 0)))) dX12_isThere_1 hc_10 (by decide) wd_1588 (by decide) rfl rfl ?_
  refine am_iload_n dX12_isThere_4 (List.Mem.tail _ (List.Mem.head _)) ?_
  have o1 := Ho1
  have o2 := Ho2
  refine am_iaload (v := (w.1 101 0 x1.toNat)) dX12_isThere_5 (by decide) rfl o1 o2 rfl ?_
  refine am_iload_n dX12_isThere_6 (List.Mem.tail _ (List.Mem.tail _ (List.Mem.head _))) ?_
  refine am_icmpgt (tgt := 14) dX12_isThere_7 (by decide) (fun c3 => ?_) (fun c3 => ?_)
  · refine am_iconst dX12_isThere_14 (by unfold am_rg; omega) ?_
    rw [if_neg (by omega)] at h
    exact am_ret (r := some (.inl 0)) dX12_isThere_15 (Or.inr (Or.inl ⟨rfl, (Or.inl rfl)⟩)) rfl h
  · refine am_iconst dX12_isThere_10 (by unfold am_rg; omega) ?_
    refine am_goto (tgt := 15) dX12_isThere_11 (by decide) ?_
    rw [if_pos (by omega)] at h
    exact am_ret (r := some (.inl 1)) dX12_isThere_15 (Or.inr (Or.inl ⟨rfl, (Or.inr rfl)⟩)) rfl h
-- MourningHouseModel.isSpouse(IIII)Z
theorem dX12_isSpouse_0 : decode mX12_isSpouse.2.1 0 = .ok (.iconst 0, 1) := by decide +kernel
theorem dX12_isSpouse_1 : decode mX12_isSpouse.2.1 1 = .ok (.istore 5, 2) := by decide +kernel
theorem dX12_isSpouse_3 : decode mX12_isSpouse.2.1 3 = .ok (.iload 5, 2) := by decide +kernel
theorem dX12_isSpouse_5 : decode mX12_isSpouse.2.1 5 = .ok (.aload_n 0, 1) := by decide +kernel
theorem dX12_isSpouse_6 : decode mX12_isSpouse.2.1 6 = .ok (.getfield 456, 3) := by decide +kernel
theorem dX12_isSpouse_9 : decode mX12_isSpouse.2.1 9 = .ok (.if_icmp .ge 90, 3) := by decide +kernel
theorem dX12_isSpouse_12 : decode mX12_isSpouse.2.1 12 = .ok (.aload_n 0, 1) := by decide +kernel
theorem dX12_isSpouse_13 : decode mX12_isSpouse.2.1 13 = .ok (.getfield 173, 3) := by decide +kernel
theorem dX12_isSpouse_16 : decode mX12_isSpouse.2.1 16 = .ok (.iload 5, 2) := by decide +kernel
theorem dX12_isSpouse_18 : decode mX12_isSpouse.2.1 18 = .ok (.iaload, 1) := by decide +kernel
theorem dX12_isSpouse_19 : decode mX12_isSpouse.2.1 19 = .ok (.iload_n 1, 1) := by decide +kernel
theorem dX12_isSpouse_20 : decode mX12_isSpouse.2.1 20 = .ok (.if_icmp .ne 14, 3) := by decide +kernel
theorem dX12_isSpouse_23 : decode mX12_isSpouse.2.1 23 = .ok (.aload_n 0, 1) := by decide +kernel
theorem dX12_isSpouse_24 : decode mX12_isSpouse.2.1 24 = .ok (.getfield 176, 3) := by decide +kernel
theorem dX12_isSpouse_27 : decode mX12_isSpouse.2.1 27 = .ok (.iload 5, 2) := by decide +kernel
theorem dX12_isSpouse_29 : decode mX12_isSpouse.2.1 29 = .ok (.iaload, 1) := by decide +kernel
theorem dX12_isSpouse_30 : decode mX12_isSpouse.2.1 30 = .ok (.iload_n 2, 1) := by decide +kernel
theorem dX12_isSpouse_31 : decode mX12_isSpouse.2.1 31 = .ok (.if_icmp .eq 25, 3) := by decide +kernel
theorem dX12_isSpouse_34 : decode mX12_isSpouse.2.1 34 = .ok (.aload_n 0, 1) := by decide +kernel
theorem dX12_isSpouse_35 : decode mX12_isSpouse.2.1 35 = .ok (.getfield 173, 3) := by decide +kernel
theorem dX12_isSpouse_38 : decode mX12_isSpouse.2.1 38 = .ok (.iload 5, 2) := by decide +kernel
theorem dX12_isSpouse_40 : decode mX12_isSpouse.2.1 40 = .ok (.iaload, 1) := by decide +kernel
theorem dX12_isSpouse_41 : decode mX12_isSpouse.2.1 41 = .ok (.iload_n 2, 1) := by decide +kernel
theorem dX12_isSpouse_42 : decode mX12_isSpouse.2.1 42 = .ok (.if_icmp .ne 18, 3) := by decide +kernel
theorem dX12_isSpouse_45 : decode mX12_isSpouse.2.1 45 = .ok (.aload_n 0, 1) := by decide +kernel
theorem dX12_isSpouse_46 : decode mX12_isSpouse.2.1 46 = .ok (.getfield 176, 3) := by decide +kernel
theorem dX12_isSpouse_49 : decode mX12_isSpouse.2.1 49 = .ok (.iload 5, 2) := by decide +kernel
theorem dX12_isSpouse_51 : decode mX12_isSpouse.2.1 51 = .ok (.iaload, 1) := by decide +kernel
theorem dX12_isSpouse_52 : decode mX12_isSpouse.2.1 52 = .ok (.iload_n 1, 1) := by decide +kernel
theorem dX12_isSpouse_53 : decode mX12_isSpouse.2.1 53 = .ok (.if_icmp .ne 7, 3) := by decide +kernel
theorem dX12_isSpouse_56 : decode mX12_isSpouse.2.1 56 = .ok (.iconst 1, 1) := by decide +kernel
theorem dX12_isSpouse_57 : decode mX12_isSpouse.2.1 57 = .ok (.goto 4, 3) := by decide +kernel
theorem dX12_isSpouse_60 : decode mX12_isSpouse.2.1 60 = .ok (.iconst 0, 1) := by decide +kernel
theorem dX12_isSpouse_61 : decode mX12_isSpouse.2.1 61 = .ok (.istore 6, 2) := by decide +kernel
theorem dX12_isSpouse_63 : decode mX12_isSpouse.2.1 63 = .ok (.iload 6, 2) := by decide +kernel
theorem dX12_isSpouse_65 : decode mX12_isSpouse.2.1 65 = .ok (.ifCond .eq 28, 3) := by decide +kernel
theorem dX12_isSpouse_68 : decode mX12_isSpouse.2.1 68 = .ok (.aload_n 0, 1) := by decide +kernel
theorem dX12_isSpouse_69 : decode mX12_isSpouse.2.1 69 = .ok (.getfield 179, 3) := by decide +kernel
theorem dX12_isSpouse_72 : decode mX12_isSpouse.2.1 72 = .ok (.iload 5, 2) := by decide +kernel
theorem dX12_isSpouse_74 : decode mX12_isSpouse.2.1 74 = .ok (.iaload, 1) := by decide +kernel
theorem dX12_isSpouse_75 : decode mX12_isSpouse.2.1 75 = .ok (.iload_n 3, 1) := by decide +kernel
theorem dX12_isSpouse_76 : decode mX12_isSpouse.2.1 76 = .ok (.if_icmp .gt 17, 3) := by decide +kernel
theorem dX12_isSpouse_79 : decode mX12_isSpouse.2.1 79 = .ok (.aload_n 0, 1) := by decide +kernel
theorem dX12_isSpouse_80 : decode mX12_isSpouse.2.1 80 = .ok (.getfield 182, 3) := by decide +kernel
theorem dX12_isSpouse_83 : decode mX12_isSpouse.2.1 83 = .ok (.iload 5, 2) := by decide +kernel
theorem dX12_isSpouse_85 : decode mX12_isSpouse.2.1 85 = .ok (.iaload, 1) := by decide +kernel
theorem dX12_isSpouse_86 : decode mX12_isSpouse.2.1 86 = .ok (.iload 4, 2) := by decide +kernel
theorem dX12_isSpouse_88 : decode mX12_isSpouse.2.1 88 = .ok (.if_icmp .gt 5, 3) := by decide +kernel
theorem dX12_isSpouse_91 : decode mX12_isSpouse.2.1 91 = .ok (.iconst 1, 1) := by decide +kernel
theorem dX12_isSpouse_92 : decode mX12_isSpouse.2.1 92 = .ok (.ireturn, 1) := by decide +kernel
theorem dX12_isSpouse_93 : decode mX12_isSpouse.2.1 93 = .ok (.iinc 5 1, 3) := by decide +kernel
theorem dX12_isSpouse_96 : decode mX12_isSpouse.2.1 96 = .ok (.goto (-93), 3) := by decide +kernel
theorem dX12_isSpouse_99 : decode mX12_isSpouse.2.1 99 = .ok (.iconst 0, 1) := by decide +kernel
theorem dX12_isSpouse_100 : decode mX12_isSpouse.2.1 100 = .ok (.ireturn, 1) := by decide +kernel
theorem bX12_isSpouse_0 {SC : Nat → Nat} {X : mh_X} {d : Nat} {Q : Option am_V → am_W → Prop} {bc bs : Nat} {w : am_W} {x1 : Int} {x2 : Int} {x3 : Int} {x4 : Int}
    (h : am_A (mh_G X) SC (d + 1) mX12_isSpouse Q 3 [(0, .inr (.inr (some (9, 0)))), (1, .inl x1), (2, .inl x2), (3, .inl x3), (4, .inl x4), (5, .inl 0)] [] w bc bs) :
    am_A (mh_G X) SC (d + 1) mX12_isSpouse Q 0 [(0, .inr (.inr (some (9, 0)))), (1, .inl x1), (2, .inl x2), (3, .inl x3), (4, .inl x4)] [] w bc bs := by
  refine am_iconst dX12_isSpouse_0 (by unfold am_rg; omega) ?_
  refine am_istore (ls' := [(5, .inl 0), (0, .inr (.inr (some (9, 0)))), (1, .inl x1), (2, .inl x2), (3, .inl x3), (4, .inl x4)]) dX12_isSpouse_1 (by decide) rfl ?_
  exact am_sub [1, 2, 3, 4, 5, 0] rfl h
theorem bX12_isSpouse_3 {SC : Nat → Nat} {X : mh_X} {d : Nat} {Q : Option am_V → am_W → Prop} {bc bs : Nat} {w : am_W} {x1 : Int} {x2 : Int} {x3 : Int} {x4 : Int} {x5 : Int}
    (h : (((w.1 9 0 47) ≤ x5 → Q (some (.inl 0)) w) ∧ (¬ (w.1 9 0 47) ≤ x5 → (0 ≤ x5 ∧ (x5 < 40 ∧ ((¬ (w.1 104 0 x5.toNat) = x1 → am_A (mh_G X) SC (d + 1) mX12_isSpouse Q 34 [(0, .inr (.inr (some (9, 0)))), (1, .inl x1), (2, .inl x2), (3, .inl x3), (4, .inl x4), (5, .inl x5)] [] w bc bs) ∧ ((w.1 104 0 x5.toNat) = x1 → (((w.1 105 0 x5.toNat) = x2 → am_A (mh_G X) SC (d + 1) mX12_isSpouse Q 56 [(0, .inr (.inr (some (9, 0)))), (1, .inl x1), (2, .inl x2), (3, .inl x3), (4, .inl x4), (5, .inl x5)] [] w bc bs) ∧ (¬ (w.1 105 0 x5.toNat) = x2 → am_A (mh_G X) SC (d + 1) mX12_isSpouse Q 34 [(0, .inr (.inr (some (9, 0)))), (1, .inl x1), (2, .inl x2), (3, .inl x3), (4, .inl x4), (5, .inl x5)] [] w bc bs))))))))) :
    am_A (mh_G X) SC (d + 1) mX12_isSpouse Q 3 [(0, .inr (.inr (some (9, 0)))), (1, .inl x1), (2, .inl x2), (3, .inl x3), (4, .inl x4), (5, .inl x5)] [] w bc bs := by
  refine am_iload dX12_isSpouse_3 (List.Mem.tail _ (List.Mem.tail _ (List.Mem.tail _ (List.Mem.tail _ (List.Mem.tail _ (List.Mem.head _)))))) ?_
  refine am_aload_n dX12_isSpouse_5 (List.Mem.head _) ?_
  refine am_getf (f := 47) (v := .inl (w.1 9 0 47)) dX12_isSpouse_6 hc_10 (by decide) wd_1596 (by decide) rfl rfl ?_
  refine am_icmpge (tgt := 99) dX12_isSpouse_9 (by decide) (fun c1 => ?_) (fun c1 => ?_)
  · replace h := h.1 c1
    refine am_iconst dX12_isSpouse_99 (by unfold am_rg; omega) ?_
    exact am_ret (r := some (.inl 0)) dX12_isSpouse_100 (Or.inr (Or.inl ⟨rfl, (Or.inl rfl)⟩)) rfl h
  · replace h := h.2 c1
    refine am_aload_n dX12_isSpouse_12 (List.Mem.head _) ?_
    refine am_getf (f := 43) (v := .inr (.inr (some (104, 0)))) dX12_isSpouse_13 hc_10 (by decide) wd_1592 (by decide) rfl rfl ?_
    refine am_iload dX12_isSpouse_16 (List.Mem.tail _ (List.Mem.tail _ (List.Mem.tail _ (List.Mem.tail _ (List.Mem.tail _ (List.Mem.head _)))))) ?_
    have o2 := h.1
    replace h := h.2
    have o3 := h.1
    replace h := h.2
    refine am_iaload (v := (w.1 104 0 x5.toNat)) dX12_isSpouse_18 (by decide) rfl o2 o3 rfl ?_
    refine am_iload_n dX12_isSpouse_19 (List.Mem.tail _ (List.Mem.head _)) ?_
    refine am_icmpne (tgt := 34) dX12_isSpouse_20 (by decide) (fun c4 => ?_) (fun c4 => ?_)
    · replace h := h.1 c4
      exact h
    · replace h := h.2 c4
      refine am_aload_n dX12_isSpouse_23 (List.Mem.head _) ?_
      refine am_getf (f := 44) (v := .inr (.inr (some (105, 0)))) dX12_isSpouse_24 hc_10 (by decide) wd_1593 (by decide) rfl rfl ?_
      refine am_iload dX12_isSpouse_27 (List.Mem.tail _ (List.Mem.tail _ (List.Mem.tail _ (List.Mem.tail _ (List.Mem.tail _ (List.Mem.head _)))))) ?_
      refine am_iaload (v := (w.1 105 0 x5.toNat)) dX12_isSpouse_29 (by decide) rfl o2 o3 rfl ?_
      refine am_iload_n dX12_isSpouse_30 (List.Mem.tail _ (List.Mem.tail _ (List.Mem.head _))) ?_
      refine am_icmpeq (tgt := 56) dX12_isSpouse_31 (by decide) (fun c5 => ?_) (fun c5 => ?_)
      · replace h := h.1 c5
        exact h
      · replace h := h.2 c5
        exact h
theorem bX12_isSpouse_34 {SC : Nat → Nat} {X : mh_X} {d : Nat} {Q : Option am_V → am_W → Prop} {bc bs : Nat} {w : am_W} {x1 : Int} {x2 : Int} {x3 : Int} {x4 : Int} {x5 : Int}
    (h : (0 ≤ x5 ∧ (x5 < 40 ∧ ((¬ (w.1 104 0 x5.toNat) = x2 → am_A (mh_G X) SC (d + 1) mX12_isSpouse Q 60 [(0, .inr (.inr (some (9, 0)))), (1, .inl x1), (2, .inl x2), (3, .inl x3), (4, .inl x4), (5, .inl x5)] [] w bc bs) ∧ ((w.1 104 0 x5.toNat) = x2 → ((¬ (w.1 105 0 x5.toNat) = x1 → am_A (mh_G X) SC (d + 1) mX12_isSpouse Q 60 [(0, .inr (.inr (some (9, 0)))), (1, .inl x1), (2, .inl x2), (3, .inl x3), (4, .inl x4), (5, .inl x5)] [] w bc bs) ∧ ((w.1 105 0 x5.toNat) = x1 → am_A (mh_G X) SC (d + 1) mX12_isSpouse Q 56 [(0, .inr (.inr (some (9, 0)))), (1, .inl x1), (2, .inl x2), (3, .inl x3), (4, .inl x4), (5, .inl x5)] [] w bc bs))))))) :
    am_A (mh_G X) SC (d + 1) mX12_isSpouse Q 34 [(0, .inr (.inr (some (9, 0)))), (1, .inl x1), (2, .inl x2), (3, .inl x3), (4, .inl x4), (5, .inl x5)] [] w bc bs := by
  refine am_aload_n dX12_isSpouse_34 (List.Mem.head _) ?_
  refine am_getf (f := 43) (v := .inr (.inr (some (104, 0)))) dX12_isSpouse_35 hc_10 (by decide) wd_1592 (by decide) rfl rfl ?_
  refine am_iload dX12_isSpouse_38 (List.Mem.tail _ (List.Mem.tail _ (List.Mem.tail _ (List.Mem.tail _ (List.Mem.tail _ (List.Mem.head _)))))) ?_
  have o1 := h.1
  replace h := h.2
  have o2 := h.1
  replace h := h.2
  refine am_iaload (v := (w.1 104 0 x5.toNat)) dX12_isSpouse_40 (by decide) rfl o1 o2 rfl ?_
  refine am_iload_n dX12_isSpouse_41 (List.Mem.tail _ (List.Mem.tail _ (List.Mem.head _))) ?_
  refine am_icmpne (tgt := 60) dX12_isSpouse_42 (by decide) (fun c3 => ?_) (fun c3 => ?_)
  · replace h := h.1 c3
    exact h
  · replace h := h.2 c3
    refine am_aload_n dX12_isSpouse_45 (List.Mem.head _) ?_
    refine am_getf (f := 44) (v := .inr (.inr (some (105, 0)))) dX12_isSpouse_46 hc_10 (by decide) wd_1593 (by decide) rfl rfl ?_
    refine am_iload dX12_isSpouse_49 (List.Mem.tail _ (List.Mem.tail _ (List.Mem.tail _ (List.Mem.tail _ (List.Mem.tail _ (List.Mem.head _)))))) ?_
    refine am_iaload (v := (w.1 105 0 x5.toNat)) dX12_isSpouse_51 (by decide) rfl o1 o2 rfl ?_
    refine am_iload_n dX12_isSpouse_52 (List.Mem.tail _ (List.Mem.head _)) ?_
    refine am_icmpne (tgt := 60) dX12_isSpouse_53 (by decide) (fun c4 => ?_) (fun c4 => ?_)
    · replace h := h.1 c4
      exact h
    · replace h := h.2 c4
      exact h
theorem bX12_isSpouse_56 {SC : Nat → Nat} {X : mh_X} {d : Nat} {Q : Option am_V → am_W → Prop} {bc bs : Nat} {w : am_W} {x1 : Int} {x2 : Int} {x3 : Int} {x4 : Int} {x5 : Int}
    (h : am_A (mh_G X) SC (d + 1) mX12_isSpouse Q 61 [(0, .inr (.inr (some (9, 0)))), (1, .inl x1), (2, .inl x2), (3, .inl x3), (4, .inl x4), (5, .inl x5)] [.inl 1] w bc bs) :
    am_A (mh_G X) SC (d + 1) mX12_isSpouse Q 56 [(0, .inr (.inr (some (9, 0)))), (1, .inl x1), (2, .inl x2), (3, .inl x3), (4, .inl x4), (5, .inl x5)] [] w bc bs := by
  refine am_iconst dX12_isSpouse_56 (by unfold am_rg; omega) ?_
  refine am_goto (tgt := 61) dX12_isSpouse_57 (by decide) ?_
  exact h
theorem bX12_isSpouse_60 {SC : Nat → Nat} {X : mh_X} {d : Nat} {Q : Option am_V → am_W → Prop} {bc bs : Nat} {w : am_W} {x1 : Int} {x2 : Int} {x3 : Int} {x4 : Int} {x5 : Int}
    (h : am_A (mh_G X) SC (d + 1) mX12_isSpouse Q 61 [(0, .inr (.inr (some (9, 0)))), (1, .inl x1), (2, .inl x2), (3, .inl x3), (4, .inl x4), (5, .inl x5)] [.inl 0] w bc bs) :
    am_A (mh_G X) SC (d + 1) mX12_isSpouse Q 60 [(0, .inr (.inr (some (9, 0)))), (1, .inl x1), (2, .inl x2), (3, .inl x3), (4, .inl x4), (5, .inl x5)] [] w bc bs := by
  refine am_iconst dX12_isSpouse_60 (by unfold am_rg; omega) ?_
  exact h
theorem bX12_isSpouse_61 {SC : Nat → Nat} {X : mh_X} {d : Nat} {Q : Option am_V → am_W → Prop} {bc bs : Nat} {w : am_W} {x1 : Int} {x2 : Int} {x3 : Int} {x4 : Int} {x5 : Int} {xs0 : Int}
    (h : ((xs0 = 0 → am_A (mh_G X) SC (d + 1) mX12_isSpouse Q 93 [(0, .inr (.inr (some (9, 0)))), (1, .inl x1), (2, .inl x2), (3, .inl x3), (4, .inl x4), (5, .inl x5)] [] w bc bs) ∧ (¬ xs0 = 0 → (0 ≤ x5 ∧ (x5 < 40 ∧ ((x3 < (w.1 106 0 x5.toNat) → am_A (mh_G X) SC (d + 1) mX12_isSpouse Q 93 [(0, .inr (.inr (some (9, 0)))), (1, .inl x1), (2, .inl x2), (3, .inl x3), (4, .inl x4), (5, .inl x5)] [] w bc bs) ∧ (¬ x3 < (w.1 106 0 x5.toNat) → ((x4 < (w.1 107 0 x5.toNat) → am_A (mh_G X) SC (d + 1) mX12_isSpouse Q 93 [(0, .inr (.inr (some (9, 0)))), (1, .inl x1), (2, .inl x2), (3, .inl x3), (4, .inl x4), (5, .inl x5)] [] w bc bs) ∧ (¬ x4 < (w.1 107 0 x5.toNat) → Q (some (.inl 1)) w))))))))) :
    am_A (mh_G X) SC (d + 1) mX12_isSpouse Q 61 [(0, .inr (.inr (some (9, 0)))), (1, .inl x1), (2, .inl x2), (3, .inl x3), (4, .inl x4), (5, .inl x5)] [.inl xs0] w bc bs := by
  refine am_istore (ls' := [(6, .inl xs0), (0, .inr (.inr (some (9, 0)))), (1, .inl x1), (2, .inl x2), (3, .inl x3), (4, .inl x4), (5, .inl x5)]) dX12_isSpouse_61 (by decide) rfl ?_
  refine am_iload dX12_isSpouse_63 (List.Mem.head _) ?_
  refine am_ifeq (tgt := 93) dX12_isSpouse_65 (by decide) (fun c1 => ?_) (fun c1 => ?_)
  · replace h := h.1 c1
    exact am_sub [1, 2, 3, 4, 5, 6] rfl h
  · replace h := h.2 c1
    refine am_aload_n dX12_isSpouse_68 (List.Mem.tail _ (List.Mem.head _)) ?_
    refine am_getf (f := 45) (v := .inr (.inr (some (106, 0)))) dX12_isSpouse_69 hc_10 (by decide) wd_1594 (by decide) rfl rfl ?_
    refine am_iload dX12_isSpouse_72 (List.Mem.tail _ (List.Mem.tail _ (List.Mem.tail _ (List.Mem.tail _ (List.Mem.tail _ (List.Mem.tail _ (List.Mem.head _))))))) ?_
    have o2 := h.1
    replace h := h.2
    have o3 := h.1
    replace h := h.2
    refine am_iaload (v := (w.1 106 0 x5.toNat)) dX12_isSpouse_74 (by decide) rfl o2 o3 rfl ?_
    refine am_iload_n dX12_isSpouse_75 (List.Mem.tail _ (List.Mem.tail _ (List.Mem.tail _ (List.Mem.tail _ (List.Mem.head _))))) ?_
    refine am_icmpgt (tgt := 93) dX12_isSpouse_76 (by decide) (fun c4 => ?_) (fun c4 => ?_)
    · replace h := h.1 c4
      exact am_sub [1, 2, 3, 4, 5, 6] rfl h
    · replace h := h.2 c4
      refine am_aload_n dX12_isSpouse_79 (List.Mem.tail _ (List.Mem.head _)) ?_
      refine am_getf (f := 46) (v := .inr (.inr (some (107, 0)))) dX12_isSpouse_80 hc_10 (by decide) wd_1595 (by decide) rfl rfl ?_
      refine am_iload dX12_isSpouse_83 (List.Mem.tail _ (List.Mem.tail _ (List.Mem.tail _ (List.Mem.tail _ (List.Mem.tail _ (List.Mem.tail _ (List.Mem.head _))))))) ?_
      refine am_iaload (v := (w.1 107 0 x5.toNat)) dX12_isSpouse_85 (by decide) rfl o2 o3 rfl ?_
      refine am_iload dX12_isSpouse_86 (List.Mem.tail _ (List.Mem.tail _ (List.Mem.tail _ (List.Mem.tail _ (List.Mem.tail _ (List.Mem.head _)))))) ?_
      refine am_icmpgt (tgt := 93) dX12_isSpouse_88 (by decide) (fun c5 => ?_) (fun c5 => ?_)
      · replace h := h.1 c5
        exact am_sub [1, 2, 3, 4, 5, 6] rfl h
      · replace h := h.2 c5
        refine am_iconst dX12_isSpouse_91 (by unfold am_rg; omega) ?_
        exact am_ret (r := some (.inl 1)) dX12_isSpouse_92 (Or.inr (Or.inl ⟨rfl, (Or.inr rfl)⟩)) rfl h
theorem bX12_isSpouse_93 {SC : Nat → Nat} {X : mh_X} {d : Nat} {Q : Option am_V → am_W → Prop} {bc bs : Nat} {w : am_W} {x1 : Int} {x2 : Int} {x3 : Int} {x4 : Int} {x5 : Int}
    (h : am_A (mh_G X) SC (d + 1) mX12_isSpouse Q 3 [(0, .inr (.inr (some (9, 0)))), (1, .inl x1), (2, .inl x2), (3, .inl x3), (4, .inl x4), (5, .inl (am_w (x5 + 1)))] [] w bc bs) :
    am_A (mh_G X) SC (d + 1) mX12_isSpouse Q 93 [(0, .inr (.inr (some (9, 0)))), (1, .inl x1), (2, .inl x2), (3, .inl x3), (4, .inl x4), (5, .inl x5)] [] w bc bs := by
  refine am_iinc (ls' := [(5, .inl (am_w (x5 + 1))), (0, .inr (.inr (some (9, 0)))), (1, .inl x1), (2, .inl x2), (3, .inl x3), (4, .inl x4)]) dX12_isSpouse_93 (List.Mem.tail _ (List.Mem.tail _ (List.Mem.tail _ (List.Mem.tail _ (List.Mem.tail _ (List.Mem.head _)))))) (by decide) rfl ?_
  refine am_goto (tgt := 3) dX12_isSpouse_96 (by decide) ?_
  exact am_sub [1, 2, 3, 4, 5, 0] rfl h
-- MourningHouseModel.isParent(II)Z
theorem dX12_isParent_0 : decode mX12_isParent.2.1 0 = .ok (.aload_n 0, 1) := by decide +kernel
theorem dX12_isParent_1 : decode mX12_isParent.2.1 1 = .ok (.getfield 157, 3) := by decide +kernel
theorem dX12_isParent_4 : decode mX12_isParent.2.1 4 = .ok (.iload_n 2, 1) := by decide +kernel
theorem dX12_isParent_5 : decode mX12_isParent.2.1 5 = .ok (.iaload, 1) := by decide +kernel
theorem dX12_isParent_6 : decode mX12_isParent.2.1 6 = .ok (.iload_n 1, 1) := by decide +kernel
theorem dX12_isParent_7 : decode mX12_isParent.2.1 7 = .ok (.if_icmp .eq 13, 3) := by decide +kernel
theorem dX12_isParent_10 : decode mX12_isParent.2.1 10 = .ok (.aload_n 0, 1) := by decide +kernel
theorem dX12_isParent_11 : decode mX12_isParent.2.1 11 = .ok (.getfield 159, 3) := by decide +kernel
theorem dX12_isParent_14 : decode mX12_isParent.2.1 14 = .ok (.iload_n 2, 1) := by decide +kernel
theorem dX12_isParent_15 : decode mX12_isParent.2.1 15 = .ok (.iaload, 1) := by decide +kernel
theorem dX12_isParent_16 : decode mX12_isParent.2.1 16 = .ok (.iload_n 1, 1) := by decide +kernel
theorem dX12_isParent_17 : decode mX12_isParent.2.1 17 = .ok (.if_icmp .ne 7, 3) := by decide +kernel
theorem dX12_isParent_20 : decode mX12_isParent.2.1 20 = .ok (.iconst 1, 1) := by decide +kernel
theorem dX12_isParent_21 : decode mX12_isParent.2.1 21 = .ok (.goto 4, 3) := by decide +kernel
theorem dX12_isParent_24 : decode mX12_isParent.2.1 24 = .ok (.iconst 0, 1) := by decide +kernel
theorem dX12_isParent_25 : decode mX12_isParent.2.1 25 = .ok (.ireturn, 1) := by decide +kernel
theorem sX12_isParent {SC : Nat → Nat} {X : mh_X} {d kc ks : Nat} {Q : Option am_V → am_W → Prop} {w : am_W} {x1 : Int} {x2 : Int} (Ho1 : 0 ≤ x2) (Ho2 : x2 < 40)
    (h : Q (some (.inl (if ((w.1 98 0 x2.toNat) = x1 ∨ ((w.1 99 0 x2.toNat) = x1)) then 1 else 0))) w) : am_M (mh_G X) SC (d + 1) kc ks mX12_isParent [.inr (.inr (some (9, 0))), .inl x1, .inl x2] w Q := by
  refine am_M_of (by decide) (Nat.le_of_ble_eq_true rfl) ?_
  show am_A (mh_G X) SC (d + 1) mX12_isParent Q 0 [(0, .inr (.inr (some (9, 0)))), (1, .inl x1), (2, .inl x2)] [] w kc ks
  refine am_aload_n dX12_isParent_0 (List.Mem.head _) ?_
  refine am_getf (f := 36) (v := .inr (.inr (some (98, 0)))) dX12_isParent_1 hc_10 (by decide) wd_1585 (by decide) rfl rfl ?_
  refine am_iload_n dX12_isParent_4 (List.Mem.tail _ (List.Mem.tail _ (List.Mem.head _))) ?_
  have o1 := Ho1
  have o2 := Ho2
  refine am_iaload (v := (w.1 98 0 x2.toNat)) dX12_isParent_5 (by decide) rfl o1 o2 rfl ?_
  refine am_iload_n dX12_isParent_6 (List.Mem.tail _ (List.Mem.head _)) ?_
  refine am_icmpeq (tgt := 20) dX12_isParent_7 (by decide) (fun c3 => ?_) (fun c3 => ?_)
  · refine am_iconst dX12_isParent_20 (by unfold am_rg; omega) ?_
    refine am_goto (tgt := 25) dX12_isParent_21 (by decide) ?_
    rw [if_pos (by omega)] at h
    exact am_ret (r := some (.inl 1)) dX12_isParent_25 (Or.inr (Or.inl ⟨rfl, (Or.inr rfl)⟩)) rfl h
  · refine am_aload_n dX12_isParent_10 (List.Mem.head _) ?_
    refine am_getf (f := 37) (v := .inr (.inr (some (99, 0)))) dX12_isParent_11 hc_10 (by decide) wd_1586 (by decide) rfl rfl ?_
    refine am_iload_n dX12_isParent_14 (List.Mem.tail _ (List.Mem.tail _ (List.Mem.head _))) ?_
    refine am_iaload (v := (w.1 99 0 x2.toNat)) dX12_isParent_15 (by decide) rfl o1 o2 rfl ?_
    refine am_iload_n dX12_isParent_16 (List.Mem.tail _ (List.Mem.head _)) ?_
    refine am_icmpne (tgt := 24) dX12_isParent_17 (by decide) (fun c4 => ?_) (fun c4 => ?_)
    · refine am_iconst dX12_isParent_24 (by unfold am_rg; omega) ?_
      rw [if_neg (by omega)] at h
      exact am_ret (r := some (.inl 0)) dX12_isParent_25 (Or.inr (Or.inl ⟨rfl, (Or.inl rfl)⟩)) rfl h
    · refine am_iconst dX12_isParent_20 (by unfold am_rg; omega) ?_
      refine am_goto (tgt := 25) dX12_isParent_21 (by decide) ?_
      rw [if_pos (by omega)] at h
      exact am_ret (r := some (.inl 1)) dX12_isParent_25 (Or.inr (Or.inl ⟨rfl, (Or.inr rfl)⟩)) rfl h
-- MourningHouseModel.isSibling(II)Z
theorem dX12_isSibling_0 : decode mX12_isSibling.2.1 0 = .ok (.iload_n 1, 1) := by decide +kernel
theorem dX12_isSibling_1 : decode mX12_isSibling.2.1 1 = .ok (.iload_n 2, 1) := by decide +kernel
theorem dX12_isSibling_2 : decode mX12_isSibling.2.1 2 = .ok (.if_icmp .eq 57, 3) := by decide +kernel
theorem dX12_isSibling_5 : decode mX12_isSibling.2.1 5 = .ok (.aload_n 0, 1) := by decide +kernel
theorem dX12_isSibling_6 : decode mX12_isSibling.2.1 6 = .ok (.getfield 157, 3) := by decide +kernel
theorem dX12_isSibling_9 : decode mX12_isSibling.2.1 9 = .ok (.iload_n 1, 1) := by decide +kernel
theorem dX12_isSibling_10 : decode mX12_isSibling.2.1 10 = .ok (.iaload, 1) := by decide +kernel
theorem dX12_isSibling_11 : decode mX12_isSibling.2.1 11 = .ok (.iconst (-1), 1) := by decide +kernel
theorem dX12_isSibling_12 : decode mX12_isSibling.2.1 12 = .ok (.if_icmp .eq 18, 3) := by decide +kernel
theorem dX12_isSibling_15 : decode mX12_isSibling.2.1 15 = .ok (.aload_n 0, 1) := by decide +kernel
theorem dX12_isSibling_16 : decode mX12_isSibling.2.1 16 = .ok (.getfield 157, 3) := by decide +kernel
theorem dX12_isSibling_19 : decode mX12_isSibling.2.1 19 = .ok (.iload_n 1, 1) := by decide +kernel
theorem dX12_isSibling_20 : decode mX12_isSibling.2.1 20 = .ok (.iaload, 1) := by decide +kernel
theorem dX12_isSibling_21 : decode mX12_isSibling.2.1 21 = .ok (.aload_n 0, 1) := by decide +kernel
theorem dX12_isSibling_22 : decode mX12_isSibling.2.1 22 = .ok (.getfield 157, 3) := by decide +kernel
theorem dX12_isSibling_25 : decode mX12_isSibling.2.1 25 = .ok (.iload_n 2, 1) := by decide +kernel
theorem dX12_isSibling_26 : decode mX12_isSibling.2.1 26 = .ok (.iaload, 1) := by decide +kernel
theorem dX12_isSibling_27 : decode mX12_isSibling.2.1 27 = .ok (.if_icmp .eq 28, 3) := by decide +kernel
theorem dX12_isSibling_30 : decode mX12_isSibling.2.1 30 = .ok (.aload_n 0, 1) := by decide +kernel
theorem dX12_isSibling_31 : decode mX12_isSibling.2.1 31 = .ok (.getfield 159, 3) := by decide +kernel
theorem dX12_isSibling_34 : decode mX12_isSibling.2.1 34 = .ok (.iload_n 1, 1) := by decide +kernel
theorem dX12_isSibling_35 : decode mX12_isSibling.2.1 35 = .ok (.iaload, 1) := by decide +kernel
theorem dX12_isSibling_36 : decode mX12_isSibling.2.1 36 = .ok (.iconst (-1), 1) := by decide +kernel
theorem dX12_isSibling_37 : decode mX12_isSibling.2.1 37 = .ok (.if_icmp .eq 22, 3) := by decide +kernel
theorem dX12_isSibling_40 : decode mX12_isSibling.2.1 40 = .ok (.aload_n 0, 1) := by decide +kernel
theorem dX12_isSibling_41 : decode mX12_isSibling.2.1 41 = .ok (.getfield 159, 3) := by decide +kernel
theorem dX12_isSibling_44 : decode mX12_isSibling.2.1 44 = .ok (.iload_n 1, 1) := by decide +kernel
theorem dX12_isSibling_45 : decode mX12_isSibling.2.1 45 = .ok (.iaload, 1) := by decide +kernel
theorem dX12_isSibling_46 : decode mX12_isSibling.2.1 46 = .ok (.aload_n 0, 1) := by decide +kernel
theorem dX12_isSibling_47 : decode mX12_isSibling.2.1 47 = .ok (.getfield 159, 3) := by decide +kernel
theorem dX12_isSibling_50 : decode mX12_isSibling.2.1 50 = .ok (.iload_n 2, 1) := by decide +kernel
theorem dX12_isSibling_51 : decode mX12_isSibling.2.1 51 = .ok (.iaload, 1) := by decide +kernel
theorem dX12_isSibling_52 : decode mX12_isSibling.2.1 52 = .ok (.if_icmp .ne 7, 3) := by decide +kernel
theorem dX12_isSibling_55 : decode mX12_isSibling.2.1 55 = .ok (.iconst 1, 1) := by decide +kernel
theorem dX12_isSibling_56 : decode mX12_isSibling.2.1 56 = .ok (.goto 4, 3) := by decide +kernel
theorem dX12_isSibling_59 : decode mX12_isSibling.2.1 59 = .ok (.iconst 0, 1) := by decide +kernel
theorem dX12_isSibling_60 : decode mX12_isSibling.2.1 60 = .ok (.ireturn, 1) := by decide +kernel
theorem sX12_isSibling {SC : Nat → Nat} {X : mh_X} {d kc ks : Nat} {Q : Option am_V → am_W → Prop} {w : am_W} {x1 : Int} {x2 : Int} (Ho2 : ¬ x1 = x2 → 0 ≤ x1) (Ho3 : ¬ x1 = x2 → x1 < 40) (Ho6 : ¬ x1 = x2 → (w.1 98 0 x1.toNat) = (-1) → ¬ (w.1 99 0 x1.toNat) = (-1) → 0 ≤ x2) (Ho7 : ¬ x1 = x2 → (w.1 98 0 x1.toNat) = (-1) → ¬ (w.1 99 0 x1.toNat) = (-1) → x2 < 40) (Ho9 : ¬ x1 = x2 → ¬ (w.1 98 0 x1.toNat) = (-1) → 0 ≤ x2) (Ho10 : ¬ x1 = x2 → ¬ (w.1 98 0 x1.toNat) = (-1) → x2 < 40)
    (h : Q (some (.inl (if (¬ x1 = x2 ∧ (((w.1 98 0 x1.toNat) = (-1) ∧ (¬ (w.1 99 0 x1.toNat) = (-1) ∧ ((w.1 99 0 x1.toNat) = (w.1 99 0 x2.toNat)))) ∨ (¬ (w.1 98 0 x1.toNat) = (-1) ∧ ((w.1 98 0 x1.toNat) = (w.1 98 0 x2.toNat) ∨ (¬ (w.1 99 0 x1.toNat) = (-1) ∧ ((w.1 99 0 x1.toNat) = (w.1 99 0 x2.toNat))))))) then 1 else 0))) w) : am_M (mh_G X) SC (d + 1) kc ks mX12_isSibling [.inr (.inr (some (9, 0))), .inl x1, .inl x2] w Q := by
  refine am_M_of (by decide) (Nat.le_of_ble_eq_true rfl) ?_
  show am_A (mh_G X) SC (d + 1) mX12_isSibling Q 0 [(0, .inr (.inr (some (9, 0)))), (1, .inl x1), (2, .inl x2)] [] w kc ks
  refine am_iload_n dX12_isSibling_0 (List.Mem.tail _ (List.Mem.head _)) ?_
  refine am_iload_n dX12_isSibling_1 (List.Mem.tail _ (List.Mem.tail _ (List.Mem.head _))) ?_
  refine am_icmpeq (tgt := 59) dX12_isSibling_2 (by decide) (fun c1 => ?_) (fun c1 => ?_)
  · refine am_iconst dX12_isSibling_59 (by unfold am_rg; omega) ?_
    rw [if_neg (by omega)] at h
    exact am_ret (r := some (.inl 0)) dX12_isSibling_60 (Or.inr (Or.inl ⟨rfl, (Or.inl rfl)⟩)) rfl h
  · refine am_aload_n dX12_isSibling_5 (List.Mem.head _) ?_
    refine am_getf (f := 36) (v := .inr (.inr (some (98, 0)))) dX12_isSibling_6 hc_10 (by decide) wd_1585 (by decide) rfl rfl ?_
    refine am_iload_n dX12_isSibling_9 (List.Mem.tail _ (List.Mem.head _)) ?_
    have o2 := Ho2 c1
    have o3 := Ho3 c1
    refine am_iaload (v := (w.1 98 0 x1.toNat)) dX12_isSibling_10 (by decide) rfl o2 o3 rfl ?_
    refine am_iconst dX12_isSibling_11 (by unfold am_rg; omega) ?_
    refine am_icmpeq (tgt := 30) dX12_isSibling_12 (by decide) (fun c4 => ?_) (fun c4 => ?_)
    · refine am_aload_n dX12_isSibling_30 (List.Mem.head _) ?_
      refine am_getf (f := 37) (v := .inr (.inr (some (99, 0)))) dX12_isSibling_31 hc_10 (by decide) wd_1586 (by decide) rfl rfl ?_
      refine am_iload_n dX12_isSibling_34 (List.Mem.tail _ (List.Mem.head _)) ?_
      refine am_iaload (v := (w.1 99 0 x1.toNat)) dX12_isSibling_35 (by decide) rfl o2 o3 rfl ?_
      refine am_iconst dX12_isSibling_36 (by unfold am_rg; omega) ?_
      refine am_icmpeq (tgt := 59) dX12_isSibling_37 (by decide) (fun c5 => ?_) (fun c5 => ?_)
      · refine am_iconst dX12_isSibling_59 (by unfold am_rg; omega) ?_
        rw [if_neg (by omega)] at h
        exact am_ret (r := some (.inl 0)) dX12_isSibling_60 (Or.inr (Or.inl ⟨rfl, (Or.inl rfl)⟩)) rfl h
      · refine am_aload_n dX12_isSibling_40 (List.Mem.head _) ?_
        refine am_getf (f := 37) (v := .inr (.inr (some (99, 0)))) dX12_isSibling_41 hc_10 (by decide) wd_1586 (by decide) rfl rfl ?_
        refine am_iload_n dX12_isSibling_44 (List.Mem.tail _ (List.Mem.head _)) ?_
        refine am_iaload (v := (w.1 99 0 x1.toNat)) dX12_isSibling_45 (by decide) rfl o2 o3 rfl ?_
        refine am_aload_n dX12_isSibling_46 (List.Mem.head _) ?_
        refine am_getf (f := 37) (v := .inr (.inr (some (99, 0)))) dX12_isSibling_47 hc_10 (by decide) wd_1586 (by decide) rfl rfl ?_
        refine am_iload_n dX12_isSibling_50 (List.Mem.tail _ (List.Mem.tail _ (List.Mem.head _))) ?_
        have o6 := Ho6 c1 c4 c5
        have o7 := Ho7 c1 c4 c5
        refine am_iaload (v := (w.1 99 0 x2.toNat)) dX12_isSibling_51 (by decide) rfl o6 o7 rfl ?_
        refine am_icmpne (tgt := 59) dX12_isSibling_52 (by decide) (fun c8 => ?_) (fun c8 => ?_)
        · refine am_iconst dX12_isSibling_59 (by unfold am_rg; omega) ?_
          rw [if_neg (by omega)] at h
          exact am_ret (r := some (.inl 0)) dX12_isSibling_60 (Or.inr (Or.inl ⟨rfl, (Or.inl rfl)⟩)) rfl h
        · refine am_iconst dX12_isSibling_55 (by unfold am_rg; omega) ?_
          refine am_goto (tgt := 60) dX12_isSibling_56 (by decide) ?_
          rw [if_pos (by omega)] at h
          exact am_ret (r := some (.inl 1)) dX12_isSibling_60 (Or.inr (Or.inl ⟨rfl, (Or.inr rfl)⟩)) rfl h
    · refine am_aload_n dX12_isSibling_15 (List.Mem.head _) ?_
      refine am_getf (f := 36) (v := .inr (.inr (some (98, 0)))) dX12_isSibling_16 hc_10 (by decide) wd_1585 (by decide) rfl rfl ?_
      refine am_iload_n dX12_isSibling_19 (List.Mem.tail _ (List.Mem.head _)) ?_
      refine am_iaload (v := (w.1 98 0 x1.toNat)) dX12_isSibling_20 (by decide) rfl o2 o3 rfl ?_
      refine am_aload_n dX12_isSibling_21 (List.Mem.head _) ?_
      refine am_getf (f := 36) (v := .inr (.inr (some (98, 0)))) dX12_isSibling_22 hc_10 (by decide) wd_1585 (by decide) rfl rfl ?_
      refine am_iload_n dX12_isSibling_25 (List.Mem.tail _ (List.Mem.tail _ (List.Mem.head _))) ?_
      have o9 := Ho9 c1 c4
      have o10 := Ho10 c1 c4
      refine am_iaload (v := (w.1 98 0 x2.toNat)) dX12_isSibling_26 (by decide) rfl o9 o10 rfl ?_
      refine am_icmpeq (tgt := 55) dX12_isSibling_27 (by decide) (fun c11 => ?_) (fun c11 => ?_)
      · refine am_iconst dX12_isSibling_55 (by unfold am_rg; omega) ?_
        refine am_goto (tgt := 60) dX12_isSibling_56 (by decide) ?_
        rw [if_pos (by omega)] at h
        exact am_ret (r := some (.inl 1)) dX12_isSibling_60 (Or.inr (Or.inl ⟨rfl, (Or.inr rfl)⟩)) rfl h
      · refine am_aload_n dX12_isSibling_30 (List.Mem.head _) ?_
        refine am_getf (f := 37) (v := .inr (.inr (some (99, 0)))) dX12_isSibling_31 hc_10 (by decide) wd_1586 (by decide) rfl rfl ?_
        refine am_iload_n dX12_isSibling_34 (List.Mem.tail _ (List.Mem.head _)) ?_
        refine am_iaload (v := (w.1 99 0 x1.toNat)) dX12_isSibling_35 (by decide) rfl o2 o3 rfl ?_
        refine am_iconst dX12_isSibling_36 (by unfold am_rg; omega) ?_
        refine am_icmpeq (tgt := 59) dX12_isSibling_37 (by decide) (fun c12 => ?_) (fun c12 => ?_)
        · refine am_iconst dX12_isSibling_59 (by unfold am_rg; omega) ?_
          rw [if_neg (by omega)] at h
          exact am_ret (r := some (.inl 0)) dX12_isSibling_60 (Or.inr (Or.inl ⟨rfl, (Or.inl rfl)⟩)) rfl h
        · refine am_aload_n dX12_isSibling_40 (List.Mem.head _) ?_
          refine am_getf (f := 37) (v := .inr (.inr (some (99, 0)))) dX12_isSibling_41 hc_10 (by decide) wd_1586 (by decide) rfl rfl ?_
          refine am_iload_n dX12_isSibling_44 (List.Mem.tail _ (List.Mem.head _)) ?_
          refine am_iaload (v := (w.1 99 0 x1.toNat)) dX12_isSibling_45 (by decide) rfl o2 o3 rfl ?_
          refine am_aload_n dX12_isSibling_46 (List.Mem.head _) ?_
          refine am_getf (f := 37) (v := .inr (.inr (some (99, 0)))) dX12_isSibling_47 hc_10 (by decide) wd_1586 (by decide) rfl rfl ?_
          refine am_iload_n dX12_isSibling_50 (List.Mem.tail _ (List.Mem.tail _ (List.Mem.head _))) ?_
          refine am_iaload (v := (w.1 99 0 x2.toNat)) dX12_isSibling_51 (by decide) rfl o9 o10 rfl ?_
          refine am_icmpne (tgt := 59) dX12_isSibling_52 (by decide) (fun c13 => ?_) (fun c13 => ?_)
          · refine am_iconst dX12_isSibling_59 (by unfold am_rg; omega) ?_
            rw [if_neg (by omega)] at h
            exact am_ret (r := some (.inl 0)) dX12_isSibling_60 (Or.inr (Or.inl ⟨rfl, (Or.inl rfl)⟩)) rfl h
          · refine am_iconst dX12_isSibling_55 (by unfold am_rg; omega) ?_
            refine am_goto (tgt := 60) dX12_isSibling_56 (by decide) ?_
            rw [if_pos (by omega)] at h
            exact am_ret (r := some (.inl 1)) dX12_isSibling_60 (Or.inr (Or.inl ⟨rfl, (Or.inr rfl)⟩)) rfl h
-- MourningHouseModel.isMan(I)Z
theorem dX12_isMan_0 : decode mX12_isMan.2.1 0 = .ok (.iload_n 0, 1) := by decide +kernel
theorem dX12_isMan_1 : decode mX12_isMan.2.1 1 = .ok (.iconst 3, 1) := by decide +kernel
theorem dX12_isMan_2 : decode mX12_isMan.2.1 2 = .ok (.irem, 1) := by decide +kernel
theorem dX12_isMan_3 : decode mX12_isMan.2.1 3 = .ok (.iconst 1, 1) := by decide +kernel
theorem dX12_isMan_4 : decode mX12_isMan.2.1 4 = .ok (.if_icmp .ne 7, 3) := by decide +kernel
theorem dX12_isMan_7 : decode mX12_isMan.2.1 7 = .ok (.iconst 1, 1) := by decide +kernel
theorem dX12_isMan_8 : decode mX12_isMan.2.1 8 = .ok (.goto 4, 3) := by decide +kernel
theorem dX12_isMan_11 : decode mX12_isMan.2.1 11 = .ok (.iconst 0, 1) := by decide +kernel
theorem dX12_isMan_12 : decode mX12_isMan.2.1 12 = .ok (.ireturn, 1) := by decide +kernel
theorem sX12_isMan {SC : Nat → Nat} {X : mh_X} {d kc ks : Nat} {Q : Option am_V → am_W → Prop} {w : am_W} {x0 : Int}
    (h : Q (some (.inl (if ((am_w (Int.tmod x0 3)) = 1) then 1 else 0))) w) : am_M (mh_G X) SC (d + 1) kc ks mX12_isMan [.inl x0] w Q := by
  refine am_M_of (by decide) (Nat.le_of_ble_eq_true rfl) ?_
  show am_A (mh_G X) SC (d + 1) mX12_isMan Q 0 [(0, .inl x0)] [] w kc ks
  refine am_iload_n dX12_isMan_0 (List.Mem.head _) ?_
  refine am_iconst dX12_isMan_1 (by unfold am_rg; omega) ?_
  refine am_irem dX12_isMan_2 (by decide) ?_
  refine am_iconst dX12_isMan_3 (by unfold am_rg; omega) ?_
  refine am_icmpne (tgt := 11) dX12_isMan_4 (by decide) (fun c1 => ?_) (fun c1 => ?_)
  · refine am_iconst dX12_isMan_11 (by unfold am_rg; omega) ?_
    rw [if_neg (by omega)] at h
    exact am_ret (r := some (.inl 0)) dX12_isMan_12 (Or.inr (Or.inl ⟨rfl, (Or.inl rfl)⟩)) rfl h
  · refine am_iconst dX12_isMan_7 (by unfold am_rg; omega) ?_
    refine am_goto (tgt := 12) dX12_isMan_8 (by decide) ?_
    rw [if_pos (by omega)] at h
    exact am_ret (r := some (.inl 1)) dX12_isMan_12 (Or.inr (Or.inl ⟨rfl, (Or.inr rfl)⟩)) rfl h
-- MourningHouseModel.isKin(IIIII)Z
theorem dX12_isKin_0 : decode mX12_isKin.2.1 0 = .ok (.iload_n 1, 1) := by decide +kernel
theorem dX12_isKin_1 : decode mX12_isKin.2.1 1 = .ok (.iconst 3, 1) := by decide +kernel
theorem dX12_isKin_2 : decode mX12_isKin.2.1 2 = .ok (.irem, 1) := by decide +kernel
theorem dX12_isKin_3 : decode mX12_isKin.2.1 3 = .ok (.istore 6, 2) := by decide +kernel
theorem dX12_isKin_5 : decode mX12_isKin.2.1 5 = .ok (.iload 6, 2) := by decide +kernel
theorem dX12_isKin_7 : decode mX12_isKin.2.1 7 = .ok (.ifCond .eq 32, 3) := by decide +kernel
theorem dX12_isKin_10 : decode mX12_isKin.2.1 10 = .ok (.iload_n 1, 1) := by decide +kernel
theorem dX12_isKin_11 : decode mX12_isKin.2.1 11 = .ok (.invokestatic 462, 3) := by decide +kernel
theorem dX12_isKin_14 : decode mX12_isKin.2.1 14 = .ok (.ifCond .eq 16, 3) := by decide +kernel
theorem dX12_isKin_17 : decode mX12_isKin.2.1 17 = .ok (.aload_n 0, 1) := by decide +kernel
theorem dX12_isKin_18 : decode mX12_isKin.2.1 18 = .ok (.getfield 151, 3) := by decide +kernel
theorem dX12_isKin_21 : decode mX12_isKin.2.1 21 = .ok (.iload_n 2, 1) := by decide +kernel
theorem dX12_isKin_22 : decode mX12_isKin.2.1 22 = .ok (.iaload, 1) := by decide +kernel
theorem dX12_isKin_23 : decode mX12_isKin.2.1 23 = .ok (.iconst 1, 1) := by decide +kernel
theorem dX12_isKin_24 : decode mX12_isKin.2.1 24 = .ok (.if_icmp .ne 19, 3) := by decide +kernel
theorem dX12_isKin_27 : decode mX12_isKin.2.1 27 = .ok (.goto 12, 3) := by decide +kernel
theorem dX12_isKin_30 : decode mX12_isKin.2.1 30 = .ok (.aload_n 0, 1) := by decide +kernel
theorem dX12_isKin_31 : decode mX12_isKin.2.1 31 = .ok (.getfield 151, 3) := by decide +kernel
theorem dX12_isKin_34 : decode mX12_isKin.2.1 34 = .ok (.iload_n 2, 1) := by decide +kernel
theorem dX12_isKin_35 : decode mX12_isKin.2.1 35 = .ok (.iaload, 1) := by decide +kernel
theorem dX12_isKin_36 : decode mX12_isKin.2.1 36 = .ok (.ifCond .ne 7, 3) := by decide +kernel
theorem dX12_isKin_39 : decode mX12_isKin.2.1 39 = .ok (.iconst 1, 1) := by decide +kernel
theorem dX12_isKin_40 : decode mX12_isKin.2.1 40 = .ok (.goto 4, 3) := by decide +kernel
theorem dX12_isKin_43 : decode mX12_isKin.2.1 43 = .ok (.iconst 0, 1) := by decide +kernel
theorem dX12_isKin_44 : decode mX12_isKin.2.1 44 = .ok (.istore 7, 2) := by decide +kernel
theorem dX12_isKin_46 : decode mX12_isKin.2.1 46 = .ok (.iload 7, 2) := by decide +kernel
theorem dX12_isKin_48 : decode mX12_isKin.2.1 48 = .ok (.ifCond .ne 5, 3) := by decide +kernel
theorem dX12_isKin_51 : decode mX12_isKin.2.1 51 = .ok (.iconst 0, 1) := by decide +kernel
theorem dX12_isKin_52 : decode mX12_isKin.2.1 52 = .ok (.ireturn, 1) := by decide +kernel
theorem dX12_isKin_53 : decode mX12_isKin.2.1 53 = .ok (.iload_n 1, 1) := by decide +kernel
theorem dX12_isKin_54 : decode mX12_isKin.2.1 54 = .ok (.iconst 3, 1) := by decide +kernel
theorem dX12_isKin_55 : decode mX12_isKin.2.1 55 = .ok (.idiv, 1) := by decide +kernel
theorem dX12_isKin_56 : decode mX12_isKin.2.1 56 = .ok (.tableswitch 53 0 2 #[28, 39, 46], 28) := by decide +kernel
theorem dX12_isKin_84 : decode mX12_isKin.2.1 84 = .ok (.aload_n 0, 1) := by decide +kernel
theorem dX12_isKin_85 : decode mX12_isKin.2.1 85 = .ok (.iload_n 2, 1) := by decide +kernel
theorem dX12_isKin_86 : decode mX12_isKin.2.1 86 = .ok (.iload_n 3, 1) := by decide +kernel
theorem dX12_isKin_87 : decode mX12_isKin.2.1 87 = .ok (.iload 4, 2) := by decide +kernel
theorem dX12_isKin_89 : decode mX12_isKin.2.1 89 = .ok (.iload 5, 2) := by decide +kernel
theorem dX12_isKin_91 : decode mX12_isKin.2.1 91 = .ok (.invokevirtual 465, 3) := by decide +kernel
theorem dX12_isKin_94 : decode mX12_isKin.2.1 94 = .ok (.ireturn, 1) := by decide +kernel
theorem dX12_isKin_95 : decode mX12_isKin.2.1 95 = .ok (.aload_n 0, 1) := by decide +kernel
theorem dX12_isKin_96 : decode mX12_isKin.2.1 96 = .ok (.iload_n 3, 1) := by decide +kernel
theorem dX12_isKin_97 : decode mX12_isKin.2.1 97 = .ok (.iload_n 2, 1) := by decide +kernel
theorem dX12_isKin_98 : decode mX12_isKin.2.1 98 = .ok (.invokevirtual 469, 3) := by decide +kernel
theorem dX12_isKin_101 : decode mX12_isKin.2.1 101 = .ok (.ireturn, 1) := by decide +kernel
theorem dX12_isKin_102 : decode mX12_isKin.2.1 102 = .ok (.aload_n 0, 1) := by decide +kernel
theorem dX12_isKin_103 : decode mX12_isKin.2.1 103 = .ok (.iload_n 2, 1) := by decide +kernel
theorem dX12_isKin_104 : decode mX12_isKin.2.1 104 = .ok (.iload_n 3, 1) := by decide +kernel
theorem dX12_isKin_105 : decode mX12_isKin.2.1 105 = .ok (.invokevirtual 469, 3) := by decide +kernel
theorem dX12_isKin_108 : decode mX12_isKin.2.1 108 = .ok (.ireturn, 1) := by decide +kernel
theorem dX12_isKin_109 : decode mX12_isKin.2.1 109 = .ok (.aload_n 0, 1) := by decide +kernel
theorem dX12_isKin_110 : decode mX12_isKin.2.1 110 = .ok (.iload_n 2, 1) := by decide +kernel
theorem dX12_isKin_111 : decode mX12_isKin.2.1 111 = .ok (.iload_n 3, 1) := by decide +kernel
theorem dX12_isKin_112 : decode mX12_isKin.2.1 112 = .ok (.invokevirtual 473, 3) := by decide +kernel
theorem dX12_isKin_115 : decode mX12_isKin.2.1 115 = .ok (.ireturn, 1) := by decide +kernel
theorem bX12_isKin_0 {SC : Nat → Nat} {X : mh_X} {d : Nat} {Q : Option am_V → am_W → Prop} {bc bs : Nat} {w : am_W} {x1 : Int} {x2 : Int} {x3 : Int} {x4 : Int} {x5 : Int}
    (h : (((am_w (Int.tmod x1 3)) = 0 → am_A (mh_G X) SC (d + 2) mX12_isKin Q 39 [(0, .inr (.inr (some (9, 0)))), (1, .inl x1), (2, .inl x2), (3, .inl x3), (4, .inl x4), (5, .inl x5)] [] w bc bs) ∧ (¬ (am_w (Int.tmod x1 3)) = 0 → ((¬ ((am_w (Int.tmod x1 3)) = 1) → (0 ≤ x2 ∧ (x2 < 40 ∧ ((¬ (w.1 96 0 x2.toNat) = 0 → am_A (mh_G X) SC (d + 2) mX12_isKin Q 43 [(0, .inr (.inr (some (9, 0)))), (1, .inl x1), (2, .inl x2), (3, .inl x3), (4, .inl x4), (5, .inl x5)] [] w bc bs) ∧ ((w.1 96 0 x2.toNat) = 0 → am_A (mh_G X) SC (d + 2) mX12_isKin Q 39 [(0, .inr (.inr (some (9, 0)))), (1, .inl x1), (2, .inl x2), (3, .inl x3), (4, .inl x4), (5, .inl x5)] [] w bc bs))))) ∧ (((am_w (Int.tmod x1 3)) = 1) → (0 ≤ x2 ∧ (x2 < 40 ∧ ((¬ (w.1 96 0 x2.toNat) = 1 → am_A (mh_G X) SC (d + 2) mX12_isKin Q 43 [(0, .inr (.inr (some (9, 0)))), (1, .inl x1), (2, .inl x2), (3, .inl x3), (4, .inl x4), (5, .inl x5)] [] w bc bs) ∧ ((w.1 96 0 x2.toNat) = 1 → am_A (mh_G X) SC (d + 2) mX12_isKin Q 39 [(0, .inr (.inr (some (9, 0)))), (1, .inl x1), (2, .inl x2), (3, .inl x3), (4, .inl x4), (5, .inl x5)] [] w bc bs))))))))) :
    am_A (mh_G X) SC (d + 2) mX12_isKin Q 0 [(0, .inr (.inr (some (9, 0)))), (1, .inl x1), (2, .inl x2), (3, .inl x3), (4, .inl x4), (5, .inl x5)] [] w bc bs := by
  refine am_iload_n dX12_isKin_0 (List.Mem.tail _ (List.Mem.head _)) ?_
  refine am_iconst dX12_isKin_1 (by unfold am_rg; omega) ?_
  refine am_irem dX12_isKin_2 (by decide) ?_
  refine am_istore (ls' := [(6, .inl (am_w (Int.tmod x1 3))), (0, .inr (.inr (some (9, 0)))), (1, .inl x1), (2, .inl x2), (3, .inl x3), (4, .inl x4), (5, .inl x5)]) dX12_isKin_3 (by decide) rfl ?_
  refine am_iload dX12_isKin_5 (List.Mem.head _) ?_
  refine am_ifeq (tgt := 39) dX12_isKin_7 (by decide) (fun c1 => ?_) (fun c1 => ?_)
  · replace h := h.1 c1
    exact am_sub [1, 2, 3, 4, 5, 6] rfl h
  · replace h := h.2 c1
    refine am_iload_n dX12_isKin_10 (List.Mem.tail _ (List.Mem.tail _ (List.Mem.head _))) ?_
    refine am_calls (d' := d + 1) (kc := 0) (ks := 0) (as := [.inl x1]) dX12_isKin_11 wc_X12_isMan wd_2050 wd_2051 wd_122 ds_X12_isMan (by decide) (by omega) (Nat.le_of_ble_eq_true rfl) (Nat.zero_le _) (Nat.zero_le _) rfl (sX12_isMan (d := d + 0) (x0 := x1)  ?_)
    show am_A (mh_G X) SC (d + 2) mX12_isKin Q 14 [(6, .inl (am_w (Int.tmod x1 3))), (0, .inr (.inr (some (9, 0)))), (1, .inl x1), (2, .inl x2), (3, .inl x3), (4, .inl x4), (5, .inl x5)] [.inl (if ((am_w (Int.tmod x1 3)) = 1) then 1 else 0)] w bc bs
    refine am_ifeq (tgt := 30) dX12_isKin_14 (by decide) (fun c2 => ?_) (fun c2 => ?_)
    · replace c2 := am_beq1 c2
      replace h := h.1 c2
      refine am_aload_n dX12_isKin_30 (List.Mem.tail _ (List.Mem.head _)) ?_
      refine am_getf (f := 34) (v := .inr (.inr (some (96, 0)))) dX12_isKin_31 hc_10 (by decide) wd_1583 (by decide) rfl rfl ?_
      refine am_iload_n dX12_isKin_34 (List.Mem.tail _ (List.Mem.tail _ (List.Mem.tail _ (List.Mem.head _)))) ?_
      have o3 := h.1
      replace h := h.2
      have o4 := h.1
      replace h := h.2
      refine am_iaload (v := (w.1 96 0 x2.toNat)) dX12_isKin_35 (by decide) rfl o3 o4 rfl ?_
      refine am_ifne (tgt := 43) dX12_isKin_36 (by decide) (fun c5 => ?_) (fun c5 => ?_)
      · replace h := h.1 c5
        exact am_sub [1, 2, 3, 4, 5, 6] rfl h
      · replace h := h.2 c5
        exact am_sub [1, 2, 3, 4, 5, 6] rfl h
    · replace c2 := am_beq2 c2
      replace h := h.2 c2
      refine am_aload_n dX12_isKin_17 (List.Mem.tail _ (List.Mem.head _)) ?_
      refine am_getf (f := 34) (v := .inr (.inr (some (96, 0)))) dX12_isKin_18 hc_10 (by decide) wd_1583 (by decide) rfl rfl ?_
      refine am_iload_n dX12_isKin_21 (List.Mem.tail _ (List.Mem.tail _ (List.Mem.tail _ (List.Mem.head _)))) ?_
      have o6 := h.1
      replace h := h.2
      have o7 := h.1
      replace h := h.2
      refine am_iaload (v := (w.1 96 0 x2.toNat)) dX12_isKin_22 (by decide) rfl o6 o7 rfl ?_
      refine am_iconst dX12_isKin_23 (by unfold am_rg; omega) ?_
      refine am_icmpne (tgt := 43) dX12_isKin_24 (by decide) (fun c8 => ?_) (fun c8 => ?_)
      · replace h := h.1 c8
        exact am_sub [1, 2, 3, 4, 5, 6] rfl h
      · replace h := h.2 c8
        refine am_goto (tgt := 39) dX12_isKin_27 (by decide) ?_
        exact am_sub [1, 2, 3, 4, 5, 6] rfl h
theorem bX12_isKin_39 {SC : Nat → Nat} {X : mh_X} {d : Nat} {Q : Option am_V → am_W → Prop} {bc bs : Nat} {w : am_W} {x1 : Int} {x2 : Int} {x3 : Int} {x4 : Int} {x5 : Int}
    (h : am_A (mh_G X) SC (d + 2) mX12_isKin Q 44 [(0, .inr (.inr (some (9, 0)))), (1, .inl x1), (2, .inl x2), (3, .inl x3), (4, .inl x4), (5, .inl x5)] [.inl 1] w bc bs) :
    am_A (mh_G X) SC (d + 2) mX12_isKin Q 39 [(0, .inr (.inr (some (9, 0)))), (1, .inl x1), (2, .inl x2), (3, .inl x3), (4, .inl x4), (5, .inl x5)] [] w bc bs := by
  refine am_iconst dX12_isKin_39 (by unfold am_rg; omega) ?_
  refine am_goto (tgt := 44) dX12_isKin_40 (by decide) ?_
  exact h
theorem bX12_isKin_43 {SC : Nat → Nat} {X : mh_X} {d : Nat} {Q : Option am_V → am_W → Prop} {bc bs : Nat} {w : am_W} {x1 : Int} {x2 : Int} {x3 : Int} {x4 : Int} {x5 : Int}
    (h : am_A (mh_G X) SC (d + 2) mX12_isKin Q 44 [(0, .inr (.inr (some (9, 0)))), (1, .inl x1), (2, .inl x2), (3, .inl x3), (4, .inl x4), (5, .inl x5)] [.inl 0] w bc bs) :
    am_A (mh_G X) SC (d + 2) mX12_isKin Q 43 [(0, .inr (.inr (some (9, 0)))), (1, .inl x1), (2, .inl x2), (3, .inl x3), (4, .inl x4), (5, .inl x5)] [] w bc bs := by
  refine am_iconst dX12_isKin_43 (by unfold am_rg; omega) ?_
  exact h
theorem bX12_isKin_44 {SC : Nat → Nat} {X : mh_X} {d : Nat} {Q : Option am_V → am_W → Prop} {bc bs : Nat} {w : am_W} {x1 : Int} {x2 : Int} {x3 : Int} {x4 : Int} {x5 : Int} {xs0 : Int}
    (h : ((¬ xs0 = 0 → ((((am_w (Int.tdiv x1 3)) < 0 ∨ 2 < (am_w (Int.tdiv x1 3))) → am_M (mh_G X) SC (d + 1) 0 0 mX12_isSibling [.inr (.inr (some (9, 0))), .inl x2, .inl x3] w (fun r w1 => am_A (mh_G X) SC (d + 2) mX12_isKin Q 115 [(7, .inl xs0), (0, .inr (.inr (some (9, 0)))), (1, .inl x1), (2, .inl x2), (3, .inl x3), (4, .inl x4), (5, .inl x5)] (r.toList ++ []) w1 bc bs)) ∧ ((am_w (Int.tdiv x1 3)) = 0 → am_M (mh_G X) SC (d + 1) 0 0 mX12_isSpouse [.inr (.inr (some (9, 0))), .inl x2, .inl x3, .inl x4, .inl x5] w (fun r w1 => am_A (mh_G X) SC (d + 2) mX12_isKin Q 94 [(7, .inl xs0), (0, .inr (.inr (some (9, 0)))), (1, .inl x1), (2, .inl x2), (3, .inl x3), (4, .inl x4), (5, .inl x5)] (r.toList ++ []) w1 bc bs)) ∧ ((am_w (Int.tdiv x1 3)) = 1 → (0 ≤ x2 ∧ (x2 < 40 ∧ Q (some (.inl (if ((w.1 98 0 x2.toNat) = x3 ∨ ((w.1 99 0 x2.toNat) = x3)) then 1 else 0))) w))) ∧ ((am_w (Int.tdiv x1 3)) = 2 → (0 ≤ x3 ∧ (x3 < 40 ∧ Q (some (.inl (if ((w.1 98 0 x3.toNat) = x2 ∨ ((w.1 99 0 x3.toNat) = x2)) then 1 else 0))) w))))) ∧ (xs0 = 0 → Q (some (.inl 0)) w))) :
    am_A (mh_G X) SC (d + 2) mX12_isKin Q 44 [(0, .inr (.inr (some (9, 0)))), (1, .inl x1), (2, .inl x2), (3, .inl x3), (4, .inl x4), (5, .inl x5)] [.inl xs0] w bc bs := by
  refine am_istore (ls' := [(7, .inl xs0), (0, .inr (.inr (some (9, 0)))), (1, .inl x1), (2, .inl x2), (3, .inl x3), (4, .inl x4), (5, .inl x5)]) dX12_isKin_44 (by decide) rfl ?_
  refine am_iload dX12_isKin_46 (List.Mem.head _) ?_
  refine am_ifne (tgt := 53) dX12_isKin_48 (by decide) (fun c1 => ?_) (fun c1 => ?_)
  · replace h := h.1 c1
    refine am_iload_n dX12_isKin_53 (List.Mem.tail _ (List.Mem.tail _ (List.Mem.head _))) ?_
    refine am_iconst dX12_isKin_54 (by unfold am_rg; omega) ?_
    refine am_idiv dX12_isKin_55 (by decide) ?_
    by_cases c2 : ((am_w (Int.tdiv x1 3)) < 0 ∨ 2 < (am_w (Int.tdiv x1 3)))
    · replace h := h.1 c2
      refine am_tswOut (tgt := 109) dX12_isKin_56 c2 (by decide) ?_
      refine am_aload_n dX12_isKin_109 (List.Mem.tail _ (List.Mem.head _)) ?_
      refine am_iload_n dX12_isKin_110 (List.Mem.tail _ (List.Mem.tail _ (List.Mem.tail _ (List.Mem.head _)))) ?_
      refine am_iload_n dX12_isKin_111 (List.Mem.tail _ (List.Mem.tail _ (List.Mem.tail _ (List.Mem.tail _ (List.Mem.head _))))) ?_
      exact am_callv (d' := d + 1) (kc := 0) (ks := 0) (as := [.inl x2, .inl x3]) dX12_isKin_112 wc_X12_isSibling wd_2061 wd_2063 wd_79 wd_122 ds_X12_isSibling (by decide) (by omega) (Nat.le_of_ble_eq_true rfl) (Nat.zero_le _) (Nat.zero_le _) hc_10 (by decide) rfl rfl h
    · rcases (show (am_w (Int.tdiv x1 3)) = 0 ∨ (am_w (Int.tdiv x1 3)) = 1 ∨ (am_w (Int.tdiv x1 3)) = 2 by omega) with c2 | c2 | c2
      · replace h := h.2.1 c2
        refine am_tswIn (off := 28) (tgt := 84) dX12_isKin_56 (by omega) (by omega) (by rw [c2]; decide) (by decide) ?_
        refine am_aload_n dX12_isKin_84 (List.Mem.tail _ (List.Mem.head _)) ?_
        refine am_iload_n dX12_isKin_85 (List.Mem.tail _ (List.Mem.tail _ (List.Mem.tail _ (List.Mem.head _)))) ?_
        refine am_iload_n dX12_isKin_86 (List.Mem.tail _ (List.Mem.tail _ (List.Mem.tail _ (List.Mem.tail _ (List.Mem.head _))))) ?_
        refine am_iload dX12_isKin_87 (List.Mem.tail _ (List.Mem.tail _ (List.Mem.tail _ (List.Mem.tail _ (List.Mem.tail _ (List.Mem.head _)))))) ?_
        refine am_iload dX12_isKin_89 (List.Mem.tail _ (List.Mem.tail _ (List.Mem.tail _ (List.Mem.tail _ (List.Mem.tail _ (List.Mem.tail _ (List.Mem.head _))))))) ?_
        exact am_callv (d' := d + 1) (kc := 0) (ks := 0) (as := [.inl x2, .inl x3, .inl x4, .inl x5]) dX12_isKin_91 wc_X12_isSpouse wd_2053 wd_2055 wd_77 wd_122 ds_X12_isSpouse (by decide) (by omega) (Nat.le_of_ble_eq_true rfl) (Nat.zero_le _) (Nat.zero_le _) hc_10 (by decide) rfl rfl h
      · replace h := h.2.2.1 c2
        refine am_tswIn (off := 39) (tgt := 95) dX12_isKin_56 (by omega) (by omega) (by rw [c2]; decide) (by decide) ?_
        refine am_aload_n dX12_isKin_95 (List.Mem.tail _ (List.Mem.head _)) ?_
        refine am_iload_n dX12_isKin_96 (List.Mem.tail _ (List.Mem.tail _ (List.Mem.tail _ (List.Mem.tail _ (List.Mem.head _))))) ?_
        refine am_iload_n dX12_isKin_97 (List.Mem.tail _ (List.Mem.tail _ (List.Mem.tail _ (List.Mem.head _)))) ?_
        have o3 := h.1
        replace h := h.2
        have o4 := h.1
        replace h := h.2
        refine am_callv (d' := d + 1) (kc := 0) (ks := 0) (as := [.inl x3, .inl x2]) dX12_isKin_98 wc_X12_isParent wd_2057 wd_2059 wd_78 wd_122 ds_X12_isParent (by decide) (by omega) (Nat.le_of_ble_eq_true rfl) (Nat.zero_le _) (Nat.zero_le _) hc_10 (by decide) rfl rfl (sX12_isParent (d := d + 0) (x1 := x3) (x2 := x2) o3 o4 ?_)
        show am_A (mh_G X) SC (d + 2) mX12_isKin Q 101 [(7, .inl xs0), (0, .inr (.inr (some (9, 0)))), (1, .inl x1), (2, .inl x2), (3, .inl x3), (4, .inl x4), (5, .inl x5)] [.inl (if ((w.1 98 0 x2.toNat) = x3 ∨ ((w.1 99 0 x2.toNat) = x3)) then 1 else 0)] w bc bs
        exact am_ret (r := some (.inl (if ((w.1 98 0 x2.toNat) = x3 ∨ ((w.1 99 0 x2.toNat) = x3)) then 1 else 0))) dX12_isKin_101 (Or.inr (Or.inl ⟨rfl, am_b01⟩)) rfl h
      · replace h := h.2.2.2 c2
        refine am_tswIn (off := 46) (tgt := 102) dX12_isKin_56 (by omega) (by omega) (by rw [c2]; decide) (by decide) ?_
        refine am_aload_n dX12_isKin_102 (List.Mem.tail _ (List.Mem.head _)) ?_
        refine am_iload_n dX12_isKin_103 (List.Mem.tail _ (List.Mem.tail _ (List.Mem.tail _ (List.Mem.head _)))) ?_
        refine am_iload_n dX12_isKin_104 (List.Mem.tail _ (List.Mem.tail _ (List.Mem.tail _ (List.Mem.tail _ (List.Mem.head _))))) ?_
        have o5 := h.1
        replace h := h.2
        have o6 := h.1
        replace h := h.2
        refine am_callv (d' := d + 1) (kc := 0) (ks := 0) (as := [.inl x2, .inl x3]) dX12_isKin_105 wc_X12_isParent wd_2057 wd_2059 wd_78 wd_122 ds_X12_isParent (by decide) (by omega) (Nat.le_of_ble_eq_true rfl) (Nat.zero_le _) (Nat.zero_le _) hc_10 (by decide) rfl rfl (sX12_isParent (d := d + 0) (x1 := x2) (x2 := x3) o5 o6 ?_)
        show am_A (mh_G X) SC (d + 2) mX12_isKin Q 108 [(7, .inl xs0), (0, .inr (.inr (some (9, 0)))), (1, .inl x1), (2, .inl x2), (3, .inl x3), (4, .inl x4), (5, .inl x5)] [.inl (if ((w.1 98 0 x3.toNat) = x2 ∨ ((w.1 99 0 x3.toNat) = x2)) then 1 else 0)] w bc bs
        exact am_ret (r := some (.inl (if ((w.1 98 0 x3.toNat) = x2 ∨ ((w.1 99 0 x3.toNat) = x2)) then 1 else 0))) dX12_isKin_108 (Or.inr (Or.inl ⟨rfl, am_b01⟩)) rfl h
  · replace h := h.2 c1
    refine am_iconst dX12_isKin_51 (by unfold am_rg; omega) ?_
    exact am_ret (r := some (.inl 0)) dX12_isKin_52 (Or.inr (Or.inl ⟨rfl, (Or.inl rfl)⟩)) rfl h
theorem bX12_isKin_115 {SC : Nat → Nat} {X : mh_X} {d : Nat} {Q : Option am_V → am_W → Prop} {bc bs : Nat} {w : am_W} {x7 : Int} {x1 : Int} {x2 : Int} {x3 : Int} {x4 : Int} {x5 : Int} {xs0 : Int}
    (h : ((xs0 = 0 ∨ xs0 = 1) ∧ Q (some (.inl xs0)) w)) :
    am_A (mh_G X) SC (d + 2) mX12_isKin Q 115 [(7, .inl x7), (0, .inr (.inr (some (9, 0)))), (1, .inl x1), (2, .inl x2), (3, .inl x3), (4, .inl x4), (5, .inl x5)] [.inl xs0] w bc bs := by
  have o1 := h.1
  replace h := h.2
  exact am_ret (r := some (.inl xs0)) dX12_isKin_115 (Or.inr (Or.inl ⟨rfl, o1⟩)) rfl h
theorem bX12_isKin_94 {SC : Nat → Nat} {X : mh_X} {d : Nat} {Q : Option am_V → am_W → Prop} {bc bs : Nat} {w : am_W} {x7 : Int} {x1 : Int} {x2 : Int} {x3 : Int} {x4 : Int} {x5 : Int} {xs0 : Int}
    (h : ((xs0 = 0 ∨ xs0 = 1) ∧ Q (some (.inl xs0)) w)) :
    am_A (mh_G X) SC (d + 2) mX12_isKin Q 94 [(7, .inl x7), (0, .inr (.inr (some (9, 0)))), (1, .inl x1), (2, .inl x2), (3, .inl x3), (4, .inl x4), (5, .inl x5)] [.inl xs0] w bc bs := by
  have o1 := h.1
  replace h := h.2
  exact am_ret (r := some (.inl xs0)) dX12_isKin_94 (Or.inr (Or.inl ⟨rfl, o1⟩)) rfl h
-- MourningHouseModel.isKinBy(IIIIII)Z
theorem dX12_isKinBy_0 : decode mX12_isKinBy.2.1 0 = .ok (.iconst 0, 1) := by decide +kernel
theorem dX12_isKinBy_1 : decode mX12_isKinBy.2.1 1 = .ok (.istore 7, 2) := by decide +kernel
theorem dX12_isKinBy_3 : decode mX12_isKinBy.2.1 3 = .ok (.iload 7, 2) := by decide +kernel
theorem dX12_isKinBy_5 : decode mX12_isKinBy.2.1 5 = .ok (.aload_n 0, 1) := by decide +kernel
theorem dX12_isKinBy_6 : decode mX12_isKinBy.2.1 6 = .ok (.getfield 447, 3) := by decide +kernel
theorem dX12_isKinBy_9 : decode mX12_isKinBy.2.1 9 = .ok (.if_icmp .ge 27, 3) := by decide +kernel
theorem dX12_isKinBy_12 : decode mX12_isKinBy.2.1 12 = .ok (.aload_n 0, 1) := by decide +kernel
theorem dX12_isKinBy_13 : decode mX12_isKinBy.2.1 13 = .ok (.getfield 197, 3) := by decide +kernel
theorem dX12_isKinBy_16 : decode mX12_isKinBy.2.1 16 = .ok (.iload 7, 2) := by decide +kernel
theorem dX12_isKinBy_18 : decode mX12_isKinBy.2.1 18 = .ok (.iload 7, 2) := by decide +kernel
theorem dX12_isKinBy_20 : decode mX12_isKinBy.2.1 20 = .ok (.iload_n 3, 1) := by decide +kernel
theorem dX12_isKinBy_21 : decode mX12_isKinBy.2.1 21 = .ok (.if_icmp .ne 7, 3) := by decide +kernel
theorem dX12_isKinBy_24 : decode mX12_isKinBy.2.1 24 = .ok (.iconst 1, 1) := by decide +kernel
theorem dX12_isKinBy_25 : decode mX12_isKinBy.2.1 25 = .ok (.goto 4, 3) := by decide +kernel
theorem dX12_isKinBy_28 : decode mX12_isKinBy.2.1 28 = .ok (.iconst 0, 1) := by decide +kernel
theorem dX12_isKinBy_29 : decode mX12_isKinBy.2.1 29 = .ok (.bastore, 1) := by decide +kernel
theorem dX12_isKinBy_30 : decode mX12_isKinBy.2.1 30 = .ok (.iinc 7 1, 3) := by decide +kernel
theorem dX12_isKinBy_33 : decode mX12_isKinBy.2.1 33 = .ok (.goto (-30), 3) := by decide +kernel
theorem dX12_isKinBy_36 : decode mX12_isKinBy.2.1 36 = .ok (.aload_n 0, 1) := by decide +kernel
theorem dX12_isKinBy_37 : decode mX12_isKinBy.2.1 37 = .ok (.getfield 25, 3) := by decide +kernel
theorem dX12_isKinBy_40 : decode mX12_isKinBy.2.1 40 = .ok (.iload_n 1, 1) := by decide +kernel
theorem dX12_isKinBy_41 : decode mX12_isKinBy.2.1 41 = .ok (.aaload, 1) := by decide +kernel
theorem dX12_isKinBy_42 : decode mX12_isKinBy.2.1 42 = .ok (.iload_n 2, 1) := by decide +kernel
theorem dX12_isKinBy_43 : decode mX12_isKinBy.2.1 43 = .ok (.iaload, 1) := by decide +kernel
theorem dX12_isKinBy_44 : decode mX12_isKinBy.2.1 44 = .ok (.iconst 1, 1) := by decide +kernel
theorem dX12_isKinBy_45 : decode mX12_isKinBy.2.1 45 = .ok (.isub, 1) := by decide +kernel
theorem dX12_isKinBy_46 : decode mX12_isKinBy.2.1 46 = .ok (.istore 7, 2) := by decide +kernel
theorem dX12_isKinBy_48 : decode mX12_isKinBy.2.1 48 = .ok (.iload 7, 2) := by decide +kernel
theorem dX12_isKinBy_50 : decode mX12_isKinBy.2.1 50 = .ok (.ifCond .lt 160, 3) := by decide +kernel
theorem dX12_isKinBy_53 : decode mX12_isKinBy.2.1 53 = .ok (.iconst 0, 1) := by decide +kernel
theorem dX12_isKinBy_54 : decode mX12_isKinBy.2.1 54 = .ok (.istore 8, 2) := by decide +kernel
theorem dX12_isKinBy_56 : decode mX12_isKinBy.2.1 56 = .ok (.iload 8, 2) := by decide +kernel
theorem dX12_isKinBy_58 : decode mX12_isKinBy.2.1 58 = .ok (.aload_n 0, 1) := by decide +kernel
theorem dX12_isKinBy_59 : decode mX12_isKinBy.2.1 59 = .ok (.getfield 447, 3) := by decide +kernel
theorem dX12_isKinBy_62 : decode mX12_isKinBy.2.1 62 = .ok (.if_icmp .ge 110, 3) := by decide +kernel
theorem dX12_isKinBy_65 : decode mX12_isKinBy.2.1 65 = .ok (.aload_n 0, 1) := by decide +kernel
theorem dX12_isKinBy_66 : decode mX12_isKinBy.2.1 66 = .ok (.getfield 201, 3) := by decide +kernel
theorem dX12_isKinBy_69 : decode mX12_isKinBy.2.1 69 = .ok (.iload 8, 2) := by decide +kernel
theorem dX12_isKinBy_71 : decode mX12_isKinBy.2.1 71 = .ok (.iconst 0, 1) := by decide +kernel
theorem dX12_isKinBy_72 : decode mX12_isKinBy.2.1 72 = .ok (.bastore, 1) := by decide +kernel
theorem dX12_isKinBy_73 : decode mX12_isKinBy.2.1 73 = .ok (.iconst 0, 1) := by decide +kernel
theorem dX12_isKinBy_74 : decode mX12_isKinBy.2.1 74 = .ok (.istore 9, 2) := by decide +kernel
theorem dX12_isKinBy_76 : decode mX12_isKinBy.2.1 76 = .ok (.iload 9, 2) := by decide +kernel
theorem dX12_isKinBy_78 : decode mX12_isKinBy.2.1 78 = .ok (.aload_n 0, 1) := by decide +kernel
theorem dX12_isKinBy_79 : decode mX12_isKinBy.2.1 79 = .ok (.getfield 447, 3) := by decide +kernel
theorem dX12_isKinBy_82 : decode mX12_isKinBy.2.1 82 = .ok (.if_icmp .ge 84, 3) := by decide +kernel
theorem dX12_isKinBy_85 : decode mX12_isKinBy.2.1 85 = .ok (.iload 8, 2) := by decide +kernel
theorem dX12_isKinBy_87 : decode mX12_isKinBy.2.1 87 = .ok (.iload_n 3, 1) := by decide +kernel
theorem dX12_isKinBy_88 : decode mX12_isKinBy.2.1 88 = .ok (.if_icmp .eq 78, 3) := by decide +kernel
theorem dX12_isKinBy_91 : decode mX12_isKinBy.2.1 91 = .ok (.aload_n 0, 1) := by decide +kernel
theorem dX12_isKinBy_92 : decode mX12_isKinBy.2.1 92 = .ok (.iload 8, 2) := by decide +kernel
theorem dX12_isKinBy_94 : decode mX12_isKinBy.2.1 94 = .ok (.iload 6, 2) := by decide +kernel
theorem dX12_isKinBy_96 : decode mX12_isKinBy.2.1 96 = .ok (.invokevirtual 476, 3) := by decide +kernel
theorem dX12_isKinBy_99 : decode mX12_isKinBy.2.1 99 = .ok (.ifCond .eq 67, 3) := by decide +kernel
theorem dX12_isKinBy_102 : decode mX12_isKinBy.2.1 102 = .ok (.aload_n 0, 1) := by decide +kernel
theorem dX12_isKinBy_103 : decode mX12_isKinBy.2.1 103 = .ok (.getfield 201, 3) := by decide +kernel
theorem dX12_isKinBy_106 : decode mX12_isKinBy.2.1 106 = .ok (.iload 8, 2) := by decide +kernel
theorem dX12_isKinBy_108 : decode mX12_isKinBy.2.1 108 = .ok (.aload_n 0, 1) := by decide +kernel
theorem dX12_isKinBy_109 : decode mX12_isKinBy.2.1 109 = .ok (.getfield 201, 3) := by decide +kernel
theorem dX12_isKinBy_112 : decode mX12_isKinBy.2.1 112 = .ok (.iload 8, 2) := by decide +kernel
theorem dX12_isKinBy_114 : decode mX12_isKinBy.2.1 114 = .ok (.baload, 1) := by decide +kernel
theorem dX12_isKinBy_115 : decode mX12_isKinBy.2.1 115 = .ok (.ifCond .ne 39, 3) := by decide +kernel
theorem dX12_isKinBy_118 : decode mX12_isKinBy.2.1 118 = .ok (.aload_n 0, 1) := by decide +kernel
theorem dX12_isKinBy_119 : decode mX12_isKinBy.2.1 119 = .ok (.getfield 197, 3) := by decide +kernel
theorem dX12_isKinBy_122 : decode mX12_isKinBy.2.1 122 = .ok (.iload 9, 2) := by decide +kernel
theorem dX12_isKinBy_124 : decode mX12_isKinBy.2.1 124 = .ok (.baload, 1) := by decide +kernel
theorem dX12_isKinBy_125 : decode mX12_isKinBy.2.1 125 = .ok (.ifCond .eq 33, 3) := by decide +kernel
theorem dX12_isKinBy_128 : decode mX12_isKinBy.2.1 128 = .ok (.aload_n 0, 1) := by decide +kernel
theorem dX12_isKinBy_129 : decode mX12_isKinBy.2.1 129 = .ok (.aload_n 0, 1) := by decide +kernel
theorem dX12_isKinBy_130 : decode mX12_isKinBy.2.1 130 = .ok (.getfield 36, 3) := by decide +kernel
theorem dX12_isKinBy_133 : decode mX12_isKinBy.2.1 133 = .ok (.iload_n 1, 1) := by decide +kernel
theorem dX12_isKinBy_134 : decode mX12_isKinBy.2.1 134 = .ok (.aaload, 1) := by decide +kernel
theorem dX12_isKinBy_135 : decode mX12_isKinBy.2.1 135 = .ok (.iload_n 2, 1) := by decide +kernel
theorem dX12_isKinBy_136 : decode mX12_isKinBy.2.1 136 = .ok (.aaload, 1) := by decide +kernel
theorem dX12_isKinBy_137 : decode mX12_isKinBy.2.1 137 = .ok (.iload 7, 2) := by decide +kernel
theorem dX12_isKinBy_139 : decode mX12_isKinBy.2.1 139 = .ok (.iaload, 1) := by decide +kernel
theorem dX12_isKinBy_140 : decode mX12_isKinBy.2.1 140 = .ok (.iload 8, 2) := by decide +kernel
theorem dX12_isKinBy_142 : decode mX12_isKinBy.2.1 142 = .ok (.iload 9, 2) := by decide +kernel
theorem dX12_isKinBy_144 : decode mX12_isKinBy.2.1 144 = .ok (.iload 5, 2) := by decide +kernel
theorem dX12_isKinBy_146 : decode mX12_isKinBy.2.1 146 = .ok (.iload 6, 2) := by decide +kernel
theorem dX12_isKinBy_148 : decode mX12_isKinBy.2.1 148 = .ok (.invokevirtual 479, 3) := by decide +kernel
theorem dX12_isKinBy_151 : decode mX12_isKinBy.2.1 151 = .ok (.ifCond .eq 7, 3) := by decide +kernel
theorem dX12_isKinBy_154 : decode mX12_isKinBy.2.1 154 = .ok (.iconst 1, 1) := by decide +kernel
theorem dX12_isKinBy_155 : decode mX12_isKinBy.2.1 155 = .ok (.goto 4, 3) := by decide +kernel
theorem dX12_isKinBy_158 : decode mX12_isKinBy.2.1 158 = .ok (.iconst 0, 1) := by decide +kernel
theorem dX12_isKinBy_159 : decode mX12_isKinBy.2.1 159 = .ok (.bastore, 1) := by decide +kernel
theorem dX12_isKinBy_160 : decode mX12_isKinBy.2.1 160 = .ok (.iinc 9 1, 3) := by decide +kernel
theorem dX12_isKinBy_163 : decode mX12_isKinBy.2.1 163 = .ok (.goto (-87), 3) := by decide +kernel
theorem dX12_isKinBy_166 : decode mX12_isKinBy.2.1 166 = .ok (.iinc 8 1, 3) := by decide +kernel
theorem dX12_isKinBy_169 : decode mX12_isKinBy.2.1 169 = .ok (.goto (-113), 3) := by decide +kernel
theorem dX12_isKinBy_172 : decode mX12_isKinBy.2.1 172 = .ok (.iconst 0, 1) := by decide +kernel
theorem dX12_isKinBy_173 : decode mX12_isKinBy.2.1 173 = .ok (.istore 8, 2) := by decide +kernel
theorem dX12_isKinBy_175 : decode mX12_isKinBy.2.1 175 = .ok (.iload 8, 2) := by decide +kernel
theorem dX12_isKinBy_177 : decode mX12_isKinBy.2.1 177 = .ok (.aload_n 0, 1) := by decide +kernel
theorem dX12_isKinBy_178 : decode mX12_isKinBy.2.1 178 = .ok (.getfield 447, 3) := by decide +kernel
theorem dX12_isKinBy_181 : decode mX12_isKinBy.2.1 181 = .ok (.if_icmp .ge 23, 3) := by decide +kernel
theorem dX12_isKinBy_184 : decode mX12_isKinBy.2.1 184 = .ok (.aload_n 0, 1) := by decide +kernel
theorem dX12_isKinBy_185 : decode mX12_isKinBy.2.1 185 = .ok (.getfield 197, 3) := by decide +kernel
theorem dX12_isKinBy_188 : decode mX12_isKinBy.2.1 188 = .ok (.iload 8, 2) := by decide +kernel
theorem dX12_isKinBy_190 : decode mX12_isKinBy.2.1 190 = .ok (.aload_n 0, 1) := by decide +kernel
theorem dX12_isKinBy_191 : decode mX12_isKinBy.2.1 191 = .ok (.getfield 201, 3) := by decide +kernel
theorem dX12_isKinBy_194 : decode mX12_isKinBy.2.1 194 = .ok (.iload 8, 2) := by decide +kernel
theorem dX12_isKinBy_196 : decode mX12_isKinBy.2.1 196 = .ok (.baload, 1) := by decide +kernel
theorem dX12_isKinBy_197 : decode mX12_isKinBy.2.1 197 = .ok (.bastore, 1) := by decide +kernel
theorem dX12_isKinBy_198 : decode mX12_isKinBy.2.1 198 = .ok (.iinc 8 1, 3) := by decide +kernel
theorem dX12_isKinBy_201 : decode mX12_isKinBy.2.1 201 = .ok (.goto (-26), 3) := by decide +kernel
theorem dX12_isKinBy_204 : decode mX12_isKinBy.2.1 204 = .ok (.iinc 7 (-1), 3) := by decide +kernel
theorem dX12_isKinBy_207 : decode mX12_isKinBy.2.1 207 = .ok (.goto (-159), 3) := by decide +kernel
theorem dX12_isKinBy_210 : decode mX12_isKinBy.2.1 210 = .ok (.aload_n 0, 1) := by decide +kernel
theorem dX12_isKinBy_211 : decode mX12_isKinBy.2.1 211 = .ok (.getfield 197, 3) := by decide +kernel
theorem dX12_isKinBy_214 : decode mX12_isKinBy.2.1 214 = .ok (.iload 4, 2) := by decide +kernel
theorem dX12_isKinBy_216 : decode mX12_isKinBy.2.1 216 = .ok (.baload, 1) := by decide +kernel
theorem dX12_isKinBy_217 : decode mX12_isKinBy.2.1 217 = .ok (.ireturn, 1) := by decide +kernel
theorem bX12_isKinBy_0 {SC : Nat → Nat} {X : mh_X} {d : Nat} {Q : Option am_V → am_W → Prop} {bc bs : Nat} {w : am_W} {x1 : Int} {x2 : Int} {x3 : Int} {x4 : Int} {x5 : Int} {x6 : Int}
    (h : am_A (mh_G X) SC (d + 3) mX12_isKinBy Q 3 [(0, .inr (.inr (some (9, 0)))), (1, .inl x1), (2, .inl x2), (3, .inl x3), (4, .inl x4), (5, .inl x5), (6, .inl x6), (7, .inl 0)] [] w bc bs) :
    am_A (mh_G X) SC (d + 3) mX12_isKinBy Q 0 [(0, .inr (.inr (some (9, 0)))), (1, .inl x1), (2, .inl x2), (3, .inl x3), (4, .inl x4), (5, .inl x5), (6, .inl x6)] [] w bc bs := by
  refine am_iconst dX12_isKinBy_0 (by unfold am_rg; omega) ?_
  refine am_istore (ls' := [(7, .inl 0), (0, .inr (.inr (some (9, 0)))), (1, .inl x1), (2, .inl x2), (3, .inl x3), (4, .inl x4), (5, .inl x5), (6, .inl x6)]) dX12_isKinBy_1 (by decide) rfl ?_
  exact am_sub [1, 2, 3, 4, 5, 6, 7, 0] rfl h
theorem bX12_isKinBy_3 {SC : Nat → Nat} {X : mh_X} {d : Nat} {Q : Option am_V → am_W → Prop} {bc bs : Nat} {w : am_W} {x1 : Int} {x2 : Int} {x3 : Int} {x4 : Int} {x5 : Int} {x6 : Int} {x7 : Int}
    (h : (((w.1 9 0 42) ≤ x7 → (0 ≤ x1 ∧ (x1 < 7 ∧ (0 ≤ x2 ∧ (x2 < 30 ∧ am_A (mh_G X) SC (d + 3) mX12_isKinBy Q 48 [(0, .inr (.inr (some (9, 0)))), (1, .inl x1), (2, .inl x2), (3, .inl x3), (4, .inl x4), (5, .inl x5), (6, .inl x6), (7, .inl (am_w ((w.1 71 x1.toNat x2.toNat) - 1)))] [] w bc bs))))) ∧ (¬ (w.1 9 0 42) ≤ x7 → ((¬ x7 = x3 → am_A (mh_G X) SC (d + 3) mX12_isKinBy Q 29 [(0, .inr (.inr (some (9, 0)))), (1, .inl x1), (2, .inl x2), (3, .inl x3), (4, .inl x4), (5, .inl x5), (6, .inl x6), (7, .inl x7)] [.inl 0, .inl x7, .inr (.inr (some (112, 0)))] w bc bs) ∧ (x7 = x3 → am_A (mh_G X) SC (d + 3) mX12_isKinBy Q 29 [(0, .inr (.inr (some (9, 0)))), (1, .inl x1), (2, .inl x2), (3, .inl x3), (4, .inl x4), (5, .inl x5), (6, .inl x6), (7, .inl x7)] [.inl 1, .inl x7, .inr (.inr (some (112, 0)))] w bc bs))))) :
    am_A (mh_G X) SC (d + 3) mX12_isKinBy Q 3 [(0, .inr (.inr (some (9, 0)))), (1, .inl x1), (2, .inl x2), (3, .inl x3), (4, .inl x4), (5, .inl x5), (6, .inl x6), (7, .inl x7)] [] w bc bs := by
  refine am_iload dX12_isKinBy_3 (List.Mem.tail _ (List.Mem.tail _ (List.Mem.tail _ (List.Mem.tail _ (List.Mem.tail _ (List.Mem.tail _ (List.Mem.tail _ (List.Mem.head _)))))))) ?_
  refine am_aload_n dX12_isKinBy_5 (List.Mem.head _) ?_
  refine am_getf (f := 42) (v := .inl (w.1 9 0 42)) dX12_isKinBy_6 hc_10 (by decide) wd_1591 (by decide) rfl rfl ?_
  refine am_icmpge (tgt := 36) dX12_isKinBy_9 (by decide) (fun c1 => ?_) (fun c1 => ?_)
  · replace h := h.1 c1
    refine am_aload_n dX12_isKinBy_36 (List.Mem.head _) ?_
    refine am_getf (f := 8) (v := .inr (.inr (some (70, 0)))) dX12_isKinBy_37 hc_10 (by decide) wd_1557 (by decide) rfl rfl ?_
    refine am_iload_n dX12_isKinBy_40 (List.Mem.tail _ (List.Mem.head _)) ?_
    have o2 := h.1
    replace h := h.2
    have o3 := h.1
    replace h := h.2
    refine am_aaload (kd := 5) (r := some (71, x1.toNat)) dX12_isKinBy_41 (by decide) rfl (by decide) (by decide) o2 o3 rfl ?_
    refine am_iload_n dX12_isKinBy_42 (List.Mem.tail _ (List.Mem.tail _ (List.Mem.head _))) ?_
    have o4 := h.1
    replace h := h.2
    have o5 := h.1
    replace h := h.2
    refine am_iaload (v := (w.1 71 x1.toNat x2.toNat)) dX12_isKinBy_43 (by decide) rfl o4 o5 rfl ?_
    refine am_iconst dX12_isKinBy_44 (by unfold am_rg; omega) ?_
    refine am_isub dX12_isKinBy_45 ?_
    refine am_istore (ls' := [(7, .inl (am_w ((w.1 71 x1.toNat x2.toNat) - 1))), (0, .inr (.inr (some (9, 0)))), (1, .inl x1), (2, .inl x2), (3, .inl x3), (4, .inl x4), (5, .inl x5), (6, .inl x6)]) dX12_isKinBy_46 (by decide) rfl ?_
    exact am_sub [1, 2, 3, 4, 5, 6, 7, 0] rfl h
  · replace h := h.2 c1
    refine am_aload_n dX12_isKinBy_12 (List.Mem.head _) ?_
    refine am_getf (f := 53) (v := .inr (.inr (some (112, 0)))) dX12_isKinBy_13 hc_10 (by decide) wd_1602 (by decide) rfl rfl ?_
    refine am_iload dX12_isKinBy_16 (List.Mem.tail _ (List.Mem.tail _ (List.Mem.tail _ (List.Mem.tail _ (List.Mem.tail _ (List.Mem.tail _ (List.Mem.tail _ (List.Mem.head _)))))))) ?_
    refine am_iload dX12_isKinBy_18 (List.Mem.tail _ (List.Mem.tail _ (List.Mem.tail _ (List.Mem.tail _ (List.Mem.tail _ (List.Mem.tail _ (List.Mem.tail _ (List.Mem.head _)))))))) ?_
    refine am_iload_n dX12_isKinBy_20 (List.Mem.tail _ (List.Mem.tail _ (List.Mem.tail _ (List.Mem.head _)))) ?_
    refine am_icmpne (tgt := 28) dX12_isKinBy_21 (by decide) (fun c6 => ?_) (fun c6 => ?_)
    · replace h := h.1 c6
      refine am_iconst dX12_isKinBy_28 (by unfold am_rg; omega) ?_
      exact h
    · replace h := h.2 c6
      refine am_iconst dX12_isKinBy_24 (by unfold am_rg; omega) ?_
      refine am_goto (tgt := 29) dX12_isKinBy_25 (by decide) ?_
      exact h
theorem bX12_isKinBy_48 {SC : Nat → Nat} {X : mh_X} {d : Nat} {Q : Option am_V → am_W → Prop} {bc bs : Nat} {w : am_W} {x1 : Int} {x2 : Int} {x3 : Int} {x4 : Int} {x5 : Int} {x6 : Int} {x7 : Int}
    (h : ((x7 < 0 → (0 ≤ x4 ∧ (x4 < 40 ∧ (((w.1 112 0 x4.toNat) = 0 ∨ (w.1 112 0 x4.toNat) = 1) ∧ Q (some (.inl (w.1 112 0 x4.toNat))) w)))) ∧ (¬ x7 < 0 → am_A (mh_G X) SC (d + 3) mX12_isKinBy Q 56 [(0, .inr (.inr (some (9, 0)))), (1, .inl x1), (2, .inl x2), (3, .inl x3), (4, .inl x4), (5, .inl x5), (6, .inl x6), (7, .inl x7), (8, .inl 0)] [] w bc bs))) :
    am_A (mh_G X) SC (d + 3) mX12_isKinBy Q 48 [(0, .inr (.inr (some (9, 0)))), (1, .inl x1), (2, .inl x2), (3, .inl x3), (4, .inl x4), (5, .inl x5), (6, .inl x6), (7, .inl x7)] [] w bc bs := by
  refine am_iload dX12_isKinBy_48 (List.Mem.tail _ (List.Mem.tail _ (List.Mem.tail _ (List.Mem.tail _ (List.Mem.tail _ (List.Mem.tail _ (List.Mem.tail _ (List.Mem.head _)))))))) ?_
  refine am_iflt (tgt := 210) dX12_isKinBy_50 (by decide) (fun c1 => ?_) (fun c1 => ?_)
  · replace h := h.1 c1
    refine am_aload_n dX12_isKinBy_210 (List.Mem.head _) ?_
    refine am_getf (f := 53) (v := .inr (.inr (some (112, 0)))) dX12_isKinBy_211 hc_10 (by decide) wd_1602 (by decide) rfl rfl ?_
    refine am_iload dX12_isKinBy_214 (List.Mem.tail _ (List.Mem.tail _ (List.Mem.tail _ (List.Mem.tail _ (List.Mem.head _))))) ?_
    have o2 := h.1
    replace h := h.2
    have o3 := h.1
    replace h := h.2
    refine am_zaload (v := (w.1 112 0 x4.toNat)) dX12_isKinBy_216 (by decide) rfl o2 o3 rfl ?_
    have o4 := h.1
    replace h := h.2
    exact am_ret (r := some (.inl (w.1 112 0 x4.toNat))) dX12_isKinBy_217 (Or.inr (Or.inl ⟨rfl, o4⟩)) rfl h
  · replace h := h.2 c1
    refine am_iconst dX12_isKinBy_53 (by unfold am_rg; omega) ?_
    refine am_istore (ls' := [(8, .inl 0), (0, .inr (.inr (some (9, 0)))), (1, .inl x1), (2, .inl x2), (3, .inl x3), (4, .inl x4), (5, .inl x5), (6, .inl x6), (7, .inl x7)]) dX12_isKinBy_54 (by decide) rfl ?_
    exact am_sub [1, 2, 3, 4, 5, 6, 7, 8, 0] rfl h
theorem bX12_isKinBy_29 {SC : Nat → Nat} {X : mh_X} {d : Nat} {Q : Option am_V → am_W → Prop} {bc bs : Nat} {w : am_W} {x1 : Int} {x2 : Int} {x3 : Int} {x4 : Int} {x5 : Int} {x6 : Int} {x7 : Int} {xs0 : Int} {xs1 : Int}
    (h : (0 ≤ xs1 ∧ (xs1 < 40 ∧ ((xs0 = 0 ∨ xs0 = 1) ∧ am_A (mh_G X) SC (d + 3) mX12_isKinBy Q 3 [(0, .inr (.inr (some (9, 0)))), (1, .inl x1), (2, .inl x2), (3, .inl x3), (4, .inl x4), (5, .inl x5), (6, .inl x6), (7, .inl (am_w (x7 + 1)))] [] ((am_up w.1 112 0 xs1.toNat xs0), w.2) bc bs)))) :
    am_A (mh_G X) SC (d + 3) mX12_isKinBy Q 29 [(0, .inr (.inr (some (9, 0)))), (1, .inl x1), (2, .inl x2), (3, .inl x3), (4, .inl x4), (5, .inl x5), (6, .inl x6), (7, .inl x7)] [.inl xs0, .inl xs1, .inr (.inr (some (112, 0)))] w bc bs := by
  have o1 := h.1
  replace h := h.2
  have o2 := h.1
  replace h := h.2
  have o3 := h.1
  replace h := h.2
  refine am_zastore o3 dX12_isKinBy_29 (Or.inl (by decide)) rfl o1 o2 ?_
  refine am_iinc (ls' := [(7, .inl (am_w (x7 + 1))), (0, .inr (.inr (some (9, 0)))), (1, .inl x1), (2, .inl x2), (3, .inl x3), (4, .inl x4), (5, .inl x5), (6, .inl x6)]) dX12_isKinBy_30 (List.Mem.tail _ (List.Mem.tail _ (List.Mem.tail _ (List.Mem.tail _ (List.Mem.tail _ (List.Mem.tail _ (List.Mem.tail _ (List.Mem.head _)))))))) (by decide) rfl ?_
  refine am_goto (tgt := 3) dX12_isKinBy_33 (by decide) ?_
  exact am_sub [1, 2, 3, 4, 5, 6, 7, 0] rfl h
theorem bX12_isKinBy_56 {SC : Nat → Nat} {X : mh_X} {d : Nat} {Q : Option am_V → am_W → Prop} {bc bs : Nat} {w : am_W} {x1 : Int} {x2 : Int} {x3 : Int} {x4 : Int} {x5 : Int} {x6 : Int} {x7 : Int} {x8 : Int}
    (h : (((w.1 9 0 42) ≤ x8 → am_A (mh_G X) SC (d + 3) mX12_isKinBy Q 175 [(0, .inr (.inr (some (9, 0)))), (1, .inl x1), (2, .inl x2), (3, .inl x3), (4, .inl x4), (5, .inl x5), (6, .inl x6), (7, .inl x7), (8, .inl 0)] [] w bc bs) ∧ (¬ (w.1 9 0 42) ≤ x8 → (0 ≤ x8 ∧ (x8 < 40 ∧ am_A (mh_G X) SC (d + 3) mX12_isKinBy Q 76 [(0, .inr (.inr (some (9, 0)))), (1, .inl x1), (2, .inl x2), (3, .inl x3), (4, .inl x4), (5, .inl x5), (6, .inl x6), (7, .inl x7), (8, .inl x8), (9, .inl 0)] [] ((am_up w.1 113 0 x8.toNat 0), w.2) bc bs))))) :
    am_A (mh_G X) SC (d + 3) mX12_isKinBy Q 56 [(0, .inr (.inr (some (9, 0)))), (1, .inl x1), (2, .inl x2), (3, .inl x3), (4, .inl x4), (5, .inl x5), (6, .inl x6), (7, .inl x7), (8, .inl x8)] [] w bc bs := by
  refine am_iload dX12_isKinBy_56 (List.Mem.tail _ (List.Mem.tail _ (List.Mem.tail _ (List.Mem.tail _ (List.Mem.tail _ (List.Mem.tail _ (List.Mem.tail _ (List.Mem.tail _ (List.Mem.head _))))))))) ?_
  refine am_aload_n dX12_isKinBy_58 (List.Mem.head _) ?_
  refine am_getf (f := 42) (v := .inl (w.1 9 0 42)) dX12_isKinBy_59 hc_10 (by decide) wd_1591 (by decide) rfl rfl ?_
  refine am_icmpge (tgt := 172) dX12_isKinBy_62 (by decide) (fun c1 => ?_) (fun c1 => ?_)
  · replace h := h.1 c1
    refine am_iconst dX12_isKinBy_172 (by unfold am_rg; omega) ?_
    refine am_istore (ls' := [(8, .inl 0), (0, .inr (.inr (some (9, 0)))), (1, .inl x1), (2, .inl x2), (3, .inl x3), (4, .inl x4), (5, .inl x5), (6, .inl x6), (7, .inl x7)]) dX12_isKinBy_173 (by decide) rfl ?_
    exact am_sub [1, 2, 3, 4, 5, 6, 7, 8, 0] rfl h
  · replace h := h.2 c1
    refine am_aload_n dX12_isKinBy_65 (List.Mem.head _) ?_
    refine am_getf (f := 54) (v := .inr (.inr (some (113, 0)))) dX12_isKinBy_66 hc_10 (by decide) wd_1603 (by decide) rfl rfl ?_
    refine am_iload dX12_isKinBy_69 (List.Mem.tail _ (List.Mem.tail _ (List.Mem.tail _ (List.Mem.tail _ (List.Mem.tail _ (List.Mem.tail _ (List.Mem.tail _ (List.Mem.tail _ (List.Mem.head _))))))))) ?_
    refine am_iconst dX12_isKinBy_71 (by unfold am_rg; omega) ?_
    have o2 := h.1
    replace h := h.2
    have o3 := h.1
    replace h := h.2
    refine am_zastore (by decide) dX12_isKinBy_72 (Or.inl (by decide)) rfl o2 o3 ?_
    refine am_iconst dX12_isKinBy_73 (by unfold am_rg; omega) ?_
    refine am_istore (ls' := [(9, .inl 0), (0, .inr (.inr (some (9, 0)))), (1, .inl x1), (2, .inl x2), (3, .inl x3), (4, .inl x4), (5, .inl x5), (6, .inl x6), (7, .inl x7), (8, .inl x8)]) dX12_isKinBy_74 (by decide) rfl ?_
    exact am_sub [1, 2, 3, 4, 5, 6, 7, 8, 9, 0] rfl h
theorem bX12_isKinBy_175 {SC : Nat → Nat} {X : mh_X} {d : Nat} {Q : Option am_V → am_W → Prop} {bc bs : Nat} {w : am_W} {x1 : Int} {x2 : Int} {x3 : Int} {x4 : Int} {x5 : Int} {x6 : Int} {x7 : Int} {x8 : Int}
    (h : (((w.1 9 0 42) ≤ x8 → am_A (mh_G X) SC (d + 3) mX12_isKinBy Q 48 [(0, .inr (.inr (some (9, 0)))), (1, .inl x1), (2, .inl x2), (3, .inl x3), (4, .inl x4), (5, .inl x5), (6, .inl x6), (7, .inl (am_w (x7 + (-1))))] [] w bc bs) ∧ (¬ (w.1 9 0 42) ≤ x8 → (0 ≤ x8 ∧ (x8 < 40 ∧ (((w.1 113 0 x8.toNat) = 0 ∨ (w.1 113 0 x8.toNat) = 1) ∧ am_A (mh_G X) SC (d + 3) mX12_isKinBy Q 175 [(0, .inr (.inr (some (9, 0)))), (1, .inl x1), (2, .inl x2), (3, .inl x3), (4, .inl x4), (5, .inl x5), (6, .inl x6), (7, .inl x7), (8, .inl (am_w (x8 + 1)))] [] ((am_up w.1 112 0 x8.toNat (w.1 113 0 x8.toNat)), w.2) bc bs)))))) :
    am_A (mh_G X) SC (d + 3) mX12_isKinBy Q 175 [(0, .inr (.inr (some (9, 0)))), (1, .inl x1), (2, .inl x2), (3, .inl x3), (4, .inl x4), (5, .inl x5), (6, .inl x6), (7, .inl x7), (8, .inl x8)] [] w bc bs := by
  refine am_iload dX12_isKinBy_175 (List.Mem.tail _ (List.Mem.tail _ (List.Mem.tail _ (List.Mem.tail _ (List.Mem.tail _ (List.Mem.tail _ (List.Mem.tail _ (List.Mem.tail _ (List.Mem.head _))))))))) ?_
  refine am_aload_n dX12_isKinBy_177 (List.Mem.head _) ?_
  refine am_getf (f := 42) (v := .inl (w.1 9 0 42)) dX12_isKinBy_178 hc_10 (by decide) wd_1591 (by decide) rfl rfl ?_
  refine am_icmpge (tgt := 204) dX12_isKinBy_181 (by decide) (fun c1 => ?_) (fun c1 => ?_)
  · replace h := h.1 c1
    refine am_iinc (ls' := [(7, .inl (am_w (x7 + (-1)))), (0, .inr (.inr (some (9, 0)))), (1, .inl x1), (2, .inl x2), (3, .inl x3), (4, .inl x4), (5, .inl x5), (6, .inl x6), (8, .inl x8)]) dX12_isKinBy_204 (List.Mem.tail _ (List.Mem.tail _ (List.Mem.tail _ (List.Mem.tail _ (List.Mem.tail _ (List.Mem.tail _ (List.Mem.tail _ (List.Mem.head _)))))))) (by decide) rfl ?_
    refine am_goto (tgt := 48) dX12_isKinBy_207 (by decide) ?_
    exact am_sub [1, 2, 3, 4, 5, 6, 7, 0] rfl h
  · replace h := h.2 c1
    refine am_aload_n dX12_isKinBy_184 (List.Mem.head _) ?_
    refine am_getf (f := 53) (v := .inr (.inr (some (112, 0)))) dX12_isKinBy_185 hc_10 (by decide) wd_1602 (by decide) rfl rfl ?_
    refine am_iload dX12_isKinBy_188 (List.Mem.tail _ (List.Mem.tail _ (List.Mem.tail _ (List.Mem.tail _ (List.Mem.tail _ (List.Mem.tail _ (List.Mem.tail _ (List.Mem.tail _ (List.Mem.head _))))))))) ?_
    refine am_aload_n dX12_isKinBy_190 (List.Mem.head _) ?_
    refine am_getf (f := 54) (v := .inr (.inr (some (113, 0)))) dX12_isKinBy_191 hc_10 (by decide) wd_1603 (by decide) rfl rfl ?_
    refine am_iload dX12_isKinBy_194 (List.Mem.tail _ (List.Mem.tail _ (List.Mem.tail _ (List.Mem.tail _ (List.Mem.tail _ (List.Mem.tail _ (List.Mem.tail _ (List.Mem.tail _ (List.Mem.head _))))))))) ?_
    have o2 := h.1
    replace h := h.2
    have o3 := h.1
    replace h := h.2
    refine am_zaload (v := (w.1 113 0 x8.toNat)) dX12_isKinBy_196 (by decide) rfl o2 o3 rfl ?_
    have o4 := h.1
    replace h := h.2
    refine am_zastore o4 dX12_isKinBy_197 (Or.inl (by decide)) rfl o2 o3 ?_
    refine am_iinc (ls' := [(8, .inl (am_w (x8 + 1))), (0, .inr (.inr (some (9, 0)))), (1, .inl x1), (2, .inl x2), (3, .inl x3), (4, .inl x4), (5, .inl x5), (6, .inl x6), (7, .inl x7)]) dX12_isKinBy_198 (List.Mem.tail _ (List.Mem.tail _ (List.Mem.tail _ (List.Mem.tail _ (List.Mem.tail _ (List.Mem.tail _ (List.Mem.tail _ (List.Mem.tail _ (List.Mem.head _))))))))) (by decide) rfl ?_
    refine am_goto (tgt := 175) dX12_isKinBy_201 (by decide) ?_
    exact am_sub [1, 2, 3, 4, 5, 6, 7, 8, 0] rfl h
theorem bX12_isKinBy_76 {SC : Nat → Nat} {X : mh_X} {d : Nat} {Q : Option am_V → am_W → Prop} {bc bs : Nat} {w : am_W} {x1 : Int} {x2 : Int} {x3 : Int} {x4 : Int} {x5 : Int} {x6 : Int} {x7 : Int} {x8 : Int} {x9 : Int}
    (h : (((w.1 9 0 42) ≤ x9 → am_A (mh_G X) SC (d + 3) mX12_isKinBy Q 166 [(0, .inr (.inr (some (9, 0)))), (1, .inl x1), (2, .inl x2), (3, .inl x3), (4, .inl x4), (5, .inl x5), (6, .inl x6), (7, .inl x7), (8, .inl x8)] [] w bc bs) ∧ (¬ (w.1 9 0 42) ≤ x9 → ((x8 = x3 → am_A (mh_G X) SC (d + 3) mX12_isKinBy Q 166 [(0, .inr (.inr (some (9, 0)))), (1, .inl x1), (2, .inl x2), (3, .inl x3), (4, .inl x4), (5, .inl x5), (6, .inl x6), (7, .inl x7), (8, .inl x8)] [] w bc bs) ∧ (¬ x8 = x3 → (0 ≤ x8 ∧ (x8 < 40 ∧ ((¬ (¬ x6 < (w.1 101 0 x8.toNat)) → am_A (mh_G X) SC (d + 3) mX12_isKinBy Q 166 [(0, .inr (.inr (some (9, 0)))), (1, .inl x1), (2, .inl x2), (3, .inl x3), (4, .inl x4), (5, .inl x5), (6, .inl x6), (7, .inl x7), (8, .inl x8)] [] w bc bs) ∧ ((¬ x6 < (w.1 101 0 x8.toNat)) → ((¬ (w.1 113 0 x8.toNat) = 0 → am_A (mh_G X) SC (d + 3) mX12_isKinBy Q 154 [(0, .inr (.inr (some (9, 0)))), (1, .inl x1), (2, .inl x2), (3, .inl x3), (4, .inl x4), (5, .inl x5), (6, .inl x6), (7, .inl x7), (8, .inl x8), (9, .inl x9)] [.inl x8, .inr (.inr (some (113, 0)))] w bc bs) ∧ ((w.1 113 0 x8.toNat) = 0 → (0 ≤ x9 ∧ (x9 < 40 ∧ (((w.1 112 0 x9.toNat) = 0 → am_A (mh_G X) SC (d + 3) mX12_isKinBy Q 158 [(0, .inr (.inr (some (9, 0)))), (1, .inl x1), (2, .inl x2), (3, .inl x3), (4, .inl x4), (5, .inl x5), (6, .inl x6), (7, .inl x7), (8, .inl x8), (9, .inl x9)] [.inl x8, .inr (.inr (some (113, 0)))] w bc bs) ∧ (¬ (w.1 112 0 x9.toNat) = 0 → (0 ≤ x1 ∧ (x1 < 7 ∧ (0 ≤ x2 ∧ (x2 < 30 ∧ (0 ≤ x7 ∧ (x7 < 4 ∧ am_M (mh_G X) SC (d + 2) 0 0 mX12_isKin [.inr (.inr (some (9, 0))), .inl (w.1 78 (30 * x1.toNat + x2.toNat) x7.toNat), .inl x8, .inl x9, .inl x5, .inl x6] w (fun r w1 => am_A (mh_G X) SC (d + 3) mX12_isKinBy Q 151 [(0, .inr (.inr (some (9, 0)))), (1, .inl x1), (2, .inl x2), (3, .inl x3), (4, .inl x4), (5, .inl x5), (6, .inl x6), (7, .inl x7), (8, .inl x8), (9, .inl x9)] (r.toList ++ [.inl x8, .inr (.inr (some (113, 0)))]) w1 bc bs)))))))))))))))))))))) :
    am_A (mh_G X) SC (d + 3) mX12_isKinBy Q 76 [(0, .inr (.inr (some (9, 0)))), (1, .inl x1), (2, .inl x2), (3, .inl x3), (4, .inl x4), (5, .inl x5), (6, .inl x6), (7, .inl x7), (8, .inl x8), (9, .inl x9)] [] w bc bs := by
  refine am_iload dX12_isKinBy_76 (List.Mem.tail _ (List.Mem.tail _ (List.Mem.tail _ (List.Mem.tail _ (List.Mem.tail _ (List.Mem.tail _ (List.Mem.tail _ (List.Mem.tail _ (List.Mem.tail _ (List.Mem.head _)))))))))) ?_
  refine am_aload_n dX12_isKinBy_78 (List.Mem.head _) ?_
  refine am_getf (f := 42) (v := .inl (w.1 9 0 42)) dX12_isKinBy_79 hc_10 (by decide) wd_1591 (by decide) rfl rfl ?_
  refine am_icmpge (tgt := 166) dX12_isKinBy_82 (by decide) (fun c1 => ?_) (fun c1 => ?_)
  · replace h := h.1 c1
    exact am_sub [0, 1, 2, 3, 4, 5, 6, 7, 8] rfl h
  · replace h := h.2 c1
    refine am_iload dX12_isKinBy_85 (List.Mem.tail _ (List.Mem.tail _ (List.Mem.tail _ (List.Mem.tail _ (List.Mem.tail _ (List.Mem.tail _ (List.Mem.tail _ (List.Mem.tail _ (List.Mem.head _))))))))) ?_
    refine am_iload_n dX12_isKinBy_87 (List.Mem.tail _ (List.Mem.tail _ (List.Mem.tail _ (List.Mem.head _)))) ?_
    refine am_icmpeq (tgt := 166) dX12_isKinBy_88 (by decide) (fun c2 => ?_) (fun c2 => ?_)
    · replace h := h.1 c2
      exact am_sub [0, 1, 2, 3, 4, 5, 6, 7, 8] rfl h
    · replace h := h.2 c2
      refine am_aload_n dX12_isKinBy_91 (List.Mem.head _) ?_
      refine am_iload dX12_isKinBy_92 (List.Mem.tail _ (List.Mem.tail _ (List.Mem.tail _ (List.Mem.tail _ (List.Mem.tail _ (List.Mem.tail _ (List.Mem.tail _ (List.Mem.tail _ (List.Mem.head _))))))))) ?_
      refine am_iload dX12_isKinBy_94 (List.Mem.tail _ (List.Mem.tail _ (List.Mem.tail _ (List.Mem.tail _ (List.Mem.tail _ (List.Mem.tail _ (List.Mem.head _))))))) ?_
      have o3 := h.1
      replace h := h.2
      have o4 := h.1
      replace h := h.2
      refine am_callv (d' := d + 2) (kc := 0) (ks := 0) (as := [.inl x8, .inl x6]) dX12_isKinBy_96 wc_X12_isThere wd_2042 wd_2044 wd_75 wd_122 ds_X12_isThere (by decide) (by omega) (Nat.le_of_ble_eq_true rfl) (Nat.zero_le _) (Nat.zero_le _) hc_10 (by decide) rfl rfl (sX12_isThere (d := d + 1) (x1 := x8) (x2 := x6) o3 o4 ?_)
      show am_A (mh_G X) SC (d + 3) mX12_isKinBy Q 99 [(0, .inr (.inr (some (9, 0)))), (1, .inl x1), (2, .inl x2), (3, .inl x3), (4, .inl x4), (5, .inl x5), (6, .inl x6), (7, .inl x7), (8, .inl x8), (9, .inl x9)] [.inl (if (¬ x6 < (w.1 101 0 x8.toNat)) then 1 else 0)] w bc bs
      refine am_ifeq (tgt := 166) dX12_isKinBy_99 (by decide) (fun c5 => ?_) (fun c5 => ?_)
      · replace c5 := am_beq1 c5
        replace h := h.1 c5
        exact am_sub [0, 1, 2, 3, 4, 5, 6, 7, 8] rfl h
      · replace c5 := am_beq2 c5
        replace h := h.2 c5
        refine am_aload_n dX12_isKinBy_102 (List.Mem.head _) ?_
        refine am_getf (f := 54) (v := .inr (.inr (some (113, 0)))) dX12_isKinBy_103 hc_10 (by decide) wd_1603 (by decide) rfl rfl ?_
        refine am_iload dX12_isKinBy_106 (List.Mem.tail _ (List.Mem.tail _ (List.Mem.tail _ (List.Mem.tail _ (List.Mem.tail _ (List.Mem.tail _ (List.Mem.tail _ (List.Mem.tail _ (List.Mem.head _))))))))) ?_
        refine am_aload_n dX12_isKinBy_108 (List.Mem.head _) ?_
        refine am_getf (f := 54) (v := .inr (.inr (some (113, 0)))) dX12_isKinBy_109 hc_10 (by decide) wd_1603 (by decide) rfl rfl ?_
        refine am_iload dX12_isKinBy_112 (List.Mem.tail _ (List.Mem.tail _ (List.Mem.tail _ (List.Mem.tail _ (List.Mem.tail _ (List.Mem.tail _ (List.Mem.tail _ (List.Mem.tail _ (List.Mem.head _))))))))) ?_
        refine am_zaload (v := (w.1 113 0 x8.toNat)) dX12_isKinBy_114 (by decide) rfl o3 o4 rfl ?_
        refine am_ifne (tgt := 154) dX12_isKinBy_115 (by decide) (fun c6 => ?_) (fun c6 => ?_)
        · replace h := h.1 c6
          exact h
        · replace h := h.2 c6
          refine am_aload_n dX12_isKinBy_118 (List.Mem.head _) ?_
          refine am_getf (f := 53) (v := .inr (.inr (some (112, 0)))) dX12_isKinBy_119 hc_10 (by decide) wd_1602 (by decide) rfl rfl ?_
          refine am_iload dX12_isKinBy_122 (List.Mem.tail _ (List.Mem.tail _ (List.Mem.tail _ (List.Mem.tail _ (List.Mem.tail _ (List.Mem.tail _ (List.Mem.tail _ (List.Mem.tail _ (List.Mem.tail _ (List.Mem.head _)))))))))) ?_
          have o7 := h.1
          replace h := h.2
          have o8 := h.1
          replace h := h.2
          refine am_zaload (v := (w.1 112 0 x9.toNat)) dX12_isKinBy_124 (by decide) rfl o7 o8 rfl ?_
          refine am_ifeq (tgt := 158) dX12_isKinBy_125 (by decide) (fun c9 => ?_) (fun c9 => ?_)
          · replace h := h.1 c9
            exact h
          · replace h := h.2 c9
            refine am_aload_n dX12_isKinBy_128 (List.Mem.head _) ?_
            refine am_aload_n dX12_isKinBy_129 (List.Mem.head _) ?_
            refine am_getf (f := 11) (v := .inr (.inr (some (76, 0)))) dX12_isKinBy_130 hc_10 (by decide) wd_1560 (by decide) rfl rfl ?_
            refine am_iload_n dX12_isKinBy_133 (List.Mem.tail _ (List.Mem.head _)) ?_
            have o10 := h.1
            replace h := h.2
            have o11 := h.1
            replace h := h.2
            refine am_aaload (kd := 6) (r := some (77, x1.toNat)) dX12_isKinBy_134 (by decide) rfl (by decide) (by decide) o10 o11 rfl ?_
            refine am_iload_n dX12_isKinBy_135 (List.Mem.tail _ (List.Mem.tail _ (List.Mem.head _))) ?_
            have o12 := h.1
            replace h := h.2
            have o13 := h.1
            replace h := h.2
            refine am_aaload (kd := 5) (r := some (78, (30 * x1.toNat + x2.toNat))) dX12_isKinBy_136 (by decide) rfl (by decide) (by decide) o12 o13 rfl ?_
            refine am_iload dX12_isKinBy_137 (List.Mem.tail _ (List.Mem.tail _ (List.Mem.tail _ (List.Mem.tail _ (List.Mem.tail _ (List.Mem.tail _ (List.Mem.tail _ (List.Mem.head _)))))))) ?_
            have o14 := h.1
            replace h := h.2
            have o15 := h.1
            replace h := h.2
            refine am_iaload (v := (w.1 78 (30 * x1.toNat + x2.toNat) x7.toNat)) dX12_isKinBy_139 (by decide) rfl o14 o15 rfl ?_
            refine am_iload dX12_isKinBy_140 (List.Mem.tail _ (List.Mem.tail _ (List.Mem.tail _ (List.Mem.tail _ (List.Mem.tail _ (List.Mem.tail _ (List.Mem.tail _ (List.Mem.tail _ (List.Mem.head _))))))))) ?_
            refine am_iload dX12_isKinBy_142 (List.Mem.tail _ (List.Mem.tail _ (List.Mem.tail _ (List.Mem.tail _ (List.Mem.tail _ (List.Mem.tail _ (List.Mem.tail _ (List.Mem.tail _ (List.Mem.tail _ (List.Mem.head _)))))))))) ?_
            refine am_iload dX12_isKinBy_144 (List.Mem.tail _ (List.Mem.tail _ (List.Mem.tail _ (List.Mem.tail _ (List.Mem.tail _ (List.Mem.head _)))))) ?_
            refine am_iload dX12_isKinBy_146 (List.Mem.tail _ (List.Mem.tail _ (List.Mem.tail _ (List.Mem.tail _ (List.Mem.tail _ (List.Mem.tail _ (List.Mem.head _))))))) ?_
            exact am_callv (d' := d + 2) (kc := 0) (ks := 0) (as := [.inl (w.1 78 (30 * x1.toNat + x2.toNat) x7.toNat), .inl x8, .inl x9, .inl x5, .inl x6]) dX12_isKinBy_148 wc_X12_isKin wd_2046 wd_2048 wd_76 wd_122 ds_X12_isKin (by decide) (by omega) (Nat.le_of_ble_eq_true rfl) (Nat.zero_le _) (Nat.zero_le _) hc_10 (by decide) rfl rfl h
theorem bX12_isKinBy_166 {SC : Nat → Nat} {X : mh_X} {d : Nat} {Q : Option am_V → am_W → Prop} {bc bs : Nat} {w : am_W} {x1 : Int} {x2 : Int} {x3 : Int} {x4 : Int} {x5 : Int} {x6 : Int} {x7 : Int} {x8 : Int}
    (h : am_A (mh_G X) SC (d + 3) mX12_isKinBy Q 56 [(0, .inr (.inr (some (9, 0)))), (1, .inl x1), (2, .inl x2), (3, .inl x3), (4, .inl x4), (5, .inl x5), (6, .inl x6), (7, .inl x7), (8, .inl (am_w (x8 + 1)))] [] w bc bs) :
    am_A (mh_G X) SC (d + 3) mX12_isKinBy Q 166 [(0, .inr (.inr (some (9, 0)))), (1, .inl x1), (2, .inl x2), (3, .inl x3), (4, .inl x4), (5, .inl x5), (6, .inl x6), (7, .inl x7), (8, .inl x8)] [] w bc bs := by
  refine am_iinc (ls' := [(8, .inl (am_w (x8 + 1))), (0, .inr (.inr (some (9, 0)))), (1, .inl x1), (2, .inl x2), (3, .inl x3), (4, .inl x4), (5, .inl x5), (6, .inl x6), (7, .inl x7)]) dX12_isKinBy_166 (List.Mem.tail _ (List.Mem.tail _ (List.Mem.tail _ (List.Mem.tail _ (List.Mem.tail _ (List.Mem.tail _ (List.Mem.tail _ (List.Mem.tail _ (List.Mem.head _))))))))) (by decide) rfl ?_
  refine am_goto (tgt := 56) dX12_isKinBy_169 (by decide) ?_
  exact am_sub [1, 2, 3, 4, 5, 6, 7, 8, 0] rfl h
theorem bX12_isKinBy_154 {SC : Nat → Nat} {X : mh_X} {d : Nat} {Q : Option am_V → am_W → Prop} {bc bs : Nat} {w : am_W} {x1 : Int} {x2 : Int} {x3 : Int} {x4 : Int} {x5 : Int} {x6 : Int} {x7 : Int} {x8 : Int} {x9 : Int} {xs0 : Int}
    (h : am_A (mh_G X) SC (d + 3) mX12_isKinBy Q 159 [(0, .inr (.inr (some (9, 0)))), (1, .inl x1), (2, .inl x2), (3, .inl x3), (4, .inl x4), (5, .inl x5), (6, .inl x6), (7, .inl x7), (8, .inl x8), (9, .inl x9)] [.inl 1, .inl xs0, .inr (.inr (some (113, 0)))] w bc bs) :
    am_A (mh_G X) SC (d + 3) mX12_isKinBy Q 154 [(0, .inr (.inr (some (9, 0)))), (1, .inl x1), (2, .inl x2), (3, .inl x3), (4, .inl x4), (5, .inl x5), (6, .inl x6), (7, .inl x7), (8, .inl x8), (9, .inl x9)] [.inl xs0, .inr (.inr (some (113, 0)))] w bc bs := by
  refine am_iconst dX12_isKinBy_154 (by unfold am_rg; omega) ?_
  refine am_goto (tgt := 159) dX12_isKinBy_155 (by decide) ?_
  exact h
theorem bX12_isKinBy_158 {SC : Nat → Nat} {X : mh_X} {d : Nat} {Q : Option am_V → am_W → Prop} {bc bs : Nat} {w : am_W} {x1 : Int} {x2 : Int} {x3 : Int} {x4 : Int} {x5 : Int} {x6 : Int} {x7 : Int} {x8 : Int} {x9 : Int} {xs0 : Int}
    (h : am_A (mh_G X) SC (d + 3) mX12_isKinBy Q 159 [(0, .inr (.inr (some (9, 0)))), (1, .inl x1), (2, .inl x2), (3, .inl x3), (4, .inl x4), (5, .inl x5), (6, .inl x6), (7, .inl x7), (8, .inl x8), (9, .inl x9)] [.inl 0, .inl xs0, .inr (.inr (some (113, 0)))] w bc bs) :
    am_A (mh_G X) SC (d + 3) mX12_isKinBy Q 158 [(0, .inr (.inr (some (9, 0)))), (1, .inl x1), (2, .inl x2), (3, .inl x3), (4, .inl x4), (5, .inl x5), (6, .inl x6), (7, .inl x7), (8, .inl x8), (9, .inl x9)] [.inl xs0, .inr (.inr (some (113, 0)))] w bc bs := by
  refine am_iconst dX12_isKinBy_158 (by unfold am_rg; omega) ?_
  exact h
theorem bX12_isKinBy_151 {SC : Nat → Nat} {X : mh_X} {d : Nat} {Q : Option am_V → am_W → Prop} {bc bs : Nat} {w : am_W} {x1 : Int} {x2 : Int} {x3 : Int} {x4 : Int} {x5 : Int} {x6 : Int} {x7 : Int} {x8 : Int} {x9 : Int} {xs0 : Int} {xs1 : Int}
    (h : ((xs0 = 0 → am_A (mh_G X) SC (d + 3) mX12_isKinBy Q 158 [(0, .inr (.inr (some (9, 0)))), (1, .inl x1), (2, .inl x2), (3, .inl x3), (4, .inl x4), (5, .inl x5), (6, .inl x6), (7, .inl x7), (8, .inl x8), (9, .inl x9)] [.inl xs1, .inr (.inr (some (113, 0)))] w bc bs) ∧ (¬ xs0 = 0 → am_A (mh_G X) SC (d + 3) mX12_isKinBy Q 154 [(0, .inr (.inr (some (9, 0)))), (1, .inl x1), (2, .inl x2), (3, .inl x3), (4, .inl x4), (5, .inl x5), (6, .inl x6), (7, .inl x7), (8, .inl x8), (9, .inl x9)] [.inl xs1, .inr (.inr (some (113, 0)))] w bc bs))) :
    am_A (mh_G X) SC (d + 3) mX12_isKinBy Q 151 [(0, .inr (.inr (some (9, 0)))), (1, .inl x1), (2, .inl x2), (3, .inl x3), (4, .inl x4), (5, .inl x5), (6, .inl x6), (7, .inl x7), (8, .inl x8), (9, .inl x9)] [.inl xs0, .inl xs1, .inr (.inr (some (113, 0)))] w bc bs := by
  refine am_ifeq (tgt := 158) dX12_isKinBy_151 (by decide) (fun c1 => ?_) (fun c1 => ?_)
  · replace h := h.1 c1
    exact h
  · replace h := h.2 c1
    exact h
theorem bX12_isKinBy_159 {SC : Nat → Nat} {X : mh_X} {d : Nat} {Q : Option am_V → am_W → Prop} {bc bs : Nat} {w : am_W} {x1 : Int} {x2 : Int} {x3 : Int} {x4 : Int} {x5 : Int} {x6 : Int} {x7 : Int} {x8 : Int} {x9 : Int} {xs0 : Int} {xs1 : Int}
    (h : (0 ≤ xs1 ∧ (xs1 < 40 ∧ ((xs0 = 0 ∨ xs0 = 1) ∧ am_A (mh_G X) SC (d + 3) mX12_isKinBy Q 76 [(0, .inr (.inr (some (9, 0)))), (1, .inl x1), (2, .inl x2), (3, .inl x3), (4, .inl x4), (5, .inl x5), (6, .inl x6), (7, .inl x7), (8, .inl x8), (9, .inl (am_w (x9 + 1)))] [] ((am_up w.1 113 0 xs1.toNat xs0), w.2) bc bs)))) :
    am_A (mh_G X) SC (d + 3) mX12_isKinBy Q 159 [(0, .inr (.inr (some (9, 0)))), (1, .inl x1), (2, .inl x2), (3, .inl x3), (4, .inl x4), (5, .inl x5), (6, .inl x6), (7, .inl x7), (8, .inl x8), (9, .inl x9)] [.inl xs0, .inl xs1, .inr (.inr (some (113, 0)))] w bc bs := by
  have o1 := h.1
  replace h := h.2
  have o2 := h.1
  replace h := h.2
  have o3 := h.1
  replace h := h.2
  refine am_zastore o3 dX12_isKinBy_159 (Or.inl (by decide)) rfl o1 o2 ?_
  refine am_iinc (ls' := [(9, .inl (am_w (x9 + 1))), (0, .inr (.inr (some (9, 0)))), (1, .inl x1), (2, .inl x2), (3, .inl x3), (4, .inl x4), (5, .inl x5), (6, .inl x6), (7, .inl x7), (8, .inl x8)]) dX12_isKinBy_160 (List.Mem.tail _ (List.Mem.tail _ (List.Mem.tail _ (List.Mem.tail _ (List.Mem.tail _ (List.Mem.tail _ (List.Mem.tail _ (List.Mem.tail _ (List.Mem.tail _ (List.Mem.head _)))))))))) (by decide) rfl ?_
  refine am_goto (tgt := 76) dX12_isKinBy_163 (by decide) ?_
  exact am_sub [1, 2, 3, 4, 5, 6, 7, 8, 9, 0] rfl h
-- MourningHouseModel.kin(IIII)Z
theorem dX12_kin_0 : decode mX12_kin.2.1 0 = .ok (.aload_n 0, 1) := by decide +kernel
theorem dX12_kin_1 : decode mX12_kin.2.1 1 = .ok (.getfield 435, 3) := by decide +kernel
theorem dX12_kin_4 : decode mX12_kin.2.1 4 = .ok (.ifCond .le 74, 3) := by decide +kernel
theorem dX12_kin_7 : decode mX12_kin.2.1 7 = .ok (.iload_n 1, 1) := by decide +kernel
theorem dX12_kin_8 : decode mX12_kin.2.1 8 = .ok (.iconst 0, 1) := by decide +kernel
theorem dX12_kin_9 : decode mX12_kin.2.1 9 = .ok (.aload_n 0, 1) := by decide +kernel
theorem dX12_kin_10 : decode mX12_kin.2.1 10 = .ok (.getfield 17, 3) := by decide +kernel
theorem dX12_kin_13 : decode mX12_kin.2.1 13 = .ok (.aload_n 0, 1) := by decide +kernel
theorem dX12_kin_14 : decode mX12_kin.2.1 14 = .ok (.getfield 435, 3) := by decide +kernel
theorem dX12_kin_17 : decode mX12_kin.2.1 17 = .ok (.iconst 1, 1) := by decide +kernel
theorem dX12_kin_18 : decode mX12_kin.2.1 18 = .ok (.isub, 1) := by decide +kernel
theorem dX12_kin_19 : decode mX12_kin.2.1 19 = .ok (.iaload, 1) := by decide +kernel
theorem dX12_kin_20 : decode mX12_kin.2.1 20 = .ok (.iconst 1, 1) := by decide +kernel
theorem dX12_kin_21 : decode mX12_kin.2.1 21 = .ok (.isub, 1) := by decide +kernel
theorem dX12_kin_22 : decode mX12_kin.2.1 22 = .ok (.invokestatic 318, 3) := by decide +kernel
theorem dX12_kin_25 : decode mX12_kin.2.1 25 = .ok (.ifCond .eq 53, 3) := by decide +kernel
theorem dX12_kin_28 : decode mX12_kin.2.1 28 = .ok (.aload_n 0, 1) := by decide +kernel
theorem dX12_kin_29 : decode mX12_kin.2.1 29 = .ok (.iload_n 2, 1) := by decide +kernel
theorem dX12_kin_30 : decode mX12_kin.2.1 30 = .ok (.invokevirtual 453, 3) := by decide +kernel
theorem dX12_kin_33 : decode mX12_kin.2.1 33 = .ok (.ifCond .eq 45, 3) := by decide +kernel
theorem dX12_kin_36 : decode mX12_kin.2.1 36 = .ok (.aload_n 0, 1) := by decide +kernel
theorem dX12_kin_37 : decode mX12_kin.2.1 37 = .ok (.iload_n 3, 1) := by decide +kernel
theorem dX12_kin_38 : decode mX12_kin.2.1 38 = .ok (.invokevirtual 453, 3) := by decide +kernel
theorem dX12_kin_41 : decode mX12_kin.2.1 41 = .ok (.ifCond .eq 37, 3) := by decide +kernel
theorem dX12_kin_44 : decode mX12_kin.2.1 44 = .ok (.iload 4, 2) := by decide +kernel
theorem dX12_kin_46 : decode mX12_kin.2.1 46 = .ok (.invokestatic 322, 3) := by decide +kernel
theorem dX12_kin_49 : decode mX12_kin.2.1 49 = .ok (.ifCond .eq 29, 3) := by decide +kernel
theorem dX12_kin_52 : decode mX12_kin.2.1 52 = .ok (.aload_n 0, 1) := by decide +kernel
theorem dX12_kin_53 : decode mX12_kin.2.1 53 = .ok (.aload_n 0, 1) := by decide +kernel
theorem dX12_kin_54 : decode mX12_kin.2.1 54 = .ok (.getfield 435, 3) := by decide +kernel
theorem dX12_kin_57 : decode mX12_kin.2.1 57 = .ok (.iconst 1, 1) := by decide +kernel
theorem dX12_kin_58 : decode mX12_kin.2.1 58 = .ok (.isub, 1) := by decide +kernel
theorem dX12_kin_59 : decode mX12_kin.2.1 59 = .ok (.iload_n 1, 1) := by decide +kernel
theorem dX12_kin_60 : decode mX12_kin.2.1 60 = .ok (.iload_n 2, 1) := by decide +kernel
theorem dX12_kin_61 : decode mX12_kin.2.1 61 = .ok (.iload_n 3, 1) := by decide +kernel
theorem dX12_kin_62 : decode mX12_kin.2.1 62 = .ok (.iload 4, 2) := by decide +kernel
theorem dX12_kin_64 : decode mX12_kin.2.1 64 = .ok (.aload_n 0, 1) := by decide +kernel
theorem dX12_kin_65 : decode mX12_kin.2.1 65 = .ok (.getfield 444, 3) := by decide +kernel
theorem dX12_kin_68 : decode mX12_kin.2.1 68 = .ok (.invokevirtual 483, 3) := by decide +kernel
theorem dX12_kin_71 : decode mX12_kin.2.1 71 = .ok (.ifCond .eq 7, 3) := by decide +kernel
theorem dX12_kin_74 : decode mX12_kin.2.1 74 = .ok (.iconst 1, 1) := by decide +kernel
theorem dX12_kin_75 : decode mX12_kin.2.1 75 = .ok (.goto 4, 3) := by decide +kernel
theorem dX12_kin_78 : decode mX12_kin.2.1 78 = .ok (.iconst 0, 1) := by decide +kernel
theorem dX12_kin_79 : decode mX12_kin.2.1 79 = .ok (.ireturn, 1) := by decide +kernel
theorem bX12_kin_0 {SC : Nat → Nat} {X : mh_X} {d : Nat} {Q : Option am_V → am_W → Prop} {bc bs : Nat} {w : am_W} {x1 : Int} {x2 : Int} {x3 : Int} {x4 : Int}
    (h : (((w.1 9 0 21) ≤ 0 → Q (some (.inl 0)) w) ∧ (¬ (w.1 9 0 21) ≤ 0 → (0 ≤ (am_w ((w.1 9 0 21) - 1)) ∧ ((am_w ((w.1 9 0 21) - 1)) < 7 ∧ ((¬ (¬ x1 < (0 : Int) ∧ (¬ (am_w ((w.1 68 0 (am_w ((w.1 9 0 21) - 1)).toNat) - 1)) < x1)) → Q (some (.inl 0)) w) ∧ ((¬ x1 < (0 : Int) ∧ (¬ (am_w ((w.1 68 0 (am_w ((w.1 9 0 21) - 1)).toNat) - 1)) < x1)) → ((¬ (¬ x2 < (0 : Int) ∧ (¬ (am_w ((w.1 9 0 42) - 1)) < x2)) → Q (some (.inl 0)) w) ∧ ((¬ x2 < (0 : Int) ∧ (¬ (am_w ((w.1 9 0 42) - 1)) < x2)) → ((¬ (¬ x3 < (0 : Int) ∧ (¬ (am_w ((w.1 9 0 42) - 1)) < x3)) → Q (some (.inl 0)) w) ∧ ((¬ x3 < (0 : Int) ∧ (¬ (am_w ((w.1 9 0 42) - 1)) < x3)) → ((¬ (¬ x4 < ((-36524) : Int) ∧ (¬ (73047 : Int) < x4)) → Q (some (.inl 0)) w) ∧ ((¬ x4 < ((-36524) : Int) ∧ (¬ (73047 : Int) < x4)) → am_M (mh_G X) SC (d + 3) 0 0 mX12_isKinBy [.inr (.inr (some (9, 0))), .inl (am_w ((w.1 9 0 21) - 1)), .inl x1, .inl x2, .inl x3, .inl x4, .inl (w.1 9 0 33)] w (fun r w1 => am_A (mh_G X) SC (d + 4) mX12_kin Q 71 [(0, .inr (.inr (some (9, 0)))), (1, .inl x1), (2, .inl x2), (3, .inl x3), (4, .inl x4)] (r.toList ++ []) w1 bc bs)))))))))))))) :
    am_A (mh_G X) SC (d + 4) mX12_kin Q 0 [(0, .inr (.inr (some (9, 0)))), (1, .inl x1), (2, .inl x2), (3, .inl x3), (4, .inl x4)] [] w bc bs := by
  refine am_aload_n dX12_kin_0 (List.Mem.head _) ?_
  refine am_getf (f := 21) (v := .inl (w.1 9 0 21)) dX12_kin_1 hc_10 (by decide) wd_1570 (by decide) rfl rfl ?_
  refine am_ifle (tgt := 78) dX12_kin_4 (by decide) (fun c1 => ?_) (fun c1 => ?_)
  · replace h := h.1 c1
    refine am_iconst dX12_kin_78 (by unfold am_rg; omega) ?_
    exact am_ret (r := some (.inl 0)) dX12_kin_79 (Or.inr (Or.inl ⟨rfl, (Or.inl rfl)⟩)) rfl h
  · replace h := h.2 c1
    refine am_iload_n dX12_kin_7 (List.Mem.tail _ (List.Mem.head _)) ?_
    refine am_iconst dX12_kin_8 (by unfold am_rg; omega) ?_
    refine am_aload_n dX12_kin_9 (List.Mem.head _) ?_
    refine am_getf (f := 6) (v := .inr (.inr (some (68, 0)))) dX12_kin_10 hc_10 (by decide) wd_1555 (by decide) rfl rfl ?_
    refine am_aload_n dX12_kin_13 (List.Mem.head _) ?_
    refine am_getf (f := 21) (v := .inl (w.1 9 0 21)) dX12_kin_14 hc_10 (by decide) wd_1570 (by decide) rfl rfl ?_
    refine am_iconst dX12_kin_17 (by unfold am_rg; omega) ?_
    refine am_isub dX12_kin_18 ?_
    have o2 := h.1
    replace h := h.2
    have o3 := h.1
    replace h := h.2
    refine am_iaload (v := (w.1 68 0 (am_w ((w.1 9 0 21) - 1)).toNat)) dX12_kin_19 (by decide) rfl o2 o3 rfl ?_
    refine am_iconst dX12_kin_20 (by unfold am_rg; omega) ?_
    refine am_isub dX12_kin_21 ?_
    refine am_calls (d' := d + 3) (kc := 0) (ks := 0) (as := [.inl x1, .inl 0, .inl (am_w ((w.1 68 0 (am_w ((w.1 9 0 21) - 1)).toNat) - 1))]) dX12_kin_22 wc_X12_in wd_1859 wd_1860 wd_122 ds_X12_in (by decide) (by omega) (Nat.le_of_ble_eq_true rfl) (Nat.zero_le _) (Nat.zero_le _) rfl (sX12_in (d := d + 2) (x0 := x1) (x1 := 0) (x2 := (am_w ((w.1 68 0 (am_w ((w.1 9 0 21) - 1)).toNat) - 1)))  ?_)
    show am_A (mh_G X) SC (d + 4) mX12_kin Q 25 [(0, .inr (.inr (some (9, 0)))), (1, .inl x1), (2, .inl x2), (3, .inl x3), (4, .inl x4)] [.inl (if (¬ x1 < (0 : Int) ∧ (¬ (am_w ((w.1 68 0 (am_w ((w.1 9 0 21) - 1)).toNat) - 1)) < x1)) then 1 else 0)] w bc bs
    refine am_ifeq (tgt := 78) dX12_kin_25 (by decide) (fun c4 => ?_) (fun c4 => ?_)
    · replace c4 := am_beq1 c4
      replace h := h.1 c4
      refine am_iconst dX12_kin_78 (by unfold am_rg; omega) ?_
      exact am_ret (r := some (.inl 0)) dX12_kin_79 (Or.inr (Or.inl ⟨rfl, (Or.inl rfl)⟩)) rfl h
    · replace c4 := am_beq2 c4
      replace h := h.2 c4
      refine am_aload_n dX12_kin_28 (List.Mem.head _) ?_
      refine am_iload_n dX12_kin_29 (List.Mem.tail _ (List.Mem.tail _ (List.Mem.head _))) ?_
      refine am_callv (d' := d + 3) (kc := 0) (ks := 0) (as := [.inl x2]) dX12_kin_30 wc_X12_isPerson wd_2018 wd_2020 wd_73 wd_122 ds_X12_isPerson (by decide) (by omega) (Nat.le_of_ble_eq_true rfl) (Nat.zero_le _) (Nat.zero_le _) hc_10 (by decide) rfl rfl (sX12_isPerson (d := d + 1) (x1 := x2)  ?_)
      show am_A (mh_G X) SC (d + 4) mX12_kin Q 33 [(0, .inr (.inr (some (9, 0)))), (1, .inl x1), (2, .inl x2), (3, .inl x3), (4, .inl x4)] [.inl (if (¬ x2 < (0 : Int) ∧ (¬ (am_w ((w.1 9 0 42) - 1)) < x2)) then 1 else 0)] w bc bs
      refine am_ifeq (tgt := 78) dX12_kin_33 (by decide) (fun c5 => ?_) (fun c5 => ?_)
      · replace c5 := am_beq1 c5
        replace h := h.1 c5
        refine am_iconst dX12_kin_78 (by unfold am_rg; omega) ?_
        exact am_ret (r := some (.inl 0)) dX12_kin_79 (Or.inr (Or.inl ⟨rfl, (Or.inl rfl)⟩)) rfl h
      · replace c5 := am_beq2 c5
        replace h := h.2 c5
        refine am_aload_n dX12_kin_36 (List.Mem.head _) ?_
        refine am_iload_n dX12_kin_37 (List.Mem.tail _ (List.Mem.tail _ (List.Mem.tail _ (List.Mem.head _)))) ?_
        refine am_callv (d' := d + 3) (kc := 0) (ks := 0) (as := [.inl x3]) dX12_kin_38 wc_X12_isPerson wd_2018 wd_2020 wd_73 wd_122 ds_X12_isPerson (by decide) (by omega) (Nat.le_of_ble_eq_true rfl) (Nat.zero_le _) (Nat.zero_le _) hc_10 (by decide) rfl rfl (sX12_isPerson (d := d + 1) (x1 := x3)  ?_)
        show am_A (mh_G X) SC (d + 4) mX12_kin Q 41 [(0, .inr (.inr (some (9, 0)))), (1, .inl x1), (2, .inl x2), (3, .inl x3), (4, .inl x4)] [.inl (if (¬ x3 < (0 : Int) ∧ (¬ (am_w ((w.1 9 0 42) - 1)) < x3)) then 1 else 0)] w bc bs
        refine am_ifeq (tgt := 78) dX12_kin_41 (by decide) (fun c6 => ?_) (fun c6 => ?_)
        · replace c6 := am_beq1 c6
          replace h := h.1 c6
          refine am_iconst dX12_kin_78 (by unfold am_rg; omega) ?_
          exact am_ret (r := some (.inl 0)) dX12_kin_79 (Or.inr (Or.inl ⟨rfl, (Or.inl rfl)⟩)) rfl h
        · replace c6 := am_beq2 c6
          replace h := h.2 c6
          refine am_iload dX12_kin_44 (List.Mem.tail _ (List.Mem.tail _ (List.Mem.tail _ (List.Mem.tail _ (List.Mem.head _))))) ?_
          refine am_calls (d' := d + 3) (kc := 0) (ks := 0) (as := [.inl x4]) dX12_kin_46 wc_X12_isDay wd_1854 wd_1855 wd_122 ds_X12_isDay (by decide) (by omega) (Nat.le_of_ble_eq_true rfl) (Nat.zero_le _) (Nat.zero_le _) rfl (sX12_isDay (d := d + 1) (x0 := x4)  ?_)
          show am_A (mh_G X) SC (d + 4) mX12_kin Q 49 [(0, .inr (.inr (some (9, 0)))), (1, .inl x1), (2, .inl x2), (3, .inl x3), (4, .inl x4)] [.inl (if (¬ x4 < ((-36524) : Int) ∧ (¬ (73047 : Int) < x4)) then 1 else 0)] w bc bs
          refine am_ifeq (tgt := 78) dX12_kin_49 (by decide) (fun c7 => ?_) (fun c7 => ?_)
          · replace c7 := am_beq1 c7
            replace h := h.1 c7
            refine am_iconst dX12_kin_78 (by unfold am_rg; omega) ?_
            exact am_ret (r := some (.inl 0)) dX12_kin_79 (Or.inr (Or.inl ⟨rfl, (Or.inl rfl)⟩)) rfl h
          · replace c7 := am_beq2 c7
            replace h := h.2 c7
            refine am_aload_n dX12_kin_52 (List.Mem.head _) ?_
            refine am_aload_n dX12_kin_53 (List.Mem.head _) ?_
            refine am_getf (f := 21) (v := .inl (w.1 9 0 21)) dX12_kin_54 hc_10 (by decide) wd_1570 (by decide) rfl rfl ?_
            refine am_iconst dX12_kin_57 (by unfold am_rg; omega) ?_
            refine am_isub dX12_kin_58 ?_
            refine am_iload_n dX12_kin_59 (List.Mem.tail _ (List.Mem.head _)) ?_
            refine am_iload_n dX12_kin_60 (List.Mem.tail _ (List.Mem.tail _ (List.Mem.head _))) ?_
            refine am_iload_n dX12_kin_61 (List.Mem.tail _ (List.Mem.tail _ (List.Mem.tail _ (List.Mem.head _)))) ?_
            refine am_iload dX12_kin_62 (List.Mem.tail _ (List.Mem.tail _ (List.Mem.tail _ (List.Mem.tail _ (List.Mem.head _))))) ?_
            refine am_aload_n dX12_kin_64 (List.Mem.head _) ?_
            refine am_getf (f := 33) (v := .inl (w.1 9 0 33)) dX12_kin_65 hc_10 (by decide) wd_1582 (by decide) rfl rfl ?_
            exact am_callv (d' := d + 3) (kc := 0) (ks := 0) (as := [.inl (am_w ((w.1 9 0 21) - 1)), .inl x1, .inl x2, .inl x3, .inl x4, .inl (w.1 9 0 33)]) dX12_kin_68 wc_X12_isKinBy wd_2038 wd_2040 wd_74 wd_122 ds_X12_isKinBy (by decide) (by omega) (Nat.le_of_ble_eq_true rfl) (Nat.zero_le _) (Nat.zero_le _) hc_10 (by decide) rfl rfl h
theorem bX12_kin_71 {SC : Nat → Nat} {X : mh_X} {d : Nat} {Q : Option am_V → am_W → Prop} {bc bs : Nat} {w : am_W} {x1 : Int} {x2 : Int} {x3 : Int} {x4 : Int} {xs0 : Int}
    (h : ((xs0 = 0 → Q (some (.inl 0)) w) ∧ (¬ xs0 = 0 → Q (some (.inl 1)) w))) :
    am_A (mh_G X) SC (d + 4) mX12_kin Q 71 [(0, .inr (.inr (some (9, 0)))), (1, .inl x1), (2, .inl x2), (3, .inl x3), (4, .inl x4)] [.inl xs0] w bc bs := by
  refine am_ifeq (tgt := 78) dX12_kin_71 (by decide) (fun c1 => ?_) (fun c1 => ?_)
  · replace h := h.1 c1
    refine am_iconst dX12_kin_78 (by unfold am_rg; omega) ?_
    exact am_ret (r := some (.inl 0)) dX12_kin_79 (Or.inr (Or.inl ⟨rfl, (Or.inl rfl)⟩)) rfl h
  · replace h := h.2 c1
    refine am_iconst dX12_kin_74 (by unfold am_rg; omega) ?_
    refine am_goto (tgt := 79) dX12_kin_75 (by decide) ?_
    exact am_ret (r := some (.inl 1)) dX12_kin_79 (Or.inr (Or.inl ⟨rfl, (Or.inr rfl)⟩)) rfl h
-- MourningHouseModel.ruleFor(III)I
theorem dX12_ruleFor_0 : decode mX12_ruleFor.2.1 0 = .ok (.iload_n 1, 1) := by decide +kernel
theorem dX12_ruleFor_1 : decode mX12_ruleFor.2.1 1 = .ok (.iload_n 2, 1) := by decide +kernel
theorem dX12_ruleFor_2 : decode mX12_ruleFor.2.1 2 = .ok (.if_icmp .eq 34, 3) := by decide +kernel
theorem dX12_ruleFor_5 : decode mX12_ruleFor.2.1 5 = .ok (.aload_n 0, 1) := by decide +kernel
theorem dX12_ruleFor_6 : decode mX12_ruleFor.2.1 6 = .ok (.getfield 167, 3) := by decide +kernel
theorem dX12_ruleFor_9 : decode mX12_ruleFor.2.1 9 = .ok (.iload_n 2, 1) := by decide +kernel
theorem dX12_ruleFor_10 : decode mX12_ruleFor.2.1 10 = .ok (.iaload, 1) := by decide +kernel
theorem dX12_ruleFor_11 : decode mX12_ruleFor.2.1 11 = .ok (.ldc_w 325, 3) := by decide +kernel
theorem dX12_ruleFor_14 : decode mX12_ruleFor.2.1 14 = .ok (.if_icmp .eq 22, 3) := by decide +kernel
theorem dX12_ruleFor_17 : decode mX12_ruleFor.2.1 17 = .ok (.aload_n 0, 1) := by decide +kernel
theorem dX12_ruleFor_18 : decode mX12_ruleFor.2.1 18 = .ok (.getfield 170, 3) := by decide +kernel
theorem dX12_ruleFor_21 : decode mX12_ruleFor.2.1 21 = .ok (.iload_n 2, 1) := by decide +kernel
theorem dX12_ruleFor_22 : decode mX12_ruleFor.2.1 22 = .ok (.iaload, 1) := by decide +kernel
theorem dX12_ruleFor_23 : decode mX12_ruleFor.2.1 23 = .ok (.iload_n 3, 1) := by decide +kernel
theorem dX12_ruleFor_24 : decode mX12_ruleFor.2.1 24 = .ok (.if_icmp .gt 12, 3) := by decide +kernel
theorem dX12_ruleFor_27 : decode mX12_ruleFor.2.1 27 = .ok (.aload_n 0, 1) := by decide +kernel
theorem dX12_ruleFor_28 : decode mX12_ruleFor.2.1 28 = .ok (.iload_n 1, 1) := by decide +kernel
theorem dX12_ruleFor_29 : decode mX12_ruleFor.2.1 29 = .ok (.iload_n 3, 1) := by decide +kernel
theorem dX12_ruleFor_30 : decode mX12_ruleFor.2.1 30 = .ok (.invokevirtual 476, 3) := by decide +kernel
theorem dX12_ruleFor_33 : decode mX12_ruleFor.2.1 33 = .ok (.ifCond .ne 5, 3) := by decide +kernel
theorem dX12_ruleFor_36 : decode mX12_ruleFor.2.1 36 = .ok (.iconst (-1), 1) := by decide +kernel
theorem dX12_ruleFor_37 : decode mX12_ruleFor.2.1 37 = .ok (.ireturn, 1) := by decide +kernel
theorem dX12_ruleFor_38 : decode mX12_ruleFor.2.1 38 = .ok (.aload_n 0, 1) := by decide +kernel
theorem dX12_ruleFor_39 : decode mX12_ruleFor.2.1 39 = .ok (.aload_n 0, 1) := by decide +kernel
theorem dX12_ruleFor_40 : decode mX12_ruleFor.2.1 40 = .ok (.getfield 167, 3) := by decide +kernel
theorem dX12_ruleFor_43 : decode mX12_ruleFor.2.1 43 = .ok (.iload_n 2, 1) := by decide +kernel
theorem dX12_ruleFor_44 : decode mX12_ruleFor.2.1 44 = .ok (.iaload, 1) := by decide +kernel
theorem dX12_ruleFor_45 : decode mX12_ruleFor.2.1 45 = .ok (.iload_n 3, 1) := by decide +kernel
theorem dX12_ruleFor_46 : decode mX12_ruleFor.2.1 46 = .ok (.invokevirtual 487, 3) := by decide +kernel
theorem dX12_ruleFor_49 : decode mX12_ruleFor.2.1 49 = .ok (.istore 4, 2) := by decide +kernel
theorem dX12_ruleFor_51 : decode mX12_ruleFor.2.1 51 = .ok (.iload 4, 2) := by decide +kernel
theorem dX12_ruleFor_53 : decode mX12_ruleFor.2.1 53 = .ok (.iconst (-1), 1) := by decide +kernel
theorem dX12_ruleFor_54 : decode mX12_ruleFor.2.1 54 = .ok (.if_icmp .ne 5, 3) := by decide +kernel
theorem dX12_ruleFor_57 : decode mX12_ruleFor.2.1 57 = .ok (.iconst (-1), 1) := by decide +kernel
theorem dX12_ruleFor_58 : decode mX12_ruleFor.2.1 58 = .ok (.ireturn, 1) := by decide +kernel
theorem dX12_ruleFor_59 : decode mX12_ruleFor.2.1 59 = .ok (.iconst (-1), 1) := by decide +kernel
theorem dX12_ruleFor_60 : decode mX12_ruleFor.2.1 60 = .ok (.istore 5, 2) := by decide +kernel
theorem dX12_ruleFor_62 : decode mX12_ruleFor.2.1 62 = .ok (.iconst 0, 1) := by decide +kernel
theorem dX12_ruleFor_63 : decode mX12_ruleFor.2.1 63 = .ok (.istore 6, 2) := by decide +kernel
theorem dX12_ruleFor_65 : decode mX12_ruleFor.2.1 65 = .ok (.iload 6, 2) := by decide +kernel
theorem dX12_ruleFor_67 : decode mX12_ruleFor.2.1 67 = .ok (.aload_n 0, 1) := by decide +kernel
theorem dX12_ruleFor_68 : decode mX12_ruleFor.2.1 68 = .ok (.getfield 17, 3) := by decide +kernel
theorem dX12_ruleFor_71 : decode mX12_ruleFor.2.1 71 = .ok (.iload 4, 2) := by decide +kernel
theorem dX12_ruleFor_73 : decode mX12_ruleFor.2.1 73 = .ok (.iaload, 1) := by decide +kernel
theorem dX12_ruleFor_74 : decode mX12_ruleFor.2.1 74 = .ok (.if_icmp .ge 65, 3) := by decide +kernel
theorem dX12_ruleFor_77 : decode mX12_ruleFor.2.1 77 = .ok (.aload_n 0, 1) := by decide +kernel
theorem dX12_ruleFor_78 : decode mX12_ruleFor.2.1 78 = .ok (.iload 4, 2) := by decide +kernel
theorem dX12_ruleFor_80 : decode mX12_ruleFor.2.1 80 = .ok (.iload 6, 2) := by decide +kernel
theorem dX12_ruleFor_82 : decode mX12_ruleFor.2.1 82 = .ok (.iload_n 1, 1) := by decide +kernel
theorem dX12_ruleFor_83 : decode mX12_ruleFor.2.1 83 = .ok (.iload_n 2, 1) := by decide +kernel
theorem dX12_ruleFor_84 : decode mX12_ruleFor.2.1 84 = .ok (.aload_n 0, 1) := by decide +kernel
theorem dX12_ruleFor_85 : decode mX12_ruleFor.2.1 85 = .ok (.getfield 167, 3) := by decide +kernel
theorem dX12_ruleFor_88 : decode mX12_ruleFor.2.1 88 = .ok (.iload_n 2, 1) := by decide +kernel
theorem dX12_ruleFor_89 : decode mX12_ruleFor.2.1 89 = .ok (.iaload, 1) := by decide +kernel
theorem dX12_ruleFor_90 : decode mX12_ruleFor.2.1 90 = .ok (.iload_n 3, 1) := by decide +kernel
theorem dX12_ruleFor_91 : decode mX12_ruleFor.2.1 91 = .ok (.invokevirtual 483, 3) := by decide +kernel
theorem dX12_ruleFor_94 : decode mX12_ruleFor.2.1 94 = .ok (.ifCond .ne 6, 3) := by decide +kernel
theorem dX12_ruleFor_97 : decode mX12_ruleFor.2.1 97 = .ok (.goto 36, 3) := by decide +kernel
theorem dX12_ruleFor_100 : decode mX12_ruleFor.2.1 100 = .ok (.iload 5, 2) := by decide +kernel
theorem dX12_ruleFor_102 : decode mX12_ruleFor.2.1 102 = .ok (.iconst (-1), 1) := by decide +kernel
theorem dX12_ruleFor_103 : decode mX12_ruleFor.2.1 103 = .ok (.if_icmp .eq 26, 3) := by decide +kernel
theorem dX12_ruleFor_106 : decode mX12_ruleFor.2.1 106 = .ok (.aload_n 0, 1) := by decide +kernel
theorem dX12_ruleFor_107 : decode mX12_ruleFor.2.1 107 = .ok (.getfield 25, 3) := by decide +kernel
theorem dX12_ruleFor_110 : decode mX12_ruleFor.2.1 110 = .ok (.iload 4, 2) := by decide +kernel
theorem dX12_ruleFor_112 : decode mX12_ruleFor.2.1 112 = .ok (.aaload, 1) := by decide +kernel
theorem dX12_ruleFor_113 : decode mX12_ruleFor.2.1 113 = .ok (.iload 6, 2) := by decide +kernel
theorem dX12_ruleFor_115 : decode mX12_ruleFor.2.1 115 = .ok (.iaload, 1) := by decide +kernel
theorem dX12_ruleFor_116 : decode mX12_ruleFor.2.1 116 = .ok (.aload_n 0, 1) := by decide +kernel
theorem dX12_ruleFor_117 : decode mX12_ruleFor.2.1 117 = .ok (.getfield 25, 3) := by decide +kernel
theorem dX12_ruleFor_120 : decode mX12_ruleFor.2.1 120 = .ok (.iload 4, 2) := by decide +kernel
theorem dX12_ruleFor_122 : decode mX12_ruleFor.2.1 122 = .ok (.aaload, 1) := by decide +kernel
theorem dX12_ruleFor_123 : decode mX12_ruleFor.2.1 123 = .ok (.iload 5, 2) := by decide +kernel
theorem dX12_ruleFor_125 : decode mX12_ruleFor.2.1 125 = .ok (.iaload, 1) := by decide +kernel
theorem dX12_ruleFor_126 : decode mX12_ruleFor.2.1 126 = .ok (.if_icmp .gt 7, 3) := by decide +kernel
theorem dX12_ruleFor_129 : decode mX12_ruleFor.2.1 129 = .ok (.iload 6, 2) := by decide +kernel
theorem dX12_ruleFor_131 : decode mX12_ruleFor.2.1 131 = .ok (.istore 5, 2) := by decide +kernel
theorem dX12_ruleFor_133 : decode mX12_ruleFor.2.1 133 = .ok (.iinc 6 1, 3) := by decide +kernel
theorem dX12_ruleFor_136 : decode mX12_ruleFor.2.1 136 = .ok (.goto (-71), 3) := by decide +kernel
theorem dX12_ruleFor_139 : decode mX12_ruleFor.2.1 139 = .ok (.iload 5, 2) := by decide +kernel
theorem dX12_ruleFor_141 : decode mX12_ruleFor.2.1 141 = .ok (.ireturn, 1) := by decide +kernel
theorem bX12_ruleFor_0 {SC : Nat → Nat} {X : mh_X} {d : Nat} {Q : Option am_V → am_W → Prop} {bc bs : Nat} {w : am_W} {x1 : Int} {x2 : Int} {x3 : Int}
    (h : ((x1 = x2 → Q (some (.inl (-1))) w) ∧ (¬ x1 = x2 → (0 ≤ x2 ∧ (x2 < 40 ∧ (((w.1 102 0 x2.toNat) = (-2147483648) → Q (some (.inl (-1))) w) ∧ (¬ (w.1 102 0 x2.toNat) = (-2147483648) → ((x3 < (w.1 103 0 x2.toNat) → Q (some (.inl (-1))) w) ∧ (¬ x3 < (w.1 103 0 x2.toNat) → (0 ≤ x1 ∧ (x1 < 40 ∧ (((¬ x3 < (w.1 101 0 x1.toNat)) → am_M (mh_G X) SC (d + 3) 0 0 mX12_lawOf [.inr (.inr (some (9, 0))), .inl (w.1 102 0 x2.toNat), .inl x3] w (fun r w1 => am_A (mh_G X) SC (d + 4) mX12_ruleFor Q 49 [(0, .inr (.inr (some (9, 0)))), (1, .inl x1), (2, .inl x2), (3, .inl x3)] (r.toList ++ []) w1 bc bs)) ∧ (¬ (¬ x3 < (w.1 101 0 x1.toNat)) → Q (some (.inl (-1))) w))))))))))))) :
    am_A (mh_G X) SC (d + 4) mX12_ruleFor Q 0 [(0, .inr (.inr (some (9, 0)))), (1, .inl x1), (2, .inl x2), (3, .inl x3)] [] w bc bs := by
  refine am_iload_n dX12_ruleFor_0 (List.Mem.tail _ (List.Mem.head _)) ?_
  refine am_iload_n dX12_ruleFor_1 (List.Mem.tail _ (List.Mem.tail _ (List.Mem.head _))) ?_
  refine am_icmpeq (tgt := 36) dX12_ruleFor_2 (by decide) (fun c1 => ?_) (fun c1 => ?_)
  · replace h := h.1 c1
    refine am_iconst dX12_ruleFor_36 (by unfold am_rg; omega) ?_
    exact am_ret (r := some (.inl (-1))) dX12_ruleFor_37 (Or.inl rfl) rfl h
  · replace h := h.2 c1
    refine am_aload_n dX12_ruleFor_5 (List.Mem.head _) ?_
    refine am_getf (f := 40) (v := .inr (.inr (some (102, 0)))) dX12_ruleFor_6 hc_10 (by decide) wd_1589 (by decide) rfl rfl ?_
    refine am_iload_n dX12_ruleFor_9 (List.Mem.tail _ (List.Mem.tail _ (List.Mem.head _))) ?_
    have o2 := h.1
    replace h := h.2
    have o3 := h.1
    replace h := h.2
    refine am_iaload (v := (w.1 102 0 x2.toNat)) dX12_ruleFor_10 (by decide) rfl o2 o3 rfl ?_
    refine am_ldcwV (n := (-2147483648)) dX12_ruleFor_11 (by decide) wd_1887 (by unfold am_rg; omega) ?_
    refine am_icmpeq (tgt := 36) dX12_ruleFor_14 (by decide) (fun c4 => ?_) (fun c4 => ?_)
    · replace h := h.1 c4
      refine am_iconst dX12_ruleFor_36 (by unfold am_rg; omega) ?_
      exact am_ret (r := some (.inl (-1))) dX12_ruleFor_37 (Or.inl rfl) rfl h
    · replace h := h.2 c4
      refine am_aload_n dX12_ruleFor_17 (List.Mem.head _) ?_
      refine am_getf (f := 41) (v := .inr (.inr (some (103, 0)))) dX12_ruleFor_18 hc_10 (by decide) wd_1590 (by decide) rfl rfl ?_
      refine am_iload_n dX12_ruleFor_21 (List.Mem.tail _ (List.Mem.tail _ (List.Mem.head _))) ?_
      refine am_iaload (v := (w.1 103 0 x2.toNat)) dX12_ruleFor_22 (by decide) rfl o2 o3 rfl ?_
      refine am_iload_n dX12_ruleFor_23 (List.Mem.tail _ (List.Mem.tail _ (List.Mem.tail _ (List.Mem.head _)))) ?_
      refine am_icmpgt (tgt := 36) dX12_ruleFor_24 (by decide) (fun c5 => ?_) (fun c5 => ?_)
      · replace h := h.1 c5
        refine am_iconst dX12_ruleFor_36 (by unfold am_rg; omega) ?_
        exact am_ret (r := some (.inl (-1))) dX12_ruleFor_37 (Or.inl rfl) rfl h
      · replace h := h.2 c5
        refine am_aload_n dX12_ruleFor_27 (List.Mem.head _) ?_
        refine am_iload_n dX12_ruleFor_28 (List.Mem.tail _ (List.Mem.head _)) ?_
        refine am_iload_n dX12_ruleFor_29 (List.Mem.tail _ (List.Mem.tail _ (List.Mem.tail _ (List.Mem.head _)))) ?_
        have o6 := h.1
        replace h := h.2
        have o7 := h.1
        replace h := h.2
        refine am_callv (d' := d + 3) (kc := 0) (ks := 0) (as := [.inl x1, .inl x3]) dX12_ruleFor_30 wc_X12_isThere wd_2042 wd_2044 wd_75 wd_122 ds_X12_isThere (by decide) (by omega) (Nat.le_of_ble_eq_true rfl) (Nat.zero_le _) (Nat.zero_le _) hc_10 (by decide) rfl rfl (sX12_isThere (d := d + 2) (x1 := x1) (x2 := x3) o6 o7 ?_)
        show am_A (mh_G X) SC (d + 4) mX12_ruleFor Q 33 [(0, .inr (.inr (some (9, 0)))), (1, .inl x1), (2, .inl x2), (3, .inl x3)] [.inl (if (¬ x3 < (w.1 101 0 x1.toNat)) then 1 else 0)] w bc bs
        refine am_ifne (tgt := 38) dX12_ruleFor_33 (by decide) (fun c8 => ?_) (fun c8 => ?_)
        · replace c8 := am_bne1 c8
          replace h := h.1 c8
          refine am_aload_n dX12_ruleFor_38 (List.Mem.head _) ?_
          refine am_aload_n dX12_ruleFor_39 (List.Mem.head _) ?_
          refine am_getf (f := 40) (v := .inr (.inr (some (102, 0)))) dX12_ruleFor_40 hc_10 (by decide) wd_1589 (by decide) rfl rfl ?_
          refine am_iload_n dX12_ruleFor_43 (List.Mem.tail _ (List.Mem.tail _ (List.Mem.head _))) ?_
          refine am_iaload (v := (w.1 102 0 x2.toNat)) dX12_ruleFor_44 (by decide) rfl o2 o3 rfl ?_
          refine am_iload_n dX12_ruleFor_45 (List.Mem.tail _ (List.Mem.tail _ (List.Mem.tail _ (List.Mem.head _)))) ?_
          exact am_callv (d' := d + 3) (kc := 0) (ks := 0) (as := [.inl (w.1 102 0 x2.toNat), .inl x3]) dX12_ruleFor_46 wc_X12_lawOf wd_2077 wd_2079 wd_82 wd_122 ds_X12_lawOf (by decide) (by omega) (Nat.le_of_ble_eq_true rfl) (Nat.zero_le _) (Nat.zero_le _) hc_10 (by decide) rfl rfl h
        · replace c8 := am_bne2 c8
          replace h := h.2 c8
          refine am_iconst dX12_ruleFor_36 (by unfold am_rg; omega) ?_
          exact am_ret (r := some (.inl (-1))) dX12_ruleFor_37 (Or.inl rfl) rfl h
theorem bX12_ruleFor_49 {SC : Nat → Nat} {X : mh_X} {d : Nat} {Q : Option am_V → am_W → Prop} {bc bs : Nat} {w : am_W} {x1 : Int} {x2 : Int} {x3 : Int} {xs0 : Int}
    (h : ((¬ xs0 = (-1) → am_A (mh_G X) SC (d + 4) mX12_ruleFor Q 65 [(0, .inr (.inr (some (9, 0)))), (1, .inl x1), (2, .inl x2), (3, .inl x3), (4, .inl xs0), (5, .inl (-1)), (6, .inl 0)] [] w bc bs) ∧ (xs0 = (-1) → Q (some (.inl (-1))) w))) :
    am_A (mh_G X) SC (d + 4) mX12_ruleFor Q 49 [(0, .inr (.inr (some (9, 0)))), (1, .inl x1), (2, .inl x2), (3, .inl x3)] [.inl xs0] w bc bs := by
  refine am_istore (ls' := [(4, .inl xs0), (0, .inr (.inr (some (9, 0)))), (1, .inl x1), (2, .inl x2), (3, .inl x3)]) dX12_ruleFor_49 (by decide) rfl ?_
  refine am_iload dX12_ruleFor_51 (List.Mem.head _) ?_
  refine am_iconst dX12_ruleFor_53 (by unfold am_rg; omega) ?_
  refine am_icmpne (tgt := 59) dX12_ruleFor_54 (by decide) (fun c1 => ?_) (fun c1 => ?_)
  · replace h := h.1 c1
    refine am_iconst dX12_ruleFor_59 (by unfold am_rg; omega) ?_
    refine am_istore (ls' := [(5, .inl (-1)), (4, .inl xs0), (0, .inr (.inr (some (9, 0)))), (1, .inl x1), (2, .inl x2), (3, .inl x3)]) dX12_ruleFor_60 (by decide) rfl ?_
    refine am_iconst dX12_ruleFor_62 (by unfold am_rg; omega) ?_
    refine am_istore (ls' := [(6, .inl 0), (5, .inl (-1)), (4, .inl xs0), (0, .inr (.inr (some (9, 0)))), (1, .inl x1), (2, .inl x2), (3, .inl x3)]) dX12_ruleFor_63 (by decide) rfl ?_
    exact am_sub [3, 4, 5, 6, 2, 1, 0] rfl h
  · replace h := h.2 c1
    refine am_iconst dX12_ruleFor_57 (by unfold am_rg; omega) ?_
    exact am_ret (r := some (.inl (-1))) dX12_ruleFor_58 (Or.inl rfl) rfl h
theorem bX12_ruleFor_65 {SC : Nat → Nat} {X : mh_X} {d : Nat} {Q : Option am_V → am_W → Prop} {bc bs : Nat} {w : am_W} {x1 : Int} {x2 : Int} {x3 : Int} {x4 : Int} {x5 : Int} {x6 : Int}
    (h : (0 ≤ x4 ∧ (x4 < 7 ∧ (((w.1 68 0 x4.toNat) ≤ x6 → Q (some (.inl x5)) w) ∧ (¬ (w.1 68 0 x4.toNat) ≤ x6 → (0 ≤ x2 ∧ (x2 < 40 ∧ am_M (mh_G X) SC (d + 3) 0 0 mX12_isKinBy [.inr (.inr (some (9, 0))), .inl x4, .inl x6, .inl x1, .inl x2, .inl (w.1 102 0 x2.toNat), .inl x3] w (fun r w1 => am_A (mh_G X) SC (d + 4) mX12_ruleFor Q 94 [(0, .inr (.inr (some (9, 0)))), (1, .inl x1), (2, .inl x2), (3, .inl x3), (4, .inl x4), (5, .inl x5), (6, .inl x6)] (r.toList ++ []) w1 bc bs)))))))) :
    am_A (mh_G X) SC (d + 4) mX12_ruleFor Q 65 [(0, .inr (.inr (some (9, 0)))), (1, .inl x1), (2, .inl x2), (3, .inl x3), (4, .inl x4), (5, .inl x5), (6, .inl x6)] [] w bc bs := by
  refine am_iload dX12_ruleFor_65 (List.Mem.tail _ (List.Mem.tail _ (List.Mem.tail _ (List.Mem.tail _ (List.Mem.tail _ (List.Mem.tail _ (List.Mem.head _))))))) ?_
  refine am_aload_n dX12_ruleFor_67 (List.Mem.head _) ?_
  refine am_getf (f := 6) (v := .inr (.inr (some (68, 0)))) dX12_ruleFor_68 hc_10 (by decide) wd_1555 (by decide) rfl rfl ?_
  refine am_iload dX12_ruleFor_71 (List.Mem.tail _ (List.Mem.tail _ (List.Mem.tail _ (List.Mem.tail _ (List.Mem.head _))))) ?_
  have o1 := h.1
  replace h := h.2
  have o2 := h.1
  replace h := h.2
  refine am_iaload (v := (w.1 68 0 x4.toNat)) dX12_ruleFor_73 (by decide) rfl o1 o2 rfl ?_
  refine am_icmpge (tgt := 139) dX12_ruleFor_74 (by decide) (fun c3 => ?_) (fun c3 => ?_)
  · replace h := h.1 c3
    refine am_iload dX12_ruleFor_139 (List.Mem.tail _ (List.Mem.tail _ (List.Mem.tail _ (List.Mem.tail _ (List.Mem.tail _ (List.Mem.head _)))))) ?_
    exact am_ret (r := some (.inl x5)) dX12_ruleFor_141 (Or.inl rfl) rfl h
  · replace h := h.2 c3
    refine am_aload_n dX12_ruleFor_77 (List.Mem.head _) ?_
    refine am_iload dX12_ruleFor_78 (List.Mem.tail _ (List.Mem.tail _ (List.Mem.tail _ (List.Mem.tail _ (List.Mem.head _))))) ?_
    refine am_iload dX12_ruleFor_80 (List.Mem.tail _ (List.Mem.tail _ (List.Mem.tail _ (List.Mem.tail _ (List.Mem.tail _ (List.Mem.tail _ (List.Mem.head _))))))) ?_
    refine am_iload_n dX12_ruleFor_82 (List.Mem.tail _ (List.Mem.head _)) ?_
    refine am_iload_n dX12_ruleFor_83 (List.Mem.tail _ (List.Mem.tail _ (List.Mem.head _))) ?_
    refine am_aload_n dX12_ruleFor_84 (List.Mem.head _) ?_
    refine am_getf (f := 40) (v := .inr (.inr (some (102, 0)))) dX12_ruleFor_85 hc_10 (by decide) wd_1589 (by decide) rfl rfl ?_
    refine am_iload_n dX12_ruleFor_88 (List.Mem.tail _ (List.Mem.tail _ (List.Mem.head _))) ?_
    have o4 := h.1
    replace h := h.2
    have o5 := h.1
    replace h := h.2
    refine am_iaload (v := (w.1 102 0 x2.toNat)) dX12_ruleFor_89 (by decide) rfl o4 o5 rfl ?_
    refine am_iload_n dX12_ruleFor_90 (List.Mem.tail _ (List.Mem.tail _ (List.Mem.tail _ (List.Mem.head _)))) ?_
    exact am_callv (d' := d + 3) (kc := 0) (ks := 0) (as := [.inl x4, .inl x6, .inl x1, .inl x2, .inl (w.1 102 0 x2.toNat), .inl x3]) dX12_ruleFor_91 wc_X12_isKinBy wd_2038 wd_2040 wd_74 wd_122 ds_X12_isKinBy (by decide) (by omega) (Nat.le_of_ble_eq_true rfl) (Nat.zero_le _) (Nat.zero_le _) hc_10 (by decide) rfl rfl h
theorem bX12_ruleFor_94 {SC : Nat → Nat} {X : mh_X} {d : Nat} {Q : Option am_V → am_W → Prop} {bc bs : Nat} {w : am_W} {x1 : Int} {x2 : Int} {x3 : Int} {x4 : Int} {x5 : Int} {x6 : Int} {xs0 : Int}
    (h : ((¬ xs0 = 0 → ((x5 = (-1) → am_A (mh_G X) SC (d + 4) mX12_ruleFor Q 129 [(0, .inr (.inr (some (9, 0)))), (1, .inl x1), (2, .inl x2), (3, .inl x3), (4, .inl x4), (6, .inl x6)] [] w bc bs) ∧ (¬ x5 = (-1) → (0 ≤ x4 ∧ (x4 < 7 ∧ (0 ≤ x6 ∧ (x6 < 30 ∧ (0 ≤ x5 ∧ (x5 < 30 ∧ (((w.1 71 x4.toNat x5.toNat) < (w.1 71 x4.toNat x6.toNat) → am_A (mh_G X) SC (d + 4) mX12_ruleFor Q 133 [(0, .inr (.inr (some (9, 0)))), (1, .inl x1), (2, .inl x2), (3, .inl x3), (4, .inl x4), (5, .inl x5), (6, .inl x6)] [] w bc bs) ∧ (¬ (w.1 71 x4.toNat x5.toNat) < (w.1 71 x4.toNat x6.toNat) → am_A (mh_G X) SC (d + 4) mX12_ruleFor Q 129 [(0, .inr (.inr (some (9, 0)))), (1, .inl x1), (2, .inl x2), (3, .inl x3), (4, .inl x4), (6, .inl x6)] [] w bc bs))))))))))) ∧ (xs0 = 0 → am_A (mh_G X) SC (d + 4) mX12_ruleFor Q 133 [(0, .inr (.inr (some (9, 0)))), (1, .inl x1), (2, .inl x2), (3, .inl x3), (4, .inl x4), (5, .inl x5), (6, .inl x6)] [] w bc bs))) :
    am_A (mh_G X) SC (d + 4) mX12_ruleFor Q 94 [(0, .inr (.inr (some (9, 0)))), (1, .inl x1), (2, .inl x2), (3, .inl x3), (4, .inl x4), (5, .inl x5), (6, .inl x6)] [.inl xs0] w bc bs := by
  refine am_ifne (tgt := 100) dX12_ruleFor_94 (by decide) (fun c1 => ?_) (fun c1 => ?_)
  · replace h := h.1 c1
    refine am_iload dX12_ruleFor_100 (List.Mem.tail _ (List.Mem.tail _ (List.Mem.tail _ (List.Mem.tail _ (List.Mem.tail _ (List.Mem.head _)))))) ?_
    refine am_iconst dX12_ruleFor_102 (by unfold am_rg; omega) ?_
    refine am_icmpeq (tgt := 129) dX12_ruleFor_103 (by decide) (fun c2 => ?_) (fun c2 => ?_)
    · replace h := h.1 c2
      exact am_sub [0, 1, 2, 3, 4, 6] rfl h
    · replace h := h.2 c2
      refine am_aload_n dX12_ruleFor_106 (List.Mem.head _) ?_
      refine am_getf (f := 8) (v := .inr (.inr (some (70, 0)))) dX12_ruleFor_107 hc_10 (by decide) wd_1557 (by decide) rfl rfl ?_
      refine am_iload dX12_ruleFor_110 (List.Mem.tail _ (List.Mem.tail _ (List.Mem.tail _ (List.Mem.tail _ (List.Mem.head _))))) ?_
      have o3 := h.1
      replace h := h.2
      have o4 := h.1
      replace h := h.2
      refine am_aaload (kd := 5) (r := some (71, x4.toNat)) dX12_ruleFor_112 (by decide) rfl (by decide) (by decide) o3 o4 rfl ?_
      refine am_iload dX12_ruleFor_113 (List.Mem.tail _ (List.Mem.tail _ (List.Mem.tail _ (List.Mem.tail _ (List.Mem.tail _ (List.Mem.tail _ (List.Mem.head _))))))) ?_
      have o5 := h.1
      replace h := h.2
      have o6 := h.1
      replace h := h.2
      refine am_iaload (v := (w.1 71 x4.toNat x6.toNat)) dX12_ruleFor_115 (by decide) rfl o5 o6 rfl ?_
      refine am_aload_n dX12_ruleFor_116 (List.Mem.head _) ?_
      refine am_getf (f := 8) (v := .inr (.inr (some (70, 0)))) dX12_ruleFor_117 hc_10 (by decide) wd_1557 (by decide) rfl rfl ?_
      refine am_iload dX12_ruleFor_120 (List.Mem.tail _ (List.Mem.tail _ (List.Mem.tail _ (List.Mem.tail _ (List.Mem.head _))))) ?_
      refine am_aaload (kd := 5) (r := some (71, x4.toNat)) dX12_ruleFor_122 (by decide) rfl (by decide) (by decide) o3 o4 rfl ?_
      refine am_iload dX12_ruleFor_123 (List.Mem.tail _ (List.Mem.tail _ (List.Mem.tail _ (List.Mem.tail _ (List.Mem.tail _ (List.Mem.head _)))))) ?_
      have o7 := h.1
      replace h := h.2
      have o8 := h.1
      replace h := h.2
      refine am_iaload (v := (w.1 71 x4.toNat x5.toNat)) dX12_ruleFor_125 (by decide) rfl o7 o8 rfl ?_
      refine am_icmpgt (tgt := 133) dX12_ruleFor_126 (by decide) (fun c9 => ?_) (fun c9 => ?_)
      · replace h := h.1 c9
        exact h
      · replace h := h.2 c9
        exact am_sub [0, 1, 2, 3, 4, 6] rfl h
  · replace h := h.2 c1
    refine am_goto (tgt := 133) dX12_ruleFor_97 (by decide) ?_
    exact h
theorem bX12_ruleFor_129 {SC : Nat → Nat} {X : mh_X} {d : Nat} {Q : Option am_V → am_W → Prop} {bc bs : Nat} {w : am_W} {x1 : Int} {x2 : Int} {x3 : Int} {x4 : Int} {x6 : Int}
    (h : am_A (mh_G X) SC (d + 4) mX12_ruleFor Q 133 [(0, .inr (.inr (some (9, 0)))), (1, .inl x1), (2, .inl x2), (3, .inl x3), (4, .inl x4), (5, .inl x6), (6, .inl x6)] [] w bc bs) :
    am_A (mh_G X) SC (d + 4) mX12_ruleFor Q 129 [(0, .inr (.inr (some (9, 0)))), (1, .inl x1), (2, .inl x2), (3, .inl x3), (4, .inl x4), (6, .inl x6)] [] w bc bs := by
  refine am_iload dX12_ruleFor_129 (List.Mem.tail _ (List.Mem.tail _ (List.Mem.tail _ (List.Mem.tail _ (List.Mem.tail _ (List.Mem.head _)))))) ?_
  refine am_istore (ls' := [(5, .inl x6), (0, .inr (.inr (some (9, 0)))), (1, .inl x1), (2, .inl x2), (3, .inl x3), (4, .inl x4), (6, .inl x6)]) dX12_ruleFor_131 (by decide) rfl ?_
  exact am_sub [1, 2, 3, 4, 5, 0, 6] rfl h
theorem bX12_ruleFor_133 {SC : Nat → Nat} {X : mh_X} {d : Nat} {Q : Option am_V → am_W → Prop} {bc bs : Nat} {w : am_W} {x1 : Int} {x2 : Int} {x3 : Int} {x4 : Int} {x5 : Int} {x6 : Int}
    (h : am_A (mh_G X) SC (d + 4) mX12_ruleFor Q 65 [(0, .inr (.inr (some (9, 0)))), (1, .inl x1), (2, .inl x2), (3, .inl x3), (4, .inl x4), (5, .inl x5), (6, .inl (am_w (x6 + 1)))] [] w bc bs) :
    am_A (mh_G X) SC (d + 4) mX12_ruleFor Q 133 [(0, .inr (.inr (some (9, 0)))), (1, .inl x1), (2, .inl x2), (3, .inl x3), (4, .inl x4), (5, .inl x5), (6, .inl x6)] [] w bc bs := by
  refine am_iinc (ls' := [(6, .inl (am_w (x6 + 1))), (0, .inr (.inr (some (9, 0)))), (1, .inl x1), (2, .inl x2), (3, .inl x3), (4, .inl x4), (5, .inl x5)]) dX12_ruleFor_133 (List.Mem.tail _ (List.Mem.tail _ (List.Mem.tail _ (List.Mem.tail _ (List.Mem.tail _ (List.Mem.tail _ (List.Mem.head _))))))) (by decide) rfl ?_
  refine am_goto (tgt := 65) dX12_ruleFor_136 (by decide) ?_
  exact am_sub [1, 2, 3, 4, 5, 6, 0] rfl h
