-- MourningHouse$Calendar.has(I)Z
theorem dX0_has_0 : decode mX0_has.2.1 0 = .ok (.iload_n 0, 1) := by decide +kernel
theorem dX0_has_1 : decode mX0_has.2.1 1 = .ok (.ldc 9, 2) := by decide +kernel
theorem dX0_has_3 : decode mX0_has.2.1 3 = .ok (.if_icmp .lt 13, 3) := by decide +kernel
theorem dX0_has_6 : decode mX0_has.2.1 6 = .ok (.iload_n 0, 1) := by decide +kernel
theorem dX0_has_7 : decode mX0_has.2.1 7 = .ok (.ldc 10, 2) := by decide +kernel
theorem dX0_has_9 : decode mX0_has.2.1 9 = .ok (.if_icmp .gt 7, 3) := by decide +kernel
theorem dX0_has_12 : decode mX0_has.2.1 12 = .ok (.iconst 1, 1) := by decide +kernel
theorem dX0_has_13 : decode mX0_has.2.1 13 = .ok (.goto 4, 3) := by decide +kernel
theorem dX0_has_16 : decode mX0_has.2.1 16 = .ok (.iconst 0, 1) := by decide +kernel
theorem dX0_has_17 : decode mX0_has.2.1 17 = .ok (.ireturn, 1) := by decide +kernel
theorem bX0_has_0 {SC : Nat → Nat} {X : mh_X} {d : Nat} {Q : Option am_V → am_W → Prop} {bc bs : Nat} {w : am_W} {x0 : Int}
    (h : ((x0 < (-36524) → Q (some (.inl 0)) w) ∧ (¬ x0 < (-36524) → ((73047 < x0 → Q (some (.inl 0)) w) ∧ (¬ 73047 < x0 → Q (some (.inl 1)) w))))) :
    am_A (mh_G X) SC (d + 1) mX0_has Q 0 [(0, .inl x0)] [] w bc bs := by
  refine am_iload_n dX0_has_0 (List.Mem.head _) ?_
  refine am_ldcV (n := (-36524)) dX0_has_1 (by decide) wd_1007 (by unfold am_rg; omega) ?_
  refine am_icmplt (tgt := 16) dX0_has_3 (by decide) (fun c1 => ?_) (fun c1 => ?_)
  · replace h := h.1 c1
    refine am_iconst dX0_has_16 (by unfold am_rg; omega) ?_
    exact am_ret (r := some (.inl 0)) dX0_has_17 (Or.inr (Or.inl ⟨rfl, (Or.inl rfl)⟩)) rfl h
  · replace h := h.2 c1
    refine am_iload_n dX0_has_6 (List.Mem.head _) ?_
    refine am_ldcV (n := 73047) dX0_has_7 (by decide) wd_1008 (by unfold am_rg; omega) ?_
    refine am_icmpgt (tgt := 16) dX0_has_9 (by decide) (fun c2 => ?_) (fun c2 => ?_)
    · replace h := h.1 c2
      refine am_iconst dX0_has_16 (by unfold am_rg; omega) ?_
      exact am_ret (r := some (.inl 0)) dX0_has_17 (Or.inr (Or.inl ⟨rfl, (Or.inl rfl)⟩)) rfl h
    · replace h := h.2 c2
      refine am_iconst dX0_has_12 (by unfold am_rg; omega) ?_
      refine am_goto (tgt := 17) dX0_has_13 (by decide) ?_
      exact am_ret (r := some (.inl 1)) dX0_has_17 (Or.inr (Or.inl ⟨rfl, (Or.inr rfl)⟩)) rfl h
-- MourningHouse$Calendar.hasDate(I)Z
theorem dX0_hasDate_0 : decode mX0_hasDate.2.1 0 = .ok (.iload_n 0, 1) := by decide +kernel
theorem dX0_hasDate_1 : decode mX0_hasDate.2.1 1 = .ok (.ldc 11, 2) := by decide +kernel
theorem dX0_hasDate_3 : decode mX0_hasDate.2.1 3 = .ok (.if_icmp .ge 5, 3) := by decide +kernel
theorem dX0_hasDate_6 : decode mX0_hasDate.2.1 6 = .ok (.iconst 0, 1) := by decide +kernel
theorem dX0_hasDate_7 : decode mX0_hasDate.2.1 7 = .ok (.ireturn, 1) := by decide +kernel
theorem dX0_hasDate_8 : decode mX0_hasDate.2.1 8 = .ok (.iload_n 0, 1) := by decide +kernel
theorem dX0_hasDate_9 : decode mX0_hasDate.2.1 9 = .ok (.sipush 10000, 3) := by decide +kernel
theorem dX0_hasDate_12 : decode mX0_hasDate.2.1 12 = .ok (.idiv, 1) := by decide +kernel
theorem dX0_hasDate_13 : decode mX0_hasDate.2.1 13 = .ok (.istore_n 1, 1) := by decide +kernel
theorem dX0_hasDate_14 : decode mX0_hasDate.2.1 14 = .ok (.iload_n 0, 1) := by decide +kernel
theorem dX0_hasDate_15 : decode mX0_hasDate.2.1 15 = .ok (.bipush 100, 2) := by decide +kernel
theorem dX0_hasDate_17 : decode mX0_hasDate.2.1 17 = .ok (.idiv, 1) := by decide +kernel
theorem dX0_hasDate_18 : decode mX0_hasDate.2.1 18 = .ok (.bipush 100, 2) := by decide +kernel
theorem dX0_hasDate_20 : decode mX0_hasDate.2.1 20 = .ok (.irem, 1) := by decide +kernel
theorem dX0_hasDate_21 : decode mX0_hasDate.2.1 21 = .ok (.istore_n 2, 1) := by decide +kernel
theorem dX0_hasDate_22 : decode mX0_hasDate.2.1 22 = .ok (.iload_n 0, 1) := by decide +kernel
theorem dX0_hasDate_23 : decode mX0_hasDate.2.1 23 = .ok (.bipush 100, 2) := by decide +kernel
theorem dX0_hasDate_25 : decode mX0_hasDate.2.1 25 = .ok (.irem, 1) := by decide +kernel
theorem dX0_hasDate_26 : decode mX0_hasDate.2.1 26 = .ok (.istore_n 3, 1) := by decide +kernel
theorem dX0_hasDate_27 : decode mX0_hasDate.2.1 27 = .ok (.iload_n 1, 1) := by decide +kernel
theorem dX0_hasDate_28 : decode mX0_hasDate.2.1 28 = .ok (.sipush 1999, 3) := by decide +kernel
theorem dX0_hasDate_31 : decode mX0_hasDate.2.1 31 = .ok (.if_icmp .gt 32, 3) := by decide +kernel
theorem dX0_hasDate_34 : decode mX0_hasDate.2.1 34 = .ok (.iload_n 2, 1) := by decide +kernel
theorem dX0_hasDate_35 : decode mX0_hasDate.2.1 35 = .ok (.iconst 1, 1) := by decide +kernel
theorem dX0_hasDate_36 : decode mX0_hasDate.2.1 36 = .ok (.if_icmp .lt 27, 3) := by decide +kernel
theorem dX0_hasDate_39 : decode mX0_hasDate.2.1 39 = .ok (.iload_n 2, 1) := by decide +kernel
theorem dX0_hasDate_40 : decode mX0_hasDate.2.1 40 = .ok (.bipush 12, 2) := by decide +kernel
theorem dX0_hasDate_42 : decode mX0_hasDate.2.1 42 = .ok (.if_icmp .gt 21, 3) := by decide +kernel
theorem dX0_hasDate_45 : decode mX0_hasDate.2.1 45 = .ok (.iload_n 3, 1) := by decide +kernel
theorem dX0_hasDate_46 : decode mX0_hasDate.2.1 46 = .ok (.iconst 1, 1) := by decide +kernel
theorem dX0_hasDate_47 : decode mX0_hasDate.2.1 47 = .ok (.if_icmp .lt 16, 3) := by decide +kernel
theorem dX0_hasDate_50 : decode mX0_hasDate.2.1 50 = .ok (.iload_n 3, 1) := by decide +kernel
theorem dX0_hasDate_51 : decode mX0_hasDate.2.1 51 = .ok (.iload_n 1, 1) := by decide +kernel
theorem dX0_hasDate_52 : decode mX0_hasDate.2.1 52 = .ok (.iload_n 2, 1) := by decide +kernel
theorem dX0_hasDate_53 : decode mX0_hasDate.2.1 53 = .ok (.invokestatic 12, 3) := by decide +kernel
theorem dX0_hasDate_56 : decode mX0_hasDate.2.1 56 = .ok (.if_icmp .gt 7, 3) := by decide +kernel
theorem dX0_hasDate_59 : decode mX0_hasDate.2.1 59 = .ok (.iconst 1, 1) := by decide +kernel
theorem dX0_hasDate_60 : decode mX0_hasDate.2.1 60 = .ok (.goto 4, 3) := by decide +kernel
theorem dX0_hasDate_63 : decode mX0_hasDate.2.1 63 = .ok (.iconst 0, 1) := by decide +kernel
theorem dX0_hasDate_64 : decode mX0_hasDate.2.1 64 = .ok (.ireturn, 1) := by decide +kernel
theorem bX0_hasDate_0 {SC : Nat → Nat} {X : mh_X} {d : Nat} {Q : Option am_V → am_W → Prop} {bc bs : Nat} {w : am_W} {x0 : Int}
    (h : ((17000000 ≤ x0 → ((1999 < (am_w (Int.tdiv x0 10000)) → Q (some (.inl 0)) w) ∧ (¬ 1999 < (am_w (Int.tdiv x0 10000)) → (((am_w (Int.tmod (am_w (Int.tdiv x0 100)) 100)) < 1 → Q (some (.inl 0)) w) ∧ (¬ (am_w (Int.tmod (am_w (Int.tdiv x0 100)) 100)) < 1 → ((12 < (am_w (Int.tmod (am_w (Int.tdiv x0 100)) 100)) → Q (some (.inl 0)) w) ∧ (¬ 12 < (am_w (Int.tmod (am_w (Int.tdiv x0 100)) 100)) → (((am_w (Int.tmod x0 100)) < 1 → Q (some (.inl 0)) w) ∧ (¬ (am_w (Int.tmod x0 100)) < 1 → am_M (mh_G X) SC d 0 0 mX0_lengthOf [.inl (am_w (Int.tdiv x0 10000)), .inl (am_w (Int.tmod (am_w (Int.tdiv x0 100)) 100))] w (fun r w1 => am_A (mh_G X) SC (d + 1) mX0_hasDate Q 56 [(3, .inl (am_w (Int.tmod x0 100))), (2, .inl (am_w (Int.tmod (am_w (Int.tdiv x0 100)) 100))), (1, .inl (am_w (Int.tdiv x0 10000))), (0, .inl x0)] (r.toList ++ [.inl (am_w (Int.tmod x0 100))]) w1 bc bs)))))))))) ∧ (¬ 17000000 ≤ x0 → Q (some (.inl 0)) w))) :
    am_A (mh_G X) SC (d + 1) mX0_hasDate Q 0 [(0, .inl x0)] [] w bc bs := by
  refine am_iload_n dX0_hasDate_0 (List.Mem.head _) ?_
  refine am_ldcV (n := 17000000) dX0_hasDate_1 (by decide) wd_1023 (by unfold am_rg; omega) ?_
  refine am_icmpge (tgt := 8) dX0_hasDate_3 (by decide) (fun c1 => ?_) (fun c1 => ?_)
  · replace h := h.1 c1
    refine am_iload_n dX0_hasDate_8 (List.Mem.head _) ?_
    refine am_sipush dX0_hasDate_9 (by decide) (by unfold am_rg; omega) ?_
    refine am_idiv dX0_hasDate_12 (by decide) ?_
    refine am_istore_n (ls' := [(1, .inl (am_w (Int.tdiv x0 10000))), (0, .inl x0)]) dX0_hasDate_13 (by decide) rfl ?_
    refine am_iload_n dX0_hasDate_14 (List.Mem.tail _ (List.Mem.head _)) ?_
    refine am_bipush dX0_hasDate_15 (by decide) (by unfold am_rg; omega) ?_
    refine am_idiv dX0_hasDate_17 (by decide) ?_
    refine am_bipush dX0_hasDate_18 (by decide) (by unfold am_rg; omega) ?_
    refine am_irem dX0_hasDate_20 (by decide) ?_
    refine am_istore_n (ls' := [(2, .inl (am_w (Int.tmod (am_w (Int.tdiv x0 100)) 100))), (1, .inl (am_w (Int.tdiv x0 10000))), (0, .inl x0)]) dX0_hasDate_21 (by decide) rfl ?_
    refine am_iload_n dX0_hasDate_22 (List.Mem.tail _ (List.Mem.tail _ (List.Mem.head _))) ?_
    refine am_bipush dX0_hasDate_23 (by decide) (by unfold am_rg; omega) ?_
    refine am_irem dX0_hasDate_25 (by decide) ?_
    refine am_istore_n (ls' := [(3, .inl (am_w (Int.tmod x0 100))), (2, .inl (am_w (Int.tmod (am_w (Int.tdiv x0 100)) 100))), (1, .inl (am_w (Int.tdiv x0 10000))), (0, .inl x0)]) dX0_hasDate_26 (by decide) rfl ?_
    refine am_iload_n dX0_hasDate_27 (List.Mem.tail _ (List.Mem.tail _ (List.Mem.head _))) ?_
    refine am_sipush dX0_hasDate_28 (by decide) (by unfold am_rg; omega) ?_
    refine am_icmpgt (tgt := 63) dX0_hasDate_31 (by decide) (fun c2 => ?_) (fun c2 => ?_)
    · replace h := h.1 c2
      refine am_iconst dX0_hasDate_63 (by unfold am_rg; omega) ?_
      exact am_ret (r := some (.inl 0)) dX0_hasDate_64 (Or.inr (Or.inl ⟨rfl, (Or.inl rfl)⟩)) rfl h
    · replace h := h.2 c2
      refine am_iload_n dX0_hasDate_34 (List.Mem.tail _ (List.Mem.head _)) ?_
      refine am_iconst dX0_hasDate_35 (by unfold am_rg; omega) ?_
      refine am_icmplt (tgt := 63) dX0_hasDate_36 (by decide) (fun c3 => ?_) (fun c3 => ?_)
      · replace h := h.1 c3
        refine am_iconst dX0_hasDate_63 (by unfold am_rg; omega) ?_
        exact am_ret (r := some (.inl 0)) dX0_hasDate_64 (Or.inr (Or.inl ⟨rfl, (Or.inl rfl)⟩)) rfl h
      · replace h := h.2 c3
        refine am_iload_n dX0_hasDate_39 (List.Mem.tail _ (List.Mem.head _)) ?_
        refine am_bipush dX0_hasDate_40 (by decide) (by unfold am_rg; omega) ?_
        refine am_icmpgt (tgt := 63) dX0_hasDate_42 (by decide) (fun c4 => ?_) (fun c4 => ?_)
        · replace h := h.1 c4
          refine am_iconst dX0_hasDate_63 (by unfold am_rg; omega) ?_
          exact am_ret (r := some (.inl 0)) dX0_hasDate_64 (Or.inr (Or.inl ⟨rfl, (Or.inl rfl)⟩)) rfl h
        · replace h := h.2 c4
          refine am_iload_n dX0_hasDate_45 (List.Mem.head _) ?_
          refine am_iconst dX0_hasDate_46 (by unfold am_rg; omega) ?_
          refine am_icmplt (tgt := 63) dX0_hasDate_47 (by decide) (fun c5 => ?_) (fun c5 => ?_)
          · replace h := h.1 c5
            refine am_iconst dX0_hasDate_63 (by unfold am_rg; omega) ?_
            exact am_ret (r := some (.inl 0)) dX0_hasDate_64 (Or.inr (Or.inl ⟨rfl, (Or.inl rfl)⟩)) rfl h
          · replace h := h.2 c5
            refine am_iload_n dX0_hasDate_50 (List.Mem.head _) ?_
            refine am_iload_n dX0_hasDate_51 (List.Mem.tail _ (List.Mem.tail _ (List.Mem.head _))) ?_
            refine am_iload_n dX0_hasDate_52 (List.Mem.tail _ (List.Mem.head _)) ?_
            exact am_calls (d' := d) (kc := 0) (ks := 0) (as := [.inl (am_w (Int.tdiv x0 10000)), .inl (am_w (Int.tmod (am_w (Int.tdiv x0 100)) 100))]) dX0_hasDate_53 wc_X0_lengthOf wd_1024 wd_894 wd_129 ds_X0_lengthOf (by decide) (Nat.le_refl _) (Nat.le_of_ble_eq_true rfl) (Nat.zero_le _) (Nat.zero_le _) rfl h
  · replace h := h.2 c1
    refine am_iconst dX0_hasDate_6 (by unfold am_rg; omega) ?_
    exact am_ret (r := some (.inl 0)) dX0_hasDate_7 (Or.inr (Or.inl ⟨rfl, (Or.inl rfl)⟩)) rfl h
theorem bX0_hasDate_56 {SC : Nat → Nat} {X : mh_X} {d : Nat} {Q : Option am_V → am_W → Prop} {bc bs : Nat} {w : am_W} {x3 : Int} {x2 : Int} {x1 : Int} {x0 : Int} {xs0 : Int} {xs1 : Int}
    (h : ((xs0 < xs1 → Q (some (.inl 0)) w) ∧ (¬ xs0 < xs1 → Q (some (.inl 1)) w))) :
    am_A (mh_G X) SC (d + 1) mX0_hasDate Q 56 [(3, .inl x3), (2, .inl x2), (1, .inl x1), (0, .inl x0)] [.inl xs0, .inl xs1] w bc bs := by
  refine am_icmpgt (tgt := 63) dX0_hasDate_56 (by decide) (fun c1 => ?_) (fun c1 => ?_)
  · replace h := h.1 c1
    refine am_iconst dX0_hasDate_63 (by unfold am_rg; omega) ?_
    exact am_ret (r := some (.inl 0)) dX0_hasDate_64 (Or.inr (Or.inl ⟨rfl, (Or.inl rfl)⟩)) rfl h
  · replace h := h.2 c1
    refine am_iconst dX0_hasDate_59 (by unfold am_rg; omega) ?_
    refine am_goto (tgt := 64) dX0_hasDate_60 (by decide) ?_
    exact am_ret (r := some (.inl 1)) dX0_hasDate_64 (Or.inr (Or.inl ⟨rfl, (Or.inr rfl)⟩)) rfl h
-- MourningHouse$Calendar.lengthOf(II)I
theorem dX0_lengthOf_0 : decode mX0_lengthOf.2.1 0 = .ok (.iload_n 1, 1) := by decide +kernel
theorem dX0_lengthOf_1 : decode mX0_lengthOf.2.1 1 = .ok (.tableswitch 87 2 11 #[55, 87, 84, 87, 84, 87, 87, 84, 87, 84], 55) := by decide +kernel
theorem dX0_lengthOf_56 : decode mX0_lengthOf.2.1 56 = .ok (.iload_n 0, 1) := by decide +kernel
theorem dX0_lengthOf_57 : decode mX0_lengthOf.2.1 57 = .ok (.iconst 4, 1) := by decide +kernel
theorem dX0_lengthOf_58 : decode mX0_lengthOf.2.1 58 = .ok (.irem, 1) := by decide +kernel
theorem dX0_lengthOf_59 : decode mX0_lengthOf.2.1 59 = .ok (.ifCond .ne 23, 3) := by decide +kernel
theorem dX0_lengthOf_62 : decode mX0_lengthOf.2.1 62 = .ok (.iload_n 0, 1) := by decide +kernel
theorem dX0_lengthOf_63 : decode mX0_lengthOf.2.1 63 = .ok (.bipush 100, 2) := by decide +kernel
theorem dX0_lengthOf_65 : decode mX0_lengthOf.2.1 65 = .ok (.irem, 1) := by decide +kernel
theorem dX0_lengthOf_66 : decode mX0_lengthOf.2.1 66 = .ok (.ifCond .ne 11, 3) := by decide +kernel
theorem dX0_lengthOf_69 : decode mX0_lengthOf.2.1 69 = .ok (.iload_n 0, 1) := by decide +kernel
theorem dX0_lengthOf_70 : decode mX0_lengthOf.2.1 70 = .ok (.sipush 400, 3) := by decide +kernel
theorem dX0_lengthOf_73 : decode mX0_lengthOf.2.1 73 = .ok (.irem, 1) := by decide +kernel
theorem dX0_lengthOf_74 : decode mX0_lengthOf.2.1 74 = .ok (.ifCond .ne 8, 3) := by decide +kernel
theorem dX0_lengthOf_77 : decode mX0_lengthOf.2.1 77 = .ok (.bipush 29, 2) := by decide +kernel
theorem dX0_lengthOf_79 : decode mX0_lengthOf.2.1 79 = .ok (.goto 5, 3) := by decide +kernel
theorem dX0_lengthOf_82 : decode mX0_lengthOf.2.1 82 = .ok (.bipush 28, 2) := by decide +kernel
theorem dX0_lengthOf_84 : decode mX0_lengthOf.2.1 84 = .ok (.ireturn, 1) := by decide +kernel
theorem dX0_lengthOf_85 : decode mX0_lengthOf.2.1 85 = .ok (.bipush 30, 2) := by decide +kernel
theorem dX0_lengthOf_87 : decode mX0_lengthOf.2.1 87 = .ok (.ireturn, 1) := by decide +kernel
theorem dX0_lengthOf_88 : decode mX0_lengthOf.2.1 88 = .ok (.bipush 31, 2) := by decide +kernel
theorem dX0_lengthOf_90 : decode mX0_lengthOf.2.1 90 = .ok (.ireturn, 1) := by decide +kernel
theorem bX0_lengthOf_0 {SC : Nat → Nat} {X : mh_X} {d : Nat} {Q : Option am_V → am_W → Prop} {bc bs : Nat} {w : am_W} {x0 : Int} {x1 : Int}
    (h : (((x1 < 2 ∨ 11 < x1) → Q (some (.inl 31)) w) ∧ (x1 = 2 → ((¬ (am_w (Int.tmod x0 4)) = 0 → Q (some (.inl 28)) w) ∧ ((am_w (Int.tmod x0 4)) = 0 → ((¬ (am_w (Int.tmod x0 100)) = 0 → Q (some (.inl 29)) w) ∧ ((am_w (Int.tmod x0 100)) = 0 → ((¬ (am_w (Int.tmod x0 400)) = 0 → Q (some (.inl 28)) w) ∧ ((am_w (Int.tmod x0 400)) = 0 → Q (some (.inl 29)) w))))))) ∧ (x1 = 3 → Q (some (.inl 31)) w) ∧ (x1 = 4 → Q (some (.inl 30)) w) ∧ (x1 = 5 → Q (some (.inl 31)) w) ∧ (x1 = 6 → Q (some (.inl 30)) w) ∧ (x1 = 7 → Q (some (.inl 31)) w) ∧ (x1 = 8 → Q (some (.inl 31)) w) ∧ (x1 = 9 → Q (some (.inl 30)) w) ∧ (x1 = 10 → Q (some (.inl 31)) w) ∧ (x1 = 11 → Q (some (.inl 30)) w))) :
    am_A (mh_G X) SC (d + 1) mX0_lengthOf Q 0 [(0, .inl x0), (1, .inl x1)] [] w bc bs := by
  refine am_iload_n dX0_lengthOf_0 (List.Mem.tail _ (List.Mem.head _)) ?_
  by_cases c1 : x1 < 2 ∨ 11 < x1
  · replace h := h.1 c1
    refine am_tswOut (tgt := 88) dX0_lengthOf_1 c1 (by decide) ?_
    refine am_bipush dX0_lengthOf_88 (by decide) (by unfold am_rg; omega) ?_
    exact am_ret (r := some (.inl 31)) dX0_lengthOf_90 (Or.inl rfl) rfl h
  · replace h := h.2
    rcases (show x1 = 2 ∨ x1 = 3 ∨ x1 = 4 ∨ x1 = 5 ∨ x1 = 6 ∨ x1 = 7 ∨ x1 = 8 ∨ x1 = 9 ∨ x1 = 10 ∨ x1 = 11 by omega) with c1 | c1 | c1 | c1 | c1 | c1 | c1 | c1 | c1 | c1
    · replace h := h.1 c1
      refine am_tswIn (off := 55) (tgt := 56) dX0_lengthOf_1 (by omega) (by omega) (by rw [c1]; decide) (by decide) ?_
      refine am_iload_n dX0_lengthOf_56 (List.Mem.head _) ?_
      refine am_iconst dX0_lengthOf_57 (by unfold am_rg; omega) ?_
      refine am_irem dX0_lengthOf_58 (by decide) ?_
      refine am_ifne (tgt := 82) dX0_lengthOf_59 (by decide) (fun c2 => ?_) (fun c2 => ?_)
      · replace h := h.1 c2
        refine am_bipush dX0_lengthOf_82 (by decide) (by unfold am_rg; omega) ?_
        exact am_ret (r := some (.inl 28)) dX0_lengthOf_84 (Or.inl rfl) rfl h
      · replace h := h.2 c2
        refine am_iload_n dX0_lengthOf_62 (List.Mem.head _) ?_
        refine am_bipush dX0_lengthOf_63 (by decide) (by unfold am_rg; omega) ?_
        refine am_irem dX0_lengthOf_65 (by decide) ?_
        refine am_ifne (tgt := 77) dX0_lengthOf_66 (by decide) (fun c3 => ?_) (fun c3 => ?_)
        · replace h := h.1 c3
          refine am_bipush dX0_lengthOf_77 (by decide) (by unfold am_rg; omega) ?_
          refine am_goto (tgt := 84) dX0_lengthOf_79 (by decide) ?_
          exact am_ret (r := some (.inl 29)) dX0_lengthOf_84 (Or.inl rfl) rfl h
        · replace h := h.2 c3
          refine am_iload_n dX0_lengthOf_69 (List.Mem.head _) ?_
          refine am_sipush dX0_lengthOf_70 (by decide) (by unfold am_rg; omega) ?_
          refine am_irem dX0_lengthOf_73 (by decide) ?_
          refine am_ifne (tgt := 82) dX0_lengthOf_74 (by decide) (fun c4 => ?_) (fun c4 => ?_)
          · replace h := h.1 c4
            refine am_bipush dX0_lengthOf_82 (by decide) (by unfold am_rg; omega) ?_
            exact am_ret (r := some (.inl 28)) dX0_lengthOf_84 (Or.inl rfl) rfl h
          · replace h := h.2 c4
            refine am_bipush dX0_lengthOf_77 (by decide) (by unfold am_rg; omega) ?_
            refine am_goto (tgt := 84) dX0_lengthOf_79 (by decide) ?_
            exact am_ret (r := some (.inl 29)) dX0_lengthOf_84 (Or.inl rfl) rfl h
    · replace h := h.2.1 c1
      refine am_tswIn (off := 87) (tgt := 88) dX0_lengthOf_1 (by omega) (by omega) (by rw [c1]; decide) (by decide) ?_
      refine am_bipush dX0_lengthOf_88 (by decide) (by unfold am_rg; omega) ?_
      exact am_ret (r := some (.inl 31)) dX0_lengthOf_90 (Or.inl rfl) rfl h
    · replace h := h.2.2.1 c1
      refine am_tswIn (off := 84) (tgt := 85) dX0_lengthOf_1 (by omega) (by omega) (by rw [c1]; decide) (by decide) ?_
      refine am_bipush dX0_lengthOf_85 (by decide) (by unfold am_rg; omega) ?_
      exact am_ret (r := some (.inl 30)) dX0_lengthOf_87 (Or.inl rfl) rfl h
    · replace h := h.2.2.2.1 c1
      refine am_tswIn (off := 87) (tgt := 88) dX0_lengthOf_1 (by omega) (by omega) (by rw [c1]; decide) (by decide) ?_
      refine am_bipush dX0_lengthOf_88 (by decide) (by unfold am_rg; omega) ?_
      exact am_ret (r := some (.inl 31)) dX0_lengthOf_90 (Or.inl rfl) rfl h
    · replace h := h.2.2.2.2.1 c1
      refine am_tswIn (off := 84) (tgt := 85) dX0_lengthOf_1 (by omega) (by omega) (by rw [c1]; decide) (by decide) ?_
      refine am_bipush dX0_lengthOf_85 (by decide) (by unfold am_rg; omega) ?_
      exact am_ret (r := some (.inl 30)) dX0_lengthOf_87 (Or.inl rfl) rfl h
    · replace h := h.2.2.2.2.2.1 c1
      refine am_tswIn (off := 87) (tgt := 88) dX0_lengthOf_1 (by omega) (by omega) (by rw [c1]; decide) (by decide) ?_
      refine am_bipush dX0_lengthOf_88 (by decide) (by unfold am_rg; omega) ?_
      exact am_ret (r := some (.inl 31)) dX0_lengthOf_90 (Or.inl rfl) rfl h
    · replace h := h.2.2.2.2.2.2.1 c1
      refine am_tswIn (off := 87) (tgt := 88) dX0_lengthOf_1 (by omega) (by omega) (by rw [c1]; decide) (by decide) ?_
      refine am_bipush dX0_lengthOf_88 (by decide) (by unfold am_rg; omega) ?_
      exact am_ret (r := some (.inl 31)) dX0_lengthOf_90 (Or.inl rfl) rfl h
    · replace h := h.2.2.2.2.2.2.2.1 c1
      refine am_tswIn (off := 84) (tgt := 85) dX0_lengthOf_1 (by omega) (by omega) (by rw [c1]; decide) (by decide) ?_
      refine am_bipush dX0_lengthOf_85 (by decide) (by unfold am_rg; omega) ?_
      exact am_ret (r := some (.inl 30)) dX0_lengthOf_87 (Or.inl rfl) rfl h
    · replace h := h.2.2.2.2.2.2.2.2.1 c1
      refine am_tswIn (off := 87) (tgt := 88) dX0_lengthOf_1 (by omega) (by omega) (by rw [c1]; decide) (by decide) ?_
      refine am_bipush dX0_lengthOf_88 (by decide) (by unfold am_rg; omega) ?_
      exact am_ret (r := some (.inl 31)) dX0_lengthOf_90 (Or.inl rfl) rfl h
    · replace h := h.2.2.2.2.2.2.2.2.2 c1
      refine am_tswIn (off := 84) (tgt := 85) dX0_lengthOf_1 (by omega) (by omega) (by rw [c1]; decide) (by decide) ?_
      refine am_bipush dX0_lengthOf_85 (by decide) (by unfold am_rg; omega) ?_
      exact am_ret (r := some (.inl 30)) dX0_lengthOf_87 (Or.inl rfl) rfl h
-- MourningHouse$Calendar.dayOf(III)I
theorem dX0_dayOf_0 : decode mX0_dayOf.2.1 0 = .ok (.iload_n 1, 1) := by decide +kernel
theorem dX0_dayOf_1 : decode mX0_dayOf.2.1 1 = .ok (.iconst 2, 1) := by decide +kernel
theorem dX0_dayOf_2 : decode mX0_dayOf.2.1 2 = .ok (.if_icmp .le 9, 3) := by decide +kernel
theorem dX0_dayOf_5 : decode mX0_dayOf.2.1 5 = .ok (.iload_n 1, 1) := by decide +kernel
theorem dX0_dayOf_6 : decode mX0_dayOf.2.1 6 = .ok (.iconst 3, 1) := by decide +kernel
theorem dX0_dayOf_7 : decode mX0_dayOf.2.1 7 = .ok (.isub, 1) := by decide +kernel
theorem dX0_dayOf_8 : decode mX0_dayOf.2.1 8 = .ok (.goto 7, 3) := by decide +kernel
theorem dX0_dayOf_11 : decode mX0_dayOf.2.1 11 = .ok (.iload_n 1, 1) := by decide +kernel
theorem dX0_dayOf_12 : decode mX0_dayOf.2.1 12 = .ok (.bipush 9, 2) := by decide +kernel
theorem dX0_dayOf_14 : decode mX0_dayOf.2.1 14 = .ok (.iadd, 1) := by decide +kernel
theorem dX0_dayOf_15 : decode mX0_dayOf.2.1 15 = .ok (.istore_n 3, 1) := by decide +kernel
theorem dX0_dayOf_16 : decode mX0_dayOf.2.1 16 = .ok (.iload_n 1, 1) := by decide +kernel
theorem dX0_dayOf_17 : decode mX0_dayOf.2.1 17 = .ok (.iconst 2, 1) := by decide +kernel
theorem dX0_dayOf_18 : decode mX0_dayOf.2.1 18 = .ok (.if_icmp .le 7, 3) := by decide +kernel
theorem dX0_dayOf_21 : decode mX0_dayOf.2.1 21 = .ok (.iload_n 0, 1) := by decide +kernel
theorem dX0_dayOf_22 : decode mX0_dayOf.2.1 22 = .ok (.goto 6, 3) := by decide +kernel
theorem dX0_dayOf_25 : decode mX0_dayOf.2.1 25 = .ok (.iload_n 0, 1) := by decide +kernel
theorem dX0_dayOf_26 : decode mX0_dayOf.2.1 26 = .ok (.iconst 1, 1) := by decide +kernel
theorem dX0_dayOf_27 : decode mX0_dayOf.2.1 27 = .ok (.isub, 1) := by decide +kernel
theorem dX0_dayOf_28 : decode mX0_dayOf.2.1 28 = .ok (.istore 4, 2) := by decide +kernel
theorem dX0_dayOf_30 : decode mX0_dayOf.2.1 30 = .ok (.iload 4, 2) := by decide +kernel
theorem dX0_dayOf_32 : decode mX0_dayOf.2.1 32 = .ok (.sipush 400, 3) := by decide +kernel
theorem dX0_dayOf_35 : decode mX0_dayOf.2.1 35 = .ok (.idiv, 1) := by decide +kernel
theorem dX0_dayOf_36 : decode mX0_dayOf.2.1 36 = .ok (.istore 5, 2) := by decide +kernel
theorem dX0_dayOf_38 : decode mX0_dayOf.2.1 38 = .ok (.iload 4, 2) := by decide +kernel
theorem dX0_dayOf_40 : decode mX0_dayOf.2.1 40 = .ok (.sipush 400, 3) := by decide +kernel
theorem dX0_dayOf_43 : decode mX0_dayOf.2.1 43 = .ok (.irem, 1) := by decide +kernel
theorem dX0_dayOf_44 : decode mX0_dayOf.2.1 44 = .ok (.istore 6, 2) := by decide +kernel
theorem dX0_dayOf_46 : decode mX0_dayOf.2.1 46 = .ok (.sipush 153, 3) := by decide +kernel
theorem dX0_dayOf_49 : decode mX0_dayOf.2.1 49 = .ok (.iload_n 3, 1) := by decide +kernel
theorem dX0_dayOf_50 : decode mX0_dayOf.2.1 50 = .ok (.imul, 1) := by decide +kernel
theorem dX0_dayOf_51 : decode mX0_dayOf.2.1 51 = .ok (.iconst 2, 1) := by decide +kernel
theorem dX0_dayOf_52 : decode mX0_dayOf.2.1 52 = .ok (.iadd, 1) := by decide +kernel
theorem dX0_dayOf_53 : decode mX0_dayOf.2.1 53 = .ok (.iconst 5, 1) := by decide +kernel
theorem dX0_dayOf_54 : decode mX0_dayOf.2.1 54 = .ok (.idiv, 1) := by decide +kernel
theorem dX0_dayOf_55 : decode mX0_dayOf.2.1 55 = .ok (.iload_n 2, 1) := by decide +kernel
theorem dX0_dayOf_56 : decode mX0_dayOf.2.1 56 = .ok (.iadd, 1) := by decide +kernel
theorem dX0_dayOf_57 : decode mX0_dayOf.2.1 57 = .ok (.iconst 1, 1) := by decide +kernel
theorem dX0_dayOf_58 : decode mX0_dayOf.2.1 58 = .ok (.isub, 1) := by decide +kernel
theorem dX0_dayOf_59 : decode mX0_dayOf.2.1 59 = .ok (.istore 7, 2) := by decide +kernel
theorem dX0_dayOf_61 : decode mX0_dayOf.2.1 61 = .ok (.iload 6, 2) := by decide +kernel
theorem dX0_dayOf_63 : decode mX0_dayOf.2.1 63 = .ok (.sipush 365, 3) := by decide +kernel
theorem dX0_dayOf_66 : decode mX0_dayOf.2.1 66 = .ok (.imul, 1) := by decide +kernel
theorem dX0_dayOf_67 : decode mX0_dayOf.2.1 67 = .ok (.iload 6, 2) := by decide +kernel
theorem dX0_dayOf_69 : decode mX0_dayOf.2.1 69 = .ok (.iconst 4, 1) := by decide +kernel
theorem dX0_dayOf_70 : decode mX0_dayOf.2.1 70 = .ok (.idiv, 1) := by decide +kernel
theorem dX0_dayOf_71 : decode mX0_dayOf.2.1 71 = .ok (.iadd, 1) := by decide +kernel
theorem dX0_dayOf_72 : decode mX0_dayOf.2.1 72 = .ok (.iload 6, 2) := by decide +kernel
theorem dX0_dayOf_74 : decode mX0_dayOf.2.1 74 = .ok (.bipush 100, 2) := by decide +kernel
theorem dX0_dayOf_76 : decode mX0_dayOf.2.1 76 = .ok (.idiv, 1) := by decide +kernel
theorem dX0_dayOf_77 : decode mX0_dayOf.2.1 77 = .ok (.isub, 1) := by decide +kernel
theorem dX0_dayOf_78 : decode mX0_dayOf.2.1 78 = .ok (.iload 7, 2) := by decide +kernel
theorem dX0_dayOf_80 : decode mX0_dayOf.2.1 80 = .ok (.iadd, 1) := by decide +kernel
theorem dX0_dayOf_81 : decode mX0_dayOf.2.1 81 = .ok (.istore 8, 2) := by decide +kernel
theorem dX0_dayOf_83 : decode mX0_dayOf.2.1 83 = .ok (.iload 5, 2) := by decide +kernel
theorem dX0_dayOf_85 : decode mX0_dayOf.2.1 85 = .ok (.ldc 16, 2) := by decide +kernel
theorem dX0_dayOf_87 : decode mX0_dayOf.2.1 87 = .ok (.imul, 1) := by decide +kernel
theorem dX0_dayOf_88 : decode mX0_dayOf.2.1 88 = .ok (.iload 8, 2) := by decide +kernel
theorem dX0_dayOf_90 : decode mX0_dayOf.2.1 90 = .ok (.iadd, 1) := by decide +kernel
theorem dX0_dayOf_91 : decode mX0_dayOf.2.1 91 = .ok (.ldc 17, 2) := by decide +kernel
theorem dX0_dayOf_93 : decode mX0_dayOf.2.1 93 = .ok (.isub, 1) := by decide +kernel
theorem dX0_dayOf_94 : decode mX0_dayOf.2.1 94 = .ok (.ireturn, 1) := by decide +kernel
theorem bX0_dayOf_0 {SC : Nat → Nat} {X : mh_X} {d : Nat} {Q : Option am_V → am_W → Prop} {bc bs : Nat} {w : am_W} {x0 : Int} {x1 : Int} {x2 : Int}
    (h : ((x1 ≤ 2 → am_A (mh_G X) SC (d + 1) mX0_dayOf Q 15 [(0, .inl x0), (1, .inl x1), (2, .inl x2)] [.inl (am_w (x1 + 9))] w bc bs) ∧ (¬ x1 ≤ 2 → am_A (mh_G X) SC (d + 1) mX0_dayOf Q 15 [(0, .inl x0), (1, .inl x1), (2, .inl x2)] [.inl (am_w (x1 - 3))] w bc bs))) :
    am_A (mh_G X) SC (d + 1) mX0_dayOf Q 0 [(0, .inl x0), (1, .inl x1), (2, .inl x2)] [] w bc bs := by
  refine am_iload_n dX0_dayOf_0 (List.Mem.tail _ (List.Mem.head _)) ?_
  refine am_iconst dX0_dayOf_1 (by unfold am_rg; omega) ?_
  refine am_icmple (tgt := 11) dX0_dayOf_2 (by decide) (fun c1 => ?_) (fun c1 => ?_)
  · replace h := h.1 c1
    refine am_iload_n dX0_dayOf_11 (List.Mem.tail _ (List.Mem.head _)) ?_
    refine am_bipush dX0_dayOf_12 (by decide) (by unfold am_rg; omega) ?_
    refine am_iadd dX0_dayOf_14 ?_
    exact h
  · replace h := h.2 c1
    refine am_iload_n dX0_dayOf_5 (List.Mem.tail _ (List.Mem.head _)) ?_
    refine am_iconst dX0_dayOf_6 (by unfold am_rg; omega) ?_
    refine am_isub dX0_dayOf_7 ?_
    refine am_goto (tgt := 15) dX0_dayOf_8 (by decide) ?_
    exact h
theorem bX0_dayOf_15 {SC : Nat → Nat} {X : mh_X} {d : Nat} {Q : Option am_V → am_W → Prop} {bc bs : Nat} {w : am_W} {x0 : Int} {x1 : Int} {x2 : Int} {xs0 : Int}
    (h : ((x1 ≤ 2 → am_A (mh_G X) SC (d + 1) mX0_dayOf Q 28 [(2, .inl x2), (3, .inl xs0)] [.inl (am_w (x0 - 1))] w bc bs) ∧ (¬ x1 ≤ 2 → am_A (mh_G X) SC (d + 1) mX0_dayOf Q 28 [(2, .inl x2), (3, .inl xs0)] [.inl x0] w bc bs))) :
    am_A (mh_G X) SC (d + 1) mX0_dayOf Q 15 [(0, .inl x0), (1, .inl x1), (2, .inl x2)] [.inl xs0] w bc bs := by
  refine am_istore_n (ls' := [(3, .inl xs0), (0, .inl x0), (1, .inl x1), (2, .inl x2)]) dX0_dayOf_15 (by decide) rfl ?_
  refine am_iload_n dX0_dayOf_16 (List.Mem.tail _ (List.Mem.tail _ (List.Mem.head _))) ?_
  refine am_iconst dX0_dayOf_17 (by unfold am_rg; omega) ?_
  refine am_icmple (tgt := 25) dX0_dayOf_18 (by decide) (fun c1 => ?_) (fun c1 => ?_)
  · replace h := h.1 c1
    refine am_iload_n dX0_dayOf_25 (List.Mem.tail _ (List.Mem.head _)) ?_
    refine am_iconst dX0_dayOf_26 (by unfold am_rg; omega) ?_
    refine am_isub dX0_dayOf_27 ?_
    exact am_sub [3, 0] rfl h
  · replace h := h.2 c1
    refine am_iload_n dX0_dayOf_21 (List.Mem.tail _ (List.Mem.head _)) ?_
    refine am_goto (tgt := 28) dX0_dayOf_22 (by decide) ?_
    exact am_sub [3, 0] rfl h
theorem bX0_dayOf_28 {SC : Nat → Nat} {X : mh_X} {d : Nat} {Q : Option am_V → am_W → Prop} {bc bs : Nat} {w : am_W} {x2 : Int} {x3 : Int} {xs0 : Int}
    (h : Q (some (.inl (am_w ((am_w ((am_w ((am_w (Int.tdiv xs0 400)) * 146097)) + (am_w ((am_w ((am_w ((am_w ((am_w (Int.tmod xs0 400)) * 365)) + (am_w (Int.tdiv (am_w (Int.tmod xs0 400)) 4)))) - (am_w (Int.tdiv (am_w (Int.tmod xs0 400)) 100)))) + (am_w ((am_w ((am_w (Int.tdiv (am_w ((am_w (153 * x3)) + 2)) 5)) + x2)) - 1)))))) - 657377)))) w) :
    am_A (mh_G X) SC (d + 1) mX0_dayOf Q 28 [(2, .inl x2), (3, .inl x3)] [.inl xs0] w bc bs := by
  refine am_istore (ls' := [(4, .inl xs0), (2, .inl x2), (3, .inl x3)]) dX0_dayOf_28 (by decide) rfl ?_
  refine am_iload dX0_dayOf_30 (List.Mem.head _) ?_
  refine am_sipush dX0_dayOf_32 (by decide) (by unfold am_rg; omega) ?_
  refine am_idiv dX0_dayOf_35 (by decide) ?_
  refine am_istore (ls' := [(5, .inl (am_w (Int.tdiv xs0 400))), (4, .inl xs0), (2, .inl x2), (3, .inl x3)]) dX0_dayOf_36 (by decide) rfl ?_
  refine am_iload dX0_dayOf_38 (List.Mem.tail _ (List.Mem.head _)) ?_
  refine am_sipush dX0_dayOf_40 (by decide) (by unfold am_rg; omega) ?_
  refine am_irem dX0_dayOf_43 (by decide) ?_
  refine am_istore (ls' := [(6, .inl (am_w (Int.tmod xs0 400))), (5, .inl (am_w (Int.tdiv xs0 400))), (4, .inl xs0), (2, .inl x2), (3, .inl x3)]) dX0_dayOf_44 (by decide) rfl ?_
  refine am_sipush dX0_dayOf_46 (by decide) (by unfold am_rg; omega) ?_
  refine am_iload_n dX0_dayOf_49 (List.Mem.tail _ (List.Mem.tail _ (List.Mem.tail _ (List.Mem.tail _ (List.Mem.head _))))) ?_
  refine am_imul dX0_dayOf_50 ?_
  refine am_iconst dX0_dayOf_51 (by unfold am_rg; omega) ?_
  refine am_iadd dX0_dayOf_52 ?_
  refine am_iconst dX0_dayOf_53 (by unfold am_rg; omega) ?_
  refine am_idiv dX0_dayOf_54 (by decide) ?_
  refine am_iload_n dX0_dayOf_55 (List.Mem.tail _ (List.Mem.tail _ (List.Mem.tail _ (List.Mem.head _)))) ?_
  refine am_iadd dX0_dayOf_56 ?_
  refine am_iconst dX0_dayOf_57 (by unfold am_rg; omega) ?_
  refine am_isub dX0_dayOf_58 ?_
  refine am_istore (ls' := [(7, .inl (am_w ((am_w ((am_w (Int.tdiv (am_w ((am_w (153 * x3)) + 2)) 5)) + x2)) - 1))), (6, .inl (am_w (Int.tmod xs0 400))), (5, .inl (am_w (Int.tdiv xs0 400))), (4, .inl xs0), (2, .inl x2), (3, .inl x3)]) dX0_dayOf_59 (by decide) rfl ?_
  refine am_iload dX0_dayOf_61 (List.Mem.tail _ (List.Mem.head _)) ?_
  refine am_sipush dX0_dayOf_63 (by decide) (by unfold am_rg; omega) ?_
  refine am_imul dX0_dayOf_66 ?_
  refine am_iload dX0_dayOf_67 (List.Mem.tail _ (List.Mem.head _)) ?_
  refine am_iconst dX0_dayOf_69 (by unfold am_rg; omega) ?_
  refine am_idiv dX0_dayOf_70 (by decide) ?_
  refine am_iadd dX0_dayOf_71 ?_
  refine am_iload dX0_dayOf_72 (List.Mem.tail _ (List.Mem.head _)) ?_
  refine am_bipush dX0_dayOf_74 (by decide) (by unfold am_rg; omega) ?_
  refine am_idiv dX0_dayOf_76 (by decide) ?_
  refine am_isub dX0_dayOf_77 ?_
  refine am_iload dX0_dayOf_78 (List.Mem.head _) ?_
  refine am_iadd dX0_dayOf_80 ?_
  refine am_istore (ls' := [(8, .inl (am_w ((am_w ((am_w ((am_w ((am_w (Int.tmod xs0 400)) * 365)) + (am_w (Int.tdiv (am_w (Int.tmod xs0 400)) 4)))) - (am_w (Int.tdiv (am_w (Int.tmod xs0 400)) 100)))) + (am_w ((am_w ((am_w (Int.tdiv (am_w ((am_w (153 * x3)) + 2)) 5)) + x2)) - 1))))), (7, .inl (am_w ((am_w ((am_w (Int.tdiv (am_w ((am_w (153 * x3)) + 2)) 5)) + x2)) - 1))), (6, .inl (am_w (Int.tmod xs0 400))), (5, .inl (am_w (Int.tdiv xs0 400))), (4, .inl xs0), (2, .inl x2), (3, .inl x3)]) dX0_dayOf_81 (by decide) rfl ?_
  refine am_iload dX0_dayOf_83 (List.Mem.tail _ (List.Mem.tail _ (List.Mem.tail _ (List.Mem.head _)))) ?_
  refine am_ldcV (n := 146097) dX0_dayOf_85 (by decide) wd_1013 (by unfold am_rg; omega) ?_
  refine am_imul dX0_dayOf_87 ?_
  refine am_iload dX0_dayOf_88 (List.Mem.head _) ?_
  refine am_iadd dX0_dayOf_90 ?_
  refine am_ldcV (n := 657377) dX0_dayOf_91 (by decide) wd_1012 (by unfold am_rg; omega) ?_
  refine am_isub dX0_dayOf_93 ?_
  exact am_ret (r := some (.inl (am_w ((am_w ((am_w ((am_w (Int.tdiv xs0 400)) * 146097)) + (am_w ((am_w ((am_w ((am_w ((am_w (Int.tmod xs0 400)) * 365)) + (am_w (Int.tdiv (am_w (Int.tmod xs0 400)) 4)))) - (am_w (Int.tdiv (am_w (Int.tmod xs0 400)) 100)))) + (am_w ((am_w ((am_w (Int.tdiv (am_w ((am_w (153 * x3)) + 2)) 5)) + x2)) - 1)))))) - 657377)))) dX0_dayOf_94 (Or.inl rfl) rfl h
-- MourningHouse$Calendar.dateOf(I)I
theorem dX0_dateOf_0 : decode mX0_dateOf.2.1 0 = .ok (.iload_n 0, 1) := by decide +kernel
theorem dX0_dateOf_1 : decode mX0_dateOf.2.1 1 = .ok (.ldc 17, 2) := by decide +kernel
theorem dX0_dateOf_3 : decode mX0_dateOf.2.1 3 = .ok (.iadd, 1) := by decide +kernel
theorem dX0_dateOf_4 : decode mX0_dateOf.2.1 4 = .ok (.istore_n 1, 1) := by decide +kernel
theorem dX0_dateOf_5 : decode mX0_dateOf.2.1 5 = .ok (.iload_n 1, 1) := by decide +kernel
theorem dX0_dateOf_6 : decode mX0_dateOf.2.1 6 = .ok (.ldc 16, 2) := by decide +kernel
theorem dX0_dateOf_8 : decode mX0_dateOf.2.1 8 = .ok (.idiv, 1) := by decide +kernel
theorem dX0_dateOf_9 : decode mX0_dateOf.2.1 9 = .ok (.istore_n 2, 1) := by decide +kernel
theorem dX0_dateOf_10 : decode mX0_dateOf.2.1 10 = .ok (.iload_n 1, 1) := by decide +kernel
theorem dX0_dateOf_11 : decode mX0_dateOf.2.1 11 = .ok (.ldc 16, 2) := by decide +kernel
theorem dX0_dateOf_13 : decode mX0_dateOf.2.1 13 = .ok (.irem, 1) := by decide +kernel
theorem dX0_dateOf_14 : decode mX0_dateOf.2.1 14 = .ok (.istore_n 3, 1) := by decide +kernel
theorem dX0_dateOf_15 : decode mX0_dateOf.2.1 15 = .ok (.iload_n 3, 1) := by decide +kernel
theorem dX0_dateOf_16 : decode mX0_dateOf.2.1 16 = .ok (.iload_n 3, 1) := by decide +kernel
theorem dX0_dateOf_17 : decode mX0_dateOf.2.1 17 = .ok (.sipush 1460, 3) := by decide +kernel
theorem dX0_dateOf_20 : decode mX0_dateOf.2.1 20 = .ok (.idiv, 1) := by decide +kernel
theorem dX0_dateOf_21 : decode mX0_dateOf.2.1 21 = .ok (.isub, 1) := by decide +kernel
theorem dX0_dateOf_22 : decode mX0_dateOf.2.1 22 = .ok (.iload_n 3, 1) := by decide +kernel
theorem dX0_dateOf_23 : decode mX0_dateOf.2.1 23 = .ok (.ldc 18, 2) := by decide +kernel
theorem dX0_dateOf_25 : decode mX0_dateOf.2.1 25 = .ok (.idiv, 1) := by decide +kernel
theorem dX0_dateOf_26 : decode mX0_dateOf.2.1 26 = .ok (.iadd, 1) := by decide +kernel
theorem dX0_dateOf_27 : decode mX0_dateOf.2.1 27 = .ok (.iload_n 3, 1) := by decide +kernel
theorem dX0_dateOf_28 : decode mX0_dateOf.2.1 28 = .ok (.ldc 19, 2) := by decide +kernel
theorem dX0_dateOf_30 : decode mX0_dateOf.2.1 30 = .ok (.idiv, 1) := by decide +kernel
theorem dX0_dateOf_31 : decode mX0_dateOf.2.1 31 = .ok (.isub, 1) := by decide +kernel
theorem dX0_dateOf_32 : decode mX0_dateOf.2.1 32 = .ok (.sipush 365, 3) := by decide +kernel
theorem dX0_dateOf_35 : decode mX0_dateOf.2.1 35 = .ok (.idiv, 1) := by decide +kernel
theorem dX0_dateOf_36 : decode mX0_dateOf.2.1 36 = .ok (.istore 4, 2) := by decide +kernel
theorem dX0_dateOf_38 : decode mX0_dateOf.2.1 38 = .ok (.iload_n 3, 1) := by decide +kernel
theorem dX0_dateOf_39 : decode mX0_dateOf.2.1 39 = .ok (.sipush 365, 3) := by decide +kernel
theorem dX0_dateOf_42 : decode mX0_dateOf.2.1 42 = .ok (.iload 4, 2) := by decide +kernel
theorem dX0_dateOf_44 : decode mX0_dateOf.2.1 44 = .ok (.imul, 1) := by decide +kernel
theorem dX0_dateOf_45 : decode mX0_dateOf.2.1 45 = .ok (.iload 4, 2) := by decide +kernel
theorem dX0_dateOf_47 : decode mX0_dateOf.2.1 47 = .ok (.iconst 4, 1) := by decide +kernel
theorem dX0_dateOf_48 : decode mX0_dateOf.2.1 48 = .ok (.idiv, 1) := by decide +kernel
theorem dX0_dateOf_49 : decode mX0_dateOf.2.1 49 = .ok (.iadd, 1) := by decide +kernel
theorem dX0_dateOf_50 : decode mX0_dateOf.2.1 50 = .ok (.iload 4, 2) := by decide +kernel
theorem dX0_dateOf_52 : decode mX0_dateOf.2.1 52 = .ok (.bipush 100, 2) := by decide +kernel
theorem dX0_dateOf_54 : decode mX0_dateOf.2.1 54 = .ok (.idiv, 1) := by decide +kernel
theorem dX0_dateOf_55 : decode mX0_dateOf.2.1 55 = .ok (.isub, 1) := by decide +kernel
theorem dX0_dateOf_56 : decode mX0_dateOf.2.1 56 = .ok (.isub, 1) := by decide +kernel
theorem dX0_dateOf_57 : decode mX0_dateOf.2.1 57 = .ok (.istore 5, 2) := by decide +kernel
theorem dX0_dateOf_59 : decode mX0_dateOf.2.1 59 = .ok (.iconst 5, 1) := by decide +kernel
theorem dX0_dateOf_60 : decode mX0_dateOf.2.1 60 = .ok (.iload 5, 2) := by decide +kernel
theorem dX0_dateOf_62 : decode mX0_dateOf.2.1 62 = .ok (.imul, 1) := by decide +kernel
theorem dX0_dateOf_63 : decode mX0_dateOf.2.1 63 = .ok (.iconst 2, 1) := by decide +kernel
theorem dX0_dateOf_64 : decode mX0_dateOf.2.1 64 = .ok (.iadd, 1) := by decide +kernel
theorem dX0_dateOf_65 : decode mX0_dateOf.2.1 65 = .ok (.sipush 153, 3) := by decide +kernel
theorem dX0_dateOf_68 : decode mX0_dateOf.2.1 68 = .ok (.idiv, 1) := by decide +kernel
theorem dX0_dateOf_69 : decode mX0_dateOf.2.1 69 = .ok (.istore 6, 2) := by decide +kernel
theorem dX0_dateOf_71 : decode mX0_dateOf.2.1 71 = .ok (.iload 5, 2) := by decide +kernel
theorem dX0_dateOf_73 : decode mX0_dateOf.2.1 73 = .ok (.sipush 153, 3) := by decide +kernel
theorem dX0_dateOf_76 : decode mX0_dateOf.2.1 76 = .ok (.iload 6, 2) := by decide +kernel
theorem dX0_dateOf_78 : decode mX0_dateOf.2.1 78 = .ok (.imul, 1) := by decide +kernel
theorem dX0_dateOf_79 : decode mX0_dateOf.2.1 79 = .ok (.iconst 2, 1) := by decide +kernel
theorem dX0_dateOf_80 : decode mX0_dateOf.2.1 80 = .ok (.iadd, 1) := by decide +kernel
theorem dX0_dateOf_81 : decode mX0_dateOf.2.1 81 = .ok (.iconst 5, 1) := by decide +kernel
theorem dX0_dateOf_82 : decode mX0_dateOf.2.1 82 = .ok (.idiv, 1) := by decide +kernel
theorem dX0_dateOf_83 : decode mX0_dateOf.2.1 83 = .ok (.isub, 1) := by decide +kernel
theorem dX0_dateOf_84 : decode mX0_dateOf.2.1 84 = .ok (.iconst 1, 1) := by decide +kernel
theorem dX0_dateOf_85 : decode mX0_dateOf.2.1 85 = .ok (.iadd, 1) := by decide +kernel
theorem dX0_dateOf_86 : decode mX0_dateOf.2.1 86 = .ok (.istore 7, 2) := by decide +kernel
theorem dX0_dateOf_88 : decode mX0_dateOf.2.1 88 = .ok (.iload 6, 2) := by decide +kernel
theorem dX0_dateOf_90 : decode mX0_dateOf.2.1 90 = .ok (.bipush 10, 2) := by decide +kernel
theorem dX0_dateOf_92 : decode mX0_dateOf.2.1 92 = .ok (.if_icmp .ge 10, 3) := by decide +kernel
theorem dX0_dateOf_95 : decode mX0_dateOf.2.1 95 = .ok (.iload 6, 2) := by decide +kernel
theorem dX0_dateOf_97 : decode mX0_dateOf.2.1 97 = .ok (.iconst 3, 1) := by decide +kernel
theorem dX0_dateOf_98 : decode mX0_dateOf.2.1 98 = .ok (.iadd, 1) := by decide +kernel
theorem dX0_dateOf_99 : decode mX0_dateOf.2.1 99 = .ok (.goto 8, 3) := by decide +kernel
theorem dX0_dateOf_102 : decode mX0_dateOf.2.1 102 = .ok (.iload 6, 2) := by decide +kernel
theorem dX0_dateOf_104 : decode mX0_dateOf.2.1 104 = .ok (.bipush 9, 2) := by decide +kernel
theorem dX0_dateOf_106 : decode mX0_dateOf.2.1 106 = .ok (.isub, 1) := by decide +kernel
theorem dX0_dateOf_107 : decode mX0_dateOf.2.1 107 = .ok (.istore 8, 2) := by decide +kernel
theorem dX0_dateOf_109 : decode mX0_dateOf.2.1 109 = .ok (.iload_n 2, 1) := by decide +kernel
theorem dX0_dateOf_110 : decode mX0_dateOf.2.1 110 = .ok (.sipush 400, 3) := by decide +kernel
theorem dX0_dateOf_113 : decode mX0_dateOf.2.1 113 = .ok (.imul, 1) := by decide +kernel
theorem dX0_dateOf_114 : decode mX0_dateOf.2.1 114 = .ok (.iload 4, 2) := by decide +kernel
theorem dX0_dateOf_116 : decode mX0_dateOf.2.1 116 = .ok (.iadd, 1) := by decide +kernel
theorem dX0_dateOf_117 : decode mX0_dateOf.2.1 117 = .ok (.iload 8, 2) := by decide +kernel
theorem dX0_dateOf_119 : decode mX0_dateOf.2.1 119 = .ok (.iconst 2, 1) := by decide +kernel
theorem dX0_dateOf_120 : decode mX0_dateOf.2.1 120 = .ok (.if_icmp .le 7, 3) := by decide +kernel
theorem dX0_dateOf_123 : decode mX0_dateOf.2.1 123 = .ok (.iconst 0, 1) := by decide +kernel
theorem dX0_dateOf_124 : decode mX0_dateOf.2.1 124 = .ok (.goto 4, 3) := by decide +kernel
theorem dX0_dateOf_127 : decode mX0_dateOf.2.1 127 = .ok (.iconst 1, 1) := by decide +kernel
theorem dX0_dateOf_128 : decode mX0_dateOf.2.1 128 = .ok (.iadd, 1) := by decide +kernel
theorem dX0_dateOf_129 : decode mX0_dateOf.2.1 129 = .ok (.istore 9, 2) := by decide +kernel
theorem dX0_dateOf_131 : decode mX0_dateOf.2.1 131 = .ok (.iload 9, 2) := by decide +kernel
theorem dX0_dateOf_133 : decode mX0_dateOf.2.1 133 = .ok (.sipush 10000, 3) := by decide +kernel
theorem dX0_dateOf_136 : decode mX0_dateOf.2.1 136 = .ok (.imul, 1) := by decide +kernel
theorem dX0_dateOf_137 : decode mX0_dateOf.2.1 137 = .ok (.iload 8, 2) := by decide +kernel
theorem dX0_dateOf_139 : decode mX0_dateOf.2.1 139 = .ok (.bipush 100, 2) := by decide +kernel
theorem dX0_dateOf_141 : decode mX0_dateOf.2.1 141 = .ok (.imul, 1) := by decide +kernel
theorem dX0_dateOf_142 : decode mX0_dateOf.2.1 142 = .ok (.iadd, 1) := by decide +kernel
theorem dX0_dateOf_143 : decode mX0_dateOf.2.1 143 = .ok (.iload 7, 2) := by decide +kernel
theorem dX0_dateOf_145 : decode mX0_dateOf.2.1 145 = .ok (.iadd, 1) := by decide +kernel
theorem dX0_dateOf_146 : decode mX0_dateOf.2.1 146 = .ok (.ireturn, 1) := by decide +kernel
theorem bX0_dateOf_0 {SC : Nat → Nat} {X : mh_X} {d : Nat} {Q : Option am_V → am_W → Prop} {bc bs : Nat} {w : am_W} {x0 : Int}
    (h : ((10 ≤ (am_w (Int.tdiv (am_w ((am_w (5 * (am_w ((am_w (Int.tmod (am_w (x0 + 657377)) 146097)) - (am_w ((am_w ((am_w (365 * (am_w (Int.tdiv (am_w ((am_w ((am_w ((am_w (Int.tmod (am_w (x0 + 657377)) 146097)) - (am_w (Int.tdiv (am_w (Int.tmod (am_w (x0 + 657377)) 146097)) 1460)))) + (am_w (Int.tdiv (am_w (Int.tmod (am_w (x0 + 657377)) 146097)) 36524)))) - (am_w (Int.tdiv (am_w (Int.tmod (am_w (x0 + 657377)) 146097)) 146096)))) 365)))) + (am_w (Int.tdiv (am_w (Int.tdiv (am_w ((am_w ((am_w ((am_w (Int.tmod (am_w (x0 + 657377)) 146097)) - (am_w (Int.tdiv (am_w (Int.tmod (am_w (x0 + 657377)) 146097)) 1460)))) + (am_w (Int.tdiv (am_w (Int.tmod (am_w (x0 + 657377)) 146097)) 36524)))) - (am_w (Int.tdiv (am_w (Int.tmod (am_w (x0 + 657377)) 146097)) 146096)))) 365)) 4)))) - (am_w (Int.tdiv (am_w (Int.tdiv (am_w ((am_w ((am_w ((am_w (Int.tmod (am_w (x0 + 657377)) 146097)) - (am_w (Int.tdiv (am_w (Int.tmod (am_w (x0 + 657377)) 146097)) 1460)))) + (am_w (Int.tdiv (am_w (Int.tmod (am_w (x0 + 657377)) 146097)) 36524)))) - (am_w (Int.tdiv (am_w (Int.tmod (am_w (x0 + 657377)) 146097)) 146096)))) 365)) 100)))))))) + 2)) 153)) → am_A (mh_G X) SC (d + 1) mX0_dateOf Q 107 [(2, .inl (am_w (Int.tdiv (am_w (x0 + 657377)) 146097))), (4, .inl (am_w (Int.tdiv (am_w ((am_w ((am_w ((am_w (Int.tmod (am_w (x0 + 657377)) 146097)) - (am_w (Int.tdiv (am_w (Int.tmod (am_w (x0 + 657377)) 146097)) 1460)))) + (am_w (Int.tdiv (am_w (Int.tmod (am_w (x0 + 657377)) 146097)) 36524)))) - (am_w (Int.tdiv (am_w (Int.tmod (am_w (x0 + 657377)) 146097)) 146096)))) 365))), (7, .inl (am_w ((am_w ((am_w ((am_w (Int.tmod (am_w (x0 + 657377)) 146097)) - (am_w ((am_w ((am_w (365 * (am_w (Int.tdiv (am_w ((am_w ((am_w ((am_w (Int.tmod (am_w (x0 + 657377)) 146097)) - (am_w (Int.tdiv (am_w (Int.tmod (am_w (x0 + 657377)) 146097)) 1460)))) + (am_w (Int.tdiv (am_w (Int.tmod (am_w (x0 + 657377)) 146097)) 36524)))) - (am_w (Int.tdiv (am_w (Int.tmod (am_w (x0 + 657377)) 146097)) 146096)))) 365)))) + (am_w (Int.tdiv (am_w (Int.tdiv (am_w ((am_w ((am_w ((am_w (Int.tmod (am_w (x0 + 657377)) 146097)) - (am_w (Int.tdiv (am_w (Int.tmod (am_w (x0 + 657377)) 146097)) 1460)))) + (am_w (Int.tdiv (am_w (Int.tmod (am_w (x0 + 657377)) 146097)) 36524)))) - (am_w (Int.tdiv (am_w (Int.tmod (am_w (x0 + 657377)) 146097)) 146096)))) 365)) 4)))) - (am_w (Int.tdiv (am_w (Int.tdiv (am_w ((am_w ((am_w ((am_w (Int.tmod (am_w (x0 + 657377)) 146097)) - (am_w (Int.tdiv (am_w (Int.tmod (am_w (x0 + 657377)) 146097)) 1460)))) + (am_w (Int.tdiv (am_w (Int.tmod (am_w (x0 + 657377)) 146097)) 36524)))) - (am_w (Int.tdiv (am_w (Int.tmod (am_w (x0 + 657377)) 146097)) 146096)))) 365)) 100)))))) - (am_w (Int.tdiv (am_w ((am_w (153 * (am_w (Int.tdiv (am_w ((am_w (5 * (am_w ((am_w (Int.tmod (am_w (x0 + 657377)) 146097)) - (am_w ((am_w ((am_w (365 * (am_w (Int.tdiv (am_w ((am_w ((am_w ((am_w (Int.tmod (am_w (x0 + 657377)) 146097)) - (am_w (Int.tdiv (am_w (Int.tmod (am_w (x0 + 657377)) 146097)) 1460)))) + (am_w (Int.tdiv (am_w (Int.tmod (am_w (x0 + 657377)) 146097)) 36524)))) - (am_w (Int.tdiv (am_w (Int.tmod (am_w (x0 + 657377)) 146097)) 146096)))) 365)))) + (am_w (Int.tdiv (am_w (Int.tdiv (am_w ((am_w ((am_w ((am_w (Int.tmod (am_w (x0 + 657377)) 146097)) - (am_w (Int.tdiv (am_w (Int.tmod (am_w (x0 + 657377)) 146097)) 1460)))) + (am_w (Int.tdiv (am_w (Int.tmod (am_w (x0 + 657377)) 146097)) 36524)))) - (am_w (Int.tdiv (am_w (Int.tmod (am_w (x0 + 657377)) 146097)) 146096)))) 365)) 4)))) - (am_w (Int.tdiv (am_w (Int.tdiv (am_w ((am_w ((am_w ((am_w (Int.tmod (am_w (x0 + 657377)) 146097)) - (am_w (Int.tdiv (am_w (Int.tmod (am_w (x0 + 657377)) 146097)) 1460)))) + (am_w (Int.tdiv (am_w (Int.tmod (am_w (x0 + 657377)) 146097)) 36524)))) - (am_w (Int.tdiv (am_w (Int.tmod (am_w (x0 + 657377)) 146097)) 146096)))) 365)) 100)))))))) + 2)) 153)))) + 2)) 5)))) + 1)))] [.inl (am_w ((am_w (Int.tdiv (am_w ((am_w (5 * (am_w ((am_w (Int.tmod (am_w (x0 + 657377)) 146097)) - (am_w ((am_w ((am_w (365 * (am_w (Int.tdiv (am_w ((am_w ((am_w ((am_w (Int.tmod (am_w (x0 + 657377)) 146097)) - (am_w (Int.tdiv (am_w (Int.tmod (am_w (x0 + 657377)) 146097)) 1460)))) + (am_w (Int.tdiv (am_w (Int.tmod (am_w (x0 + 657377)) 146097)) 36524)))) - (am_w (Int.tdiv (am_w (Int.tmod (am_w (x0 + 657377)) 146097)) 146096)))) 365)))) + (am_w (Int.tdiv (am_w (Int.tdiv (am_w ((am_w ((am_w ((am_w (Int.tmod (am_w (x0 + 657377)) 146097)) - (am_w (Int.tdiv (am_w (Int.tmod (am_w (x0 + 657377)) 146097)) 1460)))) + (am_w (Int.tdiv (am_w (Int.tmod (am_w (x0 + 657377)) 146097)) 36524)))) - (am_w (Int.tdiv (am_w (Int.tmod (am_w (x0 + 657377)) 146097)) 146096)))) 365)) 4)))) - (am_w (Int.tdiv (am_w (Int.tdiv (am_w ((am_w ((am_w ((am_w (Int.tmod (am_w (x0 + 657377)) 146097)) - (am_w (Int.tdiv (am_w (Int.tmod (am_w (x0 + 657377)) 146097)) 1460)))) + (am_w (Int.tdiv (am_w (Int.tmod (am_w (x0 + 657377)) 146097)) 36524)))) - (am_w (Int.tdiv (am_w (Int.tmod (am_w (x0 + 657377)) 146097)) 146096)))) 365)) 100)))))))) + 2)) 153)) - 9))] w bc bs) ∧ (¬ 10 ≤ (am_w (Int.tdiv (am_w ((am_w (5 * (am_w ((am_w (Int.tmod (am_w (x0 + 657377)) 146097)) - (am_w ((am_w ((am_w (365 * (am_w (Int.tdiv (am_w ((am_w ((am_w ((am_w (Int.tmod (am_w (x0 + 657377)) 146097)) - (am_w (Int.tdiv (am_w (Int.tmod (am_w (x0 + 657377)) 146097)) 1460)))) + (am_w (Int.tdiv (am_w (Int.tmod (am_w (x0 + 657377)) 146097)) 36524)))) - (am_w (Int.tdiv (am_w (Int.tmod (am_w (x0 + 657377)) 146097)) 146096)))) 365)))) + (am_w (Int.tdiv (am_w (Int.tdiv (am_w ((am_w ((am_w ((am_w (Int.tmod (am_w (x0 + 657377)) 146097)) - (am_w (Int.tdiv (am_w (Int.tmod (am_w (x0 + 657377)) 146097)) 1460)))) + (am_w (Int.tdiv (am_w (Int.tmod (am_w (x0 + 657377)) 146097)) 36524)))) - (am_w (Int.tdiv (am_w (Int.tmod (am_w (x0 + 657377)) 146097)) 146096)))) 365)) 4)))) - (am_w (Int.tdiv (am_w (Int.tdiv (am_w ((am_w ((am_w ((am_w (Int.tmod (am_w (x0 + 657377)) 146097)) - (am_w (Int.tdiv (am_w (Int.tmod (am_w (x0 + 657377)) 146097)) 1460)))) + (am_w (Int.tdiv (am_w (Int.tmod (am_w (x0 + 657377)) 146097)) 36524)))) - (am_w (Int.tdiv (am_w (Int.tmod (am_w (x0 + 657377)) 146097)) 146096)))) 365)) 100)))))))) + 2)) 153)) → am_A (mh_G X) SC (d + 1) mX0_dateOf Q 107 [(2, .inl (am_w (Int.tdiv (am_w (x0 + 657377)) 146097))), (4, .inl (am_w (Int.tdiv (am_w ((am_w ((am_w ((am_w (Int.tmod (am_w (x0 + 657377)) 146097)) - (am_w (Int.tdiv (am_w (Int.tmod (am_w (x0 + 657377)) 146097)) 1460)))) + (am_w (Int.tdiv (am_w (Int.tmod (am_w (x0 + 657377)) 146097)) 36524)))) - (am_w (Int.tdiv (am_w (Int.tmod (am_w (x0 + 657377)) 146097)) 146096)))) 365))), (7, .inl (am_w ((am_w ((am_w ((am_w (Int.tmod (am_w (x0 + 657377)) 146097)) - (am_w ((am_w ((am_w (365 * (am_w (Int.tdiv (am_w ((am_w ((am_w ((am_w (Int.tmod (am_w (x0 + 657377)) 146097)) - (am_w (Int.tdiv (am_w (Int.tmod (am_w (x0 + 657377)) 146097)) 1460)))) + (am_w (Int.tdiv (am_w (Int.tmod (am_w (x0 + 657377)) 146097)) 36524)))) - (am_w (Int.tdiv (am_w (Int.tmod (am_w (x0 + 657377)) 146097)) 146096)))) 365)))) + (am_w (Int.tdiv (am_w (Int.tdiv (am_w ((am_w ((am_w ((am_w (Int.tmod (am_w (x0 + 657377)) 146097)) - (am_w (Int.tdiv (am_w (Int.tmod (am_w (x0 + 657377)) 146097)) 1460)))) + (am_w (Int.tdiv (am_w (Int.tmod (am_w (x0 + 657377)) 146097)) 36524)))) - (am_w (Int.tdiv (am_w (Int.tmod (am_w (x0 + 657377)) 146097)) 146096)))) 365)) 4)))) - (am_w (Int.tdiv (am_w (Int.tdiv (am_w ((am_w ((am_w ((am_w (Int.tmod (am_w (x0 + 657377)) 146097)) - (am_w (Int.tdiv (am_w (Int.tmod (am_w (x0 + 657377)) 146097)) 1460)))) + (am_w (Int.tdiv (am_w (Int.tmod (am_w (x0 + 657377)) 146097)) 36524)))) - (am_w (Int.tdiv (am_w (Int.tmod (am_w (x0 + 657377)) 146097)) 146096)))) 365)) 100)))))) - (am_w (Int.tdiv (am_w ((am_w (153 * (am_w (Int.tdiv (am_w ((am_w (5 * (am_w ((am_w (Int.tmod (am_w (x0 + 657377)) 146097)) - (am_w ((am_w ((am_w (365 * (am_w (Int.tdiv (am_w ((am_w ((am_w ((am_w (Int.tmod (am_w (x0 + 657377)) 146097)) - (am_w (Int.tdiv (am_w (Int.tmod (am_w (x0 + 657377)) 146097)) 1460)))) + (am_w (Int.tdiv (am_w (Int.tmod (am_w (x0 + 657377)) 146097)) 36524)))) - (am_w (Int.tdiv (am_w (Int.tmod (am_w (x0 + 657377)) 146097)) 146096)))) 365)))) + (am_w (Int.tdiv (am_w (Int.tdiv (am_w ((am_w ((am_w ((am_w (Int.tmod (am_w (x0 + 657377)) 146097)) - (am_w (Int.tdiv (am_w (Int.tmod (am_w (x0 + 657377)) 146097)) 1460)))) + (am_w (Int.tdiv (am_w (Int.tmod (am_w (x0 + 657377)) 146097)) 36524)))) - (am_w (Int.tdiv (am_w (Int.tmod (am_w (x0 + 657377)) 146097)) 146096)))) 365)) 4)))) - (am_w (Int.tdiv (am_w (Int.tdiv (am_w ((am_w ((am_w ((am_w (Int.tmod (am_w (x0 + 657377)) 146097)) - (am_w (Int.tdiv (am_w (Int.tmod (am_w (x0 + 657377)) 146097)) 1460)))) + (am_w (Int.tdiv (am_w (Int.tmod (am_w (x0 + 657377)) 146097)) 36524)))) - (am_w (Int.tdiv (am_w (Int.tmod (am_w (x0 + 657377)) 146097)) 146096)))) 365)) 100)))))))) + 2)) 153)))) + 2)) 5)))) + 1)))] [.inl (am_w ((am_w (Int.tdiv (am_w ((am_w (5 * (am_w ((am_w (Int.tmod (am_w (x0 + 657377)) 146097)) - (am_w ((am_w ((am_w (365 * (am_w (Int.tdiv (am_w ((am_w ((am_w ((am_w (Int.tmod (am_w (x0 + 657377)) 146097)) - (am_w (Int.tdiv (am_w (Int.tmod (am_w (x0 + 657377)) 146097)) 1460)))) + (am_w (Int.tdiv (am_w (Int.tmod (am_w (x0 + 657377)) 146097)) 36524)))) - (am_w (Int.tdiv (am_w (Int.tmod (am_w (x0 + 657377)) 146097)) 146096)))) 365)))) + (am_w (Int.tdiv (am_w (Int.tdiv (am_w ((am_w ((am_w ((am_w (Int.tmod (am_w (x0 + 657377)) 146097)) - (am_w (Int.tdiv (am_w (Int.tmod (am_w (x0 + 657377)) 146097)) 1460)))) + (am_w (Int.tdiv (am_w (Int.tmod (am_w (x0 + 657377)) 146097)) 36524)))) - (am_w (Int.tdiv (am_w (Int.tmod (am_w (x0 + 657377)) 146097)) 146096)))) 365)) 4)))) - (am_w (Int.tdiv (am_w (Int.tdiv (am_w ((am_w ((am_w ((am_w (Int.tmod (am_w (x0 + 657377)) 146097)) - (am_w (Int.tdiv (am_w (Int.tmod (am_w (x0 + 657377)) 146097)) 1460)))) + (am_w (Int.tdiv (am_w (Int.tmod (am_w (x0 + 657377)) 146097)) 36524)))) - (am_w (Int.tdiv (am_w (Int.tmod (am_w (x0 + 657377)) 146097)) 146096)))) 365)) 100)))))))) + 2)) 153)) + 3))] w bc bs))) :
    am_A (mh_G X) SC (d + 1) mX0_dateOf Q 0 [(0, .inl x0)] [] w bc bs := by
  refine am_iload_n dX0_dateOf_0 (List.Mem.head _) ?_
  refine am_ldcV (n := 657377) dX0_dateOf_1 (by decide) wd_1012 (by unfold am_rg; omega) ?_
  refine am_iadd dX0_dateOf_3 ?_
  refine am_istore_n (ls' := [(1, .inl (am_w (x0 + 657377))), (0, .inl x0)]) dX0_dateOf_4 (by decide) rfl ?_
  refine am_iload_n dX0_dateOf_5 (List.Mem.head _) ?_
  refine am_ldcV (n := 146097) dX0_dateOf_6 (by decide) wd_1013 (by unfold am_rg; omega) ?_
  refine am_idiv dX0_dateOf_8 (by decide) ?_
  refine am_istore_n (ls' := [(2, .inl (am_w (Int.tdiv (am_w (x0 + 657377)) 146097))), (1, .inl (am_w (x0 + 657377))), (0, .inl x0)]) dX0_dateOf_9 (by decide) rfl ?_
  refine am_iload_n dX0_dateOf_10 (List.Mem.tail _ (List.Mem.head _)) ?_
  refine am_ldcV (n := 146097) dX0_dateOf_11 (by decide) wd_1013 (by unfold am_rg; omega) ?_
  refine am_irem dX0_dateOf_13 (by decide) ?_
  refine am_istore_n (ls' := [(3, .inl (am_w (Int.tmod (am_w (x0 + 657377)) 146097))), (2, .inl (am_w (Int.tdiv (am_w (x0 + 657377)) 146097))), (1, .inl (am_w (x0 + 657377))), (0, .inl x0)]) dX0_dateOf_14 (by decide) rfl ?_
  refine am_iload_n dX0_dateOf_15 (List.Mem.head _) ?_
  refine am_iload_n dX0_dateOf_16 (List.Mem.head _) ?_
  refine am_sipush dX0_dateOf_17 (by decide) (by unfold am_rg; omega) ?_
  refine am_idiv dX0_dateOf_20 (by decide) ?_
  refine am_isub dX0_dateOf_21 ?_
  refine am_iload_n dX0_dateOf_22 (List.Mem.head _) ?_
  refine am_ldcV (n := 36524) dX0_dateOf_23 (by decide) wd_1014 (by unfold am_rg; omega) ?_
  refine am_idiv dX0_dateOf_25 (by decide) ?_
  refine am_iadd dX0_dateOf_26 ?_
  refine am_iload_n dX0_dateOf_27 (List.Mem.head _) ?_
  refine am_ldcV (n := 146096) dX0_dateOf_28 (by decide) wd_1015 (by unfold am_rg; omega) ?_
  refine am_idiv dX0_dateOf_30 (by decide) ?_
  refine am_isub dX0_dateOf_31 ?_
  refine am_sipush dX0_dateOf_32 (by decide) (by unfold am_rg; omega) ?_
  refine am_idiv dX0_dateOf_35 (by decide) ?_
  refine am_istore (ls' := [(4, .inl (am_w (Int.tdiv (am_w ((am_w ((am_w ((am_w (Int.tmod (am_w (x0 + 657377)) 146097)) - (am_w (Int.tdiv (am_w (Int.tmod (am_w (x0 + 657377)) 146097)) 1460)))) + (am_w (Int.tdiv (am_w (Int.tmod (am_w (x0 + 657377)) 146097)) 36524)))) - (am_w (Int.tdiv (am_w (Int.tmod (am_w (x0 + 657377)) 146097)) 146096)))) 365))), (3, .inl (am_w (Int.tmod (am_w (x0 + 657377)) 146097))), (2, .inl (am_w (Int.tdiv (am_w (x0 + 657377)) 146097))), (1, .inl (am_w (x0 + 657377))), (0, .inl x0)]) dX0_dateOf_36 (by decide) rfl ?_
  refine am_iload_n dX0_dateOf_38 (List.Mem.tail _ (List.Mem.head _)) ?_
  refine am_sipush dX0_dateOf_39 (by decide) (by unfold am_rg; omega) ?_
  refine am_iload dX0_dateOf_42 (List.Mem.head _) ?_
  refine am_imul dX0_dateOf_44 ?_
  refine am_iload dX0_dateOf_45 (List.Mem.head _) ?_
  refine am_iconst dX0_dateOf_47 (by unfold am_rg; omega) ?_
  refine am_idiv dX0_dateOf_48 (by decide) ?_
  refine am_iadd dX0_dateOf_49 ?_
  refine am_iload dX0_dateOf_50 (List.Mem.head _) ?_
  refine am_bipush dX0_dateOf_52 (by decide) (by unfold am_rg; omega) ?_
  refine am_idiv dX0_dateOf_54 (by decide) ?_
  refine am_isub dX0_dateOf_55 ?_
  refine am_isub dX0_dateOf_56 ?_
  refine am_istore (ls' := [(5, .inl (am_w ((am_w (Int.tmod (am_w (x0 + 657377)) 146097)) - (am_w ((am_w ((am_w (365 * (am_w (Int.tdiv (am_w ((am_w ((am_w ((am_w (Int.tmod (am_w (x0 + 657377)) 146097)) - (am_w (Int.tdiv (am_w (Int.tmod (am_w (x0 + 657377)) 146097)) 1460)))) + (am_w (Int.tdiv (am_w (Int.tmod (am_w (x0 + 657377)) 146097)) 36524)))) - (am_w (Int.tdiv (am_w (Int.tmod (am_w (x0 + 657377)) 146097)) 146096)))) 365)))) + (am_w (Int.tdiv (am_w (Int.tdiv (am_w ((am_w ((am_w ((am_w (Int.tmod (am_w (x0 + 657377)) 146097)) - (am_w (Int.tdiv (am_w (Int.tmod (am_w (x0 + 657377)) 146097)) 1460)))) + (am_w (Int.tdiv (am_w (Int.tmod (am_w (x0 + 657377)) 146097)) 36524)))) - (am_w (Int.tdiv (am_w (Int.tmod (am_w (x0 + 657377)) 146097)) 146096)))) 365)) 4)))) - (am_w (Int.tdiv (am_w (Int.tdiv (am_w ((am_w ((am_w ((am_w (Int.tmod (am_w (x0 + 657377)) 146097)) - (am_w (Int.tdiv (am_w (Int.tmod (am_w (x0 + 657377)) 146097)) 1460)))) + (am_w (Int.tdiv (am_w (Int.tmod (am_w (x0 + 657377)) 146097)) 36524)))) - (am_w (Int.tdiv (am_w (Int.tmod (am_w (x0 + 657377)) 146097)) 146096)))) 365)) 100))))))), (4, .inl (am_w (Int.tdiv (am_w ((am_w ((am_w ((am_w (Int.tmod (am_w (x0 + 657377)) 146097)) - (am_w (Int.tdiv (am_w (Int.tmod (am_w (x0 + 657377)) 146097)) 1460)))) + (am_w (Int.tdiv (am_w (Int.tmod (am_w (x0 + 657377)) 146097)) 36524)))) - (am_w (Int.tdiv (am_w (Int.tmod (am_w (x0 + 657377)) 146097)) 146096)))) 365))), (3, .inl (am_w (Int.tmod (am_w (x0 + 657377)) 146097))), (2, .inl (am_w (Int.tdiv (am_w (x0 + 657377)) 146097))), (1, .inl (am_w (x0 + 657377))), (0, .inl x0)]) dX0_dateOf_57 (by decide) rfl ?_
  refine am_iconst dX0_dateOf_59 (by unfold am_rg; omega) ?_
  refine am_iload dX0_dateOf_60 (List.Mem.head _) ?_
  refine am_imul dX0_dateOf_62 ?_
  refine am_iconst dX0_dateOf_63 (by unfold am_rg; omega) ?_
  refine am_iadd dX0_dateOf_64 ?_
  refine am_sipush dX0_dateOf_65 (by decide) (by unfold am_rg; omega) ?_
  refine am_idiv dX0_dateOf_68 (by decide) ?_
  refine am_istore (ls' := [(6, .inl (am_w (Int.tdiv (am_w ((am_w (5 * (am_w ((am_w (Int.tmod (am_w (x0 + 657377)) 146097)) - (am_w ((am_w ((am_w (365 * (am_w (Int.tdiv (am_w ((am_w ((am_w ((am_w (Int.tmod (am_w (x0 + 657377)) 146097)) - (am_w (Int.tdiv (am_w (Int.tmod (am_w (x0 + 657377)) 146097)) 1460)))) + (am_w (Int.tdiv (am_w (Int.tmod (am_w (x0 + 657377)) 146097)) 36524)))) - (am_w (Int.tdiv (am_w (Int.tmod (am_w (x0 + 657377)) 146097)) 146096)))) 365)))) + (am_w (Int.tdiv (am_w (Int.tdiv (am_w ((am_w ((am_w ((am_w (Int.tmod (am_w (x0 + 657377)) 146097)) - (am_w (Int.tdiv (am_w (Int.tmod (am_w (x0 + 657377)) 146097)) 1460)))) + (am_w (Int.tdiv (am_w (Int.tmod (am_w (x0 + 657377)) 146097)) 36524)))) - (am_w (Int.tdiv (am_w (Int.tmod (am_w (x0 + 657377)) 146097)) 146096)))) 365)) 4)))) - (am_w (Int.tdiv (am_w (Int.tdiv (am_w ((am_w ((am_w ((am_w (Int.tmod (am_w (x0 + 657377)) 146097)) - (am_w (Int.tdiv (am_w (Int.tmod (am_w (x0 + 657377)) 146097)) 1460)))) + (am_w (Int.tdiv (am_w (Int.tmod (am_w (x0 + 657377)) 146097)) 36524)))) - (am_w (Int.tdiv (am_w (Int.tmod (am_w (x0 + 657377)) 146097)) 146096)))) 365)) 100)))))))) + 2)) 153))), (5, .inl (am_w ((am_w (Int.tmod (am_w (x0 + 657377)) 146097)) - (am_w ((am_w ((am_w (365 * (am_w (Int.tdiv (am_w ((am_w ((am_w ((am_w (Int.tmod (am_w (x0 + 657377)) 146097)) - (am_w (Int.tdiv (am_w (Int.tmod (am_w (x0 + 657377)) 146097)) 1460)))) + (am_w (Int.tdiv (am_w (Int.tmod (am_w (x0 + 657377)) 146097)) 36524)))) - (am_w (Int.tdiv (am_w (Int.tmod (am_w (x0 + 657377)) 146097)) 146096)))) 365)))) + (am_w (Int.tdiv (am_w (Int.tdiv (am_w ((am_w ((am_w ((am_w (Int.tmod (am_w (x0 + 657377)) 146097)) - (am_w (Int.tdiv (am_w (Int.tmod (am_w (x0 + 657377)) 146097)) 1460)))) + (am_w (Int.tdiv (am_w (Int.tmod (am_w (x0 + 657377)) 146097)) 36524)))) - (am_w (Int.tdiv (am_w (Int.tmod (am_w (x0 + 657377)) 146097)) 146096)))) 365)) 4)))) - (am_w (Int.tdiv (am_w (Int.tdiv (am_w ((am_w ((am_w ((am_w (Int.tmod (am_w (x0 + 657377)) 146097)) - (am_w (Int.tdiv (am_w (Int.tmod (am_w (x0 + 657377)) 146097)) 1460)))) + (am_w (Int.tdiv (am_w (Int.tmod (am_w (x0 + 657377)) 146097)) 36524)))) - (am_w (Int.tdiv (am_w (Int.tmod (am_w (x0 + 657377)) 146097)) 146096)))) 365)) 100))))))), (4, .inl (am_w (Int.tdiv (am_w ((am_w ((am_w ((am_w (Int.tmod (am_w (x0 + 657377)) 146097)) - (am_w (Int.tdiv (am_w (Int.tmod (am_w (x0 + 657377)) 146097)) 1460)))) + (am_w (Int.tdiv (am_w (Int.tmod (am_w (x0 + 657377)) 146097)) 36524)))) - (am_w (Int.tdiv (am_w (Int.tmod (am_w (x0 + 657377)) 146097)) 146096)))) 365))), (3, .inl (am_w (Int.tmod (am_w (x0 + 657377)) 146097))), (2, .inl (am_w (Int.tdiv (am_w (x0 + 657377)) 146097))), (1, .inl (am_w (x0 + 657377))), (0, .inl x0)]) dX0_dateOf_69 (by decide) rfl ?_
  refine am_iload dX0_dateOf_71 (List.Mem.tail _ (List.Mem.head _)) ?_
  refine am_sipush dX0_dateOf_73 (by decide) (by unfold am_rg; omega) ?_
  refine am_iload dX0_dateOf_76 (List.Mem.head _) ?_
  refine am_imul dX0_dateOf_78 ?_
  refine am_iconst dX0_dateOf_79 (by unfold am_rg; omega) ?_
  refine am_iadd dX0_dateOf_80 ?_
  refine am_iconst dX0_dateOf_81 (by unfold am_rg; omega) ?_
  refine am_idiv dX0_dateOf_82 (by decide) ?_
  refine am_isub dX0_dateOf_83 ?_
  refine am_iconst dX0_dateOf_84 (by unfold am_rg; omega) ?_
  refine am_iadd dX0_dateOf_85 ?_
  refine am_istore (ls' := [(7, .inl (am_w ((am_w ((am_w ((am_w (Int.tmod (am_w (x0 + 657377)) 146097)) - (am_w ((am_w ((am_w (365 * (am_w (Int.tdiv (am_w ((am_w ((am_w ((am_w (Int.tmod (am_w (x0 + 657377)) 146097)) - (am_w (Int.tdiv (am_w (Int.tmod (am_w (x0 + 657377)) 146097)) 1460)))) + (am_w (Int.tdiv (am_w (Int.tmod (am_w (x0 + 657377)) 146097)) 36524)))) - (am_w (Int.tdiv (am_w (Int.tmod (am_w (x0 + 657377)) 146097)) 146096)))) 365)))) + (am_w (Int.tdiv (am_w (Int.tdiv (am_w ((am_w ((am_w ((am_w (Int.tmod (am_w (x0 + 657377)) 146097)) - (am_w (Int.tdiv (am_w (Int.tmod (am_w (x0 + 657377)) 146097)) 1460)))) + (am_w (Int.tdiv (am_w (Int.tmod (am_w (x0 + 657377)) 146097)) 36524)))) - (am_w (Int.tdiv (am_w (Int.tmod (am_w (x0 + 657377)) 146097)) 146096)))) 365)) 4)))) - (am_w (Int.tdiv (am_w (Int.tdiv (am_w ((am_w ((am_w ((am_w (Int.tmod (am_w (x0 + 657377)) 146097)) - (am_w (Int.tdiv (am_w (Int.tmod (am_w (x0 + 657377)) 146097)) 1460)))) + (am_w (Int.tdiv (am_w (Int.tmod (am_w (x0 + 657377)) 146097)) 36524)))) - (am_w (Int.tdiv (am_w (Int.tmod (am_w (x0 + 657377)) 146097)) 146096)))) 365)) 100)))))) - (am_w (Int.tdiv (am_w ((am_w (153 * (am_w (Int.tdiv (am_w ((am_w (5 * (am_w ((am_w (Int.tmod (am_w (x0 + 657377)) 146097)) - (am_w ((am_w ((am_w (365 * (am_w (Int.tdiv (am_w ((am_w ((am_w ((am_w (Int.tmod (am_w (x0 + 657377)) 146097)) - (am_w (Int.tdiv (am_w (Int.tmod (am_w (x0 + 657377)) 146097)) 1460)))) + (am_w (Int.tdiv (am_w (Int.tmod (am_w (x0 + 657377)) 146097)) 36524)))) - (am_w (Int.tdiv (am_w (Int.tmod (am_w (x0 + 657377)) 146097)) 146096)))) 365)))) + (am_w (Int.tdiv (am_w (Int.tdiv (am_w ((am_w ((am_w ((am_w (Int.tmod (am_w (x0 + 657377)) 146097)) - (am_w (Int.tdiv (am_w (Int.tmod (am_w (x0 + 657377)) 146097)) 1460)))) + (am_w (Int.tdiv (am_w (Int.tmod (am_w (x0 + 657377)) 146097)) 36524)))) - (am_w (Int.tdiv (am_w (Int.tmod (am_w (x0 + 657377)) 146097)) 146096)))) 365)) 4)))) - (am_w (Int.tdiv (am_w (Int.tdiv (am_w ((am_w ((am_w ((am_w (Int.tmod (am_w (x0 + 657377)) 146097)) - (am_w (Int.tdiv (am_w (Int.tmod (am_w (x0 + 657377)) 146097)) 1460)))) + (am_w (Int.tdiv (am_w (Int.tmod (am_w (x0 + 657377)) 146097)) 36524)))) - (am_w (Int.tdiv (am_w (Int.tmod (am_w (x0 + 657377)) 146097)) 146096)))) 365)) 100)))))))) + 2)) 153)))) + 2)) 5)))) + 1))), (6, .inl (am_w (Int.tdiv (am_w ((am_w (5 * (am_w ((am_w (Int.tmod (am_w (x0 + 657377)) 146097)) - (am_w ((am_w ((am_w (365 * (am_w (Int.tdiv (am_w ((am_w ((am_w ((am_w (Int.tmod (am_w (x0 + 657377)) 146097)) - (am_w (Int.tdiv (am_w (Int.tmod (am_w (x0 + 657377)) 146097)) 1460)))) + (am_w (Int.tdiv (am_w (Int.tmod (am_w (x0 + 657377)) 146097)) 36524)))) - (am_w (Int.tdiv (am_w (Int.tmod (am_w (x0 + 657377)) 146097)) 146096)))) 365)))) + (am_w (Int.tdiv (am_w (Int.tdiv (am_w ((am_w ((am_w ((am_w (Int.tmod (am_w (x0 + 657377)) 146097)) - (am_w (Int.tdiv (am_w (Int.tmod (am_w (x0 + 657377)) 146097)) 1460)))) + (am_w (Int.tdiv (am_w (Int.tmod (am_w (x0 + 657377)) 146097)) 36524)))) - (am_w (Int.tdiv (am_w (Int.tmod (am_w (x0 + 657377)) 146097)) 146096)))) 365)) 4)))) - (am_w (Int.tdiv (am_w (Int.tdiv (am_w ((am_w ((am_w ((am_w (Int.tmod (am_w (x0 + 657377)) 146097)) - (am_w (Int.tdiv (am_w (Int.tmod (am_w (x0 + 657377)) 146097)) 1460)))) + (am_w (Int.tdiv (am_w (Int.tmod (am_w (x0 + 657377)) 146097)) 36524)))) - (am_w (Int.tdiv (am_w (Int.tmod (am_w (x0 + 657377)) 146097)) 146096)))) 365)) 100)))))))) + 2)) 153))), (5, .inl (am_w ((am_w (Int.tmod (am_w (x0 + 657377)) 146097)) - (am_w ((am_w ((am_w (365 * (am_w (Int.tdiv (am_w ((am_w ((am_w ((am_w (Int.tmod (am_w (x0 + 657377)) 146097)) - (am_w (Int.tdiv (am_w (Int.tmod (am_w (x0 + 657377)) 146097)) 1460)))) + (am_w (Int.tdiv (am_w (Int.tmod (am_w (x0 + 657377)) 146097)) 36524)))) - (am_w (Int.tdiv (am_w (Int.tmod (am_w (x0 + 657377)) 146097)) 146096)))) 365)))) + (am_w (Int.tdiv (am_w (Int.tdiv (am_w ((am_w ((am_w ((am_w (Int.tmod (am_w (x0 + 657377)) 146097)) - (am_w (Int.tdiv (am_w (Int.tmod (am_w (x0 + 657377)) 146097)) 1460)))) + (am_w (Int.tdiv (am_w (Int.tmod (am_w (x0 + 657377)) 146097)) 36524)))) - (am_w (Int.tdiv (am_w (Int.tmod (am_w (x0 + 657377)) 146097)) 146096)))) 365)) 4)))) - (am_w (Int.tdiv (am_w (Int.tdiv (am_w ((am_w ((am_w ((am_w (Int.tmod (am_w (x0 + 657377)) 146097)) - (am_w (Int.tdiv (am_w (Int.tmod (am_w (x0 + 657377)) 146097)) 1460)))) + (am_w (Int.tdiv (am_w (Int.tmod (am_w (x0 + 657377)) 146097)) 36524)))) - (am_w (Int.tdiv (am_w (Int.tmod (am_w (x0 + 657377)) 146097)) 146096)))) 365)) 100))))))), (4, .inl (am_w (Int.tdiv (am_w ((am_w ((am_w ((am_w (Int.tmod (am_w (x0 + 657377)) 146097)) - (am_w (Int.tdiv (am_w (Int.tmod (am_w (x0 + 657377)) 146097)) 1460)))) + (am_w (Int.tdiv (am_w (Int.tmod (am_w (x0 + 657377)) 146097)) 36524)))) - (am_w (Int.tdiv (am_w (Int.tmod (am_w (x0 + 657377)) 146097)) 146096)))) 365))), (3, .inl (am_w (Int.tmod (am_w (x0 + 657377)) 146097))), (2, .inl (am_w (Int.tdiv (am_w (x0 + 657377)) 146097))), (1, .inl (am_w (x0 + 657377))), (0, .inl x0)]) dX0_dateOf_86 (by decide) rfl ?_
  refine am_iload dX0_dateOf_88 (List.Mem.tail _ (List.Mem.head _)) ?_
  refine am_bipush dX0_dateOf_90 (by decide) (by unfold am_rg; omega) ?_
  refine am_icmpge (tgt := 102) dX0_dateOf_92 (by decide) (fun c1 => ?_) (fun c1 => ?_)
  · replace h := h.1 c1
    refine am_iload dX0_dateOf_102 (List.Mem.tail _ (List.Mem.head _)) ?_
    refine am_bipush dX0_dateOf_104 (by decide) (by unfold am_rg; omega) ?_
    refine am_isub dX0_dateOf_106 ?_
    exact am_sub [5, 3, 0] rfl h
  · replace h := h.2 c1
    refine am_iload dX0_dateOf_95 (List.Mem.tail _ (List.Mem.head _)) ?_
    refine am_iconst dX0_dateOf_97 (by unfold am_rg; omega) ?_
    refine am_iadd dX0_dateOf_98 ?_
    refine am_goto (tgt := 107) dX0_dateOf_99 (by decide) ?_
    exact am_sub [5, 3, 0] rfl h
theorem bX0_dateOf_107 {SC : Nat → Nat} {X : mh_X} {d : Nat} {Q : Option am_V → am_W → Prop} {bc bs : Nat} {w : am_W} {x2 : Int} {x4 : Int} {x7 : Int} {xs0 : Int}
    (h : ((xs0 ≤ 2 → am_A (mh_G X) SC (d + 1) mX0_dateOf Q 128 [(7, .inl x7), (8, .inl xs0)] [.inl 1, .inl (am_w ((am_w (x2 * 400)) + x4))] w bc bs) ∧ (¬ xs0 ≤ 2 → am_A (mh_G X) SC (d + 1) mX0_dateOf Q 128 [(7, .inl x7), (8, .inl xs0)] [.inl 0, .inl (am_w ((am_w (x2 * 400)) + x4))] w bc bs))) :
    am_A (mh_G X) SC (d + 1) mX0_dateOf Q 107 [(2, .inl x2), (4, .inl x4), (7, .inl x7)] [.inl xs0] w bc bs := by
  refine am_istore (ls' := [(8, .inl xs0), (2, .inl x2), (4, .inl x4), (7, .inl x7)]) dX0_dateOf_107 (by decide) rfl ?_
  refine am_iload_n dX0_dateOf_109 (List.Mem.tail _ (List.Mem.head _)) ?_
  refine am_sipush dX0_dateOf_110 (by decide) (by unfold am_rg; omega) ?_
  refine am_imul dX0_dateOf_113 ?_
  refine am_iload dX0_dateOf_114 (List.Mem.tail _ (List.Mem.tail _ (List.Mem.head _))) ?_
  refine am_iadd dX0_dateOf_116 ?_
  refine am_iload dX0_dateOf_117 (List.Mem.head _) ?_
  refine am_iconst dX0_dateOf_119 (by unfold am_rg; omega) ?_
  refine am_icmple (tgt := 127) dX0_dateOf_120 (by decide) (fun c1 => ?_) (fun c1 => ?_)
  · replace h := h.1 c1
    refine am_iconst dX0_dateOf_127 (by unfold am_rg; omega) ?_
    exact am_sub [3, 0] rfl h
  · replace h := h.2 c1
    refine am_iconst dX0_dateOf_123 (by unfold am_rg; omega) ?_
    refine am_goto (tgt := 128) dX0_dateOf_124 (by decide) ?_
    exact am_sub [3, 0] rfl h
theorem bX0_dateOf_128 {SC : Nat → Nat} {X : mh_X} {d : Nat} {Q : Option am_V → am_W → Prop} {bc bs : Nat} {w : am_W} {x7 : Int} {x8 : Int} {xs0 : Int} {xs1 : Int}
    (h : Q (some (.inl (am_w ((am_w ((am_w ((am_w (xs1 + xs0)) * 10000)) + (am_w (x8 * 100)))) + x7)))) w) :
    am_A (mh_G X) SC (d + 1) mX0_dateOf Q 128 [(7, .inl x7), (8, .inl x8)] [.inl xs0, .inl xs1] w bc bs := by
  refine am_iadd dX0_dateOf_128 ?_
  refine am_istore (ls' := [(9, .inl (am_w (xs1 + xs0))), (7, .inl x7), (8, .inl x8)]) dX0_dateOf_129 (by decide) rfl ?_
  refine am_iload dX0_dateOf_131 (List.Mem.head _) ?_
  refine am_sipush dX0_dateOf_133 (by decide) (by unfold am_rg; omega) ?_
  refine am_imul dX0_dateOf_136 ?_
  refine am_iload dX0_dateOf_137 (List.Mem.tail _ (List.Mem.tail _ (List.Mem.head _))) ?_
  refine am_bipush dX0_dateOf_139 (by decide) (by unfold am_rg; omega) ?_
  refine am_imul dX0_dateOf_141 ?_
  refine am_iadd dX0_dateOf_142 ?_
  refine am_iload dX0_dateOf_143 (List.Mem.tail _ (List.Mem.head _)) ?_
  refine am_iadd dX0_dateOf_145 ?_
  exact am_ret (r := some (.inl (am_w ((am_w ((am_w ((am_w (xs1 + xs0)) * 10000)) + (am_w (x8 * 100)))) + x7)))) dX0_dateOf_146 (Or.inl rfl) rfl h
-- MourningHouse$Calendar.later(II)I
theorem dX0_later_0 : decode mX0_later.2.1 0 = .ok (.iload_n 0, 1) := by decide +kernel
theorem dX0_later_1 : decode mX0_later.2.1 1 = .ok (.invokestatic 20, 3) := by decide +kernel
theorem dX0_later_4 : decode mX0_later.2.1 4 = .ok (.istore_n 2, 1) := by decide +kernel
theorem dX0_later_5 : decode mX0_later.2.1 5 = .ok (.iload_n 2, 1) := by decide +kernel
theorem dX0_later_6 : decode mX0_later.2.1 6 = .ok (.sipush 10000, 3) := by decide +kernel
theorem dX0_later_9 : decode mX0_later.2.1 9 = .ok (.idiv, 1) := by decide +kernel
theorem dX0_later_10 : decode mX0_later.2.1 10 = .ok (.bipush 12, 2) := by decide +kernel
theorem dX0_later_12 : decode mX0_later.2.1 12 = .ok (.imul, 1) := by decide +kernel
theorem dX0_later_13 : decode mX0_later.2.1 13 = .ok (.iload_n 2, 1) := by decide +kernel
theorem dX0_later_14 : decode mX0_later.2.1 14 = .ok (.bipush 100, 2) := by decide +kernel
theorem dX0_later_16 : decode mX0_later.2.1 16 = .ok (.idiv, 1) := by decide +kernel
theorem dX0_later_17 : decode mX0_later.2.1 17 = .ok (.bipush 100, 2) := by decide +kernel
theorem dX0_later_19 : decode mX0_later.2.1 19 = .ok (.irem, 1) := by decide +kernel
theorem dX0_later_20 : decode mX0_later.2.1 20 = .ok (.iadd, 1) := by decide +kernel
theorem dX0_later_21 : decode mX0_later.2.1 21 = .ok (.iconst 1, 1) := by decide +kernel
theorem dX0_later_22 : decode mX0_later.2.1 22 = .ok (.isub, 1) := by decide +kernel
theorem dX0_later_23 : decode mX0_later.2.1 23 = .ok (.iload_n 1, 1) := by decide +kernel
theorem dX0_later_24 : decode mX0_later.2.1 24 = .ok (.iadd, 1) := by decide +kernel
theorem dX0_later_25 : decode mX0_later.2.1 25 = .ok (.istore_n 3, 1) := by decide +kernel
theorem dX0_later_26 : decode mX0_later.2.1 26 = .ok (.iload_n 3, 1) := by decide +kernel
theorem dX0_later_27 : decode mX0_later.2.1 27 = .ok (.bipush 12, 2) := by decide +kernel
theorem dX0_later_29 : decode mX0_later.2.1 29 = .ok (.idiv, 1) := by decide +kernel
theorem dX0_later_30 : decode mX0_later.2.1 30 = .ok (.istore 4, 2) := by decide +kernel
theorem dX0_later_32 : decode mX0_later.2.1 32 = .ok (.iload_n 3, 1) := by decide +kernel
theorem dX0_later_33 : decode mX0_later.2.1 33 = .ok (.bipush 12, 2) := by decide +kernel
theorem dX0_later_35 : decode mX0_later.2.1 35 = .ok (.irem, 1) := by decide +kernel
theorem dX0_later_36 : decode mX0_later.2.1 36 = .ok (.iconst 1, 1) := by decide +kernel
theorem dX0_later_37 : decode mX0_later.2.1 37 = .ok (.iadd, 1) := by decide +kernel
theorem dX0_later_38 : decode mX0_later.2.1 38 = .ok (.istore 5, 2) := by decide +kernel
theorem dX0_later_40 : decode mX0_later.2.1 40 = .ok (.iload 4, 2) := by decide +kernel
theorem dX0_later_42 : decode mX0_later.2.1 42 = .ok (.iload 5, 2) := by decide +kernel
theorem dX0_later_44 : decode mX0_later.2.1 44 = .ok (.iload_n 2, 1) := by decide +kernel
theorem dX0_later_45 : decode mX0_later.2.1 45 = .ok (.bipush 100, 2) := by decide +kernel
theorem dX0_later_47 : decode mX0_later.2.1 47 = .ok (.irem, 1) := by decide +kernel
theorem dX0_later_48 : decode mX0_later.2.1 48 = .ok (.iload 4, 2) := by decide +kernel
theorem dX0_later_50 : decode mX0_later.2.1 50 = .ok (.iload 5, 2) := by decide +kernel
theorem dX0_later_52 : decode mX0_later.2.1 52 = .ok (.invokestatic 12, 3) := by decide +kernel
theorem dX0_later_55 : decode mX0_later.2.1 55 = .ok (.invokestatic 24, 3) := by decide +kernel
theorem dX0_later_58 : decode mX0_later.2.1 58 = .ok (.invokestatic 29, 3) := by decide +kernel
theorem dX0_later_61 : decode mX0_later.2.1 61 = .ok (.ireturn, 1) := by decide +kernel
theorem bX0_later_0 {SC : Nat → Nat} {X : mh_X} {d : Nat} {Q : Option am_V → am_W → Prop} {bc bs : Nat} {w : am_W} {x0 : Int} {x1 : Int}
    (h : am_M (mh_G X) SC d 0 0 mX0_dateOf [.inl x0] w (fun r w1 => am_A (mh_G X) SC (d + 1) mX0_later Q 4 [(0, .inl x0), (1, .inl x1)] (r.toList ++ []) w1 bc bs)) :
    am_A (mh_G X) SC (d + 1) mX0_later Q 0 [(0, .inl x0), (1, .inl x1)] [] w bc bs := by
  refine am_iload_n dX0_later_0 (List.Mem.head _) ?_
  exact am_calls (d' := d) (kc := 0) (ks := 0) (as := [.inl x0]) dX0_later_1 wc_X0_dateOf wd_1036 wd_1010 wd_129 ds_X0_dateOf (by decide) (Nat.le_refl _) (Nat.le_of_ble_eq_true rfl) (Nat.zero_le _) (Nat.zero_le _) rfl h
theorem bX0_later_4 {SC : Nat → Nat} {X : mh_X} {d : Nat} {Q : Option am_V → am_W → Prop} {bc bs : Nat} {w : am_W} {x0 : Int} {x1 : Int} {xs0 : Int}
    (h : am_M (mh_G X) SC d 0 0 mX0_lengthOf [.inl (am_w (Int.tdiv (am_w ((am_w ((am_w ((am_w ((am_w (Int.tdiv xs0 10000)) * 12)) + (am_w (Int.tmod (am_w (Int.tdiv xs0 100)) 100)))) - 1)) + x1)) 12)), .inl (am_w ((am_w (Int.tmod (am_w ((am_w ((am_w ((am_w ((am_w (Int.tdiv xs0 10000)) * 12)) + (am_w (Int.tmod (am_w (Int.tdiv xs0 100)) 100)))) - 1)) + x1)) 12)) + 1))] w (fun r w1 => am_A (mh_G X) SC (d + 1) mX0_later Q 55 [(5, .inl (am_w ((am_w (Int.tmod (am_w ((am_w ((am_w ((am_w ((am_w (Int.tdiv xs0 10000)) * 12)) + (am_w (Int.tmod (am_w (Int.tdiv xs0 100)) 100)))) - 1)) + x1)) 12)) + 1))), (4, .inl (am_w (Int.tdiv (am_w ((am_w ((am_w ((am_w ((am_w (Int.tdiv xs0 10000)) * 12)) + (am_w (Int.tmod (am_w (Int.tdiv xs0 100)) 100)))) - 1)) + x1)) 12))), (3, .inl (am_w ((am_w ((am_w ((am_w ((am_w (Int.tdiv xs0 10000)) * 12)) + (am_w (Int.tmod (am_w (Int.tdiv xs0 100)) 100)))) - 1)) + x1))), (2, .inl xs0), (0, .inl x0), (1, .inl x1)] (r.toList ++ [.inl (am_w (Int.tmod xs0 100)), .inl (am_w ((am_w (Int.tmod (am_w ((am_w ((am_w ((am_w ((am_w (Int.tdiv xs0 10000)) * 12)) + (am_w (Int.tmod (am_w (Int.tdiv xs0 100)) 100)))) - 1)) + x1)) 12)) + 1)), .inl (am_w (Int.tdiv (am_w ((am_w ((am_w ((am_w ((am_w (Int.tdiv xs0 10000)) * 12)) + (am_w (Int.tmod (am_w (Int.tdiv xs0 100)) 100)))) - 1)) + x1)) 12))]) w1 bc bs)) :
    am_A (mh_G X) SC (d + 1) mX0_later Q 4 [(0, .inl x0), (1, .inl x1)] [.inl xs0] w bc bs := by
  refine am_istore_n (ls' := [(2, .inl xs0), (0, .inl x0), (1, .inl x1)]) dX0_later_4 (by decide) rfl ?_
  refine am_iload_n dX0_later_5 (List.Mem.head _) ?_
  refine am_sipush dX0_later_6 (by decide) (by unfold am_rg; omega) ?_
  refine am_idiv dX0_later_9 (by decide) ?_
  refine am_bipush dX0_later_10 (by decide) (by unfold am_rg; omega) ?_
  refine am_imul dX0_later_12 ?_
  refine am_iload_n dX0_later_13 (List.Mem.head _) ?_
  refine am_bipush dX0_later_14 (by decide) (by unfold am_rg; omega) ?_
  refine am_idiv dX0_later_16 (by decide) ?_
  refine am_bipush dX0_later_17 (by decide) (by unfold am_rg; omega) ?_
  refine am_irem dX0_later_19 (by decide) ?_
  refine am_iadd dX0_later_20 ?_
  refine am_iconst dX0_later_21 (by unfold am_rg; omega) ?_
  refine am_isub dX0_later_22 ?_
  refine am_iload_n dX0_later_23 (List.Mem.tail _ (List.Mem.tail _ (List.Mem.head _))) ?_
  refine am_iadd dX0_later_24 ?_
  refine am_istore_n (ls' := [(3, .inl (am_w ((am_w ((am_w ((am_w ((am_w (Int.tdiv xs0 10000)) * 12)) + (am_w (Int.tmod (am_w (Int.tdiv xs0 100)) 100)))) - 1)) + x1))), (2, .inl xs0), (0, .inl x0), (1, .inl x1)]) dX0_later_25 (by decide) rfl ?_
  refine am_iload_n dX0_later_26 (List.Mem.head _) ?_
  refine am_bipush dX0_later_27 (by decide) (by unfold am_rg; omega) ?_
  refine am_idiv dX0_later_29 (by decide) ?_
  refine am_istore (ls' := [(4, .inl (am_w (Int.tdiv (am_w ((am_w ((am_w ((am_w ((am_w (Int.tdiv xs0 10000)) * 12)) + (am_w (Int.tmod (am_w (Int.tdiv xs0 100)) 100)))) - 1)) + x1)) 12))), (3, .inl (am_w ((am_w ((am_w ((am_w ((am_w (Int.tdiv xs0 10000)) * 12)) + (am_w (Int.tmod (am_w (Int.tdiv xs0 100)) 100)))) - 1)) + x1))), (2, .inl xs0), (0, .inl x0), (1, .inl x1)]) dX0_later_30 (by decide) rfl ?_
  refine am_iload_n dX0_later_32 (List.Mem.tail _ (List.Mem.head _)) ?_
  refine am_bipush dX0_later_33 (by decide) (by unfold am_rg; omega) ?_
  refine am_irem dX0_later_35 (by decide) ?_
  refine am_iconst dX0_later_36 (by unfold am_rg; omega) ?_
  refine am_iadd dX0_later_37 ?_
  refine am_istore (ls' := [(5, .inl (am_w ((am_w (Int.tmod (am_w ((am_w ((am_w ((am_w ((am_w (Int.tdiv xs0 10000)) * 12)) + (am_w (Int.tmod (am_w (Int.tdiv xs0 100)) 100)))) - 1)) + x1)) 12)) + 1))), (4, .inl (am_w (Int.tdiv (am_w ((am_w ((am_w ((am_w ((am_w (Int.tdiv xs0 10000)) * 12)) + (am_w (Int.tmod (am_w (Int.tdiv xs0 100)) 100)))) - 1)) + x1)) 12))), (3, .inl (am_w ((am_w ((am_w ((am_w ((am_w (Int.tdiv xs0 10000)) * 12)) + (am_w (Int.tmod (am_w (Int.tdiv xs0 100)) 100)))) - 1)) + x1))), (2, .inl xs0), (0, .inl x0), (1, .inl x1)]) dX0_later_38 (by decide) rfl ?_
  refine am_iload dX0_later_40 (List.Mem.tail _ (List.Mem.head _)) ?_
  refine am_iload dX0_later_42 (List.Mem.head _) ?_
  refine am_iload_n dX0_later_44 (List.Mem.tail _ (List.Mem.tail _ (List.Mem.tail _ (List.Mem.head _)))) ?_
  refine am_bipush dX0_later_45 (by decide) (by unfold am_rg; omega) ?_
  refine am_irem dX0_later_47 (by decide) ?_
  refine am_iload dX0_later_48 (List.Mem.tail _ (List.Mem.head _)) ?_
  refine am_iload dX0_later_50 (List.Mem.head _) ?_
  exact am_calls (d' := d) (kc := 0) (ks := 0) (as := [.inl (am_w (Int.tdiv (am_w ((am_w ((am_w ((am_w ((am_w (Int.tdiv xs0 10000)) * 12)) + (am_w (Int.tmod (am_w (Int.tdiv xs0 100)) 100)))) - 1)) + x1)) 12)), .inl (am_w ((am_w (Int.tmod (am_w ((am_w ((am_w ((am_w ((am_w (Int.tdiv xs0 10000)) * 12)) + (am_w (Int.tmod (am_w (Int.tdiv xs0 100)) 100)))) - 1)) + x1)) 12)) + 1))]) dX0_later_52 wc_X0_lengthOf wd_1024 wd_894 wd_129 ds_X0_lengthOf (by decide) (Nat.le_refl _) (Nat.le_of_ble_eq_true rfl) (Nat.zero_le _) (Nat.zero_le _) rfl h
theorem bX0_later_55 {SC : Nat → Nat} {X : mh_X} {d : Nat} {Q : Option am_V → am_W → Prop} {bc bs : Nat} {w : am_W} {x5 : Int} {x4 : Int} {x3 : Int} {x2 : Int} {x0 : Int} {x1 : Int} {xs0 : Int} {xs1 : Int} {xs2 : Int} {xs3 : Int}
    (h : am_M (mh_G X) SC d 0 0 mJ9_min_7cf53 [.inl xs1, .inl xs0] w (fun r w1 => am_A (mh_G X) SC (d + 1) mX0_later Q 58 [(5, .inl x5), (4, .inl x4), (3, .inl x3), (2, .inl x2), (0, .inl x0), (1, .inl x1)] (r.toList ++ [.inl xs2, .inl xs3]) w1 bc bs)) :
    am_A (mh_G X) SC (d + 1) mX0_later Q 55 [(5, .inl x5), (4, .inl x4), (3, .inl x3), (2, .inl x2), (0, .inl x0), (1, .inl x1)] [.inl xs0, .inl xs1, .inl xs2, .inl xs3] w bc bs := by
  exact am_calls (d' := d) (kc := 0) (ks := 0) (as := [.inl xs1, .inl xs0]) dX0_later_55 wc_J9_min_7cf53 wd_1037 wd_782 wd_128 ds_J9_min_7cf53 (by decide) (Nat.le_refl _) (Nat.le_of_ble_eq_true rfl) (Nat.zero_le _) (Nat.zero_le _) rfl h
theorem bX0_later_58 {SC : Nat → Nat} {X : mh_X} {d : Nat} {Q : Option am_V → am_W → Prop} {bc bs : Nat} {w : am_W} {x5 : Int} {x4 : Int} {x3 : Int} {x2 : Int} {x0 : Int} {x1 : Int} {xs0 : Int} {xs1 : Int} {xs2 : Int}
    (h : am_M (mh_G X) SC d 0 0 mX0_dayOf [.inl xs2, .inl xs1, .inl xs0] w (fun r w1 => am_A (mh_G X) SC (d + 1) mX0_later Q 61 [(5, .inl x5), (4, .inl x4), (3, .inl x3), (2, .inl x2), (0, .inl x0), (1, .inl x1)] (r.toList ++ []) w1 bc bs)) :
    am_A (mh_G X) SC (d + 1) mX0_later Q 58 [(5, .inl x5), (4, .inl x4), (3, .inl x3), (2, .inl x2), (0, .inl x0), (1, .inl x1)] [.inl xs0, .inl xs1, .inl xs2] w bc bs := by
  exact am_calls (d' := d) (kc := 0) (ks := 0) (as := [.inl xs2, .inl xs1, .inl xs0]) dX0_later_58 wc_X0_dayOf wd_1038 wd_1026 wd_129 ds_X0_dayOf (by decide) (Nat.le_refl _) (Nat.le_of_ble_eq_true rfl) (Nat.zero_le _) (Nat.zero_le _) rfl h
theorem bX0_later_61 {SC : Nat → Nat} {X : mh_X} {d : Nat} {Q : Option am_V → am_W → Prop} {bc bs : Nat} {w : am_W} {x5 : Int} {x4 : Int} {x3 : Int} {x2 : Int} {x0 : Int} {x1 : Int} {xs0 : Int}
    (h : Q (some (.inl xs0)) w) :
    am_A (mh_G X) SC (d + 1) mX0_later Q 61 [(5, .inl x5), (4, .inl x4), (3, .inl x3), (2, .inl x2), (0, .inl x0), (1, .inl x1)] [.inl xs0] w bc bs := by
  exact am_ret (r := some (.inl xs0)) dX0_later_61 (Or.inl rfl) rfl h
-- MourningHouse$Page.has(I)Z
theorem dX6_has_0 : decode mX6_has.2.1 0 = .ok (.iload_n 1, 1) := by decide +kernel
theorem dX6_has_1 : decode mX6_has.2.1 1 = .ok (.ifCond .lt 15, 3) := by decide +kernel
theorem dX6_has_4 : decode mX6_has.2.1 4 = .ok (.iload_n 1, 1) := by decide +kernel
theorem dX6_has_5 : decode mX6_has.2.1 5 = .ok (.aload_n 0, 1) := by decide +kernel
theorem dX6_has_6 : decode mX6_has.2.1 6 = .ok (.getfield 13, 3) := by decide +kernel
theorem dX6_has_9 : decode mX6_has.2.1 9 = .ok (.if_icmp .ge 7, 3) := by decide +kernel
theorem dX6_has_12 : decode mX6_has.2.1 12 = .ok (.iconst 1, 1) := by decide +kernel
theorem dX6_has_13 : decode mX6_has.2.1 13 = .ok (.goto 4, 3) := by decide +kernel
theorem dX6_has_16 : decode mX6_has.2.1 16 = .ok (.iconst 0, 1) := by decide +kernel
theorem dX6_has_17 : decode mX6_has.2.1 17 = .ok (.ireturn, 1) := by decide +kernel
theorem bX6_has_0 {SC : Nat → Nat} {X : mh_X} {d : Nat} {Q : Option am_V → am_W → Prop} {bc bs : Nat} {w : am_W} {x1 : Int}
    (h : ((x1 < 0 → Q (some (.inl 0)) w) ∧ (¬ x1 < 0 → (((w.1 3 0 1) ≤ x1 → Q (some (.inl 0)) w) ∧ (¬ (w.1 3 0 1) ≤ x1 → Q (some (.inl 1)) w))))) :
    am_A (mh_G X) SC (d + 1) mX6_has Q 0 [(0, .inr (.inr (some (3, 0)))), (1, .inl x1)] [] w bc bs := by
  refine am_iload_n dX6_has_0 (List.Mem.tail _ (List.Mem.head _)) ?_
  refine am_iflt (tgt := 16) dX6_has_1 (by decide) (fun c1 => ?_) (fun c1 => ?_)
  · replace h := h.1 c1
    refine am_iconst dX6_has_16 (by unfold am_rg; omega) ?_
    exact am_ret (r := some (.inl 0)) dX6_has_17 (Or.inr (Or.inl ⟨rfl, (Or.inl rfl)⟩)) rfl h
  · replace h := h.2 c1
    refine am_iload_n dX6_has_4 (List.Mem.tail _ (List.Mem.head _)) ?_
    refine am_aload_n dX6_has_5 (List.Mem.head _) ?_
    refine am_getf (f := 1) (v := .inl (w.1 3 0 1)) dX6_has_6 hc_2 (by decide) wd_195 (by decide) rfl rfl ?_
    refine am_icmpge (tgt := 16) dX6_has_9 (by decide) (fun c2 => ?_) (fun c2 => ?_)
    · replace h := h.1 c2
      refine am_iconst dX6_has_16 (by unfold am_rg; omega) ?_
      exact am_ret (r := some (.inl 0)) dX6_has_17 (Or.inr (Or.inl ⟨rfl, (Or.inl rfl)⟩)) rfl h
    · replace h := h.2 c2
      refine am_iconst dX6_has_12 (by unfold am_rg; omega) ?_
      refine am_goto (tgt := 17) dX6_has_13 (by decide) ?_
      exact am_ret (r := some (.inl 1)) dX6_has_17 (Or.inr (Or.inl ⟨rfl, (Or.inr rfl)⟩)) rfl h
-- MourningHouse$Page.clear()V
theorem dX6_clear_0 : decode mX6_clear.2.1 0 = .ok (.aload_n 0, 1) := by decide +kernel
theorem dX6_clear_1 : decode mX6_clear.2.1 1 = .ok (.iconst 0, 1) := by decide +kernel
theorem dX6_clear_2 : decode mX6_clear.2.1 2 = .ok (.putfield 13, 3) := by decide +kernel
theorem dX6_clear_5 : decode mX6_clear.2.1 5 = .ok (.return_, 1) := by decide +kernel
theorem bX6_clear_0 {SC : Nat → Nat} {X : mh_X} {d : Nat} {Q : Option am_V → am_W → Prop} {bc bs : Nat} {w : am_W} 
    (h : Q none ((am_up w.1 3 0 1 0), w.2)) :
    am_A (mh_G X) SC (d + 1) mX6_clear Q 0 [(0, .inr (.inr (some (3, 0))))] [] w bc bs := by
  refine am_aload_n dX6_clear_0 (List.Mem.head _) ?_
  refine am_iconst dX6_clear_1 (by unfold am_rg; omega) ?_
  refine am_putf (f := 1) dX6_clear_2 hc_2 (by decide) wd_195 rfl (Or.inl rfl) (Or.inl (by decide)) rfl ?_
  exact am_ret (r := none) dX6_clear_5 rfl rfl h
-- MourningHouse$Page.add(Ljava/lang/String;)V
theorem dX6_add_0 : decode mX6_add.2.1 0 = .ok (.iconst 0, 1) := by decide +kernel
theorem dX6_add_1 : decode mX6_add.2.1 1 = .ok (.istore_n 2, 1) := by decide +kernel
theorem dX6_add_2 : decode mX6_add.2.1 2 = .ok (.iload_n 2, 1) := by decide +kernel
theorem dX6_add_3 : decode mX6_add.2.1 3 = .ok (.aload_n 1, 1) := by decide +kernel
theorem dX6_add_4 : decode mX6_add.2.1 4 = .ok (.invokevirtual 17, 3) := by decide +kernel
theorem dX6_add_7 : decode mX6_add.2.1 7 = .ok (.if_icmp .ge 18, 3) := by decide +kernel
theorem dX6_add_10 : decode mX6_add.2.1 10 = .ok (.aload_n 0, 1) := by decide +kernel
theorem dX6_add_11 : decode mX6_add.2.1 11 = .ok (.aload_n 1, 1) := by decide +kernel
theorem dX6_add_12 : decode mX6_add.2.1 12 = .ok (.iload_n 2, 1) := by decide +kernel
theorem dX6_add_13 : decode mX6_add.2.1 13 = .ok (.invokevirtual 23, 3) := by decide +kernel
theorem dX6_add_16 : decode mX6_add.2.1 16 = .ok (.invokevirtual 27, 3) := by decide +kernel
theorem dX6_add_19 : decode mX6_add.2.1 19 = .ok (.iinc 2 1, 3) := by decide +kernel
theorem dX6_add_22 : decode mX6_add.2.1 22 = .ok (.goto (-20), 3) := by decide +kernel
theorem dX6_add_25 : decode mX6_add.2.1 25 = .ok (.return_, 1) := by decide +kernel
theorem bX6_add_0 {SC : Nat → Nat} {X : mh_X} {d : Nat} {Q : Option am_V → am_W → Prop} {bc bs : Nat} {w : am_W} {t1 : Nat} {j1 : Nat}
    (h : am_A (mh_G X) SC (d + 1) mX6_add Q 2 [(0, .inr (.inr (some (3, 0)))), (1, .inr (.inr (some (t1, j1)))), (2, .inl 0)] [] w bc bs) :
    am_A (mh_G X) SC (d + 1) mX6_add Q 0 [(0, .inr (.inr (some (3, 0)))), (1, .inr (.inr (some (t1, j1))))] [] w bc bs := by
  refine am_iconst dX6_add_0 (by unfold am_rg; omega) ?_
  refine am_istore_n (ls' := [(2, .inl 0), (0, .inr (.inr (some (3, 0)))), (1, .inr (.inr (some (t1, j1))))]) dX6_add_1 (by decide) rfl ?_
  exact am_sub [1, 2, 0] rfl h
theorem bX6_add_2 {SC : Nat → Nat} {X : mh_X} {d : Nat} {Q : Option am_V → am_W → Prop} {bc bs : Nat} {w : am_W} {t1 : Nat} {j1 : Nat} {x2 : Int}
    (h : (t1 < 1100 ∧ (am_kd (mh_G X) w t1 j1 = 111 ∧ am_M (mh_G X) SC d 0 0 mJ0_length_8abf5 [.inr (.inr (some (t1, j1)))] w (fun r w1 => am_A (mh_G X) SC (d + 1) mX6_add Q 7 [(0, .inr (.inr (some (3, 0)))), (1, .inr (.inr (some (t1, j1)))), (2, .inl x2)] (r.toList ++ [.inl x2]) w1 bc bs)))) :
    am_A (mh_G X) SC (d + 1) mX6_add Q 2 [(0, .inr (.inr (some (3, 0)))), (1, .inr (.inr (some (t1, j1)))), (2, .inl x2)] [] w bc bs := by
  refine am_iload_n dX6_add_2 (List.Mem.tail _ (List.Mem.tail _ (List.Mem.head _))) ?_
  refine am_aload_n dX6_add_3 (List.Mem.tail _ (List.Mem.head _)) ?_
  have o1 := h.1
  replace h := h.2
  have o2 := h.1
  replace h := h.2
  exact am_callv (d' := d) (kc := 0) (ks := 0) (as := []) dX6_add_4 wc_J0_length_8abf5 wd_950 wd_722 wd_723 wd_124 ds_J0_length_8abf5 (by decide) (Nat.le_refl _) (Nat.le_of_ble_eq_true rfl) (Nat.zero_le _) (Nat.zero_le _) hc_11 o1 o2 rfl h
theorem bX6_add_7 {SC : Nat → Nat} {X : mh_X} {d : Nat} {Q : Option am_V → am_W → Prop} {bc bs : Nat} {w : am_W} {t1 : Nat} {j1 : Nat} {x2 : Int} {xs0 : Int} {xs1 : Int}
    (h : ((xs0 ≤ xs1 → Q none w) ∧ (¬ xs0 ≤ xs1 → (t1 < 1100 ∧ (am_kd (mh_G X) w t1 j1 = 111 ∧ am_M (mh_G X) SC d 0 0 mJ0_charAt_5068e [.inr (.inr (some (t1, j1))), .inl x2] w (fun r w1 => am_A (mh_G X) SC (d + 1) mX6_add Q 16 [(0, .inr (.inr (some (3, 0)))), (1, .inr (.inr (some (t1, j1)))), (2, .inl x2)] (r.toList ++ [.inr (.inr (some (3, 0)))]) w1 bc bs)))))) :
    am_A (mh_G X) SC (d + 1) mX6_add Q 7 [(0, .inr (.inr (some (3, 0)))), (1, .inr (.inr (some (t1, j1)))), (2, .inl x2)] [.inl xs0, .inl xs1] w bc bs := by
  refine am_icmpge (tgt := 25) dX6_add_7 (by decide) (fun c1 => ?_) (fun c1 => ?_)
  · replace h := h.1 c1
    exact am_ret (r := none) dX6_add_25 rfl rfl h
  · replace h := h.2 c1
    refine am_aload_n dX6_add_10 (List.Mem.head _) ?_
    refine am_aload_n dX6_add_11 (List.Mem.tail _ (List.Mem.head _)) ?_
    refine am_iload_n dX6_add_12 (List.Mem.tail _ (List.Mem.tail _ (List.Mem.head _))) ?_
    have o2 := h.1
    replace h := h.2
    have o3 := h.1
    replace h := h.2
    exact am_callv (d' := d) (kc := 0) (ks := 0) (as := [.inl x2]) dX6_add_13 wc_J0_charAt_5068e wd_951 wd_732 wd_733 wd_124 ds_J0_charAt_5068e (by decide) (Nat.le_refl _) (Nat.le_of_ble_eq_true rfl) (Nat.zero_le _) (Nat.zero_le _) hc_11 o2 o3 rfl h
theorem bX6_add_16 {SC : Nat → Nat} {X : mh_X} {d : Nat} {Q : Option am_V → am_W → Prop} {bc bs : Nat} {w : am_W} {t1 : Nat} {j1 : Nat} {x2 : Int} {xs0 : Int}
    (h : am_M (mh_G X) SC d 0 0 mX6_addByte [.inr (.inr (some (3, 0))), .inl xs0] w (fun r w1 => am_A (mh_G X) SC (d + 1) mX6_add Q 19 [(0, .inr (.inr (some (3, 0)))), (1, .inr (.inr (some (t1, j1)))), (2, .inl x2)] (r.toList ++ []) w1 bc bs)) :
    am_A (mh_G X) SC (d + 1) mX6_add Q 16 [(0, .inr (.inr (some (3, 0)))), (1, .inr (.inr (some (t1, j1)))), (2, .inl x2)] [.inl xs0, .inr (.inr (some (3, 0)))] w bc bs := by
  exact am_callv (d' := d) (kc := 0) (ks := 0) (as := [.inl xs0]) dX6_add_16 wc_X6_addByte wd_952 wd_954 wd_23 wd_114 ds_X6_addByte (by decide) (Nat.le_refl _) (Nat.le_of_ble_eq_true rfl) (Nat.zero_le _) (Nat.zero_le _) hc_2 (by decide) rfl rfl h
theorem bX6_add_19 {SC : Nat → Nat} {X : mh_X} {d : Nat} {Q : Option am_V → am_W → Prop} {bc bs : Nat} {w : am_W} {t1 : Nat} {j1 : Nat} {x2 : Int}
    (h : am_A (mh_G X) SC (d + 1) mX6_add Q 2 [(0, .inr (.inr (some (3, 0)))), (1, .inr (.inr (some (t1, j1)))), (2, .inl (am_w (x2 + 1)))] [] w bc bs) :
    am_A (mh_G X) SC (d + 1) mX6_add Q 19 [(0, .inr (.inr (some (3, 0)))), (1, .inr (.inr (some (t1, j1)))), (2, .inl x2)] [] w bc bs := by
  refine am_iinc (ls' := [(2, .inl (am_w (x2 + 1))), (0, .inr (.inr (some (3, 0)))), (1, .inr (.inr (some (t1, j1))))]) dX6_add_19 (List.Mem.tail _ (List.Mem.tail _ (List.Mem.head _))) (by decide) rfl ?_
  refine am_goto (tgt := 2) dX6_add_22 (by decide) ?_
  exact am_sub [1, 2, 0] rfl h
-- MourningHouse$Page.addWord(I)V
theorem dX6_addWord_0 : decode mX6_addWord.2.1 0 = .ok (.aload_n 0, 1) := by decide +kernel
theorem dX6_addWord_1 : decode mX6_addWord.2.1 1 = .ok (.iload_n 1, 1) := by decide +kernel
theorem dX6_addWord_2 : decode mX6_addWord.2.1 2 = .ok (.invokestatic 31, 3) := by decide +kernel
theorem dX6_addWord_5 : decode mX6_addWord.2.1 5 = .ok (.invokevirtual 37, 3) := by decide +kernel
theorem dX6_addWord_8 : decode mX6_addWord.2.1 8 = .ok (.return_, 1) := by decide +kernel
theorem bX6_addWord_0 {SC : Nat → Nat} {X : mh_X} {d : Nat} {Q : Option am_V → am_W → Prop} {bc bs : Nat} {w : am_W} {x1 : Int}
    (h : am_M (mh_G X) SC d 0 0 mX10_nameOf [.inl x1] w (fun r w1 => am_A (mh_G X) SC (d + 1) mX6_addWord Q 5 [(0, .inr (.inr (some (3, 0)))), (1, .inl x1)] (r.toList ++ [.inr (.inr (some (3, 0)))]) w1 bc bs)) :
    am_A (mh_G X) SC (d + 1) mX6_addWord Q 0 [(0, .inr (.inr (some (3, 0)))), (1, .inl x1)] [] w bc bs := by
  refine am_aload_n dX6_addWord_0 (List.Mem.head _) ?_
  refine am_iload_n dX6_addWord_1 (List.Mem.tail _ (List.Mem.head _)) ?_
  exact am_calls (d' := d) (kc := 0) (ks := 0) (as := [.inl x1]) dX6_addWord_2 wc_X10_nameOf wd_945 wd_667 wd_123 ds_X10_nameOf (by decide) (Nat.le_refl _) (Nat.le_of_ble_eq_true rfl) (Nat.zero_le _) (Nat.zero_le _) rfl h
theorem bX6_addWord_5 {SC : Nat → Nat} {X : mh_X} {d : Nat} {Q : Option am_V → am_W → Prop} {bc bs : Nat} {w : am_W} {x1 : Int} {ts0 : Nat} {js0 : Nat}
    (h : am_M (mh_G X) SC d 0 0 mX6_add [.inr (.inr (some (3, 0))), .inr (.inr (some (ts0, js0)))] w (fun r w1 => am_A (mh_G X) SC (d + 1) mX6_addWord Q 8 [(0, .inr (.inr (some (3, 0)))), (1, .inl x1)] (r.toList ++ []) w1 bc bs)) :
    am_A (mh_G X) SC (d + 1) mX6_addWord Q 5 [(0, .inr (.inr (some (3, 0)))), (1, .inl x1)] [.inr (.inr (some (ts0, js0))), .inr (.inr (some (3, 0)))] w bc bs := by
  exact am_callv (d' := d) (kc := 0) (ks := 0) (as := [.inr (.inr (some (ts0, js0)))]) dX6_addWord_5 wc_X6_add wd_946 wd_947 wd_948 wd_114 ds_X6_add (by decide) (Nat.le_refl _) (Nat.le_of_ble_eq_true rfl) (Nat.zero_le _) (Nat.zero_le _) hc_2 (by decide) rfl rfl h
theorem bX6_addWord_8 {SC : Nat → Nat} {X : mh_X} {d : Nat} {Q : Option am_V → am_W → Prop} {bc bs : Nat} {w : am_W} {x1 : Int}
    (h : Q none w) :
    am_A (mh_G X) SC (d + 1) mX6_addWord Q 8 [(0, .inr (.inr (some (3, 0)))), (1, .inl x1)] [] w bc bs := by
  exact am_ret (r := none) dX6_addWord_8 rfl rfl h
-- MourningHouse$Page.addNumber(I)V
theorem dX6_addNumber_0 : decode mX6_addNumber.2.1 0 = .ok (.iload_n 1, 1) := by decide +kernel
theorem dX6_addNumber_1 : decode mX6_addNumber.2.1 1 = .ok (.bipush 100, 2) := by decide +kernel
theorem dX6_addNumber_3 : decode mX6_addNumber.2.1 3 = .ok (.if_icmp .lt 15, 3) := by decide +kernel
theorem dX6_addNumber_6 : decode mX6_addNumber.2.1 6 = .ok (.aload_n 0, 1) := by decide +kernel
theorem dX6_addNumber_7 : decode mX6_addNumber.2.1 7 = .ok (.bipush 48, 2) := by decide +kernel
theorem dX6_addNumber_9 : decode mX6_addNumber.2.1 9 = .ok (.iload_n 1, 1) := by decide +kernel
theorem dX6_addNumber_10 : decode mX6_addNumber.2.1 10 = .ok (.bipush 100, 2) := by decide +kernel
theorem dX6_addNumber_12 : decode mX6_addNumber.2.1 12 = .ok (.idiv, 1) := by decide +kernel
theorem dX6_addNumber_13 : decode mX6_addNumber.2.1 13 = .ok (.iadd, 1) := by decide +kernel
theorem dX6_addNumber_14 : decode mX6_addNumber.2.1 14 = .ok (.i2c, 1) := by decide +kernel
theorem dX6_addNumber_15 : decode mX6_addNumber.2.1 15 = .ok (.invokevirtual 27, 3) := by decide +kernel
theorem dX6_addNumber_18 : decode mX6_addNumber.2.1 18 = .ok (.iload_n 1, 1) := by decide +kernel
theorem dX6_addNumber_19 : decode mX6_addNumber.2.1 19 = .ok (.bipush 10, 2) := by decide +kernel
theorem dX6_addNumber_21 : decode mX6_addNumber.2.1 21 = .ok (.if_icmp .lt 18, 3) := by decide +kernel
theorem dX6_addNumber_24 : decode mX6_addNumber.2.1 24 = .ok (.aload_n 0, 1) := by decide +kernel
theorem dX6_addNumber_25 : decode mX6_addNumber.2.1 25 = .ok (.bipush 48, 2) := by decide +kernel
theorem dX6_addNumber_27 : decode mX6_addNumber.2.1 27 = .ok (.iload_n 1, 1) := by decide +kernel
theorem dX6_addNumber_28 : decode mX6_addNumber.2.1 28 = .ok (.bipush 10, 2) := by decide +kernel
theorem dX6_addNumber_30 : decode mX6_addNumber.2.1 30 = .ok (.idiv, 1) := by decide +kernel
theorem dX6_addNumber_31 : decode mX6_addNumber.2.1 31 = .ok (.bipush 10, 2) := by decide +kernel
theorem dX6_addNumber_33 : decode mX6_addNumber.2.1 33 = .ok (.irem, 1) := by decide +kernel
theorem dX6_addNumber_34 : decode mX6_addNumber.2.1 34 = .ok (.iadd, 1) := by decide +kernel
theorem dX6_addNumber_35 : decode mX6_addNumber.2.1 35 = .ok (.i2c, 1) := by decide +kernel
theorem dX6_addNumber_36 : decode mX6_addNumber.2.1 36 = .ok (.invokevirtual 27, 3) := by decide +kernel
theorem dX6_addNumber_39 : decode mX6_addNumber.2.1 39 = .ok (.aload_n 0, 1) := by decide +kernel
theorem dX6_addNumber_40 : decode mX6_addNumber.2.1 40 = .ok (.bipush 48, 2) := by decide +kernel
theorem dX6_addNumber_42 : decode mX6_addNumber.2.1 42 = .ok (.iload_n 1, 1) := by decide +kernel
theorem dX6_addNumber_43 : decode mX6_addNumber.2.1 43 = .ok (.bipush 10, 2) := by decide +kernel
theorem dX6_addNumber_45 : decode mX6_addNumber.2.1 45 = .ok (.irem, 1) := by decide +kernel
theorem dX6_addNumber_46 : decode mX6_addNumber.2.1 46 = .ok (.iadd, 1) := by decide +kernel
theorem dX6_addNumber_47 : decode mX6_addNumber.2.1 47 = .ok (.i2c, 1) := by decide +kernel
theorem dX6_addNumber_48 : decode mX6_addNumber.2.1 48 = .ok (.invokevirtual 27, 3) := by decide +kernel
theorem dX6_addNumber_51 : decode mX6_addNumber.2.1 51 = .ok (.return_, 1) := by decide +kernel
theorem bX6_addNumber_0 {SC : Nat → Nat} {X : mh_X} {d : Nat} {Q : Option am_V → am_W → Prop} {bc bs : Nat} {w : am_W} {x1 : Int}
    (h : ((x1 < 100 → am_A (mh_G X) SC (d + 1) mX6_addNumber Q 18 [(0, .inr (.inr (some (3, 0)))), (1, .inl x1)] [] w bc bs) ∧ (¬ x1 < 100 → am_M (mh_G X) SC d 0 0 mX6_addByte [.inr (.inr (some (3, 0))), .inl (am_i2c (am_w (48 + (am_w (Int.tdiv x1 100)))))] w (fun r w1 => am_A (mh_G X) SC (d + 1) mX6_addNumber Q 18 [(0, .inr (.inr (some (3, 0)))), (1, .inl x1)] (r.toList ++ []) w1 bc bs)))) :
    am_A (mh_G X) SC (d + 1) mX6_addNumber Q 0 [(0, .inr (.inr (some (3, 0)))), (1, .inl x1)] [] w bc bs := by
  refine am_iload_n dX6_addNumber_0 (List.Mem.tail _ (List.Mem.head _)) ?_
  refine am_bipush dX6_addNumber_1 (by decide) (by unfold am_rg; omega) ?_
  refine am_icmplt (tgt := 18) dX6_addNumber_3 (by decide) (fun c1 => ?_) (fun c1 => ?_)
  · replace h := h.1 c1
    exact h
  · replace h := h.2 c1
    refine am_aload_n dX6_addNumber_6 (List.Mem.head _) ?_
    refine am_bipush dX6_addNumber_7 (by decide) (by unfold am_rg; omega) ?_
    refine am_iload_n dX6_addNumber_9 (List.Mem.tail _ (List.Mem.head _)) ?_
    refine am_bipush dX6_addNumber_10 (by decide) (by unfold am_rg; omega) ?_
    refine am_idiv dX6_addNumber_12 (by decide) ?_
    refine am_iadd dX6_addNumber_13 ?_
    refine am_i2cR dX6_addNumber_14 ?_
    exact am_callv (d' := d) (kc := 0) (ks := 0) (as := [.inl (am_i2c (am_w (48 + (am_w (Int.tdiv x1 100)))))]) dX6_addNumber_15 wc_X6_addByte wd_952 wd_954 wd_23 wd_114 ds_X6_addByte (by decide) (Nat.le_refl _) (Nat.le_of_ble_eq_true rfl) (Nat.zero_le _) (Nat.zero_le _) hc_2 (by decide) rfl rfl h
theorem bX6_addNumber_18 {SC : Nat → Nat} {X : mh_X} {d : Nat} {Q : Option am_V → am_W → Prop} {bc bs : Nat} {w : am_W} {x1 : Int}
    (h : ((x1 < 10 → am_A (mh_G X) SC (d + 1) mX6_addNumber Q 39 [(0, .inr (.inr (some (3, 0)))), (1, .inl x1)] [] w bc bs) ∧ (¬ x1 < 10 → am_M (mh_G X) SC d 0 0 mX6_addByte [.inr (.inr (some (3, 0))), .inl (am_i2c (am_w (48 + (am_w (Int.tmod (am_w (Int.tdiv x1 10)) 10)))))] w (fun r w1 => am_A (mh_G X) SC (d + 1) mX6_addNumber Q 39 [(0, .inr (.inr (some (3, 0)))), (1, .inl x1)] (r.toList ++ []) w1 bc bs)))) :
    am_A (mh_G X) SC (d + 1) mX6_addNumber Q 18 [(0, .inr (.inr (some (3, 0)))), (1, .inl x1)] [] w bc bs := by
  refine am_iload_n dX6_addNumber_18 (List.Mem.tail _ (List.Mem.head _)) ?_
  refine am_bipush dX6_addNumber_19 (by decide) (by unfold am_rg; omega) ?_
  refine am_icmplt (tgt := 39) dX6_addNumber_21 (by decide) (fun c1 => ?_) (fun c1 => ?_)
  · replace h := h.1 c1
    exact h
  · replace h := h.2 c1
    refine am_aload_n dX6_addNumber_24 (List.Mem.head _) ?_
    refine am_bipush dX6_addNumber_25 (by decide) (by unfold am_rg; omega) ?_
    refine am_iload_n dX6_addNumber_27 (List.Mem.tail _ (List.Mem.head _)) ?_
    refine am_bipush dX6_addNumber_28 (by decide) (by unfold am_rg; omega) ?_
    refine am_idiv dX6_addNumber_30 (by decide) ?_
    refine am_bipush dX6_addNumber_31 (by decide) (by unfold am_rg; omega) ?_
    refine am_irem dX6_addNumber_33 (by decide) ?_
    refine am_iadd dX6_addNumber_34 ?_
    refine am_i2cR dX6_addNumber_35 ?_
    exact am_callv (d' := d) (kc := 0) (ks := 0) (as := [.inl (am_i2c (am_w (48 + (am_w (Int.tmod (am_w (Int.tdiv x1 10)) 10)))))]) dX6_addNumber_36 wc_X6_addByte wd_952 wd_954 wd_23 wd_114 ds_X6_addByte (by decide) (Nat.le_refl _) (Nat.le_of_ble_eq_true rfl) (Nat.zero_le _) (Nat.zero_le _) hc_2 (by decide) rfl rfl h
theorem bX6_addNumber_39 {SC : Nat → Nat} {X : mh_X} {d : Nat} {Q : Option am_V → am_W → Prop} {bc bs : Nat} {w : am_W} {x1 : Int}
    (h : am_M (mh_G X) SC d 0 0 mX6_addByte [.inr (.inr (some (3, 0))), .inl (am_i2c (am_w (48 + (am_w (Int.tmod x1 10)))))] w (fun r w1 => am_A (mh_G X) SC (d + 1) mX6_addNumber Q 51 [(0, .inr (.inr (some (3, 0)))), (1, .inl x1)] (r.toList ++ []) w1 bc bs)) :
    am_A (mh_G X) SC (d + 1) mX6_addNumber Q 39 [(0, .inr (.inr (some (3, 0)))), (1, .inl x1)] [] w bc bs := by
  refine am_aload_n dX6_addNumber_39 (List.Mem.head _) ?_
  refine am_bipush dX6_addNumber_40 (by decide) (by unfold am_rg; omega) ?_
  refine am_iload_n dX6_addNumber_42 (List.Mem.tail _ (List.Mem.head _)) ?_
  refine am_bipush dX6_addNumber_43 (by decide) (by unfold am_rg; omega) ?_
  refine am_irem dX6_addNumber_45 (by decide) ?_
  refine am_iadd dX6_addNumber_46 ?_
  refine am_i2cR dX6_addNumber_47 ?_
  exact am_callv (d' := d) (kc := 0) (ks := 0) (as := [.inl (am_i2c (am_w (48 + (am_w (Int.tmod x1 10)))))]) dX6_addNumber_48 wc_X6_addByte wd_952 wd_954 wd_23 wd_114 ds_X6_addByte (by decide) (Nat.le_refl _) (Nat.le_of_ble_eq_true rfl) (Nat.zero_le _) (Nat.zero_le _) hc_2 (by decide) rfl rfl h
theorem bX6_addNumber_51 {SC : Nat → Nat} {X : mh_X} {d : Nat} {Q : Option am_V → am_W → Prop} {bc bs : Nat} {w : am_W} {x1 : Int}
    (h : Q none w) :
    am_A (mh_G X) SC (d + 1) mX6_addNumber Q 51 [(0, .inr (.inr (some (3, 0)))), (1, .inl x1)] [] w bc bs := by
  exact am_ret (r := none) dX6_addNumber_51 rfl rfl h
-- MourningHouse$Page.addByte(C)V
theorem dX6_addByte_0 : decode mX6_addByte.2.1 0 = .ok (.aload_n 0, 1) := by decide +kernel
theorem dX6_addByte_1 : decode mX6_addByte.2.1 1 = .ok (.getfield 13, 3) := by decide +kernel
theorem dX6_addByte_4 : decode mX6_addByte.2.1 4 = .ok (.sipush 256, 3) := by decide +kernel
theorem dX6_addByte_7 : decode mX6_addByte.2.1 7 = .ok (.if_icmp .ge 23, 3) := by decide +kernel
theorem dX6_addByte_10 : decode mX6_addByte.2.1 10 = .ok (.aload_n 0, 1) := by decide +kernel
theorem dX6_addByte_11 : decode mX6_addByte.2.1 11 = .ok (.getfield 9, 3) := by decide +kernel
theorem dX6_addByte_14 : decode mX6_addByte.2.1 14 = .ok (.aload_n 0, 1) := by decide +kernel
theorem dX6_addByte_15 : decode mX6_addByte.2.1 15 = .ok (.getfield 13, 3) := by decide +kernel
theorem dX6_addByte_18 : decode mX6_addByte.2.1 18 = .ok (.iload_n 1, 1) := by decide +kernel
theorem dX6_addByte_19 : decode mX6_addByte.2.1 19 = .ok (.castore, 1) := by decide +kernel
theorem dX6_addByte_20 : decode mX6_addByte.2.1 20 = .ok (.aload_n 0, 1) := by decide +kernel
theorem dX6_addByte_21 : decode mX6_addByte.2.1 21 = .ok (.dup, 1) := by decide +kernel
theorem dX6_addByte_22 : decode mX6_addByte.2.1 22 = .ok (.getfield 13, 3) := by decide +kernel
theorem dX6_addByte_25 : decode mX6_addByte.2.1 25 = .ok (.iconst 1, 1) := by decide +kernel
theorem dX6_addByte_26 : decode mX6_addByte.2.1 26 = .ok (.iadd, 1) := by decide +kernel
theorem dX6_addByte_27 : decode mX6_addByte.2.1 27 = .ok (.putfield 13, 3) := by decide +kernel
theorem dX6_addByte_30 : decode mX6_addByte.2.1 30 = .ok (.return_, 1) := by decide +kernel
theorem bX6_addByte_0 {SC : Nat → Nat} {X : mh_X} {d : Nat} {Q : Option am_V → am_W → Prop} {bc bs : Nat} {w : am_W} {x1 : Int}
    (h : ((256 ≤ (w.1 3 0 1) → Q none w) ∧ (¬ 256 ≤ (w.1 3 0 1) → (0 ≤ (w.1 3 0 1) ∧ ((w.1 3 0 1) < 256 ∧ ((0 ≤ (x1 : Int) ∧ (x1 : Int) < 65536) ∧ Q none ((am_up (am_up w.1 27 0 (w.1 3 0 1).toNat x1) 3 0 1 (am_w ((w.1 3 0 1) + 1))), w.2))))))) :
    am_A (mh_G X) SC (d + 1) mX6_addByte Q 0 [(0, .inr (.inr (some (3, 0)))), (1, .inl x1)] [] w bc bs := by
  refine am_aload_n dX6_addByte_0 (List.Mem.head _) ?_
  refine am_getf (f := 1) (v := .inl (w.1 3 0 1)) dX6_addByte_1 hc_2 (by decide) wd_195 (by decide) rfl rfl ?_
  refine am_sipush dX6_addByte_4 (by decide) (by unfold am_rg; omega) ?_
  refine am_icmpge (tgt := 30) dX6_addByte_7 (by decide) (fun c1 => ?_) (fun c1 => ?_)
  · replace h := h.1 c1
    exact am_ret (r := none) dX6_addByte_30 rfl rfl h
  · replace h := h.2 c1
    refine am_aload_n dX6_addByte_10 (List.Mem.head _) ?_
    refine am_getf (f := 0) (v := .inr (.inr (some (27, 0)))) dX6_addByte_11 hc_2 (by decide) wd_193 (by decide) rfl rfl ?_
    refine am_aload_n dX6_addByte_14 (List.Mem.head _) ?_
    refine am_getf (f := 1) (v := .inl (w.1 3 0 1)) dX6_addByte_15 hc_2 (by decide) wd_195 (by decide) rfl rfl ?_
    refine am_iload_n dX6_addByte_18 (List.Mem.tail _ (List.Mem.head _)) ?_
    have o2 := h.1
    replace h := h.2
    have o3 := h.1
    replace h := h.2
    have o4 := h.1
    replace h := h.2
    refine am_castore o4 dX6_addByte_19 (Or.inl (by decide)) rfl o2 o3 ?_
    refine am_aload_n dX6_addByte_20 (List.Mem.head _) ?_
    refine am_dup dX6_addByte_21 rfl ?_
    refine am_getf (f := 1) (v := .inl (w.1 3 0 1)) dX6_addByte_22 hc_2 (by decide) wd_195 (by decide) rfl rfl ?_
    refine am_iconst dX6_addByte_25 (by unfold am_rg; omega) ?_
    refine am_iadd dX6_addByte_26 ?_
    refine am_putf (f := 1) dX6_addByte_27 hc_2 (by decide) wd_195 rfl (Or.inl rfl) (Or.inl (by decide)) rfl ?_
    exact am_ret (r := none) dX6_addByte_30 rfl rfl h
-- MourningHouse$Planner.open(I)V
theorem dX7_open_0 : decode mX7_open.2.1 0 = .ok (.aload_n 0, 1) := by decide +kernel
theorem dX7_open_1 : decode mX7_open.2.1 1 = .ok (.iconst 0, 1) := by decide +kernel
theorem dX7_open_2 : decode mX7_open.2.1 2 = .ok (.putfield 38, 3) := by decide +kernel
theorem dX7_open_5 : decode mX7_open.2.1 5 = .ok (.aload_n 0, 1) := by decide +kernel
theorem dX7_open_6 : decode mX7_open.2.1 6 = .ok (.iload_n 1, 1) := by decide +kernel
theorem dX7_open_7 : decode mX7_open.2.1 7 = .ok (.putfield 42, 3) := by decide +kernel
theorem dX7_open_10 : decode mX7_open.2.1 10 = .ok (.return_, 1) := by decide +kernel
theorem bX7_open_0 {SC : Nat → Nat} {X : mh_X} {d : Nat} {Q : Option am_V → am_W → Prop} {bc bs : Nat} {w : am_W} {x1 : Int}
    (h : Q none ((am_up (am_up w.1 8 0 9 0) 8 0 10 x1), w.2)) :
    am_A (mh_G X) SC (d + 1) mX7_open Q 0 [(0, .inr (.inr (some (8, 0)))), (1, .inl x1)] [] w bc bs := by
  refine am_aload_n dX7_open_0 (List.Mem.head _) ?_
  refine am_iconst dX7_open_1 (by unfold am_rg; omega) ?_
  refine am_putf (f := 9) dX7_open_2 hc_9 (by decide) wd_538 rfl (Or.inl rfl) (Or.inl (by decide)) rfl ?_
  refine am_aload_n dX7_open_5 (List.Mem.head _) ?_
  refine am_iload_n dX7_open_6 (List.Mem.tail _ (List.Mem.head _)) ?_
  refine am_putf (f := 10) dX7_open_7 hc_9 (by decide) wd_539 rfl (Or.inl rfl) (Or.inl (by decide)) rfl ?_
  exact am_ret (r := none) dX7_open_10 rfl rfl h
-- MourningHouse$Planner.add(II)V
theorem dX7_add_0 : decode mX7_add.2.1 0 = .ok (.aload_n 0, 1) := by decide +kernel
theorem dX7_add_1 : decode mX7_add.2.1 1 = .ok (.getfield 38, 3) := by decide +kernel
theorem dX7_add_4 : decode mX7_add.2.1 4 = .ok (.iconst 5, 1) := by decide +kernel
theorem dX7_add_5 : decode mX7_add.2.1 5 = .ok (.if_icmp .ge 33, 3) := by decide +kernel
theorem dX7_add_8 : decode mX7_add.2.1 8 = .ok (.aload_n 0, 1) := by decide +kernel
theorem dX7_add_9 : decode mX7_add.2.1 9 = .ok (.getfield 11, 3) := by decide +kernel
theorem dX7_add_12 : decode mX7_add.2.1 12 = .ok (.aload_n 0, 1) := by decide +kernel
theorem dX7_add_13 : decode mX7_add.2.1 13 = .ok (.getfield 38, 3) := by decide +kernel
theorem dX7_add_16 : decode mX7_add.2.1 16 = .ok (.iload_n 1, 1) := by decide +kernel
theorem dX7_add_17 : decode mX7_add.2.1 17 = .ok (.iastore, 1) := by decide +kernel
theorem dX7_add_18 : decode mX7_add.2.1 18 = .ok (.aload_n 0, 1) := by decide +kernel
theorem dX7_add_19 : decode mX7_add.2.1 19 = .ok (.getfield 15, 3) := by decide +kernel
theorem dX7_add_22 : decode mX7_add.2.1 22 = .ok (.aload_n 0, 1) := by decide +kernel
theorem dX7_add_23 : decode mX7_add.2.1 23 = .ok (.getfield 38, 3) := by decide +kernel
theorem dX7_add_26 : decode mX7_add.2.1 26 = .ok (.iload_n 2, 1) := by decide +kernel
theorem dX7_add_27 : decode mX7_add.2.1 27 = .ok (.iastore, 1) := by decide +kernel
theorem dX7_add_28 : decode mX7_add.2.1 28 = .ok (.aload_n 0, 1) := by decide +kernel
theorem dX7_add_29 : decode mX7_add.2.1 29 = .ok (.dup, 1) := by decide +kernel
theorem dX7_add_30 : decode mX7_add.2.1 30 = .ok (.getfield 38, 3) := by decide +kernel
theorem dX7_add_33 : decode mX7_add.2.1 33 = .ok (.iconst 1, 1) := by decide +kernel
theorem dX7_add_34 : decode mX7_add.2.1 34 = .ok (.iadd, 1) := by decide +kernel
theorem dX7_add_35 : decode mX7_add.2.1 35 = .ok (.putfield 38, 3) := by decide +kernel
theorem dX7_add_38 : decode mX7_add.2.1 38 = .ok (.return_, 1) := by decide +kernel
theorem bX7_add_0 {SC : Nat → Nat} {X : mh_X} {d : Nat} {Q : Option am_V → am_W → Prop} {bc bs : Nat} {w : am_W} {x1 : Int} {x2 : Int}
    (h : ((5 ≤ (w.1 8 0 9) → Q none w) ∧ (¬ 5 ≤ (w.1 8 0 9) → (0 ≤ (w.1 8 0 9) ∧ ((w.1 8 0 9) < 5 ∧ Q none ((am_up (am_up (am_up w.1 58 0 (w.1 8 0 9).toNat x1) 59 0 (w.1 8 0 9).toNat x2) 8 0 9 (am_w ((w.1 8 0 9) + 1))), w.2)))))) :
    am_A (mh_G X) SC (d + 1) mX7_add Q 0 [(0, .inr (.inr (some (8, 0)))), (1, .inl x1), (2, .inl x2)] [] w bc bs := by
  refine am_aload_n dX7_add_0 (List.Mem.head _) ?_
  refine am_getf (f := 9) (v := .inl (w.1 8 0 9)) dX7_add_1 hc_9 (by decide) wd_538 (by decide) rfl rfl ?_
  refine am_iconst dX7_add_4 (by unfold am_rg; omega) ?_
  refine am_icmpge (tgt := 38) dX7_add_5 (by decide) (fun c1 => ?_) (fun c1 => ?_)
  · replace h := h.1 c1
    exact am_ret (r := none) dX7_add_38 rfl rfl h
  · replace h := h.2 c1
    refine am_aload_n dX7_add_8 (List.Mem.head _) ?_
    refine am_getf (f := 1) (v := .inr (.inr (some (58, 0)))) dX7_add_9 hc_9 (by decide) wd_530 (by decide) rfl rfl ?_
    refine am_aload_n dX7_add_12 (List.Mem.head _) ?_
    refine am_getf (f := 9) (v := .inl (w.1 8 0 9)) dX7_add_13 hc_9 (by decide) wd_538 (by decide) rfl rfl ?_
    refine am_iload_n dX7_add_16 (List.Mem.tail _ (List.Mem.head _)) ?_
    have o2 := h.1
    replace h := h.2
    have o3 := h.1
    replace h := h.2
    refine am_iastore dX7_add_17 (Or.inl (by decide)) rfl o2 o3 ?_
    refine am_aload_n dX7_add_18 (List.Mem.head _) ?_
    refine am_getf (f := 2) (v := .inr (.inr (some (59, 0)))) dX7_add_19 hc_9 (by decide) wd_531 (by decide) rfl rfl ?_
    refine am_aload_n dX7_add_22 (List.Mem.head _) ?_
    refine am_getf (f := 9) (v := .inl (w.1 8 0 9)) dX7_add_23 hc_9 (by decide) wd_538 (by decide) rfl rfl ?_
    refine am_iload_n dX7_add_26 (List.Mem.tail _ (List.Mem.tail _ (List.Mem.head _))) ?_
    refine am_iastore dX7_add_27 (Or.inl (by decide)) rfl o2 o3 ?_
    refine am_aload_n dX7_add_28 (List.Mem.head _) ?_
    refine am_dup dX7_add_29 rfl ?_
    refine am_getf (f := 9) (v := .inl (w.1 8 0 9)) dX7_add_30 hc_9 (by decide) wd_538 (by decide) rfl rfl ?_
    refine am_iconst dX7_add_33 (by unfold am_rg; omega) ?_
    refine am_iadd dX7_add_34 ?_
    refine am_putf (f := 9) dX7_add_35 hc_9 (by decide) wd_538 rfl (Or.inl rfl) (Or.inl (by decide)) rfl ?_
    exact am_ret (r := none) dX7_add_38 rfl rfl h
-- MourningHouse$Planner.wayOf(I)I
theorem dX7_wayOf_0 : decode mX7_wayOf.2.1 0 = .ok (.iload_n 1, 1) := by decide +kernel
theorem dX7_wayOf_1 : decode mX7_wayOf.2.1 1 = .ok (.ifCond .lt 20, 3) := by decide +kernel
theorem dX7_wayOf_4 : decode mX7_wayOf.2.1 4 = .ok (.iload_n 1, 1) := by decide +kernel
theorem dX7_wayOf_5 : decode mX7_wayOf.2.1 5 = .ok (.aload_n 0, 1) := by decide +kernel
theorem dX7_wayOf_6 : decode mX7_wayOf.2.1 6 = .ok (.getfield 38, 3) := by decide +kernel
theorem dX7_wayOf_9 : decode mX7_wayOf.2.1 9 = .ok (.if_icmp .ge 12, 3) := by decide +kernel
theorem dX7_wayOf_12 : decode mX7_wayOf.2.1 12 = .ok (.aload_n 0, 1) := by decide +kernel
theorem dX7_wayOf_13 : decode mX7_wayOf.2.1 13 = .ok (.getfield 24, 3) := by decide +kernel
theorem dX7_wayOf_16 : decode mX7_wayOf.2.1 16 = .ok (.iload_n 1, 1) := by decide +kernel
theorem dX7_wayOf_17 : decode mX7_wayOf.2.1 17 = .ok (.iaload, 1) := by decide +kernel
theorem dX7_wayOf_18 : decode mX7_wayOf.2.1 18 = .ok (.goto 4, 3) := by decide +kernel
theorem dX7_wayOf_21 : decode mX7_wayOf.2.1 21 = .ok (.iconst (-1), 1) := by decide +kernel
theorem dX7_wayOf_22 : decode mX7_wayOf.2.1 22 = .ok (.ireturn, 1) := by decide +kernel
theorem bX7_wayOf_0 {SC : Nat → Nat} {X : mh_X} {d : Nat} {Q : Option am_V → am_W → Prop} {bc bs : Nat} {w : am_W} {x1 : Int}
    (h : ((x1 < 0 → Q (some (.inl (-1))) w) ∧ (¬ x1 < 0 → (((w.1 8 0 9) ≤ x1 → Q (some (.inl (-1))) w) ∧ (¬ (w.1 8 0 9) ≤ x1 → (0 ≤ x1 ∧ (x1 < 5 ∧ Q (some (.inl (w.1 62 0 x1.toNat))) w))))))) :
    am_A (mh_G X) SC (d + 1) mX7_wayOf Q 0 [(0, .inr (.inr (some (8, 0)))), (1, .inl x1)] [] w bc bs := by
  refine am_iload_n dX7_wayOf_0 (List.Mem.tail _ (List.Mem.head _)) ?_
  refine am_iflt (tgt := 21) dX7_wayOf_1 (by decide) (fun c1 => ?_) (fun c1 => ?_)
  · replace h := h.1 c1
    refine am_iconst dX7_wayOf_21 (by unfold am_rg; omega) ?_
    exact am_ret (r := some (.inl (-1))) dX7_wayOf_22 (Or.inl rfl) rfl h
  · replace h := h.2 c1
    refine am_iload_n dX7_wayOf_4 (List.Mem.tail _ (List.Mem.head _)) ?_
    refine am_aload_n dX7_wayOf_5 (List.Mem.head _) ?_
    refine am_getf (f := 9) (v := .inl (w.1 8 0 9)) dX7_wayOf_6 hc_9 (by decide) wd_538 (by decide) rfl rfl ?_
    refine am_icmpge (tgt := 21) dX7_wayOf_9 (by decide) (fun c2 => ?_) (fun c2 => ?_)
    · replace h := h.1 c2
      refine am_iconst dX7_wayOf_21 (by unfold am_rg; omega) ?_
      exact am_ret (r := some (.inl (-1))) dX7_wayOf_22 (Or.inl rfl) rfl h
    · replace h := h.2 c2
      refine am_aload_n dX7_wayOf_12 (List.Mem.head _) ?_
      refine am_getf (f := 5) (v := .inr (.inr (some (62, 0)))) dX7_wayOf_13 hc_9 (by decide) wd_534 (by decide) rfl rfl ?_
      refine am_iload_n dX7_wayOf_16 (List.Mem.tail _ (List.Mem.head _)) ?_
      have o3 := h.1
      replace h := h.2
      have o4 := h.1
      replace h := h.2
      refine am_iaload (v := (w.1 62 0 x1.toNat)) dX7_wayOf_17 (by decide) rfl o3 o4 rfl ?_
      refine am_goto (tgt := 22) dX7_wayOf_18 (by decide) ?_
      exact am_ret (r := some (.inl (w.1 62 0 x1.toNat))) dX7_wayOf_22 (Or.inl rfl) rfl h
-- MourningHouse$Planner.dressOf(I)I
theorem dX7_dressOf_0 : decode mX7_dressOf.2.1 0 = .ok (.iload_n 1, 1) := by decide +kernel
theorem dX7_dressOf_1 : decode mX7_dressOf.2.1 1 = .ok (.ifCond .lt 20, 3) := by decide +kernel
theorem dX7_dressOf_4 : decode mX7_dressOf.2.1 4 = .ok (.iload_n 1, 1) := by decide +kernel
theorem dX7_dressOf_5 : decode mX7_dressOf.2.1 5 = .ok (.aload_n 0, 1) := by decide +kernel
theorem dX7_dressOf_6 : decode mX7_dressOf.2.1 6 = .ok (.getfield 38, 3) := by decide +kernel
theorem dX7_dressOf_9 : decode mX7_dressOf.2.1 9 = .ok (.if_icmp .ge 12, 3) := by decide +kernel
theorem dX7_dressOf_12 : decode mX7_dressOf.2.1 12 = .ok (.aload_n 0, 1) := by decide +kernel
theorem dX7_dressOf_13 : decode mX7_dressOf.2.1 13 = .ok (.getfield 27, 3) := by decide +kernel
theorem dX7_dressOf_16 : decode mX7_dressOf.2.1 16 = .ok (.iload_n 1, 1) := by decide +kernel
theorem dX7_dressOf_17 : decode mX7_dressOf.2.1 17 = .ok (.iaload, 1) := by decide +kernel
theorem dX7_dressOf_18 : decode mX7_dressOf.2.1 18 = .ok (.goto 4, 3) := by decide +kernel
theorem dX7_dressOf_21 : decode mX7_dressOf.2.1 21 = .ok (.iconst (-1), 1) := by decide +kernel
theorem dX7_dressOf_22 : decode mX7_dressOf.2.1 22 = .ok (.ireturn, 1) := by decide +kernel
theorem bX7_dressOf_0 {SC : Nat → Nat} {X : mh_X} {d : Nat} {Q : Option am_V → am_W → Prop} {bc bs : Nat} {w : am_W} {x1 : Int}
    (h : ((x1 < 0 → Q (some (.inl (-1))) w) ∧ (¬ x1 < 0 → (((w.1 8 0 9) ≤ x1 → Q (some (.inl (-1))) w) ∧ (¬ (w.1 8 0 9) ≤ x1 → (0 ≤ x1 ∧ (x1 < 5 ∧ Q (some (.inl (w.1 63 0 x1.toNat))) w))))))) :
    am_A (mh_G X) SC (d + 1) mX7_dressOf Q 0 [(0, .inr (.inr (some (8, 0)))), (1, .inl x1)] [] w bc bs := by
  refine am_iload_n dX7_dressOf_0 (List.Mem.tail _ (List.Mem.head _)) ?_
  refine am_iflt (tgt := 21) dX7_dressOf_1 (by decide) (fun c1 => ?_) (fun c1 => ?_)
  · replace h := h.1 c1
    refine am_iconst dX7_dressOf_21 (by unfold am_rg; omega) ?_
    exact am_ret (r := some (.inl (-1))) dX7_dressOf_22 (Or.inl rfl) rfl h
  · replace h := h.2 c1
    refine am_iload_n dX7_dressOf_4 (List.Mem.tail _ (List.Mem.head _)) ?_
    refine am_aload_n dX7_dressOf_5 (List.Mem.head _) ?_
    refine am_getf (f := 9) (v := .inl (w.1 8 0 9)) dX7_dressOf_6 hc_9 (by decide) wd_538 (by decide) rfl rfl ?_
    refine am_icmpge (tgt := 21) dX7_dressOf_9 (by decide) (fun c2 => ?_) (fun c2 => ?_)
    · replace h := h.1 c2
      refine am_iconst dX7_dressOf_21 (by unfold am_rg; omega) ?_
      exact am_ret (r := some (.inl (-1))) dX7_dressOf_22 (Or.inl rfl) rfl h
    · replace h := h.2 c2
      refine am_aload_n dX7_dressOf_12 (List.Mem.head _) ?_
      refine am_getf (f := 6) (v := .inr (.inr (some (63, 0)))) dX7_dressOf_13 hc_9 (by decide) wd_535 (by decide) rfl rfl ?_
      refine am_iload_n dX7_dressOf_16 (List.Mem.tail _ (List.Mem.head _)) ?_
      have o3 := h.1
      replace h := h.2
      have o4 := h.1
      replace h := h.2
      refine am_iaload (v := (w.1 63 0 x1.toNat)) dX7_dressOf_17 (by decide) rfl o3 o4 rfl ?_
      refine am_goto (tgt := 22) dX7_dressOf_18 (by decide) ?_
      exact am_ret (r := some (.inl (w.1 63 0 x1.toNat))) dX7_dressOf_22 (Or.inl rfl) rfl h
-- MourningHouse$Planner.solve()V
theorem dX7_solve_0 : decode mX7_solve.2.1 0 = .ok (.iconst 0, 1) := by decide +kernel
theorem dX7_solve_1 : decode mX7_solve.2.1 1 = .ok (.istore_n 1, 1) := by decide +kernel
theorem dX7_solve_2 : decode mX7_solve.2.1 2 = .ok (.iload_n 1, 1) := by decide +kernel
theorem dX7_solve_3 : decode mX7_solve.2.1 3 = .ok (.aload_n 0, 1) := by decide +kernel
theorem dX7_solve_4 : decode mX7_solve.2.1 4 = .ok (.getfield 32, 3) := by decide +kernel
theorem dX7_solve_7 : decode mX7_solve.2.1 7 = .ok (.arraylength, 1) := by decide +kernel
theorem dX7_solve_8 : decode mX7_solve.2.1 8 = .ok (.if_icmp .ge 16, 3) := by decide +kernel
theorem dX7_solve_11 : decode mX7_solve.2.1 11 = .ok (.aload_n 0, 1) := by decide +kernel
theorem dX7_solve_12 : decode mX7_solve.2.1 12 = .ok (.getfield 32, 3) := by decide +kernel
theorem dX7_solve_15 : decode mX7_solve.2.1 15 = .ok (.iload_n 1, 1) := by decide +kernel
theorem dX7_solve_16 : decode mX7_solve.2.1 16 = .ok (.iconst 0, 1) := by decide +kernel
theorem dX7_solve_17 : decode mX7_solve.2.1 17 = .ok (.iastore, 1) := by decide +kernel
theorem dX7_solve_18 : decode mX7_solve.2.1 18 = .ok (.iinc 1 1, 3) := by decide +kernel
theorem dX7_solve_21 : decode mX7_solve.2.1 21 = .ok (.goto (-19), 3) := by decide +kernel
theorem dX7_solve_24 : decode mX7_solve.2.1 24 = .ok (.aload_n 0, 1) := by decide +kernel
theorem dX7_solve_25 : decode mX7_solve.2.1 25 = .ok (.lconst 0, 1) := by decide +kernel
theorem dX7_solve_26 : decode mX7_solve.2.1 26 = .ok (.putfield 48, 3) := by decide +kernel
theorem dX7_solve_29 : decode mX7_solve.2.1 29 = .ok (.aload_n 0, 1) := by decide +kernel
theorem dX7_solve_30 : decode mX7_solve.2.1 30 = .ok (.ldc 56, 2) := by decide +kernel
theorem dX7_solve_32 : decode mX7_solve.2.1 32 = .ok (.putfield 45, 3) := by decide +kernel
theorem dX7_solve_35 : decode mX7_solve.2.1 35 = .ok (.aload_n 0, 1) := by decide +kernel
theorem dX7_solve_36 : decode mX7_solve.2.1 36 = .ok (.invokevirtual 57, 3) := by decide +kernel
theorem dX7_solve_39 : decode mX7_solve.2.1 39 = .ok (.aload_n 0, 1) := by decide +kernel
theorem dX7_solve_40 : decode mX7_solve.2.1 40 = .ok (.iconst 0, 1) := by decide +kernel
theorem dX7_solve_41 : decode mX7_solve.2.1 41 = .ok (.iconst 0, 1) := by decide +kernel
theorem dX7_solve_42 : decode mX7_solve.2.1 42 = .ok (.invokevirtual 60, 3) := by decide +kernel
theorem dX7_solve_45 : decode mX7_solve.2.1 45 = .ok (.return_, 1) := by decide +kernel
theorem bX7_solve_0 {SC : Nat → Nat} {X : mh_X} {d : Nat} {Q : Option am_V → am_W → Prop} {bc bs : Nat} {w : am_W} 
    (h : am_A (mh_G X) SC (d + 1) mX7_solve Q 2 [(0, .inr (.inr (some (8, 0)))), (1, .inl 0)] [] w bc bs) :
    am_A (mh_G X) SC (d + 1) mX7_solve Q 0 [(0, .inr (.inr (some (8, 0))))] [] w bc bs := by
  refine am_iconst dX7_solve_0 (by unfold am_rg; omega) ?_
  refine am_istore_n (ls' := [(1, .inl 0), (0, .inr (.inr (some (8, 0))))]) dX7_solve_1 (by decide) rfl ?_
  exact am_sub [1, 0] rfl h
theorem bX7_solve_2 {SC : Nat → Nat} {X : mh_X} {d : Nat} {Q : Option am_V → am_W → Prop} {bc bs : Nat} {w : am_W} {x1 : Int}
    (h : ((5 ≤ x1 → am_M (mh_G X) SC d 0 0 mX7_takeHands [.inr (.inr (some (8, 0)))] ((am_up w.1 8 0 11 2147483647), (am_up w.2.1 8 0 12 (0 : Int64)), w.2.2) (fun r w1 => am_A (mh_G X) SC (d + 1) mX7_solve Q 39 [(0, .inr (.inr (some (8, 0)))), (1, .inl x1)] (r.toList ++ []) w1 bc bs)) ∧ (¬ 5 ≤ x1 → (0 ≤ x1 ∧ (x1 < 5 ∧ am_A (mh_G X) SC (d + 1) mX7_solve Q 2 [(0, .inr (.inr (some (8, 0)))), (1, .inl (am_w (x1 + 1)))] [] ((am_up w.1 64 0 x1.toNat 0), w.2) bc bs))))) :
    am_A (mh_G X) SC (d + 1) mX7_solve Q 2 [(0, .inr (.inr (some (8, 0)))), (1, .inl x1)] [] w bc bs := by
  refine am_iload_n dX7_solve_2 (List.Mem.tail _ (List.Mem.head _)) ?_
  refine am_aload_n dX7_solve_3 (List.Mem.head _) ?_
  refine am_getf (f := 7) (v := .inr (.inr (some (64, 0)))) dX7_solve_4 hc_9 (by decide) wd_536 (by decide) rfl rfl ?_
  refine am_alen (kd := 0) (v := 5) dX7_solve_7 (by decide) rfl (by decide) rfl (by unfold am_rg; omega) ?_
  refine am_icmpge (tgt := 24) dX7_solve_8 (by decide) (fun c1 => ?_) (fun c1 => ?_)
  · replace h := h.1 c1
    refine am_aload_n dX7_solve_24 (List.Mem.head _) ?_
    refine am_lconst (x := 0) dX7_solve_25 rfl ?_
    refine am_putl (f := 12) dX7_solve_26 hc_9 (by decide) wd_541 rfl rfl (Or.inl (by decide)) rfl ?_
    refine am_aload_n dX7_solve_29 (List.Mem.head _) ?_
    refine am_ldcV (n := 2147483647) dX7_solve_30 (by decide) wd_1433 (by unfold am_rg; omega) ?_
    refine am_putf (f := 11) dX7_solve_32 hc_9 (by decide) wd_540 rfl (Or.inl rfl) (Or.inl (by decide)) rfl ?_
    refine am_aload_n dX7_solve_35 (List.Mem.head _) ?_
    exact am_callv (d' := d) (kc := 0) (ks := 0) (as := []) dX7_solve_36 wc_X7_takeHands wd_1434 wd_1436 wd_44 wd_121 ds_X7_takeHands (by decide) (Nat.le_refl _) (Nat.le_of_ble_eq_true rfl) (Nat.zero_le _) (Nat.zero_le _) hc_9 (by decide) rfl rfl h
  · replace h := h.2 c1
    refine am_aload_n dX7_solve_11 (List.Mem.head _) ?_
    refine am_getf (f := 7) (v := .inr (.inr (some (64, 0)))) dX7_solve_12 hc_9 (by decide) wd_536 (by decide) rfl rfl ?_
    refine am_iload_n dX7_solve_15 (List.Mem.tail _ (List.Mem.head _)) ?_
    refine am_iconst dX7_solve_16 (by unfold am_rg; omega) ?_
    have o2 := h.1
    replace h := h.2
    have o3 := h.1
    replace h := h.2
    refine am_iastore dX7_solve_17 (Or.inl (by decide)) rfl o2 o3 ?_
    refine am_iinc (ls' := [(1, .inl (am_w (x1 + 1))), (0, .inr (.inr (some (8, 0))))]) dX7_solve_18 (List.Mem.tail _ (List.Mem.head _)) (by decide) rfl ?_
    refine am_goto (tgt := 2) dX7_solve_21 (by decide) ?_
    exact am_sub [1, 0] rfl h
theorem bX7_solve_39 {SC : Nat → Nat} {X : mh_X} {d : Nat} {Q : Option am_V → am_W → Prop} {bc bs : Nat} {w : am_W} {x1 : Int}
    (h : am_M (mh_G X) SC d 0 0 mX7_choose [.inr (.inr (some (8, 0))), .inl 0, .inl 0] w (fun r w1 => am_A (mh_G X) SC (d + 1) mX7_solve Q 45 [(0, .inr (.inr (some (8, 0)))), (1, .inl x1)] (r.toList ++ []) w1 bc bs)) :
    am_A (mh_G X) SC (d + 1) mX7_solve Q 39 [(0, .inr (.inr (some (8, 0)))), (1, .inl x1)] [] w bc bs := by
  refine am_aload_n dX7_solve_39 (List.Mem.head _) ?_
  refine am_iconst dX7_solve_40 (by unfold am_rg; omega) ?_
  refine am_iconst dX7_solve_41 (by unfold am_rg; omega) ?_
  exact am_callv (d' := d) (kc := 0) (ks := 0) (as := [.inl 0, .inl 0]) dX7_solve_42 wc_X7_choose wd_1442 wd_1444 wd_46 wd_121 ds_X7_choose (by decide) (Nat.le_refl _) (Nat.le_of_ble_eq_true rfl) (Nat.zero_le _) (Nat.zero_le _) hc_9 (by decide) rfl rfl h
theorem bX7_solve_45 {SC : Nat → Nat} {X : mh_X} {d : Nat} {Q : Option am_V → am_W → Prop} {bc bs : Nat} {w : am_W} {x1 : Int}
    (h : Q none w) :
    am_A (mh_G X) SC (d + 1) mX7_solve Q 45 [(0, .inr (.inr (some (8, 0)))), (1, .inl x1)] [] w bc bs := by
  exact am_ret (r := none) dX7_solve_45 rfl rfl h
-- MourningHouse$Planner.takeHands()V
theorem dX7_takeHands_0 : decode mX7_takeHands.2.1 0 = .ok (.iconst 0, 1) := by decide +kernel
theorem dX7_takeHands_1 : decode mX7_takeHands.2.1 1 = .ok (.istore_n 1, 1) := by decide +kernel
theorem dX7_takeHands_2 : decode mX7_takeHands.2.1 2 = .ok (.iload_n 1, 1) := by decide +kernel
theorem dX7_takeHands_3 : decode mX7_takeHands.2.1 3 = .ok (.iconst 4, 1) := by decide +kernel
theorem dX7_takeHands_4 : decode mX7_takeHands.2.1 4 = .ok (.if_icmp .ge 16, 3) := by decide +kernel
theorem dX7_takeHands_7 : decode mX7_takeHands.2.1 7 = .ok (.aload_n 0, 1) := by decide +kernel
theorem dX7_takeHands_8 : decode mX7_takeHands.2.1 8 = .ok (.getfield 35, 3) := by decide +kernel
theorem dX7_takeHands_11 : decode mX7_takeHands.2.1 11 = .ok (.iload_n 1, 1) := by decide +kernel
theorem dX7_takeHands_12 : decode mX7_takeHands.2.1 12 = .ok (.iconst 0, 1) := by decide +kernel
theorem dX7_takeHands_13 : decode mX7_takeHands.2.1 13 = .ok (.iastore, 1) := by decide +kernel
theorem dX7_takeHands_14 : decode mX7_takeHands.2.1 14 = .ok (.iinc 1 1, 3) := by decide +kernel
theorem dX7_takeHands_17 : decode mX7_takeHands.2.1 17 = .ok (.goto (-15), 3) := by decide +kernel
theorem dX7_takeHands_20 : decode mX7_takeHands.2.1 20 = .ok (.iconst 0, 1) := by decide +kernel
theorem dX7_takeHands_21 : decode mX7_takeHands.2.1 21 = .ok (.istore_n 1, 1) := by decide +kernel
theorem dX7_takeHands_22 : decode mX7_takeHands.2.1 22 = .ok (.iload_n 1, 1) := by decide +kernel
theorem dX7_takeHands_23 : decode mX7_takeHands.2.1 23 = .ok (.aload_n 0, 1) := by decide +kernel
theorem dX7_takeHands_24 : decode mX7_takeHands.2.1 24 = .ok (.getfield 52, 3) := by decide +kernel
theorem dX7_takeHands_27 : decode mX7_takeHands.2.1 27 = .ok (.getfield 64, 3) := by decide +kernel
theorem dX7_takeHands_30 : decode mX7_takeHands.2.1 30 = .ok (.if_icmp .ge 41, 3) := by decide +kernel
theorem dX7_takeHands_33 : decode mX7_takeHands.2.1 33 = .ok (.aload_n 0, 1) := by decide +kernel
theorem dX7_takeHands_34 : decode mX7_takeHands.2.1 34 = .ok (.getfield 52, 3) := by decide +kernel
theorem dX7_takeHands_37 : decode mX7_takeHands.2.1 37 = .ok (.getfield 67, 3) := by decide +kernel
theorem dX7_takeHands_40 : decode mX7_takeHands.2.1 40 = .ok (.ifCond .le 31, 3) := by decide +kernel
theorem dX7_takeHands_43 : decode mX7_takeHands.2.1 43 = .ok (.aload_n 0, 1) := by decide +kernel
theorem dX7_takeHands_44 : decode mX7_takeHands.2.1 44 = .ok (.getfield 35, 3) := by decide +kernel
theorem dX7_takeHands_47 : decode mX7_takeHands.2.1 47 = .ok (.aload_n 0, 1) := by decide +kernel
theorem dX7_takeHands_48 : decode mX7_takeHands.2.1 48 = .ok (.iconst 0, 1) := by decide +kernel
theorem dX7_takeHands_49 : decode mX7_takeHands.2.1 49 = .ok (.invokevirtual 70, 3) := by decide +kernel
theorem dX7_takeHands_52 : decode mX7_takeHands.2.1 52 = .ok (.dup2, 1) := by decide +kernel
theorem dX7_takeHands_53 : decode mX7_takeHands.2.1 53 = .ok (.iaload, 1) := by decide +kernel
theorem dX7_takeHands_54 : decode mX7_takeHands.2.1 54 = .ok (.aload_n 0, 1) := by decide +kernel
theorem dX7_takeHands_55 : decode mX7_takeHands.2.1 55 = .ok (.getfield 52, 3) := by decide +kernel
theorem dX7_takeHands_58 : decode mX7_takeHands.2.1 58 = .ok (.getfield 74, 3) := by decide +kernel
theorem dX7_takeHands_61 : decode mX7_takeHands.2.1 61 = .ok (.iload_n 1, 1) := by decide +kernel
theorem dX7_takeHands_62 : decode mX7_takeHands.2.1 62 = .ok (.iaload, 1) := by decide +kernel
theorem dX7_takeHands_63 : decode mX7_takeHands.2.1 63 = .ok (.iadd, 1) := by decide +kernel
theorem dX7_takeHands_64 : decode mX7_takeHands.2.1 64 = .ok (.iastore, 1) := by decide +kernel
theorem dX7_takeHands_65 : decode mX7_takeHands.2.1 65 = .ok (.iinc 1 1, 3) := by decide +kernel
theorem dX7_takeHands_68 : decode mX7_takeHands.2.1 68 = .ok (.goto (-46), 3) := by decide +kernel
theorem dX7_takeHands_71 : decode mX7_takeHands.2.1 71 = .ok (.return_, 1) := by decide +kernel
theorem bX7_takeHands_0 {SC : Nat → Nat} {X : mh_X} {d : Nat} {Q : Option am_V → am_W → Prop} {bc bs : Nat} {w : am_W} 
    (h : am_A (mh_G X) SC (d + 1) mX7_takeHands Q 2 [(0, .inr (.inr (some (8, 0)))), (1, .inl 0)] [] w bc bs) :
    am_A (mh_G X) SC (d + 1) mX7_takeHands Q 0 [(0, .inr (.inr (some (8, 0))))] [] w bc bs := by
  refine am_iconst dX7_takeHands_0 (by unfold am_rg; omega) ?_
  refine am_istore_n (ls' := [(1, .inl 0), (0, .inr (.inr (some (8, 0))))]) dX7_takeHands_1 (by decide) rfl ?_
  exact am_sub [1, 0] rfl h
theorem bX7_takeHands_2 {SC : Nat → Nat} {X : mh_X} {d : Nat} {Q : Option am_V → am_W → Prop} {bc bs : Nat} {w : am_W} {x1 : Int}
    (h : ((4 ≤ x1 → am_A (mh_G X) SC (d + 1) mX7_takeHands Q 22 [(0, .inr (.inr (some (8, 0)))), (1, .inl 0)] [] w bc bs) ∧ (¬ 4 ≤ x1 → (0 ≤ x1 ∧ (x1 < 24 ∧ am_A (mh_G X) SC (d + 1) mX7_takeHands Q 2 [(0, .inr (.inr (some (8, 0)))), (1, .inl (am_w (x1 + 1)))] [] ((am_up w.1 65 0 x1.toNat 0), w.2) bc bs))))) :
    am_A (mh_G X) SC (d + 1) mX7_takeHands Q 2 [(0, .inr (.inr (some (8, 0)))), (1, .inl x1)] [] w bc bs := by
  refine am_iload_n dX7_takeHands_2 (List.Mem.tail _ (List.Mem.head _)) ?_
  refine am_iconst dX7_takeHands_3 (by unfold am_rg; omega) ?_
  refine am_icmpge (tgt := 20) dX7_takeHands_4 (by decide) (fun c1 => ?_) (fun c1 => ?_)
  · replace h := h.1 c1
    refine am_iconst dX7_takeHands_20 (by unfold am_rg; omega) ?_
    refine am_istore_n (ls' := [(1, .inl 0), (0, .inr (.inr (some (8, 0))))]) dX7_takeHands_21 (by decide) rfl ?_
    exact am_sub [1, 0] rfl h
  · replace h := h.2 c1
    refine am_aload_n dX7_takeHands_7 (List.Mem.head _) ?_
    refine am_getf (f := 8) (v := .inr (.inr (some (65, 0)))) dX7_takeHands_8 hc_9 (by decide) wd_537 (by decide) rfl rfl ?_
    refine am_iload_n dX7_takeHands_11 (List.Mem.tail _ (List.Mem.head _)) ?_
    refine am_iconst dX7_takeHands_12 (by unfold am_rg; omega) ?_
    have o2 := h.1
    replace h := h.2
    have o3 := h.1
    replace h := h.2
    refine am_iastore dX7_takeHands_13 (Or.inl (by decide)) rfl o2 o3 ?_
    refine am_iinc (ls' := [(1, .inl (am_w (x1 + 1))), (0, .inr (.inr (some (8, 0))))]) dX7_takeHands_14 (List.Mem.tail _ (List.Mem.head _)) (by decide) rfl ?_
    refine am_goto (tgt := 2) dX7_takeHands_17 (by decide) ?_
    exact am_sub [1, 0] rfl h
theorem bX7_takeHands_22 {SC : Nat → Nat} {X : mh_X} {d : Nat} {Q : Option am_V → am_W → Prop} {bc bs : Nat} {w : am_W} {x1 : Int}
    (h : (((w.1 7 0 9) ≤ x1 → Q none w) ∧ (¬ (w.1 7 0 9) ≤ x1 → (((w.1 7 0 10) ≤ 0 → Q none w) ∧ (¬ (w.1 7 0 10) ≤ 0 → am_M (mh_G X) SC d 0 0 mX7_freeHand [.inr (.inr (some (8, 0))), .inl 0] w (fun r w1 => am_A (mh_G X) SC (d + 1) mX7_takeHands Q 52 [(0, .inr (.inr (some (8, 0)))), (1, .inl x1)] (r.toList ++ [.inr (.inr (some (65, 0)))]) w1 bc bs)))))) :
    am_A (mh_G X) SC (d + 1) mX7_takeHands Q 22 [(0, .inr (.inr (some (8, 0)))), (1, .inl x1)] [] w bc bs := by
  refine am_iload_n dX7_takeHands_22 (List.Mem.tail _ (List.Mem.head _)) ?_
  refine am_aload_n dX7_takeHands_23 (List.Mem.head _) ?_
  refine am_getf (f := 0) (v := .inr (.inr (some (7, 0)))) dX7_takeHands_24 hc_9 (by decide) wd_529 (by decide) rfl rfl ?_
  refine am_getf (f := 9) (v := .inl (w.1 7 0 9)) dX7_takeHands_27 hc_8 (by decide) wd_491 (by decide) rfl rfl ?_
  refine am_icmpge (tgt := 71) dX7_takeHands_30 (by decide) (fun c1 => ?_) (fun c1 => ?_)
  · replace h := h.1 c1
    exact am_ret (r := none) dX7_takeHands_71 rfl rfl h
  · replace h := h.2 c1
    refine am_aload_n dX7_takeHands_33 (List.Mem.head _) ?_
    refine am_getf (f := 0) (v := .inr (.inr (some (7, 0)))) dX7_takeHands_34 hc_9 (by decide) wd_529 (by decide) rfl rfl ?_
    refine am_getf (f := 10) (v := .inl (w.1 7 0 10)) dX7_takeHands_37 hc_8 (by decide) wd_494 (by decide) rfl rfl ?_
    refine am_ifle (tgt := 71) dX7_takeHands_40 (by decide) (fun c2 => ?_) (fun c2 => ?_)
    · replace h := h.1 c2
      exact am_ret (r := none) dX7_takeHands_71 rfl rfl h
    · replace h := h.2 c2
      refine am_aload_n dX7_takeHands_43 (List.Mem.head _) ?_
      refine am_getf (f := 8) (v := .inr (.inr (some (65, 0)))) dX7_takeHands_44 hc_9 (by decide) wd_537 (by decide) rfl rfl ?_
      refine am_aload_n dX7_takeHands_47 (List.Mem.head _) ?_
      refine am_iconst dX7_takeHands_48 (by unfold am_rg; omega) ?_
      exact am_callv (d' := d) (kc := 0) (ks := 0) (as := [.inl 0]) dX7_takeHands_49 wc_X7_freeHand wd_1438 wd_1440 wd_45 wd_121 ds_X7_freeHand (by decide) (Nat.le_refl _) (Nat.le_of_ble_eq_true rfl) (Nat.zero_le _) (Nat.zero_le _) hc_9 (by decide) rfl rfl h
theorem bX7_takeHands_52 {SC : Nat → Nat} {X : mh_X} {d : Nat} {Q : Option am_V → am_W → Prop} {bc bs : Nat} {w : am_W} {x1 : Int} {xs0 : Int}
    (h : (0 ≤ xs0 ∧ (xs0 < 24 ∧ (0 ≤ x1 ∧ (x1 < 20 ∧ am_A (mh_G X) SC (d + 1) mX7_takeHands Q 22 [(0, .inr (.inr (some (8, 0)))), (1, .inl (am_w (x1 + 1)))] [] ((am_up w.1 65 0 xs0.toNat (am_w ((w.1 65 0 xs0.toNat) + (w.1 57 0 x1.toNat)))), w.2) bc bs))))) :
    am_A (mh_G X) SC (d + 1) mX7_takeHands Q 52 [(0, .inr (.inr (some (8, 0)))), (1, .inl x1)] [.inl xs0, .inr (.inr (some (65, 0)))] w bc bs := by
  refine am_dup2 dX7_takeHands_52 rfl rfl ?_
  have o1 := h.1
  replace h := h.2
  have o2 := h.1
  replace h := h.2
  refine am_iaload (v := (w.1 65 0 xs0.toNat)) dX7_takeHands_53 (by decide) rfl o1 o2 rfl ?_
  refine am_aload_n dX7_takeHands_54 (List.Mem.head _) ?_
  refine am_getf (f := 0) (v := .inr (.inr (some (7, 0)))) dX7_takeHands_55 hc_9 (by decide) wd_529 (by decide) rfl rfl ?_
  refine am_getf (f := 7) (v := .inr (.inr (some (57, 0)))) dX7_takeHands_58 hc_8 (by decide) wd_487 (by decide) rfl rfl ?_
  refine am_iload_n dX7_takeHands_61 (List.Mem.tail _ (List.Mem.head _)) ?_
  have o3 := h.1
  replace h := h.2
  have o4 := h.1
  replace h := h.2
  refine am_iaload (v := (w.1 57 0 x1.toNat)) dX7_takeHands_62 (by decide) rfl o3 o4 rfl ?_
  refine am_iadd dX7_takeHands_63 ?_
  refine am_iastore dX7_takeHands_64 (Or.inl (by decide)) rfl o1 o2 ?_
  refine am_iinc (ls' := [(1, .inl (am_w (x1 + 1))), (0, .inr (.inr (some (8, 0))))]) dX7_takeHands_65 (List.Mem.tail _ (List.Mem.head _)) (by decide) rfl ?_
  refine am_goto (tgt := 22) dX7_takeHands_68 (by decide) ?_
  exact am_sub [1, 0] rfl h
-- MourningHouse$Planner.freeHand(I)I
theorem dX7_freeHand_0 : decode mX7_freeHand.2.1 0 = .ok (.iload_n 1, 1) := by decide +kernel
theorem dX7_freeHand_1 : decode mX7_freeHand.2.1 1 = .ok (.iconst 4, 1) := by decide +kernel
theorem dX7_freeHand_2 : decode mX7_freeHand.2.1 2 = .ok (.imul, 1) := by decide +kernel
theorem dX7_freeHand_3 : decode mX7_freeHand.2.1 3 = .ok (.istore_n 2, 1) := by decide +kernel
theorem dX7_freeHand_4 : decode mX7_freeHand.2.1 4 = .ok (.iload_n 2, 1) := by decide +kernel
theorem dX7_freeHand_5 : decode mX7_freeHand.2.1 5 = .ok (.istore_n 3, 1) := by decide +kernel
theorem dX7_freeHand_6 : decode mX7_freeHand.2.1 6 = .ok (.iconst 1, 1) := by decide +kernel
theorem dX7_freeHand_7 : decode mX7_freeHand.2.1 7 = .ok (.istore 4, 2) := by decide +kernel
theorem dX7_freeHand_9 : decode mX7_freeHand.2.1 9 = .ok (.iload 4, 2) := by decide +kernel
theorem dX7_freeHand_11 : decode mX7_freeHand.2.1 11 = .ok (.aload_n 0, 1) := by decide +kernel
theorem dX7_freeHand_12 : decode mX7_freeHand.2.1 12 = .ok (.getfield 52, 3) := by decide +kernel
theorem dX7_freeHand_15 : decode mX7_freeHand.2.1 15 = .ok (.getfield 67, 3) := by decide +kernel
theorem dX7_freeHand_18 : decode mX7_freeHand.2.1 18 = .ok (.if_icmp .ge 32, 3) := by decide +kernel
theorem dX7_freeHand_21 : decode mX7_freeHand.2.1 21 = .ok (.aload_n 0, 1) := by decide +kernel
theorem dX7_freeHand_22 : decode mX7_freeHand.2.1 22 = .ok (.getfield 35, 3) := by decide +kernel
theorem dX7_freeHand_25 : decode mX7_freeHand.2.1 25 = .ok (.iload_n 2, 1) := by decide +kernel
theorem dX7_freeHand_26 : decode mX7_freeHand.2.1 26 = .ok (.iload 4, 2) := by decide +kernel
theorem dX7_freeHand_28 : decode mX7_freeHand.2.1 28 = .ok (.iadd, 1) := by decide +kernel
theorem dX7_freeHand_29 : decode mX7_freeHand.2.1 29 = .ok (.iaload, 1) := by decide +kernel
theorem dX7_freeHand_30 : decode mX7_freeHand.2.1 30 = .ok (.aload_n 0, 1) := by decide +kernel
theorem dX7_freeHand_31 : decode mX7_freeHand.2.1 31 = .ok (.getfield 35, 3) := by decide +kernel
theorem dX7_freeHand_34 : decode mX7_freeHand.2.1 34 = .ok (.iload_n 3, 1) := by decide +kernel
theorem dX7_freeHand_35 : decode mX7_freeHand.2.1 35 = .ok (.iaload, 1) := by decide +kernel
theorem dX7_freeHand_36 : decode mX7_freeHand.2.1 36 = .ok (.if_icmp .ge 8, 3) := by decide +kernel
theorem dX7_freeHand_39 : decode mX7_freeHand.2.1 39 = .ok (.iload_n 2, 1) := by decide +kernel
theorem dX7_freeHand_40 : decode mX7_freeHand.2.1 40 = .ok (.iload 4, 2) := by decide +kernel
theorem dX7_freeHand_42 : decode mX7_freeHand.2.1 42 = .ok (.iadd, 1) := by decide +kernel
theorem dX7_freeHand_43 : decode mX7_freeHand.2.1 43 = .ok (.istore_n 3, 1) := by decide +kernel
theorem dX7_freeHand_44 : decode mX7_freeHand.2.1 44 = .ok (.iinc 4 1, 3) := by decide +kernel
theorem dX7_freeHand_47 : decode mX7_freeHand.2.1 47 = .ok (.goto (-38), 3) := by decide +kernel
theorem dX7_freeHand_50 : decode mX7_freeHand.2.1 50 = .ok (.iload_n 3, 1) := by decide +kernel
theorem dX7_freeHand_51 : decode mX7_freeHand.2.1 51 = .ok (.ireturn, 1) := by decide +kernel
theorem bX7_freeHand_0 {SC : Nat → Nat} {X : mh_X} {d : Nat} {Q : Option am_V → am_W → Prop} {bc bs : Nat} {w : am_W} {x1 : Int}
    (h : am_A (mh_G X) SC (d + 1) mX7_freeHand Q 9 [(0, .inr (.inr (some (8, 0)))), (2, .inl (am_w (x1 * 4))), (3, .inl (am_w (x1 * 4))), (4, .inl 1)] [] w bc bs) :
    am_A (mh_G X) SC (d + 1) mX7_freeHand Q 0 [(0, .inr (.inr (some (8, 0)))), (1, .inl x1)] [] w bc bs := by
  refine am_iload_n dX7_freeHand_0 (List.Mem.tail _ (List.Mem.head _)) ?_
  refine am_iconst dX7_freeHand_1 (by unfold am_rg; omega) ?_
  refine am_imul dX7_freeHand_2 ?_
  refine am_istore_n (ls' := [(2, .inl (am_w (x1 * 4))), (0, .inr (.inr (some (8, 0)))), (1, .inl x1)]) dX7_freeHand_3 (by decide) rfl ?_
  refine am_iload_n dX7_freeHand_4 (List.Mem.head _) ?_
  refine am_istore_n (ls' := [(3, .inl (am_w (x1 * 4))), (2, .inl (am_w (x1 * 4))), (0, .inr (.inr (some (8, 0)))), (1, .inl x1)]) dX7_freeHand_5 (by decide) rfl ?_
  refine am_iconst dX7_freeHand_6 (by unfold am_rg; omega) ?_
  refine am_istore (ls' := [(4, .inl 1), (3, .inl (am_w (x1 * 4))), (2, .inl (am_w (x1 * 4))), (0, .inr (.inr (some (8, 0)))), (1, .inl x1)]) dX7_freeHand_7 (by decide) rfl ?_
  exact am_sub [3, 2, 1, 0] rfl h
theorem bX7_freeHand_9 {SC : Nat → Nat} {X : mh_X} {d : Nat} {Q : Option am_V → am_W → Prop} {bc bs : Nat} {w : am_W} {x2 : Int} {x3 : Int} {x4 : Int}
    (h : (((w.1 7 0 10) ≤ x4 → Q (some (.inl x3)) w) ∧ (¬ (w.1 7 0 10) ≤ x4 → (0 ≤ (am_w (x2 + x4)) ∧ ((am_w (x2 + x4)) < 24 ∧ (0 ≤ x3 ∧ (x3 < 24 ∧ (((w.1 65 0 x3.toNat) ≤ (w.1 65 0 (am_w (x2 + x4)).toNat) → am_A (mh_G X) SC (d + 1) mX7_freeHand Q 44 [(0, .inr (.inr (some (8, 0)))), (2, .inl x2), (3, .inl x3), (4, .inl x4)] [] w bc bs) ∧ (¬ (w.1 65 0 x3.toNat) ≤ (w.1 65 0 (am_w (x2 + x4)).toNat) → am_A (mh_G X) SC (d + 1) mX7_freeHand Q 44 [(0, .inr (.inr (some (8, 0)))), (2, .inl x2), (3, .inl (am_w (x2 + x4))), (4, .inl x4)] [] w bc bs))))))))) :
    am_A (mh_G X) SC (d + 1) mX7_freeHand Q 9 [(0, .inr (.inr (some (8, 0)))), (2, .inl x2), (3, .inl x3), (4, .inl x4)] [] w bc bs := by
  refine am_iload dX7_freeHand_9 (List.Mem.tail _ (List.Mem.tail _ (List.Mem.tail _ (List.Mem.head _)))) ?_
  refine am_aload_n dX7_freeHand_11 (List.Mem.head _) ?_
  refine am_getf (f := 0) (v := .inr (.inr (some (7, 0)))) dX7_freeHand_12 hc_9 (by decide) wd_529 (by decide) rfl rfl ?_
  refine am_getf (f := 10) (v := .inl (w.1 7 0 10)) dX7_freeHand_15 hc_8 (by decide) wd_494 (by decide) rfl rfl ?_
  refine am_icmpge (tgt := 50) dX7_freeHand_18 (by decide) (fun c1 => ?_) (fun c1 => ?_)
  · replace h := h.1 c1
    refine am_iload_n dX7_freeHand_50 (List.Mem.tail _ (List.Mem.tail _ (List.Mem.head _))) ?_
    exact am_ret (r := some (.inl x3)) dX7_freeHand_51 (Or.inl rfl) rfl h
  · replace h := h.2 c1
    refine am_aload_n dX7_freeHand_21 (List.Mem.head _) ?_
    refine am_getf (f := 8) (v := .inr (.inr (some (65, 0)))) dX7_freeHand_22 hc_9 (by decide) wd_537 (by decide) rfl rfl ?_
    refine am_iload_n dX7_freeHand_25 (List.Mem.tail _ (List.Mem.head _)) ?_
    refine am_iload dX7_freeHand_26 (List.Mem.tail _ (List.Mem.tail _ (List.Mem.tail _ (List.Mem.head _)))) ?_
    refine am_iadd dX7_freeHand_28 ?_
    have o2 := h.1
    replace h := h.2
    have o3 := h.1
    replace h := h.2
    refine am_iaload (v := (w.1 65 0 (am_w (x2 + x4)).toNat)) dX7_freeHand_29 (by decide) rfl o2 o3 rfl ?_
    refine am_aload_n dX7_freeHand_30 (List.Mem.head _) ?_
    refine am_getf (f := 8) (v := .inr (.inr (some (65, 0)))) dX7_freeHand_31 hc_9 (by decide) wd_537 (by decide) rfl rfl ?_
    refine am_iload_n dX7_freeHand_34 (List.Mem.tail _ (List.Mem.tail _ (List.Mem.head _))) ?_
    have o4 := h.1
    replace h := h.2
    have o5 := h.1
    replace h := h.2
    refine am_iaload (v := (w.1 65 0 x3.toNat)) dX7_freeHand_35 (by decide) rfl o4 o5 rfl ?_
    refine am_icmpge (tgt := 44) dX7_freeHand_36 (by decide) (fun c6 => ?_) (fun c6 => ?_)
    · replace h := h.1 c6
      exact h
    · replace h := h.2 c6
      refine am_iload_n dX7_freeHand_39 (List.Mem.tail _ (List.Mem.head _)) ?_
      refine am_iload dX7_freeHand_40 (List.Mem.tail _ (List.Mem.tail _ (List.Mem.tail _ (List.Mem.head _)))) ?_
      refine am_iadd dX7_freeHand_42 ?_
      refine am_istore_n (ls' := [(3, .inl (am_w (x2 + x4))), (0, .inr (.inr (some (8, 0)))), (2, .inl x2), (4, .inl x4)]) dX7_freeHand_43 (by decide) rfl ?_
      exact am_sub [1, 2, 0, 3] rfl h
theorem bX7_freeHand_44 {SC : Nat → Nat} {X : mh_X} {d : Nat} {Q : Option am_V → am_W → Prop} {bc bs : Nat} {w : am_W} {x2 : Int} {x3 : Int} {x4 : Int}
    (h : am_A (mh_G X) SC (d + 1) mX7_freeHand Q 9 [(0, .inr (.inr (some (8, 0)))), (2, .inl x2), (3, .inl x3), (4, .inl (am_w (x4 + 1)))] [] w bc bs) :
    am_A (mh_G X) SC (d + 1) mX7_freeHand Q 44 [(0, .inr (.inr (some (8, 0)))), (2, .inl x2), (3, .inl x3), (4, .inl x4)] [] w bc bs := by
  refine am_iinc (ls' := [(4, .inl (am_w (x4 + 1))), (0, .inr (.inr (some (8, 0)))), (2, .inl x2), (3, .inl x3)]) dX7_freeHand_44 (List.Mem.tail _ (List.Mem.tail _ (List.Mem.tail _ (List.Mem.head _)))) (by decide) rfl ?_
  refine am_goto (tgt := 9) dX7_freeHand_47 (by decide) ?_
  exact am_sub [1, 2, 3, 0] rfl h
-- MourningHouse$Planner.choose(II)V
theorem dX7_choose_0 : decode mX7_choose.2.1 0 = .ok (.iload_n 2, 1) := by decide +kernel
theorem dX7_choose_1 : decode mX7_choose.2.1 1 = .ok (.aload_n 0, 1) := by decide +kernel
theorem dX7_choose_2 : decode mX7_choose.2.1 2 = .ok (.getfield 45, 3) := by decide +kernel
theorem dX7_choose_5 : decode mX7_choose.2.1 5 = .ok (.if_icmp .lt 4, 3) := by decide +kernel
theorem dX7_choose_8 : decode mX7_choose.2.1 8 = .ok (.return_, 1) := by decide +kernel
theorem dX7_choose_9 : decode mX7_choose.2.1 9 = .ok (.iload_n 1, 1) := by decide +kernel
theorem dX7_choose_10 : decode mX7_choose.2.1 10 = .ok (.aload_n 0, 1) := by decide +kernel
theorem dX7_choose_11 : decode mX7_choose.2.1 11 = .ok (.getfield 38, 3) := by decide +kernel
theorem dX7_choose_14 : decode mX7_choose.2.1 14 = .ok (.if_icmp .ge 8, 3) := by decide +kernel
theorem dX7_choose_17 : decode mX7_choose.2.1 17 = .ok (.iload_n 1, 1) := by decide +kernel
theorem dX7_choose_18 : decode mX7_choose.2.1 18 = .ok (.iconst 5, 1) := by decide +kernel
theorem dX7_choose_19 : decode mX7_choose.2.1 19 = .ok (.if_icmp .lt 11, 3) := by decide +kernel
theorem dX7_choose_22 : decode mX7_choose.2.1 22 = .ok (.aload_n 0, 1) := by decide +kernel
theorem dX7_choose_23 : decode mX7_choose.2.1 23 = .ok (.iload_n 2, 1) := by decide +kernel
theorem dX7_choose_24 : decode mX7_choose.2.1 24 = .ok (.invokevirtual 77, 3) := by decide +kernel
theorem dX7_choose_27 : decode mX7_choose.2.1 27 = .ok (.goto 52, 3) := by decide +kernel
theorem dX7_choose_30 : decode mX7_choose.2.1 30 = .ok (.aload_n 0, 1) := by decide +kernel
theorem dX7_choose_31 : decode mX7_choose.2.1 31 = .ok (.getfield 15, 3) := by decide +kernel
theorem dX7_choose_34 : decode mX7_choose.2.1 34 = .ok (.iload_n 1, 1) := by decide +kernel
theorem dX7_choose_35 : decode mX7_choose.2.1 35 = .ok (.iaload, 1) := by decide +kernel
theorem dX7_choose_36 : decode mX7_choose.2.1 36 = .ok (.ifCond .ne 14, 3) := by decide +kernel
theorem dX7_choose_39 : decode mX7_choose.2.1 39 = .ok (.aload_n 0, 1) := by decide +kernel
theorem dX7_choose_40 : decode mX7_choose.2.1 40 = .ok (.iload_n 1, 1) := by decide +kernel
theorem dX7_choose_41 : decode mX7_choose.2.1 41 = .ok (.iconst 0, 1) := by decide +kernel
theorem dX7_choose_42 : decode mX7_choose.2.1 42 = .ok (.iconst (-1), 1) := by decide +kernel
theorem dX7_choose_43 : decode mX7_choose.2.1 43 = .ok (.iload_n 2, 1) := by decide +kernel
theorem dX7_choose_44 : decode mX7_choose.2.1 44 = .ok (.invokevirtual 81, 3) := by decide +kernel
theorem dX7_choose_47 : decode mX7_choose.2.1 47 = .ok (.goto 32, 3) := by decide +kernel
theorem dX7_choose_50 : decode mX7_choose.2.1 50 = .ok (.aload_n 0, 1) := by decide +kernel
theorem dX7_choose_51 : decode mX7_choose.2.1 51 = .ok (.iload_n 1, 1) := by decide +kernel
theorem dX7_choose_52 : decode mX7_choose.2.1 52 = .ok (.iload_n 2, 1) := by decide +kernel
theorem dX7_choose_53 : decode mX7_choose.2.1 53 = .ok (.invokevirtual 85, 3) := by decide +kernel
theorem dX7_choose_56 : decode mX7_choose.2.1 56 = .ok (.aload_n 0, 1) := by decide +kernel
theorem dX7_choose_57 : decode mX7_choose.2.1 57 = .ok (.iload_n 1, 1) := by decide +kernel
theorem dX7_choose_58 : decode mX7_choose.2.1 58 = .ok (.iload_n 2, 1) := by decide +kernel
theorem dX7_choose_59 : decode mX7_choose.2.1 59 = .ok (.invokevirtual 88, 3) := by decide +kernel
theorem dX7_choose_62 : decode mX7_choose.2.1 62 = .ok (.aload_n 0, 1) := by decide +kernel
theorem dX7_choose_63 : decode mX7_choose.2.1 63 = .ok (.iload_n 1, 1) := by decide +kernel
theorem dX7_choose_64 : decode mX7_choose.2.1 64 = .ok (.iload_n 2, 1) := by decide +kernel
theorem dX7_choose_65 : decode mX7_choose.2.1 65 = .ok (.invokevirtual 91, 3) := by decide +kernel
theorem dX7_choose_68 : decode mX7_choose.2.1 68 = .ok (.aload_n 0, 1) := by decide +kernel
theorem dX7_choose_69 : decode mX7_choose.2.1 69 = .ok (.iload_n 1, 1) := by decide +kernel
theorem dX7_choose_70 : decode mX7_choose.2.1 70 = .ok (.iconst 4, 1) := by decide +kernel
theorem dX7_choose_71 : decode mX7_choose.2.1 71 = .ok (.iconst (-1), 1) := by decide +kernel
theorem dX7_choose_72 : decode mX7_choose.2.1 72 = .ok (.iload_n 2, 1) := by decide +kernel
theorem dX7_choose_73 : decode mX7_choose.2.1 73 = .ok (.bipush 100, 2) := by decide +kernel
theorem dX7_choose_75 : decode mX7_choose.2.1 75 = .ok (.iadd, 1) := by decide +kernel
theorem dX7_choose_76 : decode mX7_choose.2.1 76 = .ok (.invokevirtual 81, 3) := by decide +kernel
theorem dX7_choose_79 : decode mX7_choose.2.1 79 = .ok (.return_, 1) := by decide +kernel
theorem bX7_choose_0 {SC : Nat → Nat} {X : mh_X} {d : Nat} {Q : Option am_V → am_W → Prop} {bc bs : Nat} {w : am_W} {x1 : Int} {x2 : Int}
    (h : ((x2 < (w.1 8 0 11) → (((w.1 8 0 9) ≤ x1 → am_A (mh_G X) SC (d + 1) mX7_choose Q 22 [(0, .inr (.inr (some (8, 0)))), (2, .inl x2)] [] w bc bs) ∧ (¬ (w.1 8 0 9) ≤ x1 → ((x1 < 5 → (0 ≤ x1 ∧ ((¬ (w.1 59 0 x1.toNat) = 0 → am_M (mh_G X) SC d 0 0 mX7_wear [.inr (.inr (some (8, 0))), .inl x1, .inl x2] w (fun r w1 => am_A (mh_G X) SC (d + 1) mX7_choose Q 56 [(0, .inr (.inr (some (8, 0)))), (1, .inl x1), (2, .inl x2)] (r.toList ++ []) w1 bc bs)) ∧ ((w.1 59 0 x1.toNat) = 0 → am_M (mh_G X) SC d 0 0 mX7_pick [.inr (.inr (some (8, 0))), .inl x1, .inl 0, .inl (-1), .inl x2] w (fun r w1 => am_A (mh_G X) SC (d + 1) mX7_choose Q 47 [(0, .inr (.inr (some (8, 0)))), (1, .inl x1), (2, .inl x2)] (r.toList ++ []) w1 bc bs))))) ∧ (¬ x1 < 5 → am_A (mh_G X) SC (d + 1) mX7_choose Q 22 [(0, .inr (.inr (some (8, 0)))), (2, .inl x2)] [] w bc bs))))) ∧ (¬ x2 < (w.1 8 0 11) → Q none w))) :
    am_A (mh_G X) SC (d + 1) mX7_choose Q 0 [(0, .inr (.inr (some (8, 0)))), (1, .inl x1), (2, .inl x2)] [] w bc bs := by
  refine am_iload_n dX7_choose_0 (List.Mem.tail _ (List.Mem.tail _ (List.Mem.head _))) ?_
  refine am_aload_n dX7_choose_1 (List.Mem.head _) ?_
  refine am_getf (f := 11) (v := .inl (w.1 8 0 11)) dX7_choose_2 hc_9 (by decide) wd_540 (by decide) rfl rfl ?_
  refine am_icmplt (tgt := 9) dX7_choose_5 (by decide) (fun c1 => ?_) (fun c1 => ?_)
  · replace h := h.1 c1
    refine am_iload_n dX7_choose_9 (List.Mem.tail _ (List.Mem.head _)) ?_
    refine am_aload_n dX7_choose_10 (List.Mem.head _) ?_
    refine am_getf (f := 9) (v := .inl (w.1 8 0 9)) dX7_choose_11 hc_9 (by decide) wd_538 (by decide) rfl rfl ?_
    refine am_icmpge (tgt := 22) dX7_choose_14 (by decide) (fun c2 => ?_) (fun c2 => ?_)
    · replace h := h.1 c2
      exact am_sub [0, 2] rfl h
    · replace h := h.2 c2
      refine am_iload_n dX7_choose_17 (List.Mem.tail _ (List.Mem.head _)) ?_
      refine am_iconst dX7_choose_18 (by unfold am_rg; omega) ?_
      refine am_icmplt (tgt := 30) dX7_choose_19 (by decide) (fun c3 => ?_) (fun c3 => ?_)
      · replace h := h.1 c3
        refine am_aload_n dX7_choose_30 (List.Mem.head _) ?_
        refine am_getf (f := 2) (v := .inr (.inr (some (59, 0)))) dX7_choose_31 hc_9 (by decide) wd_531 (by decide) rfl rfl ?_
        refine am_iload_n dX7_choose_34 (List.Mem.tail _ (List.Mem.head _)) ?_
        have o4 := h.1
        replace h := h.2
        refine am_iaload (v := (w.1 59 0 x1.toNat)) dX7_choose_35 (by decide) rfl o4 c3 rfl ?_
        refine am_ifne (tgt := 50) dX7_choose_36 (by decide) (fun c5 => ?_) (fun c5 => ?_)
        · replace h := h.1 c5
          refine am_aload_n dX7_choose_50 (List.Mem.head _) ?_
          refine am_iload_n dX7_choose_51 (List.Mem.tail _ (List.Mem.head _)) ?_
          refine am_iload_n dX7_choose_52 (List.Mem.tail _ (List.Mem.tail _ (List.Mem.head _))) ?_
          exact am_callv (d' := d) (kc := 0) (ks := 0) (as := [.inl x1, .inl x2]) dX7_choose_53 wc_X7_wear wd_1458 wd_1460 wd_50 wd_121 ds_X7_wear (by decide) (Nat.le_refl _) (Nat.le_of_ble_eq_true rfl) (Nat.zero_le _) (Nat.zero_le _) hc_9 (by decide) rfl rfl h
        · replace h := h.2 c5
          refine am_aload_n dX7_choose_39 (List.Mem.head _) ?_
          refine am_iload_n dX7_choose_40 (List.Mem.tail _ (List.Mem.head _)) ?_
          refine am_iconst dX7_choose_41 (by unfold am_rg; omega) ?_
          refine am_iconst dX7_choose_42 (by unfold am_rg; omega) ?_
          refine am_iload_n dX7_choose_43 (List.Mem.tail _ (List.Mem.tail _ (List.Mem.head _))) ?_
          exact am_callv (d' := d) (kc := 0) (ks := 0) (as := [.inl x1, .inl 0, .inl (-1), .inl x2]) dX7_choose_44 wc_X7_pick wd_1450 wd_1452 wd_48 wd_121 ds_X7_pick (by decide) (Nat.le_refl _) (Nat.le_of_ble_eq_true rfl) (Nat.zero_le _) (Nat.zero_le _) hc_9 (by decide) rfl rfl h
      · replace h := h.2 c3
        exact am_sub [0, 2] rfl h
  · replace h := h.2 c1
    exact am_ret (r := none) dX7_choose_8 rfl rfl h
theorem bX7_choose_22 {SC : Nat → Nat} {X : mh_X} {d : Nat} {Q : Option am_V → am_W → Prop} {bc bs : Nat} {w : am_W} {x2 : Int}
    (h : am_M (mh_G X) SC d 0 0 mX7_keep [.inr (.inr (some (8, 0))), .inl x2] w (fun r w1 => am_A (mh_G X) SC (d + 1) mX7_choose Q 27 [(0, .inr (.inr (some (8, 0)))), (2, .inl x2)] (r.toList ++ []) w1 bc bs)) :
    am_A (mh_G X) SC (d + 1) mX7_choose Q 22 [(0, .inr (.inr (some (8, 0)))), (2, .inl x2)] [] w bc bs := by
  refine am_aload_n dX7_choose_22 (List.Mem.head _) ?_
  refine am_iload_n dX7_choose_23 (List.Mem.tail _ (List.Mem.head _)) ?_
  exact am_callv (d' := d) (kc := 0) (ks := 0) (as := [.inl x2]) dX7_choose_24 wc_X7_keep wd_1446 wd_1448 wd_47 wd_121 ds_X7_keep (by decide) (Nat.le_refl _) (Nat.le_of_ble_eq_true rfl) (Nat.zero_le _) (Nat.zero_le _) hc_9 (by decide) rfl rfl h
theorem bX7_choose_56 {SC : Nat → Nat} {X : mh_X} {d : Nat} {Q : Option am_V → am_W → Prop} {bc bs : Nat} {w : am_W} {x1 : Int} {x2 : Int}
    (h : am_M (mh_G X) SC d 0 0 mX7_dyeDarker [.inr (.inr (some (8, 0))), .inl x1, .inl x2] w (fun r w1 => am_A (mh_G X) SC (d + 1) mX7_choose Q 62 [(0, .inr (.inr (some (8, 0)))), (1, .inl x1), (2, .inl x2)] (r.toList ++ []) w1 bc bs)) :
    am_A (mh_G X) SC (d + 1) mX7_choose Q 56 [(0, .inr (.inr (some (8, 0)))), (1, .inl x1), (2, .inl x2)] [] w bc bs := by
  refine am_aload_n dX7_choose_56 (List.Mem.head _) ?_
  refine am_iload_n dX7_choose_57 (List.Mem.tail _ (List.Mem.head _)) ?_
  refine am_iload_n dX7_choose_58 (List.Mem.tail _ (List.Mem.tail _ (List.Mem.head _))) ?_
  exact am_callv (d' := d) (kc := 0) (ks := 0) (as := [.inl x1, .inl x2]) dX7_choose_59 wc_X7_dyeDarker wd_1466 wd_1468 wd_51 wd_121 ds_X7_dyeDarker (by decide) (Nat.le_refl _) (Nat.le_of_ble_eq_true rfl) (Nat.zero_le _) (Nat.zero_le _) hc_9 (by decide) rfl rfl h
theorem bX7_choose_47 {SC : Nat → Nat} {X : mh_X} {d : Nat} {Q : Option am_V → am_W → Prop} {bc bs : Nat} {w : am_W} {x1 : Int} {x2 : Int}
    (h : Q none w) :
    am_A (mh_G X) SC (d + 1) mX7_choose Q 47 [(0, .inr (.inr (some (8, 0)))), (1, .inl x1), (2, .inl x2)] [] w bc bs := by
  refine am_goto (tgt := 79) dX7_choose_47 (by decide) ?_
  exact am_ret (r := none) dX7_choose_79 rfl rfl h
theorem bX7_choose_27 {SC : Nat → Nat} {X : mh_X} {d : Nat} {Q : Option am_V → am_W → Prop} {bc bs : Nat} {w : am_W} {x2 : Int}
    (h : Q none w) :
    am_A (mh_G X) SC (d + 1) mX7_choose Q 27 [(0, .inr (.inr (some (8, 0)))), (2, .inl x2)] [] w bc bs := by
  refine am_goto (tgt := 79) dX7_choose_27 (by decide) ?_
  exact am_ret (r := none) dX7_choose_79 rfl rfl h
theorem bX7_choose_62 {SC : Nat → Nat} {X : mh_X} {d : Nat} {Q : Option am_V → am_W → Prop} {bc bs : Nat} {w : am_W} {x1 : Int} {x2 : Int}
    (h : am_M (mh_G X) SC d 0 0 mX7_sew [.inr (.inr (some (8, 0))), .inl x1, .inl x2] w (fun r w1 => am_A (mh_G X) SC (d + 1) mX7_choose Q 68 [(0, .inr (.inr (some (8, 0)))), (1, .inl x1), (2, .inl x2)] (r.toList ++ []) w1 bc bs)) :
    am_A (mh_G X) SC (d + 1) mX7_choose Q 62 [(0, .inr (.inr (some (8, 0)))), (1, .inl x1), (2, .inl x2)] [] w bc bs := by
  refine am_aload_n dX7_choose_62 (List.Mem.head _) ?_
  refine am_iload_n dX7_choose_63 (List.Mem.tail _ (List.Mem.head _)) ?_
  refine am_iload_n dX7_choose_64 (List.Mem.tail _ (List.Mem.tail _ (List.Mem.head _))) ?_
  exact am_callv (d' := d) (kc := 0) (ks := 0) (as := [.inl x1, .inl x2]) dX7_choose_65 wc_X7_sew wd_1470 wd_1472 wd_52 wd_121 ds_X7_sew (by decide) (Nat.le_refl _) (Nat.le_of_ble_eq_true rfl) (Nat.zero_le _) (Nat.zero_le _) hc_9 (by decide) rfl rfl h
theorem bX7_choose_68 {SC : Nat → Nat} {X : mh_X} {d : Nat} {Q : Option am_V → am_W → Prop} {bc bs : Nat} {w : am_W} {x1 : Int} {x2 : Int}
    (h : am_M (mh_G X) SC d 0 0 mX7_pick [.inr (.inr (some (8, 0))), .inl x1, .inl 4, .inl (-1), .inl (am_w (x2 + 100))] w (fun r w1 => am_A (mh_G X) SC (d + 1) mX7_choose Q 79 [(0, .inr (.inr (some (8, 0)))), (1, .inl x1), (2, .inl x2)] (r.toList ++ []) w1 bc bs)) :
    am_A (mh_G X) SC (d + 1) mX7_choose Q 68 [(0, .inr (.inr (some (8, 0)))), (1, .inl x1), (2, .inl x2)] [] w bc bs := by
  refine am_aload_n dX7_choose_68 (List.Mem.head _) ?_
  refine am_iload_n dX7_choose_69 (List.Mem.tail _ (List.Mem.head _)) ?_
  refine am_iconst dX7_choose_70 (by unfold am_rg; omega) ?_
  refine am_iconst dX7_choose_71 (by unfold am_rg; omega) ?_
  refine am_iload_n dX7_choose_72 (List.Mem.tail _ (List.Mem.tail _ (List.Mem.head _))) ?_
  refine am_bipush dX7_choose_73 (by decide) (by unfold am_rg; omega) ?_
  refine am_iadd dX7_choose_75 ?_
  exact am_callv (d' := d) (kc := 0) (ks := 0) (as := [.inl x1, .inl 4, .inl (-1), .inl (am_w (x2 + 100))]) dX7_choose_76 wc_X7_pick wd_1450 wd_1452 wd_48 wd_121 ds_X7_pick (by decide) (Nat.le_refl _) (Nat.le_of_ble_eq_true rfl) (Nat.zero_le _) (Nat.zero_le _) hc_9 (by decide) rfl rfl h
theorem bX7_choose_79 {SC : Nat → Nat} {X : mh_X} {d : Nat} {Q : Option am_V → am_W → Prop} {bc bs : Nat} {w : am_W} {x1 : Int} {x2 : Int}
    (h : Q none w) :
    am_A (mh_G X) SC (d + 1) mX7_choose Q 79 [(0, .inr (.inr (some (8, 0)))), (1, .inl x1), (2, .inl x2)] [] w bc bs := by
  exact am_ret (r := none) dX7_choose_79 rfl rfl h
-- MourningHouse$Planner.keep(I)V
theorem dX7_keep_0 : decode mX7_keep.2.1 0 = .ok (.aload_n 0, 1) := by decide +kernel
theorem dX7_keep_1 : decode mX7_keep.2.1 1 = .ok (.iload_n 1, 1) := by decide +kernel
theorem dX7_keep_2 : decode mX7_keep.2.1 2 = .ok (.putfield 45, 3) := by decide +kernel
theorem dX7_keep_5 : decode mX7_keep.2.1 5 = .ok (.iconst 0, 1) := by decide +kernel
theorem dX7_keep_6 : decode mX7_keep.2.1 6 = .ok (.istore_n 2, 1) := by decide +kernel
theorem dX7_keep_7 : decode mX7_keep.2.1 7 = .ok (.iload_n 2, 1) := by decide +kernel
theorem dX7_keep_8 : decode mX7_keep.2.1 8 = .ok (.aload_n 0, 1) := by decide +kernel
theorem dX7_keep_9 : decode mX7_keep.2.1 9 = .ok (.getfield 38, 3) := by decide +kernel
theorem dX7_keep_12 : decode mX7_keep.2.1 12 = .ok (.if_icmp .ge 33, 3) := by decide +kernel
theorem dX7_keep_15 : decode mX7_keep.2.1 15 = .ok (.aload_n 0, 1) := by decide +kernel
theorem dX7_keep_16 : decode mX7_keep.2.1 16 = .ok (.getfield 24, 3) := by decide +kernel
theorem dX7_keep_19 : decode mX7_keep.2.1 19 = .ok (.iload_n 2, 1) := by decide +kernel
theorem dX7_keep_20 : decode mX7_keep.2.1 20 = .ok (.aload_n 0, 1) := by decide +kernel
theorem dX7_keep_21 : decode mX7_keep.2.1 21 = .ok (.getfield 18, 3) := by decide +kernel
theorem dX7_keep_24 : decode mX7_keep.2.1 24 = .ok (.iload_n 2, 1) := by decide +kernel
theorem dX7_keep_25 : decode mX7_keep.2.1 25 = .ok (.iaload, 1) := by decide +kernel
theorem dX7_keep_26 : decode mX7_keep.2.1 26 = .ok (.iastore, 1) := by decide +kernel
theorem dX7_keep_27 : decode mX7_keep.2.1 27 = .ok (.aload_n 0, 1) := by decide +kernel
theorem dX7_keep_28 : decode mX7_keep.2.1 28 = .ok (.getfield 27, 3) := by decide +kernel
theorem dX7_keep_31 : decode mX7_keep.2.1 31 = .ok (.iload_n 2, 1) := by decide +kernel
theorem dX7_keep_32 : decode mX7_keep.2.1 32 = .ok (.aload_n 0, 1) := by decide +kernel
theorem dX7_keep_33 : decode mX7_keep.2.1 33 = .ok (.getfield 21, 3) := by decide +kernel
theorem dX7_keep_36 : decode mX7_keep.2.1 36 = .ok (.iload_n 2, 1) := by decide +kernel
theorem dX7_keep_37 : decode mX7_keep.2.1 37 = .ok (.iaload, 1) := by decide +kernel
theorem dX7_keep_38 : decode mX7_keep.2.1 38 = .ok (.iastore, 1) := by decide +kernel
theorem dX7_keep_39 : decode mX7_keep.2.1 39 = .ok (.iinc 2 1, 3) := by decide +kernel
theorem dX7_keep_42 : decode mX7_keep.2.1 42 = .ok (.goto (-35), 3) := by decide +kernel
theorem dX7_keep_45 : decode mX7_keep.2.1 45 = .ok (.return_, 1) := by decide +kernel
theorem bX7_keep_0 {SC : Nat → Nat} {X : mh_X} {d : Nat} {Q : Option am_V → am_W → Prop} {bc bs : Nat} {w : am_W} {x1 : Int}
    (h : am_A (mh_G X) SC (d + 1) mX7_keep Q 7 [(0, .inr (.inr (some (8, 0)))), (2, .inl 0)] [] ((am_up w.1 8 0 11 x1), w.2) bc bs) :
    am_A (mh_G X) SC (d + 1) mX7_keep Q 0 [(0, .inr (.inr (some (8, 0)))), (1, .inl x1)] [] w bc bs := by
  refine am_aload_n dX7_keep_0 (List.Mem.head _) ?_
  refine am_iload_n dX7_keep_1 (List.Mem.tail _ (List.Mem.head _)) ?_
  refine am_putf (f := 11) dX7_keep_2 hc_9 (by decide) wd_540 rfl (Or.inl rfl) (Or.inl (by decide)) rfl ?_
  refine am_iconst dX7_keep_5 (by unfold am_rg; omega) ?_
  refine am_istore_n (ls' := [(2, .inl 0), (0, .inr (.inr (some (8, 0)))), (1, .inl x1)]) dX7_keep_6 (by decide) rfl ?_
  exact am_sub [1, 0] rfl h
theorem bX7_keep_7 {SC : Nat → Nat} {X : mh_X} {d : Nat} {Q : Option am_V → am_W → Prop} {bc bs : Nat} {w : am_W} {x2 : Int}
    (h : (((w.1 8 0 9) ≤ x2 → Q none w) ∧ (¬ (w.1 8 0 9) ≤ x2 → (0 ≤ x2 ∧ (x2 < 5 ∧ am_A (mh_G X) SC (d + 1) mX7_keep Q 7 [(0, .inr (.inr (some (8, 0)))), (2, .inl (am_w (x2 + 1)))] [] ((am_up (am_up w.1 62 0 x2.toNat (w.1 60 0 x2.toNat)) 63 0 x2.toNat (w.1 61 0 x2.toNat)), w.2) bc bs))))) :
    am_A (mh_G X) SC (d + 1) mX7_keep Q 7 [(0, .inr (.inr (some (8, 0)))), (2, .inl x2)] [] w bc bs := by
  refine am_iload_n dX7_keep_7 (List.Mem.tail _ (List.Mem.head _)) ?_
  refine am_aload_n dX7_keep_8 (List.Mem.head _) ?_
  refine am_getf (f := 9) (v := .inl (w.1 8 0 9)) dX7_keep_9 hc_9 (by decide) wd_538 (by decide) rfl rfl ?_
  refine am_icmpge (tgt := 45) dX7_keep_12 (by decide) (fun c1 => ?_) (fun c1 => ?_)
  · replace h := h.1 c1
    exact am_ret (r := none) dX7_keep_45 rfl rfl h
  · replace h := h.2 c1
    refine am_aload_n dX7_keep_15 (List.Mem.head _) ?_
    refine am_getf (f := 5) (v := .inr (.inr (some (62, 0)))) dX7_keep_16 hc_9 (by decide) wd_534 (by decide) rfl rfl ?_
    refine am_iload_n dX7_keep_19 (List.Mem.tail _ (List.Mem.head _)) ?_
    refine am_aload_n dX7_keep_20 (List.Mem.head _) ?_
    refine am_getf (f := 3) (v := .inr (.inr (some (60, 0)))) dX7_keep_21 hc_9 (by decide) wd_532 (by decide) rfl rfl ?_
    refine am_iload_n dX7_keep_24 (List.Mem.tail _ (List.Mem.head _)) ?_
    have o2 := h.1
    replace h := h.2
    have o3 := h.1
    replace h := h.2
    refine am_iaload (v := (w.1 60 0 x2.toNat)) dX7_keep_25 (by decide) rfl o2 o3 rfl ?_
    refine am_iastore dX7_keep_26 (Or.inl (by decide)) rfl o2 o3 ?_
    refine am_aload_n dX7_keep_27 (List.Mem.head _) ?_
    refine am_getf (f := 6) (v := .inr (.inr (some (63, 0)))) dX7_keep_28 hc_9 (by decide) wd_535 (by decide) rfl rfl ?_
    refine am_iload_n dX7_keep_31 (List.Mem.tail _ (List.Mem.head _)) ?_
    refine am_aload_n dX7_keep_32 (List.Mem.head _) ?_
    refine am_getf (f := 4) (v := .inr (.inr (some (61, 0)))) dX7_keep_33 hc_9 (by decide) wd_533 (by decide) rfl rfl ?_
    refine am_iload_n dX7_keep_36 (List.Mem.tail _ (List.Mem.head _)) ?_
    refine am_iaload (v := (w.1 61 0 x2.toNat)) dX7_keep_37 (by decide) rfl o2 o3 rfl ?_
    refine am_iastore dX7_keep_38 (Or.inl (by decide)) rfl o2 o3 ?_
    refine am_iinc (ls' := [(2, .inl (am_w (x2 + 1))), (0, .inr (.inr (some (8, 0))))]) dX7_keep_39 (List.Mem.tail _ (List.Mem.head _)) (by decide) rfl ?_
    refine am_goto (tgt := 7) dX7_keep_42 (by decide) ?_
    exact am_sub [1, 0] rfl h
-- MourningHouse$Planner.wear(II)V
theorem dX7_wear_0 : decode mX7_wear.2.1 0 = .ok (.aload_n 0, 1) := by decide +kernel
theorem dX7_wear_1 : decode mX7_wear.2.1 1 = .ok (.getfield 52, 3) := by decide +kernel
theorem dX7_wear_4 : decode mX7_wear.2.1 4 = .ok (.aload_n 0, 1) := by decide +kernel
theorem dX7_wear_5 : decode mX7_wear.2.1 5 = .ok (.getfield 11, 3) := by decide +kernel
theorem dX7_wear_8 : decode mX7_wear.2.1 8 = .ok (.iload_n 1, 1) := by decide +kernel
theorem dX7_wear_9 : decode mX7_wear.2.1 9 = .ok (.iaload, 1) := by decide +kernel
theorem dX7_wear_10 : decode mX7_wear.2.1 10 = .ok (.aload_n 0, 1) := by decide +kernel
theorem dX7_wear_11 : decode mX7_wear.2.1 11 = .ok (.getfield 15, 3) := by decide +kernel
theorem dX7_wear_14 : decode mX7_wear.2.1 14 = .ok (.iload_n 1, 1) := by decide +kernel
theorem dX7_wear_15 : decode mX7_wear.2.1 15 = .ok (.iaload, 1) := by decide +kernel
theorem dX7_wear_16 : decode mX7_wear.2.1 16 = .ok (.aload_n 0, 1) := by decide +kernel
theorem dX7_wear_17 : decode mX7_wear.2.1 17 = .ok (.getfield 48, 3) := by decide +kernel
theorem dX7_wear_20 : decode mX7_wear.2.1 20 = .ok (.invokevirtual 94, 3) := by decide +kernel
theorem dX7_wear_23 : decode mX7_wear.2.1 23 = .ok (.istore_n 3, 1) := by decide +kernel
theorem dX7_wear_24 : decode mX7_wear.2.1 24 = .ok (.iload_n 3, 1) := by decide +kernel
theorem dX7_wear_25 : decode mX7_wear.2.1 25 = .ok (.iconst (-1), 1) := by decide +kernel
theorem dX7_wear_26 : decode mX7_wear.2.1 26 = .ok (.if_icmp .eq 11, 3) := by decide +kernel
theorem dX7_wear_29 : decode mX7_wear.2.1 29 = .ok (.aload_n 0, 1) := by decide +kernel
theorem dX7_wear_30 : decode mX7_wear.2.1 30 = .ok (.iload_n 1, 1) := by decide +kernel
theorem dX7_wear_31 : decode mX7_wear.2.1 31 = .ok (.iconst 1, 1) := by decide +kernel
theorem dX7_wear_32 : decode mX7_wear.2.1 32 = .ok (.iload_n 3, 1) := by decide +kernel
theorem dX7_wear_33 : decode mX7_wear.2.1 33 = .ok (.iload_n 2, 1) := by decide +kernel
theorem dX7_wear_34 : decode mX7_wear.2.1 34 = .ok (.invokevirtual 81, 3) := by decide +kernel
theorem dX7_wear_37 : decode mX7_wear.2.1 37 = .ok (.return_, 1) := by decide +kernel
theorem bX7_wear_0 {SC : Nat → Nat} {X : mh_X} {d : Nat} {Q : Option am_V → am_W → Prop} {bc bs : Nat} {w : am_W} {x1 : Int} {x2 : Int}
    (h : (0 ≤ x1 ∧ (x1 < 5 ∧ am_M (mh_G X) SC d 0 0 mX9_leastDress [.inr (.inr (some (7, 0))), .inl (w.1 58 0 x1.toNat), .inl (w.1 59 0 x1.toNat), .inr (.inl (w.2.1 8 0 12))] w (fun r w1 => am_A (mh_G X) SC (d + 1) mX7_wear Q 23 [(0, .inr (.inr (some (8, 0)))), (1, .inl x1), (2, .inl x2)] (r.toList ++ []) w1 bc bs)))) :
    am_A (mh_G X) SC (d + 1) mX7_wear Q 0 [(0, .inr (.inr (some (8, 0)))), (1, .inl x1), (2, .inl x2)] [] w bc bs := by
  refine am_aload_n dX7_wear_0 (List.Mem.head _) ?_
  refine am_getf (f := 0) (v := .inr (.inr (some (7, 0)))) dX7_wear_1 hc_9 (by decide) wd_529 (by decide) rfl rfl ?_
  refine am_aload_n dX7_wear_4 (List.Mem.head _) ?_
  refine am_getf (f := 1) (v := .inr (.inr (some (58, 0)))) dX7_wear_5 hc_9 (by decide) wd_530 (by decide) rfl rfl ?_
  refine am_iload_n dX7_wear_8 (List.Mem.tail _ (List.Mem.head _)) ?_
  have o1 := h.1
  replace h := h.2
  have o2 := h.1
  replace h := h.2
  refine am_iaload (v := (w.1 58 0 x1.toNat)) dX7_wear_9 (by decide) rfl o1 o2 rfl ?_
  refine am_aload_n dX7_wear_10 (List.Mem.head _) ?_
  refine am_getf (f := 2) (v := .inr (.inr (some (59, 0)))) dX7_wear_11 hc_9 (by decide) wd_531 (by decide) rfl rfl ?_
  refine am_iload_n dX7_wear_14 (List.Mem.tail _ (List.Mem.head _)) ?_
  refine am_iaload (v := (w.1 59 0 x1.toNat)) dX7_wear_15 (by decide) rfl o1 o2 rfl ?_
  refine am_aload_n dX7_wear_16 (List.Mem.head _) ?_
  refine am_getf (f := 12) (v := .inr (.inl (w.2.1 8 0 12))) dX7_wear_17 hc_9 (by decide) wd_541 (by decide) rfl rfl ?_
  exact am_callv (d' := d) (kc := 0) (ks := 0) (as := [.inl (w.1 58 0 x1.toNat), .inl (w.1 59 0 x1.toNat), .inr (.inl (w.2.1 8 0 12))]) dX7_wear_20 wc_X9_leastDress wd_1462 wd_1463 wd_1464 wd_120 ds_X9_leastDress (by decide) (Nat.le_refl _) (Nat.le_of_ble_eq_true rfl) (Nat.zero_le _) (Nat.zero_le _) hc_8 (by decide) rfl rfl h
theorem bX7_wear_23 {SC : Nat → Nat} {X : mh_X} {d : Nat} {Q : Option am_V → am_W → Prop} {bc bs : Nat} {w : am_W} {x1 : Int} {x2 : Int} {xs0 : Int}
    (h : ((xs0 = (-1) → Q none w) ∧ (¬ xs0 = (-1) → am_M (mh_G X) SC d 0 0 mX7_pick [.inr (.inr (some (8, 0))), .inl x1, .inl 1, .inl xs0, .inl x2] w (fun r w1 => am_A (mh_G X) SC (d + 1) mX7_wear Q 37 [(3, .inl xs0), (0, .inr (.inr (some (8, 0)))), (1, .inl x1), (2, .inl x2)] (r.toList ++ []) w1 bc bs)))) :
    am_A (mh_G X) SC (d + 1) mX7_wear Q 23 [(0, .inr (.inr (some (8, 0)))), (1, .inl x1), (2, .inl x2)] [.inl xs0] w bc bs := by
  refine am_istore_n (ls' := [(3, .inl xs0), (0, .inr (.inr (some (8, 0)))), (1, .inl x1), (2, .inl x2)]) dX7_wear_23 (by decide) rfl ?_
  refine am_iload_n dX7_wear_24 (List.Mem.head _) ?_
  refine am_iconst dX7_wear_25 (by unfold am_rg; omega) ?_
  refine am_icmpeq (tgt := 37) dX7_wear_26 (by decide) (fun c1 => ?_) (fun c1 => ?_)
  · replace h := h.1 c1
    exact am_ret (r := none) dX7_wear_37 rfl rfl h
  · replace h := h.2 c1
    refine am_aload_n dX7_wear_29 (List.Mem.tail _ (List.Mem.head _)) ?_
    refine am_iload_n dX7_wear_30 (List.Mem.tail _ (List.Mem.tail _ (List.Mem.head _))) ?_
    refine am_iconst dX7_wear_31 (by unfold am_rg; omega) ?_
    refine am_iload_n dX7_wear_32 (List.Mem.head _) ?_
    refine am_iload_n dX7_wear_33 (List.Mem.tail _ (List.Mem.tail _ (List.Mem.tail _ (List.Mem.head _)))) ?_
    exact am_callv (d' := d) (kc := 0) (ks := 0) (as := [.inl x1, .inl 1, .inl xs0, .inl x2]) dX7_wear_34 wc_X7_pick wd_1450 wd_1452 wd_48 wd_121 ds_X7_pick (by decide) (Nat.le_refl _) (Nat.le_of_ble_eq_true rfl) (Nat.zero_le _) (Nat.zero_le _) hc_9 (by decide) rfl rfl h
theorem bX7_wear_37 {SC : Nat → Nat} {X : mh_X} {d : Nat} {Q : Option am_V → am_W → Prop} {bc bs : Nat} {w : am_W} {x3 : Int} {x1 : Int} {x2 : Int}
    (h : Q none w) :
    am_A (mh_G X) SC (d + 1) mX7_wear Q 37 [(3, .inl x3), (0, .inr (.inr (some (8, 0)))), (1, .inl x1), (2, .inl x2)] [] w bc bs := by
  exact am_ret (r := none) dX7_wear_37 rfl rfl h
-- MourningHouse$Planner.dyeDarker(II)V
theorem dX7_dyeDarker_0 : decode mX7_dyeDarker.2.1 0 = .ok (.aload_n 0, 1) := by decide +kernel
theorem dX7_dyeDarker_1 : decode mX7_dyeDarker.2.1 1 = .ok (.getfield 15, 3) := by decide +kernel
theorem dX7_dyeDarker_4 : decode mX7_dyeDarker.2.1 4 = .ok (.iload_n 1, 1) := by decide +kernel
theorem dX7_dyeDarker_5 : decode mX7_dyeDarker.2.1 5 = .ok (.iaload, 1) := by decide +kernel
theorem dX7_dyeDarker_6 : decode mX7_dyeDarker.2.1 6 = .ok (.iconst 1, 1) := by decide +kernel
theorem dX7_dyeDarker_7 : decode mX7_dyeDarker.2.1 7 = .ok (.isub, 1) := by decide +kernel
theorem dX7_dyeDarker_8 : decode mX7_dyeDarker.2.1 8 = .ok (.istore_n 3, 1) := by decide +kernel
theorem dX7_dyeDarker_9 : decode mX7_dyeDarker.2.1 9 = .ok (.iload_n 3, 1) := by decide +kernel
theorem dX7_dyeDarker_10 : decode mX7_dyeDarker.2.1 10 = .ok (.ifCond .lt 46, 3) := by decide +kernel
theorem dX7_dyeDarker_13 : decode mX7_dyeDarker.2.1 13 = .ok (.aload_n 0, 1) := by decide +kernel
theorem dX7_dyeDarker_14 : decode mX7_dyeDarker.2.1 14 = .ok (.getfield 52, 3) := by decide +kernel
theorem dX7_dyeDarker_17 : decode mX7_dyeDarker.2.1 17 = .ok (.aload_n 0, 1) := by decide +kernel
theorem dX7_dyeDarker_18 : decode mX7_dyeDarker.2.1 18 = .ok (.getfield 11, 3) := by decide +kernel
theorem dX7_dyeDarker_21 : decode mX7_dyeDarker.2.1 21 = .ok (.iload_n 1, 1) := by decide +kernel
theorem dX7_dyeDarker_22 : decode mX7_dyeDarker.2.1 22 = .ok (.iaload, 1) := by decide +kernel
theorem dX7_dyeDarker_23 : decode mX7_dyeDarker.2.1 23 = .ok (.iload_n 3, 1) := by decide +kernel
theorem dX7_dyeDarker_24 : decode mX7_dyeDarker.2.1 24 = .ok (.aload_n 0, 1) := by decide +kernel
theorem dX7_dyeDarker_25 : decode mX7_dyeDarker.2.1 25 = .ok (.getfield 48, 3) := by decide +kernel
theorem dX7_dyeDarker_28 : decode mX7_dyeDarker.2.1 28 = .ok (.invokevirtual 94, 3) := by decide +kernel
theorem dX7_dyeDarker_31 : decode mX7_dyeDarker.2.1 31 = .ok (.istore 4, 2) := by decide +kernel
theorem dX7_dyeDarker_33 : decode mX7_dyeDarker.2.1 33 = .ok (.iload 4, 2) := by decide +kernel
theorem dX7_dyeDarker_35 : decode mX7_dyeDarker.2.1 35 = .ok (.iconst (-1), 1) := by decide +kernel
theorem dX7_dyeDarker_36 : decode mX7_dyeDarker.2.1 36 = .ok (.if_icmp .eq 14, 3) := by decide +kernel
theorem dX7_dyeDarker_39 : decode mX7_dyeDarker.2.1 39 = .ok (.aload_n 0, 1) := by decide +kernel
theorem dX7_dyeDarker_40 : decode mX7_dyeDarker.2.1 40 = .ok (.iload_n 1, 1) := by decide +kernel
theorem dX7_dyeDarker_41 : decode mX7_dyeDarker.2.1 41 = .ok (.iconst 2, 1) := by decide +kernel
theorem dX7_dyeDarker_42 : decode mX7_dyeDarker.2.1 42 = .ok (.iload 4, 2) := by decide +kernel
theorem dX7_dyeDarker_44 : decode mX7_dyeDarker.2.1 44 = .ok (.iload_n 2, 1) := by decide +kernel
theorem dX7_dyeDarker_45 : decode mX7_dyeDarker.2.1 45 = .ok (.iconst 1, 1) := by decide +kernel
theorem dX7_dyeDarker_46 : decode mX7_dyeDarker.2.1 46 = .ok (.iadd, 1) := by decide +kernel
theorem dX7_dyeDarker_47 : decode mX7_dyeDarker.2.1 47 = .ok (.invokevirtual 81, 3) := by decide +kernel
theorem dX7_dyeDarker_50 : decode mX7_dyeDarker.2.1 50 = .ok (.iinc 3 (-1), 3) := by decide +kernel
theorem dX7_dyeDarker_53 : decode mX7_dyeDarker.2.1 53 = .ok (.goto (-44), 3) := by decide +kernel
theorem dX7_dyeDarker_56 : decode mX7_dyeDarker.2.1 56 = .ok (.return_, 1) := by decide +kernel
theorem bX7_dyeDarker_0 {SC : Nat → Nat} {X : mh_X} {d : Nat} {Q : Option am_V → am_W → Prop} {bc bs : Nat} {w : am_W} {x1 : Int} {x2 : Int}
    (h : (0 ≤ x1 ∧ (x1 < 5 ∧ am_A (mh_G X) SC (d + 1) mX7_dyeDarker Q 9 [(0, .inr (.inr (some (8, 0)))), (1, .inl x1), (2, .inl x2), (3, .inl (am_w ((w.1 59 0 x1.toNat) - 1)))] [] w bc bs))) :
    am_A (mh_G X) SC (d + 1) mX7_dyeDarker Q 0 [(0, .inr (.inr (some (8, 0)))), (1, .inl x1), (2, .inl x2)] [] w bc bs := by
  refine am_aload_n dX7_dyeDarker_0 (List.Mem.head _) ?_
  refine am_getf (f := 2) (v := .inr (.inr (some (59, 0)))) dX7_dyeDarker_1 hc_9 (by decide) wd_531 (by decide) rfl rfl ?_
  refine am_iload_n dX7_dyeDarker_4 (List.Mem.tail _ (List.Mem.head _)) ?_
  have o1 := h.1
  replace h := h.2
  have o2 := h.1
  replace h := h.2
  refine am_iaload (v := (w.1 59 0 x1.toNat)) dX7_dyeDarker_5 (by decide) rfl o1 o2 rfl ?_
  refine am_iconst dX7_dyeDarker_6 (by unfold am_rg; omega) ?_
  refine am_isub dX7_dyeDarker_7 ?_
  refine am_istore_n (ls' := [(3, .inl (am_w ((w.1 59 0 x1.toNat) - 1))), (0, .inr (.inr (some (8, 0)))), (1, .inl x1), (2, .inl x2)]) dX7_dyeDarker_8 (by decide) rfl ?_
  exact am_sub [1, 2, 3, 0] rfl h
theorem bX7_dyeDarker_9 {SC : Nat → Nat} {X : mh_X} {d : Nat} {Q : Option am_V → am_W → Prop} {bc bs : Nat} {w : am_W} {x1 : Int} {x2 : Int} {x3 : Int}
    (h : ((x3 < 0 → Q none w) ∧ (¬ x3 < 0 → (0 ≤ x1 ∧ (x1 < 5 ∧ am_M (mh_G X) SC d 0 0 mX9_leastDress [.inr (.inr (some (7, 0))), .inl (w.1 58 0 x1.toNat), .inl x3, .inr (.inl (w.2.1 8 0 12))] w (fun r w1 => am_A (mh_G X) SC (d + 1) mX7_dyeDarker Q 31 [(0, .inr (.inr (some (8, 0)))), (1, .inl x1), (2, .inl x2), (3, .inl x3)] (r.toList ++ []) w1 bc bs)))))) :
    am_A (mh_G X) SC (d + 1) mX7_dyeDarker Q 9 [(0, .inr (.inr (some (8, 0)))), (1, .inl x1), (2, .inl x2), (3, .inl x3)] [] w bc bs := by
  refine am_iload_n dX7_dyeDarker_9 (List.Mem.tail _ (List.Mem.tail _ (List.Mem.tail _ (List.Mem.head _)))) ?_
  refine am_iflt (tgt := 56) dX7_dyeDarker_10 (by decide) (fun c1 => ?_) (fun c1 => ?_)
  · replace h := h.1 c1
    exact am_ret (r := none) dX7_dyeDarker_56 rfl rfl h
  · replace h := h.2 c1
    refine am_aload_n dX7_dyeDarker_13 (List.Mem.head _) ?_
    refine am_getf (f := 0) (v := .inr (.inr (some (7, 0)))) dX7_dyeDarker_14 hc_9 (by decide) wd_529 (by decide) rfl rfl ?_
    refine am_aload_n dX7_dyeDarker_17 (List.Mem.head _) ?_
    refine am_getf (f := 1) (v := .inr (.inr (some (58, 0)))) dX7_dyeDarker_18 hc_9 (by decide) wd_530 (by decide) rfl rfl ?_
    refine am_iload_n dX7_dyeDarker_21 (List.Mem.tail _ (List.Mem.head _)) ?_
    have o2 := h.1
    replace h := h.2
    have o3 := h.1
    replace h := h.2
    refine am_iaload (v := (w.1 58 0 x1.toNat)) dX7_dyeDarker_22 (by decide) rfl o2 o3 rfl ?_
    refine am_iload_n dX7_dyeDarker_23 (List.Mem.tail _ (List.Mem.tail _ (List.Mem.tail _ (List.Mem.head _)))) ?_
    refine am_aload_n dX7_dyeDarker_24 (List.Mem.head _) ?_
    refine am_getf (f := 12) (v := .inr (.inl (w.2.1 8 0 12))) dX7_dyeDarker_25 hc_9 (by decide) wd_541 (by decide) rfl rfl ?_
    exact am_callv (d' := d) (kc := 0) (ks := 0) (as := [.inl (w.1 58 0 x1.toNat), .inl x3, .inr (.inl (w.2.1 8 0 12))]) dX7_dyeDarker_28 wc_X9_leastDress wd_1462 wd_1463 wd_1464 wd_120 ds_X9_leastDress (by decide) (Nat.le_refl _) (Nat.le_of_ble_eq_true rfl) (Nat.zero_le _) (Nat.zero_le _) hc_8 (by decide) rfl rfl h
theorem bX7_dyeDarker_31 {SC : Nat → Nat} {X : mh_X} {d : Nat} {Q : Option am_V → am_W → Prop} {bc bs : Nat} {w : am_W} {x1 : Int} {x2 : Int} {x3 : Int} {xs0 : Int}
    (h : ((xs0 = (-1) → am_A (mh_G X) SC (d + 1) mX7_dyeDarker Q 50 [(0, .inr (.inr (some (8, 0)))), (1, .inl x1), (2, .inl x2), (3, .inl x3)] [] w bc bs) ∧ (¬ xs0 = (-1) → am_M (mh_G X) SC d 0 0 mX7_pick [.inr (.inr (some (8, 0))), .inl x1, .inl 2, .inl xs0, .inl (am_w (x2 + 1))] w (fun r w1 => am_A (mh_G X) SC (d + 1) mX7_dyeDarker Q 50 [(4, .inl xs0), (0, .inr (.inr (some (8, 0)))), (1, .inl x1), (2, .inl x2), (3, .inl x3)] (r.toList ++ []) w1 bc bs)))) :
    am_A (mh_G X) SC (d + 1) mX7_dyeDarker Q 31 [(0, .inr (.inr (some (8, 0)))), (1, .inl x1), (2, .inl x2), (3, .inl x3)] [.inl xs0] w bc bs := by
  refine am_istore (ls' := [(4, .inl xs0), (0, .inr (.inr (some (8, 0)))), (1, .inl x1), (2, .inl x2), (3, .inl x3)]) dX7_dyeDarker_31 (by decide) rfl ?_
  refine am_iload dX7_dyeDarker_33 (List.Mem.head _) ?_
  refine am_iconst dX7_dyeDarker_35 (by unfold am_rg; omega) ?_
  refine am_icmpeq (tgt := 50) dX7_dyeDarker_36 (by decide) (fun c1 => ?_) (fun c1 => ?_)
  · replace h := h.1 c1
    exact am_sub [1, 2, 3, 4] rfl h
  · replace h := h.2 c1
    refine am_aload_n dX7_dyeDarker_39 (List.Mem.tail _ (List.Mem.head _)) ?_
    refine am_iload_n dX7_dyeDarker_40 (List.Mem.tail _ (List.Mem.tail _ (List.Mem.head _))) ?_
    refine am_iconst dX7_dyeDarker_41 (by unfold am_rg; omega) ?_
    refine am_iload dX7_dyeDarker_42 (List.Mem.head _) ?_
    refine am_iload_n dX7_dyeDarker_44 (List.Mem.tail _ (List.Mem.tail _ (List.Mem.tail _ (List.Mem.head _)))) ?_
    refine am_iconst dX7_dyeDarker_45 (by unfold am_rg; omega) ?_
    refine am_iadd dX7_dyeDarker_46 ?_
    exact am_callv (d' := d) (kc := 0) (ks := 0) (as := [.inl x1, .inl 2, .inl xs0, .inl (am_w (x2 + 1))]) dX7_dyeDarker_47 wc_X7_pick wd_1450 wd_1452 wd_48 wd_121 ds_X7_pick (by decide) (Nat.le_refl _) (Nat.le_of_ble_eq_true rfl) (Nat.zero_le _) (Nat.zero_le _) hc_9 (by decide) rfl rfl h
theorem bX7_dyeDarker_50 {SC : Nat → Nat} {X : mh_X} {d : Nat} {Q : Option am_V → am_W → Prop} {bc bs : Nat} {w : am_W} {x1 : Int} {x2 : Int} {x3 : Int}
    (h : am_A (mh_G X) SC (d + 1) mX7_dyeDarker Q 9 [(0, .inr (.inr (some (8, 0)))), (1, .inl x1), (2, .inl x2), (3, .inl (am_w (x3 + (-1))))] [] w bc bs) :
    am_A (mh_G X) SC (d + 1) mX7_dyeDarker Q 50 [(0, .inr (.inr (some (8, 0)))), (1, .inl x1), (2, .inl x2), (3, .inl x3)] [] w bc bs := by
  refine am_iinc (ls' := [(3, .inl (am_w (x3 + (-1)))), (0, .inr (.inr (some (8, 0)))), (1, .inl x1), (2, .inl x2)]) dX7_dyeDarker_50 (List.Mem.tail _ (List.Mem.tail _ (List.Mem.tail _ (List.Mem.head _)))) (by decide) rfl ?_
  refine am_goto (tgt := 9) dX7_dyeDarker_53 (by decide) ?_
  exact am_sub [1, 2, 3, 0] rfl h
theorem bX7_dyeDarker_50a {SC : Nat → Nat} {X : mh_X} {d : Nat} {Q : Option am_V → am_W → Prop} {bc bs : Nat} {w : am_W} {x4 : Int} {x1 : Int} {x2 : Int} {x3 : Int}
    (h : am_A (mh_G X) SC (d + 1) mX7_dyeDarker Q 9 [(0, .inr (.inr (some (8, 0)))), (1, .inl x1), (2, .inl x2), (3, .inl (am_w (x3 + (-1))))] [] w bc bs) :
    am_A (mh_G X) SC (d + 1) mX7_dyeDarker Q 50 [(4, .inl x4), (0, .inr (.inr (some (8, 0)))), (1, .inl x1), (2, .inl x2), (3, .inl x3)] [] w bc bs := by
  refine am_iinc (ls' := [(3, .inl (am_w (x3 + (-1)))), (4, .inl x4), (0, .inr (.inr (some (8, 0)))), (1, .inl x1), (2, .inl x2)]) dX7_dyeDarker_50 (List.Mem.tail _ (List.Mem.tail _ (List.Mem.tail _ (List.Mem.tail _ (List.Mem.head _))))) (by decide) rfl ?_
  refine am_goto (tgt := 9) dX7_dyeDarker_53 (by decide) ?_
  exact am_sub [2, 3, 4, 0] rfl h
-- MourningHouse$Planner.sew(II)V
theorem dX7_sew_0 : decode mX7_sew.2.1 0 = .ok (.aload_n 0, 1) := by decide +kernel
theorem dX7_sew_1 : decode mX7_sew.2.1 1 = .ok (.getfield 15, 3) := by decide +kernel
theorem dX7_sew_4 : decode mX7_sew.2.1 4 = .ok (.iload_n 1, 1) := by decide +kernel
theorem dX7_sew_5 : decode mX7_sew.2.1 5 = .ok (.iaload, 1) := by decide +kernel
theorem dX7_sew_6 : decode mX7_sew.2.1 6 = .ok (.istore_n 3, 1) := by decide +kernel
theorem dX7_sew_7 : decode mX7_sew.2.1 7 = .ok (.aload_n 0, 1) := by decide +kernel
theorem dX7_sew_8 : decode mX7_sew.2.1 8 = .ok (.getfield 52, 3) := by decide +kernel
theorem dX7_sew_11 : decode mX7_sew.2.1 11 = .ok (.getfield 98, 3) := by decide +kernel
theorem dX7_sew_14 : decode mX7_sew.2.1 14 = .ok (.iload_n 3, 1) := by decide +kernel
theorem dX7_sew_15 : decode mX7_sew.2.1 15 = .ok (.iaload, 1) := by decide +kernel
theorem dX7_sew_16 : decode mX7_sew.2.1 16 = .ok (.aload_n 0, 1) := by decide +kernel
theorem dX7_sew_17 : decode mX7_sew.2.1 17 = .ok (.getfield 32, 3) := by decide +kernel
theorem dX7_sew_20 : decode mX7_sew.2.1 20 = .ok (.iload_n 3, 1) := by decide +kernel
theorem dX7_sew_21 : decode mX7_sew.2.1 21 = .ok (.iaload, 1) := by decide +kernel
theorem dX7_sew_22 : decode mX7_sew.2.1 22 = .ok (.if_icmp .le 34, 3) := by decide +kernel
theorem dX7_sew_25 : decode mX7_sew.2.1 25 = .ok (.aload_n 0, 1) := by decide +kernel
theorem dX7_sew_26 : decode mX7_sew.2.1 26 = .ok (.getfield 32, 3) := by decide +kernel
theorem dX7_sew_29 : decode mX7_sew.2.1 29 = .ok (.iload_n 3, 1) := by decide +kernel
theorem dX7_sew_30 : decode mX7_sew.2.1 30 = .ok (.dup2, 1) := by decide +kernel
theorem dX7_sew_31 : decode mX7_sew.2.1 31 = .ok (.iaload, 1) := by decide +kernel
theorem dX7_sew_32 : decode mX7_sew.2.1 32 = .ok (.iconst 1, 1) := by decide +kernel
theorem dX7_sew_33 : decode mX7_sew.2.1 33 = .ok (.iadd, 1) := by decide +kernel
theorem dX7_sew_34 : decode mX7_sew.2.1 34 = .ok (.iastore, 1) := by decide +kernel
theorem dX7_sew_35 : decode mX7_sew.2.1 35 = .ok (.aload_n 0, 1) := by decide +kernel
theorem dX7_sew_36 : decode mX7_sew.2.1 36 = .ok (.iload_n 1, 1) := by decide +kernel
theorem dX7_sew_37 : decode mX7_sew.2.1 37 = .ok (.iconst 3, 1) := by decide +kernel
theorem dX7_sew_38 : decode mX7_sew.2.1 38 = .ok (.iconst (-1), 1) := by decide +kernel
theorem dX7_sew_39 : decode mX7_sew.2.1 39 = .ok (.iload_n 2, 1) := by decide +kernel
theorem dX7_sew_40 : decode mX7_sew.2.1 40 = .ok (.bipush 10, 2) := by decide +kernel
theorem dX7_sew_42 : decode mX7_sew.2.1 42 = .ok (.iadd, 1) := by decide +kernel
theorem dX7_sew_43 : decode mX7_sew.2.1 43 = .ok (.invokevirtual 81, 3) := by decide +kernel
theorem dX7_sew_46 : decode mX7_sew.2.1 46 = .ok (.aload_n 0, 1) := by decide +kernel
theorem dX7_sew_47 : decode mX7_sew.2.1 47 = .ok (.getfield 32, 3) := by decide +kernel
theorem dX7_sew_50 : decode mX7_sew.2.1 50 = .ok (.iload_n 3, 1) := by decide +kernel
theorem dX7_sew_51 : decode mX7_sew.2.1 51 = .ok (.dup2, 1) := by decide +kernel
theorem dX7_sew_52 : decode mX7_sew.2.1 52 = .ok (.iaload, 1) := by decide +kernel
theorem dX7_sew_53 : decode mX7_sew.2.1 53 = .ok (.iconst 1, 1) := by decide +kernel
theorem dX7_sew_54 : decode mX7_sew.2.1 54 = .ok (.isub, 1) := by decide +kernel
theorem dX7_sew_55 : decode mX7_sew.2.1 55 = .ok (.iastore, 1) := by decide +kernel
theorem dX7_sew_56 : decode mX7_sew.2.1 56 = .ok (.return_, 1) := by decide +kernel
theorem bX7_sew_0 {SC : Nat → Nat} {X : mh_X} {d : Nat} {Q : Option am_V → am_W → Prop} {bc bs : Nat} {w : am_W} {x1 : Int} {x2 : Int}
    (h : (0 ≤ x1 ∧ (x1 < 5 ∧ (0 ≤ (w.1 59 0 x1.toNat) ∧ ((w.1 59 0 x1.toNat) < 5 ∧ (((w.1 53 0 (w.1 59 0 x1.toNat).toNat) ≤ (w.1 64 0 (w.1 59 0 x1.toNat).toNat) → Q none w) ∧ (¬ (w.1 53 0 (w.1 59 0 x1.toNat).toNat) ≤ (w.1 64 0 (w.1 59 0 x1.toNat).toNat) → am_M (mh_G X) SC d 0 0 mX7_pick [.inr (.inr (some (8, 0))), .inl x1, .inl 3, .inl (-1), .inl (am_w (x2 + 10))] ((am_up w.1 64 0 (w.1 59 0 x1.toNat).toNat (am_w ((w.1 64 0 (w.1 59 0 x1.toNat).toNat) + 1))), w.2) (fun r w1 => am_A (mh_G X) SC (d + 1) mX7_sew Q 46 [(3, .inl (w.1 59 0 x1.toNat)), (0, .inr (.inr (some (8, 0)))), (1, .inl x1), (2, .inl x2)] (r.toList ++ []) w1 bc bs)))))))) :
    am_A (mh_G X) SC (d + 1) mX7_sew Q 0 [(0, .inr (.inr (some (8, 0)))), (1, .inl x1), (2, .inl x2)] [] w bc bs := by
  refine am_aload_n dX7_sew_0 (List.Mem.head _) ?_
  refine am_getf (f := 2) (v := .inr (.inr (some (59, 0)))) dX7_sew_1 hc_9 (by decide) wd_531 (by decide) rfl rfl ?_
  refine am_iload_n dX7_sew_4 (List.Mem.tail _ (List.Mem.head _)) ?_
  have o1 := h.1
  replace h := h.2
  have o2 := h.1
  replace h := h.2
  refine am_iaload (v := (w.1 59 0 x1.toNat)) dX7_sew_5 (by decide) rfl o1 o2 rfl ?_
  refine am_istore_n (ls' := [(3, .inl (w.1 59 0 x1.toNat)), (0, .inr (.inr (some (8, 0)))), (1, .inl x1), (2, .inl x2)]) dX7_sew_6 (by decide) rfl ?_
  refine am_aload_n dX7_sew_7 (List.Mem.tail _ (List.Mem.head _)) ?_
  refine am_getf (f := 0) (v := .inr (.inr (some (7, 0)))) dX7_sew_8 hc_9 (by decide) wd_529 (by decide) rfl rfl ?_
  refine am_getf (f := 3) (v := .inr (.inr (some (53, 0)))) dX7_sew_11 hc_8 (by decide) wd_482 (by decide) rfl rfl ?_
  refine am_iload_n dX7_sew_14 (List.Mem.head _) ?_
  have o3 := h.1
  replace h := h.2
  have o4 := h.1
  replace h := h.2
  refine am_iaload (v := (w.1 53 0 (w.1 59 0 x1.toNat).toNat)) dX7_sew_15 (by decide) rfl o3 o4 rfl ?_
  refine am_aload_n dX7_sew_16 (List.Mem.tail _ (List.Mem.head _)) ?_
  refine am_getf (f := 7) (v := .inr (.inr (some (64, 0)))) dX7_sew_17 hc_9 (by decide) wd_536 (by decide) rfl rfl ?_
  refine am_iload_n dX7_sew_20 (List.Mem.head _) ?_
  refine am_iaload (v := (w.1 64 0 (w.1 59 0 x1.toNat).toNat)) dX7_sew_21 (by decide) rfl o3 o4 rfl ?_
  refine am_icmple (tgt := 56) dX7_sew_22 (by decide) (fun c5 => ?_) (fun c5 => ?_)
  · replace h := h.1 c5
    exact am_ret (r := none) dX7_sew_56 rfl rfl h
  · replace h := h.2 c5
    refine am_aload_n dX7_sew_25 (List.Mem.tail _ (List.Mem.head _)) ?_
    refine am_getf (f := 7) (v := .inr (.inr (some (64, 0)))) dX7_sew_26 hc_9 (by decide) wd_536 (by decide) rfl rfl ?_
    refine am_iload_n dX7_sew_29 (List.Mem.head _) ?_
    refine am_dup2 dX7_sew_30 rfl rfl ?_
    refine am_iaload (v := (w.1 64 0 (w.1 59 0 x1.toNat).toNat)) dX7_sew_31 (by decide) rfl o3 o4 rfl ?_
    refine am_iconst dX7_sew_32 (by unfold am_rg; omega) ?_
    refine am_iadd dX7_sew_33 ?_
    refine am_iastore dX7_sew_34 (Or.inl (by decide)) rfl o3 o4 ?_
    refine am_aload_n dX7_sew_35 (List.Mem.tail _ (List.Mem.head _)) ?_
    refine am_iload_n dX7_sew_36 (List.Mem.tail _ (List.Mem.tail _ (List.Mem.head _))) ?_
    refine am_iconst dX7_sew_37 (by unfold am_rg; omega) ?_
    refine am_iconst dX7_sew_38 (by unfold am_rg; omega) ?_
    refine am_iload_n dX7_sew_39 (List.Mem.tail _ (List.Mem.tail _ (List.Mem.tail _ (List.Mem.head _)))) ?_
    refine am_bipush dX7_sew_40 (by decide) (by unfold am_rg; omega) ?_
    refine am_iadd dX7_sew_42 ?_
    exact am_callv (d' := d) (kc := 0) (ks := 0) (as := [.inl x1, .inl 3, .inl (-1), .inl (am_w (x2 + 10))]) dX7_sew_43 wc_X7_pick wd_1450 wd_1452 wd_48 wd_121 ds_X7_pick (by decide) (Nat.le_refl _) (Nat.le_of_ble_eq_true rfl) (Nat.zero_le _) (Nat.zero_le _) hc_9 (by decide) rfl rfl h
theorem bX7_sew_46 {SC : Nat → Nat} {X : mh_X} {d : Nat} {Q : Option am_V → am_W → Prop} {bc bs : Nat} {w : am_W} {x3 : Int} {x1 : Int} {x2 : Int}
    (h : (0 ≤ x3 ∧ (x3 < 5 ∧ Q none ((am_up w.1 64 0 x3.toNat (am_w ((w.1 64 0 x3.toNat) - 1))), w.2)))) :
    am_A (mh_G X) SC (d + 1) mX7_sew Q 46 [(3, .inl x3), (0, .inr (.inr (some (8, 0)))), (1, .inl x1), (2, .inl x2)] [] w bc bs := by
  refine am_aload_n dX7_sew_46 (List.Mem.tail _ (List.Mem.head _)) ?_
  refine am_getf (f := 7) (v := .inr (.inr (some (64, 0)))) dX7_sew_47 hc_9 (by decide) wd_536 (by decide) rfl rfl ?_
  refine am_iload_n dX7_sew_50 (List.Mem.head _) ?_
  refine am_dup2 dX7_sew_51 rfl rfl ?_
  have o1 := h.1
  replace h := h.2
  have o2 := h.1
  replace h := h.2
  refine am_iaload (v := (w.1 64 0 x3.toNat)) dX7_sew_52 (by decide) rfl o1 o2 rfl ?_
  refine am_iconst dX7_sew_53 (by unfold am_rg; omega) ?_
  refine am_isub dX7_sew_54 ?_
  refine am_iastore dX7_sew_55 (Or.inl (by decide)) rfl o1 o2 ?_
  exact am_ret (r := none) dX7_sew_56 rfl rfl h
-- MourningHouse$Planner.pick(IIII)V
theorem dX7_pick_0 : decode mX7_pick.2.1 0 = .ok (.aload_n 0, 1) := by decide +kernel
theorem dX7_pick_1 : decode mX7_pick.2.1 1 = .ok (.iload_n 1, 1) := by decide +kernel
theorem dX7_pick_2 : decode mX7_pick.2.1 2 = .ok (.iload_n 2, 1) := by decide +kernel
theorem dX7_pick_3 : decode mX7_pick.2.1 3 = .ok (.invokevirtual 101, 3) := by decide +kernel
theorem dX7_pick_6 : decode mX7_pick.2.1 6 = .ok (.ifCond .ne 4, 3) := by decide +kernel
theorem dX7_pick_9 : decode mX7_pick.2.1 9 = .ok (.return_, 1) := by decide +kernel
theorem dX7_pick_10 : decode mX7_pick.2.1 10 = .ok (.aload_n 0, 1) := by decide +kernel
theorem dX7_pick_11 : decode mX7_pick.2.1 11 = .ok (.getfield 48, 3) := by decide +kernel
theorem dX7_pick_14 : decode mX7_pick.2.1 14 = .ok (.lstore 5, 2) := by decide +kernel
theorem dX7_pick_16 : decode mX7_pick.2.1 16 = .ok (.aload_n 0, 1) := by decide +kernel
theorem dX7_pick_17 : decode mX7_pick.2.1 17 = .ok (.getfield 18, 3) := by decide +kernel
theorem dX7_pick_20 : decode mX7_pick.2.1 20 = .ok (.iload_n 1, 1) := by decide +kernel
theorem dX7_pick_21 : decode mX7_pick.2.1 21 = .ok (.iload_n 2, 1) := by decide +kernel
theorem dX7_pick_22 : decode mX7_pick.2.1 22 = .ok (.iastore, 1) := by decide +kernel
theorem dX7_pick_23 : decode mX7_pick.2.1 23 = .ok (.aload_n 0, 1) := by decide +kernel
theorem dX7_pick_24 : decode mX7_pick.2.1 24 = .ok (.getfield 21, 3) := by decide +kernel
theorem dX7_pick_27 : decode mX7_pick.2.1 27 = .ok (.iload_n 1, 1) := by decide +kernel
theorem dX7_pick_28 : decode mX7_pick.2.1 28 = .ok (.iload_n 3, 1) := by decide +kernel
theorem dX7_pick_29 : decode mX7_pick.2.1 29 = .ok (.iastore, 1) := by decide +kernel
theorem dX7_pick_30 : decode mX7_pick.2.1 30 = .ok (.iload_n 3, 1) := by decide +kernel
theorem dX7_pick_31 : decode mX7_pick.2.1 31 = .ok (.iconst (-1), 1) := by decide +kernel
theorem dX7_pick_32 : decode mX7_pick.2.1 32 = .ok (.if_icmp .eq 15, 3) := by decide +kernel
theorem dX7_pick_35 : decode mX7_pick.2.1 35 = .ok (.aload_n 0, 1) := by decide +kernel
theorem dX7_pick_36 : decode mX7_pick.2.1 36 = .ok (.dup, 1) := by decide +kernel
theorem dX7_pick_37 : decode mX7_pick.2.1 37 = .ok (.getfield 48, 3) := by decide +kernel
theorem dX7_pick_40 : decode mX7_pick.2.1 40 = .ok (.lconst 1, 1) := by decide +kernel
theorem dX7_pick_41 : decode mX7_pick.2.1 41 = .ok (.iload_n 3, 1) := by decide +kernel
theorem dX7_pick_42 : decode mX7_pick.2.1 42 = .ok (.lshl, 1) := by decide +kernel
theorem dX7_pick_43 : decode mX7_pick.2.1 43 = .ok (.lor, 1) := by decide +kernel
theorem dX7_pick_44 : decode mX7_pick.2.1 44 = .ok (.putfield 48, 3) := by decide +kernel
theorem dX7_pick_47 : decode mX7_pick.2.1 47 = .ok (.aload_n 0, 1) := by decide +kernel
theorem dX7_pick_48 : decode mX7_pick.2.1 48 = .ok (.iload_n 1, 1) := by decide +kernel
theorem dX7_pick_49 : decode mX7_pick.2.1 49 = .ok (.iconst 1, 1) := by decide +kernel
theorem dX7_pick_50 : decode mX7_pick.2.1 50 = .ok (.iadd, 1) := by decide +kernel
theorem dX7_pick_51 : decode mX7_pick.2.1 51 = .ok (.iload 4, 2) := by decide +kernel
theorem dX7_pick_53 : decode mX7_pick.2.1 53 = .ok (.invokevirtual 60, 3) := by decide +kernel
theorem dX7_pick_56 : decode mX7_pick.2.1 56 = .ok (.aload_n 0, 1) := by decide +kernel
theorem dX7_pick_57 : decode mX7_pick.2.1 57 = .ok (.lload 5, 2) := by decide +kernel
theorem dX7_pick_59 : decode mX7_pick.2.1 59 = .ok (.putfield 48, 3) := by decide +kernel
theorem dX7_pick_62 : decode mX7_pick.2.1 62 = .ok (.return_, 1) := by decide +kernel
theorem bX7_pick_0 {SC : Nat → Nat} {X : mh_X} {d : Nat} {Q : Option am_V → am_W → Prop} {bc bs : Nat} {w : am_W} {x1 : Int} {x2 : Int} {x3 : Int} {x4 : Int}
    (h : am_M (mh_G X) SC d 0 0 mX7_isInTime [.inr (.inr (some (8, 0))), .inl x1, .inl x2] w (fun r w1 => am_A (mh_G X) SC (d + 1) mX7_pick Q 6 [(0, .inr (.inr (some (8, 0)))), (1, .inl x1), (2, .inl x2), (3, .inl x3), (4, .inl x4)] (r.toList ++ []) w1 bc bs)) :
    am_A (mh_G X) SC (d + 1) mX7_pick Q 0 [(0, .inr (.inr (some (8, 0)))), (1, .inl x1), (2, .inl x2), (3, .inl x3), (4, .inl x4)] [] w bc bs := by
  refine am_aload_n dX7_pick_0 (List.Mem.head _) ?_
  refine am_iload_n dX7_pick_1 (List.Mem.tail _ (List.Mem.head _)) ?_
  refine am_iload_n dX7_pick_2 (List.Mem.tail _ (List.Mem.tail _ (List.Mem.head _))) ?_
  exact am_callv (d' := d) (kc := 0) (ks := 0) (as := [.inl x1, .inl x2]) dX7_pick_3 wc_X7_isInTime wd_1454 wd_1456 wd_49 wd_121 ds_X7_isInTime (by decide) (Nat.le_refl _) (Nat.le_of_ble_eq_true rfl) (Nat.zero_le _) (Nat.zero_le _) hc_9 (by decide) rfl rfl h
theorem bX7_pick_6 {SC : Nat → Nat} {X : mh_X} {d : Nat} {Q : Option am_V → am_W → Prop} {bc bs : Nat} {w : am_W} {x1 : Int} {x2 : Int} {x3 : Int} {x4 : Int} {xs0 : Int}
    (h : ((¬ xs0 = 0 → (0 ≤ x1 ∧ (x1 < 5 ∧ ((x3 = (-1) → am_A (mh_G X) SC (d + 1) mX7_pick Q 47 [(0, .inr (.inr (some (8, 0)))), (1, .inl x1), (4, .inl x4), (5, .inr (.inl (w.2.1 8 0 12)))] [] ((am_up (am_up w.1 60 0 x1.toNat x2) 61 0 x1.toNat x3), w.2) bc bs) ∧ (¬ x3 = (-1) → am_A (mh_G X) SC (d + 1) mX7_pick Q 47 [(0, .inr (.inr (some (8, 0)))), (1, .inl x1), (4, .inl x4), (5, .inr (.inl (w.2.1 8 0 12)))] [] ((am_up (am_up w.1 60 0 x1.toNat x2) 61 0 x1.toNat x3), (am_up w.2.1 8 0 12 ((w.2.1 8 0 12) ||| ((1 : Int64) <<< ((Int32.ofInt x3).toInt64 &&& 63)))), w.2.2) bc bs))))) ∧ (xs0 = 0 → Q none w))) :
    am_A (mh_G X) SC (d + 1) mX7_pick Q 6 [(0, .inr (.inr (some (8, 0)))), (1, .inl x1), (2, .inl x2), (3, .inl x3), (4, .inl x4)] [.inl xs0] w bc bs := by
  refine am_ifne (tgt := 10) dX7_pick_6 (by decide) (fun c1 => ?_) (fun c1 => ?_)
  · replace h := h.1 c1
    refine am_aload_n dX7_pick_10 (List.Mem.head _) ?_
    refine am_getf (f := 12) (v := .inr (.inl (w.2.1 8 0 12))) dX7_pick_11 hc_9 (by decide) wd_541 (by decide) rfl rfl ?_
    refine am_lstore (ls' := [(5, .inr (.inl (w.2.1 8 0 12))), (0, .inr (.inr (some (8, 0)))), (1, .inl x1), (2, .inl x2), (3, .inl x3), (4, .inl x4)]) dX7_pick_14 (by decide) rfl ?_
    refine am_aload_n dX7_pick_16 (List.Mem.tail _ (List.Mem.head _)) ?_
    refine am_getf (f := 3) (v := .inr (.inr (some (60, 0)))) dX7_pick_17 hc_9 (by decide) wd_532 (by decide) rfl rfl ?_
    refine am_iload_n dX7_pick_20 (List.Mem.tail _ (List.Mem.tail _ (List.Mem.head _))) ?_
    refine am_iload_n dX7_pick_21 (List.Mem.tail _ (List.Mem.tail _ (List.Mem.tail _ (List.Mem.head _)))) ?_
    have o2 := h.1
    replace h := h.2
    have o3 := h.1
    replace h := h.2
    refine am_iastore dX7_pick_22 (Or.inl (by decide)) rfl o2 o3 ?_
    refine am_aload_n dX7_pick_23 (List.Mem.tail _ (List.Mem.head _)) ?_
    refine am_getf (f := 4) (v := .inr (.inr (some (61, 0)))) dX7_pick_24 hc_9 (by decide) wd_533 (by decide) rfl rfl ?_
    refine am_iload_n dX7_pick_27 (List.Mem.tail _ (List.Mem.tail _ (List.Mem.head _))) ?_
    refine am_iload_n dX7_pick_28 (List.Mem.tail _ (List.Mem.tail _ (List.Mem.tail _ (List.Mem.tail _ (List.Mem.head _))))) ?_
    refine am_iastore dX7_pick_29 (Or.inl (by decide)) rfl o2 o3 ?_
    refine am_iload_n dX7_pick_30 (List.Mem.tail _ (List.Mem.tail _ (List.Mem.tail _ (List.Mem.tail _ (List.Mem.head _))))) ?_
    refine am_iconst dX7_pick_31 (by unfold am_rg; omega) ?_
    refine am_icmpeq (tgt := 47) dX7_pick_32 (by decide) (fun c4 => ?_) (fun c4 => ?_)
    · replace h := h.1 c4
      exact am_sub [1, 2, 5, 0] rfl h
    · replace h := h.2 c4
      refine am_aload_n dX7_pick_35 (List.Mem.tail _ (List.Mem.head _)) ?_
      refine am_dup dX7_pick_36 rfl ?_
      refine am_getf (f := 12) (v := .inr (.inl (w.2.1 8 0 12))) dX7_pick_37 hc_9 (by decide) wd_541 (by decide) rfl rfl ?_
      refine am_lconst (x := 1) dX7_pick_40 rfl ?_
      refine am_iload_n dX7_pick_41 (List.Mem.tail _ (List.Mem.tail _ (List.Mem.tail _ (List.Mem.tail _ (List.Mem.head _))))) ?_
      refine am_lshl dX7_pick_42 ?_
      refine am_lor dX7_pick_43 ?_
      refine am_putl (f := 12) dX7_pick_44 hc_9 (by decide) wd_541 rfl rfl (Or.inl (by decide)) rfl ?_
      exact am_sub [1, 2, 5, 0] rfl h
  · replace h := h.2 c1
    exact am_ret (r := none) dX7_pick_9 rfl rfl h
theorem bX7_pick_47 {SC : Nat → Nat} {X : mh_X} {d : Nat} {Q : Option am_V → am_W → Prop} {bc bs : Nat} {w : am_W} {x1 : Int} {x4 : Int} {y5 : Int64}
    (h : am_M (mh_G X) SC d 0 0 mX7_choose [.inr (.inr (some (8, 0))), .inl (am_w (x1 + 1)), .inl x4] w (fun r w1 => am_A (mh_G X) SC (d + 1) mX7_pick Q 56 [(0, .inr (.inr (some (8, 0)))), (1, .inl x1), (4, .inl x4), (5, .inr (.inl y5))] (r.toList ++ []) w1 bc bs)) :
    am_A (mh_G X) SC (d + 1) mX7_pick Q 47 [(0, .inr (.inr (some (8, 0)))), (1, .inl x1), (4, .inl x4), (5, .inr (.inl y5))] [] w bc bs := by
  refine am_aload_n dX7_pick_47 (List.Mem.head _) ?_
  refine am_iload_n dX7_pick_48 (List.Mem.tail _ (List.Mem.head _)) ?_
  refine am_iconst dX7_pick_49 (by unfold am_rg; omega) ?_
  refine am_iadd dX7_pick_50 ?_
  refine am_iload dX7_pick_51 (List.Mem.tail _ (List.Mem.tail _ (List.Mem.head _))) ?_
  exact am_callv (d' := d) (kc := 0) (ks := 0) (as := [.inl (am_w (x1 + 1)), .inl x4]) dX7_pick_53 wc_X7_choose wd_1442 wd_1444 wd_46 wd_121 ds_X7_choose (by decide) (Nat.le_refl _) (Nat.le_of_ble_eq_true rfl) (Nat.zero_le _) (Nat.zero_le _) hc_9 (by decide) rfl rfl h
theorem bX7_pick_56 {SC : Nat → Nat} {X : mh_X} {d : Nat} {Q : Option am_V → am_W → Prop} {bc bs : Nat} {w : am_W} {x1 : Int} {x4 : Int} {y5 : Int64}
    (h : Q none (w.1, (am_up w.2.1 8 0 12 y5), w.2.2)) :
    am_A (mh_G X) SC (d + 1) mX7_pick Q 56 [(0, .inr (.inr (some (8, 0)))), (1, .inl x1), (4, .inl x4), (5, .inr (.inl y5))] [] w bc bs := by
  refine am_aload_n dX7_pick_56 (List.Mem.head _) ?_
  refine am_lload dX7_pick_57 (List.Mem.tail _ (List.Mem.tail _ (List.Mem.tail _ (List.Mem.head _)))) ?_
  refine am_putl (f := 12) dX7_pick_59 hc_9 (by decide) wd_541 rfl rfl (Or.inl (by decide)) rfl ?_
  exact am_ret (r := none) dX7_pick_62 rfl rfl h
-- MourningHouse$Planner.isInTime(II)Z
theorem dX7_isInTime_0 : decode mX7_isInTime.2.1 0 = .ok (.iload_n 1, 1) := by decide +kernel
theorem dX7_isInTime_1 : decode mX7_isInTime.2.1 1 = .ok (.iconst 4, 1) := by decide +kernel
theorem dX7_isInTime_2 : decode mX7_isInTime.2.1 2 = .ok (.imul, 1) := by decide +kernel
theorem dX7_isInTime_3 : decode mX7_isInTime.2.1 3 = .ok (.istore_n 3, 1) := by decide +kernel
theorem dX7_isInTime_4 : decode mX7_isInTime.2.1 4 = .ok (.iload_n 3, 1) := by decide +kernel
theorem dX7_isInTime_5 : decode mX7_isInTime.2.1 5 = .ok (.iconst 4, 1) := by decide +kernel
theorem dX7_isInTime_6 : decode mX7_isInTime.2.1 6 = .ok (.iadd, 1) := by decide +kernel
theorem dX7_isInTime_7 : decode mX7_isInTime.2.1 7 = .ok (.istore 4, 2) := by decide +kernel
theorem dX7_isInTime_9 : decode mX7_isInTime.2.1 9 = .ok (.iconst 0, 1) := by decide +kernel
theorem dX7_isInTime_10 : decode mX7_isInTime.2.1 10 = .ok (.istore 5, 2) := by decide +kernel
theorem dX7_isInTime_12 : decode mX7_isInTime.2.1 12 = .ok (.iload 5, 2) := by decide +kernel
theorem dX7_isInTime_14 : decode mX7_isInTime.2.1 14 = .ok (.iconst 4, 1) := by decide +kernel
theorem dX7_isInTime_15 : decode mX7_isInTime.2.1 15 = .ok (.if_icmp .ge 28, 3) := by decide +kernel
theorem dX7_isInTime_18 : decode mX7_isInTime.2.1 18 = .ok (.aload_n 0, 1) := by decide +kernel
theorem dX7_isInTime_19 : decode mX7_isInTime.2.1 19 = .ok (.getfield 35, 3) := by decide +kernel
theorem dX7_isInTime_22 : decode mX7_isInTime.2.1 22 = .ok (.iload 4, 2) := by decide +kernel
theorem dX7_isInTime_24 : decode mX7_isInTime.2.1 24 = .ok (.iload 5, 2) := by decide +kernel
theorem dX7_isInTime_26 : decode mX7_isInTime.2.1 26 = .ok (.iadd, 1) := by decide +kernel
theorem dX7_isInTime_27 : decode mX7_isInTime.2.1 27 = .ok (.aload_n 0, 1) := by decide +kernel
theorem dX7_isInTime_28 : decode mX7_isInTime.2.1 28 = .ok (.getfield 35, 3) := by decide +kernel
theorem dX7_isInTime_31 : decode mX7_isInTime.2.1 31 = .ok (.iload_n 3, 1) := by decide +kernel
theorem dX7_isInTime_32 : decode mX7_isInTime.2.1 32 = .ok (.iload 5, 2) := by decide +kernel
theorem dX7_isInTime_34 : decode mX7_isInTime.2.1 34 = .ok (.iadd, 1) := by decide +kernel
theorem dX7_isInTime_35 : decode mX7_isInTime.2.1 35 = .ok (.iaload, 1) := by decide +kernel
theorem dX7_isInTime_36 : decode mX7_isInTime.2.1 36 = .ok (.iastore, 1) := by decide +kernel
theorem dX7_isInTime_37 : decode mX7_isInTime.2.1 37 = .ok (.iinc 5 1, 3) := by decide +kernel
theorem dX7_isInTime_40 : decode mX7_isInTime.2.1 40 = .ok (.goto (-28), 3) := by decide +kernel
theorem dX7_isInTime_43 : decode mX7_isInTime.2.1 43 = .ok (.iload_n 2, 1) := by decide +kernel
theorem dX7_isInTime_44 : decode mX7_isInTime.2.1 44 = .ok (.iconst 2, 1) := by decide +kernel
theorem dX7_isInTime_45 : decode mX7_isInTime.2.1 45 = .ok (.if_icmp .eq 10, 3) := by decide +kernel
theorem dX7_isInTime_48 : decode mX7_isInTime.2.1 48 = .ok (.iload_n 2, 1) := by decide +kernel
theorem dX7_isInTime_49 : decode mX7_isInTime.2.1 49 = .ok (.iconst 3, 1) := by decide +kernel
theorem dX7_isInTime_50 : decode mX7_isInTime.2.1 50 = .ok (.if_icmp .eq 5, 3) := by decide +kernel
theorem dX7_isInTime_53 : decode mX7_isInTime.2.1 53 = .ok (.iconst 1, 1) := by decide +kernel
theorem dX7_isInTime_54 : decode mX7_isInTime.2.1 54 = .ok (.ireturn, 1) := by decide +kernel
theorem dX7_isInTime_55 : decode mX7_isInTime.2.1 55 = .ok (.aload_n 0, 1) := by decide +kernel
theorem dX7_isInTime_56 : decode mX7_isInTime.2.1 56 = .ok (.getfield 52, 3) := by decide +kernel
theorem dX7_isInTime_59 : decode mX7_isInTime.2.1 59 = .ok (.getfield 67, 3) := by decide +kernel
theorem dX7_isInTime_62 : decode mX7_isInTime.2.1 62 = .ok (.ifCond .ne 5, 3) := by decide +kernel
theorem dX7_isInTime_65 : decode mX7_isInTime.2.1 65 = .ok (.iconst 0, 1) := by decide +kernel
theorem dX7_isInTime_66 : decode mX7_isInTime.2.1 66 = .ok (.ireturn, 1) := by decide +kernel
theorem dX7_isInTime_67 : decode mX7_isInTime.2.1 67 = .ok (.aload_n 0, 1) := by decide +kernel
theorem dX7_isInTime_68 : decode mX7_isInTime.2.1 68 = .ok (.iload_n 1, 1) := by decide +kernel
theorem dX7_isInTime_69 : decode mX7_isInTime.2.1 69 = .ok (.iconst 1, 1) := by decide +kernel
theorem dX7_isInTime_70 : decode mX7_isInTime.2.1 70 = .ok (.iadd, 1) := by decide +kernel
theorem dX7_isInTime_71 : decode mX7_isInTime.2.1 71 = .ok (.invokevirtual 70, 3) := by decide +kernel
theorem dX7_isInTime_74 : decode mX7_isInTime.2.1 74 = .ok (.istore 5, 2) := by decide +kernel
theorem dX7_isInTime_76 : decode mX7_isInTime.2.1 76 = .ok (.aload_n 0, 1) := by decide +kernel
theorem dX7_isInTime_77 : decode mX7_isInTime.2.1 77 = .ok (.getfield 35, 3) := by decide +kernel
theorem dX7_isInTime_80 : decode mX7_isInTime.2.1 80 = .ok (.iload 5, 2) := by decide +kernel
theorem dX7_isInTime_82 : decode mX7_isInTime.2.1 82 = .ok (.dup2, 1) := by decide +kernel
theorem dX7_isInTime_83 : decode mX7_isInTime.2.1 83 = .ok (.iaload, 1) := by decide +kernel
theorem dX7_isInTime_84 : decode mX7_isInTime.2.1 84 = .ok (.iload_n 2, 1) := by decide +kernel
theorem dX7_isInTime_85 : decode mX7_isInTime.2.1 85 = .ok (.iconst 2, 1) := by decide +kernel
theorem dX7_isInTime_86 : decode mX7_isInTime.2.1 86 = .ok (.if_icmp .ne 7, 3) := by decide +kernel
theorem dX7_isInTime_89 : decode mX7_isInTime.2.1 89 = .ok (.iconst 2, 1) := by decide +kernel
theorem dX7_isInTime_90 : decode mX7_isInTime.2.1 90 = .ok (.goto 4, 3) := by decide +kernel
theorem dX7_isInTime_93 : decode mX7_isInTime.2.1 93 = .ok (.iconst 3, 1) := by decide +kernel
theorem dX7_isInTime_94 : decode mX7_isInTime.2.1 94 = .ok (.iadd, 1) := by decide +kernel
theorem dX7_isInTime_95 : decode mX7_isInTime.2.1 95 = .ok (.iastore, 1) := by decide +kernel
theorem dX7_isInTime_96 : decode mX7_isInTime.2.1 96 = .ok (.aload_n 0, 1) := by decide +kernel
theorem dX7_isInTime_97 : decode mX7_isInTime.2.1 97 = .ok (.getfield 35, 3) := by decide +kernel
theorem dX7_isInTime_100 : decode mX7_isInTime.2.1 100 = .ok (.iload 5, 2) := by decide +kernel
theorem dX7_isInTime_102 : decode mX7_isInTime.2.1 102 = .ok (.iaload, 1) := by decide +kernel
theorem dX7_isInTime_103 : decode mX7_isInTime.2.1 103 = .ok (.aload_n 0, 1) := by decide +kernel
theorem dX7_isInTime_104 : decode mX7_isInTime.2.1 104 = .ok (.getfield 42, 3) := by decide +kernel
theorem dX7_isInTime_107 : decode mX7_isInTime.2.1 107 = .ok (.if_icmp .gt 7, 3) := by decide +kernel
theorem dX7_isInTime_110 : decode mX7_isInTime.2.1 110 = .ok (.iconst 1, 1) := by decide +kernel
theorem dX7_isInTime_111 : decode mX7_isInTime.2.1 111 = .ok (.goto 4, 3) := by decide +kernel
theorem dX7_isInTime_114 : decode mX7_isInTime.2.1 114 = .ok (.iconst 0, 1) := by decide +kernel
theorem dX7_isInTime_115 : decode mX7_isInTime.2.1 115 = .ok (.ireturn, 1) := by decide +kernel
theorem bX7_isInTime_0 {SC : Nat → Nat} {X : mh_X} {d : Nat} {Q : Option am_V → am_W → Prop} {bc bs : Nat} {w : am_W} {x1 : Int} {x2 : Int}
    (h : am_A (mh_G X) SC (d + 1) mX7_isInTime Q 12 [(0, .inr (.inr (some (8, 0)))), (1, .inl x1), (2, .inl x2), (3, .inl (am_w (x1 * 4))), (4, .inl (am_w ((am_w (x1 * 4)) + 4))), (5, .inl 0)] [] w bc bs) :
    am_A (mh_G X) SC (d + 1) mX7_isInTime Q 0 [(0, .inr (.inr (some (8, 0)))), (1, .inl x1), (2, .inl x2)] [] w bc bs := by
  refine am_iload_n dX7_isInTime_0 (List.Mem.tail _ (List.Mem.head _)) ?_
  refine am_iconst dX7_isInTime_1 (by unfold am_rg; omega) ?_
  refine am_imul dX7_isInTime_2 ?_
  refine am_istore_n (ls' := [(3, .inl (am_w (x1 * 4))), (0, .inr (.inr (some (8, 0)))), (1, .inl x1), (2, .inl x2)]) dX7_isInTime_3 (by decide) rfl ?_
  refine am_iload_n dX7_isInTime_4 (List.Mem.head _) ?_
  refine am_iconst dX7_isInTime_5 (by unfold am_rg; omega) ?_
  refine am_iadd dX7_isInTime_6 ?_
  refine am_istore (ls' := [(4, .inl (am_w ((am_w (x1 * 4)) + 4))), (3, .inl (am_w (x1 * 4))), (0, .inr (.inr (some (8, 0)))), (1, .inl x1), (2, .inl x2)]) dX7_isInTime_7 (by decide) rfl ?_
  refine am_iconst dX7_isInTime_9 (by unfold am_rg; omega) ?_
  refine am_istore (ls' := [(5, .inl 0), (4, .inl (am_w ((am_w (x1 * 4)) + 4))), (3, .inl (am_w (x1 * 4))), (0, .inr (.inr (some (8, 0)))), (1, .inl x1), (2, .inl x2)]) dX7_isInTime_10 (by decide) rfl ?_
  exact am_sub [3, 4, 5, 2, 1, 0] rfl h
theorem bX7_isInTime_12 {SC : Nat → Nat} {X : mh_X} {d : Nat} {Q : Option am_V → am_W → Prop} {bc bs : Nat} {w : am_W} {x1 : Int} {x2 : Int} {x3 : Int} {x4 : Int} {x5 : Int}
    (h : ((4 ≤ x5 → ((x2 = 2 → am_A (mh_G X) SC (d + 1) mX7_isInTime Q 55 [(0, .inr (.inr (some (8, 0)))), (1, .inl x1), (2, .inl x2)] [] w bc bs) ∧ (¬ x2 = 2 → ((x2 = 3 → am_A (mh_G X) SC (d + 1) mX7_isInTime Q 55 [(0, .inr (.inr (some (8, 0)))), (1, .inl x1), (2, .inl x2)] [] w bc bs) ∧ (¬ x2 = 3 → Q (some (.inl 1)) w))))) ∧ (¬ 4 ≤ x5 → (0 ≤ (am_w (x3 + x5)) ∧ ((am_w (x3 + x5)) < 24 ∧ (0 ≤ (am_w (x4 + x5)) ∧ ((am_w (x4 + x5)) < 24 ∧ am_A (mh_G X) SC (d + 1) mX7_isInTime Q 12 [(0, .inr (.inr (some (8, 0)))), (1, .inl x1), (2, .inl x2), (3, .inl x3), (4, .inl x4), (5, .inl (am_w (x5 + 1)))] [] ((am_up w.1 65 0 (am_w (x4 + x5)).toNat (w.1 65 0 (am_w (x3 + x5)).toNat)), w.2) bc bs))))))) :
    am_A (mh_G X) SC (d + 1) mX7_isInTime Q 12 [(0, .inr (.inr (some (8, 0)))), (1, .inl x1), (2, .inl x2), (3, .inl x3), (4, .inl x4), (5, .inl x5)] [] w bc bs := by
  refine am_iload dX7_isInTime_12 (List.Mem.tail _ (List.Mem.tail _ (List.Mem.tail _ (List.Mem.tail _ (List.Mem.tail _ (List.Mem.head _)))))) ?_
  refine am_iconst dX7_isInTime_14 (by unfold am_rg; omega) ?_
  refine am_icmpge (tgt := 43) dX7_isInTime_15 (by decide) (fun c1 => ?_) (fun c1 => ?_)
  · replace h := h.1 c1
    refine am_iload_n dX7_isInTime_43 (List.Mem.tail _ (List.Mem.tail _ (List.Mem.head _))) ?_
    refine am_iconst dX7_isInTime_44 (by unfold am_rg; omega) ?_
    refine am_icmpeq (tgt := 55) dX7_isInTime_45 (by decide) (fun c2 => ?_) (fun c2 => ?_)
    · replace h := h.1 c2
      exact am_sub [0, 1, 2] rfl h
    · replace h := h.2 c2
      refine am_iload_n dX7_isInTime_48 (List.Mem.tail _ (List.Mem.tail _ (List.Mem.head _))) ?_
      refine am_iconst dX7_isInTime_49 (by unfold am_rg; omega) ?_
      refine am_icmpeq (tgt := 55) dX7_isInTime_50 (by decide) (fun c3 => ?_) (fun c3 => ?_)
      · replace h := h.1 c3
        exact am_sub [0, 1, 2] rfl h
      · replace h := h.2 c3
        refine am_iconst dX7_isInTime_53 (by unfold am_rg; omega) ?_
        exact am_ret (r := some (.inl 1)) dX7_isInTime_54 (Or.inr (Or.inl ⟨rfl, (Or.inr rfl)⟩)) rfl h
  · replace h := h.2 c1
    refine am_aload_n dX7_isInTime_18 (List.Mem.head _) ?_
    refine am_getf (f := 8) (v := .inr (.inr (some (65, 0)))) dX7_isInTime_19 hc_9 (by decide) wd_537 (by decide) rfl rfl ?_
    refine am_iload dX7_isInTime_22 (List.Mem.tail _ (List.Mem.tail _ (List.Mem.tail _ (List.Mem.tail _ (List.Mem.head _))))) ?_
    refine am_iload dX7_isInTime_24 (List.Mem.tail _ (List.Mem.tail _ (List.Mem.tail _ (List.Mem.tail _ (List.Mem.tail _ (List.Mem.head _)))))) ?_
    refine am_iadd dX7_isInTime_26 ?_
    refine am_aload_n dX7_isInTime_27 (List.Mem.head _) ?_
    refine am_getf (f := 8) (v := .inr (.inr (some (65, 0)))) dX7_isInTime_28 hc_9 (by decide) wd_537 (by decide) rfl rfl ?_
    refine am_iload_n dX7_isInTime_31 (List.Mem.tail _ (List.Mem.tail _ (List.Mem.tail _ (List.Mem.head _)))) ?_
    refine am_iload dX7_isInTime_32 (List.Mem.tail _ (List.Mem.tail _ (List.Mem.tail _ (List.Mem.tail _ (List.Mem.tail _ (List.Mem.head _)))))) ?_
    refine am_iadd dX7_isInTime_34 ?_
    have o4 := h.1
    replace h := h.2
    have o5 := h.1
    replace h := h.2
    refine am_iaload (v := (w.1 65 0 (am_w (x3 + x5)).toNat)) dX7_isInTime_35 (by decide) rfl o4 o5 rfl ?_
    have o6 := h.1
    replace h := h.2
    have o7 := h.1
    replace h := h.2
    refine am_iastore dX7_isInTime_36 (Or.inl (by decide)) rfl o6 o7 ?_
    refine am_iinc (ls' := [(5, .inl (am_w (x5 + 1))), (0, .inr (.inr (some (8, 0)))), (1, .inl x1), (2, .inl x2), (3, .inl x3), (4, .inl x4)]) dX7_isInTime_37 (List.Mem.tail _ (List.Mem.tail _ (List.Mem.tail _ (List.Mem.tail _ (List.Mem.tail _ (List.Mem.head _)))))) (by decide) rfl ?_
    refine am_goto (tgt := 12) dX7_isInTime_40 (by decide) ?_
    exact am_sub [1, 2, 3, 4, 5, 0] rfl h
theorem bX7_isInTime_55 {SC : Nat → Nat} {X : mh_X} {d : Nat} {Q : Option am_V → am_W → Prop} {bc bs : Nat} {w : am_W} {x1 : Int} {x2 : Int}
    (h : ((¬ (w.1 7 0 10) = 0 → am_M (mh_G X) SC d 0 0 mX7_freeHand [.inr (.inr (some (8, 0))), .inl (am_w (x1 + 1))] w (fun r w1 => am_A (mh_G X) SC (d + 1) mX7_isInTime Q 74 [(0, .inr (.inr (some (8, 0)))), (1, .inl x1), (2, .inl x2)] (r.toList ++ []) w1 bc bs)) ∧ ((w.1 7 0 10) = 0 → Q (some (.inl 0)) w))) :
    am_A (mh_G X) SC (d + 1) mX7_isInTime Q 55 [(0, .inr (.inr (some (8, 0)))), (1, .inl x1), (2, .inl x2)] [] w bc bs := by
  refine am_aload_n dX7_isInTime_55 (List.Mem.head _) ?_
  refine am_getf (f := 0) (v := .inr (.inr (some (7, 0)))) dX7_isInTime_56 hc_9 (by decide) wd_529 (by decide) rfl rfl ?_
  refine am_getf (f := 10) (v := .inl (w.1 7 0 10)) dX7_isInTime_59 hc_8 (by decide) wd_494 (by decide) rfl rfl ?_
  refine am_ifne (tgt := 67) dX7_isInTime_62 (by decide) (fun c1 => ?_) (fun c1 => ?_)
  · replace h := h.1 c1
    refine am_aload_n dX7_isInTime_67 (List.Mem.head _) ?_
    refine am_iload_n dX7_isInTime_68 (List.Mem.tail _ (List.Mem.head _)) ?_
    refine am_iconst dX7_isInTime_69 (by unfold am_rg; omega) ?_
    refine am_iadd dX7_isInTime_70 ?_
    exact am_callv (d' := d) (kc := 0) (ks := 0) (as := [.inl (am_w (x1 + 1))]) dX7_isInTime_71 wc_X7_freeHand wd_1438 wd_1440 wd_45 wd_121 ds_X7_freeHand (by decide) (Nat.le_refl _) (Nat.le_of_ble_eq_true rfl) (Nat.zero_le _) (Nat.zero_le _) hc_9 (by decide) rfl rfl h
  · replace h := h.2 c1
    refine am_iconst dX7_isInTime_65 (by unfold am_rg; omega) ?_
    exact am_ret (r := some (.inl 0)) dX7_isInTime_66 (Or.inr (Or.inl ⟨rfl, (Or.inl rfl)⟩)) rfl h
theorem bX7_isInTime_74 {SC : Nat → Nat} {X : mh_X} {d : Nat} {Q : Option am_V → am_W → Prop} {bc bs : Nat} {w : am_W} {x1 : Int} {x2 : Int} {xs0 : Int}
    (h : (0 ≤ xs0 ∧ (xs0 < 24 ∧ ((¬ x2 = 2 → am_A (mh_G X) SC (d + 1) mX7_isInTime Q 94 [(0, .inr (.inr (some (8, 0)))), (5, .inl xs0)] [.inl 3, .inl (w.1 65 0 xs0.toNat), .inl xs0, .inr (.inr (some (65, 0)))] w bc bs) ∧ (x2 = 2 → am_A (mh_G X) SC (d + 1) mX7_isInTime Q 94 [(0, .inr (.inr (some (8, 0)))), (5, .inl xs0)] [.inl 2, .inl (w.1 65 0 xs0.toNat), .inl xs0, .inr (.inr (some (65, 0)))] w bc bs))))) :
    am_A (mh_G X) SC (d + 1) mX7_isInTime Q 74 [(0, .inr (.inr (some (8, 0)))), (1, .inl x1), (2, .inl x2)] [.inl xs0] w bc bs := by
  refine am_istore (ls' := [(5, .inl xs0), (0, .inr (.inr (some (8, 0)))), (1, .inl x1), (2, .inl x2)]) dX7_isInTime_74 (by decide) rfl ?_
  refine am_aload_n dX7_isInTime_76 (List.Mem.tail _ (List.Mem.head _)) ?_
  refine am_getf (f := 8) (v := .inr (.inr (some (65, 0)))) dX7_isInTime_77 hc_9 (by decide) wd_537 (by decide) rfl rfl ?_
  refine am_iload dX7_isInTime_80 (List.Mem.head _) ?_
  refine am_dup2 dX7_isInTime_82 rfl rfl ?_
  have o1 := h.1
  replace h := h.2
  have o2 := h.1
  replace h := h.2
  refine am_iaload (v := (w.1 65 0 xs0.toNat)) dX7_isInTime_83 (by decide) rfl o1 o2 rfl ?_
  refine am_iload_n dX7_isInTime_84 (List.Mem.tail _ (List.Mem.tail _ (List.Mem.tail _ (List.Mem.head _)))) ?_
  refine am_iconst dX7_isInTime_85 (by unfold am_rg; omega) ?_
  refine am_icmpne (tgt := 93) dX7_isInTime_86 (by decide) (fun c3 => ?_) (fun c3 => ?_)
  · replace h := h.1 c3
    refine am_iconst dX7_isInTime_93 (by unfold am_rg; omega) ?_
    exact am_sub [1, 0] rfl h
  · replace h := h.2 c3
    refine am_iconst dX7_isInTime_89 (by unfold am_rg; omega) ?_
    refine am_goto (tgt := 94) dX7_isInTime_90 (by decide) ?_
    exact am_sub [1, 0] rfl h
theorem bX7_isInTime_94 {SC : Nat → Nat} {X : mh_X} {d : Nat} {Q : Option am_V → am_W → Prop} {bc bs : Nat} {w : am_W} {x5 : Int} {xs0 : Int} {xs1 : Int} {xs2 : Int}
    (h : (0 ≤ xs2 ∧ (xs2 < 24 ∧ (0 ≤ x5 ∧ (x5 < 24 ∧ (((w.1 8 0 10) < ((am_up w.1 65 0 xs2.toNat (am_w (xs1 + xs0))) 65 0 x5.toNat) → Q (some (.inl 0)) ((am_up w.1 65 0 xs2.toNat (am_w (xs1 + xs0))), w.2)) ∧ (¬ (w.1 8 0 10) < ((am_up w.1 65 0 xs2.toNat (am_w (xs1 + xs0))) 65 0 x5.toNat) → Q (some (.inl 1)) ((am_up w.1 65 0 xs2.toNat (am_w (xs1 + xs0))), w.2)))))))) :
    am_A (mh_G X) SC (d + 1) mX7_isInTime Q 94 [(0, .inr (.inr (some (8, 0)))), (5, .inl x5)] [.inl xs0, .inl xs1, .inl xs2, .inr (.inr (some (65, 0)))] w bc bs := by
  refine am_iadd dX7_isInTime_94 ?_
  have o1 := h.1
  replace h := h.2
  have o2 := h.1
  replace h := h.2
  refine am_iastore dX7_isInTime_95 (Or.inl (by decide)) rfl o1 o2 ?_
  refine am_aload_n dX7_isInTime_96 (List.Mem.head _) ?_
  refine am_getf (f := 8) (v := .inr (.inr (some (65, 0)))) dX7_isInTime_97 hc_9 (by decide) wd_537 (by decide) rfl rfl ?_
  refine am_iload dX7_isInTime_100 (List.Mem.tail _ (List.Mem.head _)) ?_
  have o3 := h.1
  replace h := h.2
  have o4 := h.1
  replace h := h.2
  refine am_iaload (v := ((am_up w.1 65 0 xs2.toNat (am_w (xs1 + xs0))) 65 0 x5.toNat)) dX7_isInTime_102 (by decide) rfl o3 o4 rfl ?_
  refine am_aload_n dX7_isInTime_103 (List.Mem.head _) ?_
  refine am_getf (f := 10) (v := .inl (w.1 8 0 10)) dX7_isInTime_104 hc_9 (by decide) wd_539 (by decide) rfl rfl ?_
  refine am_icmpgt (tgt := 114) dX7_isInTime_107 (by decide) (fun c5 => ?_) (fun c5 => ?_)
  · replace h := h.1 c5
    refine am_iconst dX7_isInTime_114 (by unfold am_rg; omega) ?_
    exact am_ret (r := some (.inl 0)) dX7_isInTime_115 (Or.inr (Or.inl ⟨rfl, (Or.inl rfl)⟩)) rfl h
  · replace h := h.2 c5
    refine am_iconst dX7_isInTime_110 (by unfold am_rg; omega) ?_
    refine am_goto (tgt := 115) dX7_isInTime_111 (by decide) ?_
    exact am_ret (r := some (.inl 1)) dX7_isInTime_115 (Or.inr (Or.inl ⟨rfl, (Or.inr rfl)⟩)) rfl h
-- MourningHouse$Wardrobe.has(I)Z
theorem dX9_has_0 : decode mX9_has.2.1 0 = .ok (.iload_n 1, 1) := by decide +kernel
theorem dX9_has_1 : decode mX9_has.2.1 1 = .ok (.ifCond .lt 15, 3) := by decide +kernel
theorem dX9_has_4 : decode mX9_has.2.1 4 = .ok (.iload_n 1, 1) := by decide +kernel
theorem dX9_has_5 : decode mX9_has.2.1 5 = .ok (.aload_n 0, 1) := by decide +kernel
theorem dX9_has_6 : decode mX9_has.2.1 6 = .ok (.getfield 37, 3) := by decide +kernel
theorem dX9_has_9 : decode mX9_has.2.1 9 = .ok (.if_icmp .ge 7, 3) := by decide +kernel
theorem dX9_has_12 : decode mX9_has.2.1 12 = .ok (.iconst 1, 1) := by decide +kernel
theorem dX9_has_13 : decode mX9_has.2.1 13 = .ok (.goto 4, 3) := by decide +kernel
theorem dX9_has_16 : decode mX9_has.2.1 16 = .ok (.iconst 0, 1) := by decide +kernel
theorem dX9_has_17 : decode mX9_has.2.1 17 = .ok (.ireturn, 1) := by decide +kernel
theorem bX9_has_0 {SC : Nat → Nat} {X : mh_X} {d : Nat} {Q : Option am_V → am_W → Prop} {bc bs : Nat} {w : am_W} {x1 : Int}
    (h : ((x1 < 0 → Q (some (.inl 0)) w) ∧ (¬ x1 < 0 → (((w.1 7 0 8) ≤ x1 → Q (some (.inl 0)) w) ∧ (¬ (w.1 7 0 8) ≤ x1 → Q (some (.inl 1)) w))))) :
    am_A (mh_G X) SC (d + 1) mX9_has Q 0 [(0, .inr (.inr (some (7, 0)))), (1, .inl x1)] [] w bc bs := by
  refine am_iload_n dX9_has_0 (List.Mem.tail _ (List.Mem.head _)) ?_
  refine am_iflt (tgt := 16) dX9_has_1 (by decide) (fun c1 => ?_) (fun c1 => ?_)
  · replace h := h.1 c1
    refine am_iconst dX9_has_16 (by unfold am_rg; omega) ?_
    exact am_ret (r := some (.inl 0)) dX9_has_17 (Or.inr (Or.inl ⟨rfl, (Or.inl rfl)⟩)) rfl h
  · replace h := h.2 c1
    refine am_iload_n dX9_has_4 (List.Mem.tail _ (List.Mem.head _)) ?_
    refine am_aload_n dX9_has_5 (List.Mem.head _) ?_
    refine am_getf (f := 8) (v := .inl (w.1 7 0 8)) dX9_has_6 hc_8 (by decide) wd_488 (by decide) rfl rfl ?_
    refine am_icmpge (tgt := 16) dX9_has_9 (by decide) (fun c2 => ?_) (fun c2 => ?_)
    · replace h := h.1 c2
      refine am_iconst dX9_has_16 (by unfold am_rg; omega) ?_
      exact am_ret (r := some (.inl 0)) dX9_has_17 (Or.inr (Or.inl ⟨rfl, (Or.inl rfl)⟩)) rfl h
    · replace h := h.2 c2
      refine am_iconst dX9_has_12 (by unfold am_rg; omega) ?_
      refine am_goto (tgt := 17) dX9_has_13 (by decide) ?_
      exact am_ret (r := some (.inl 1)) dX9_has_17 (Or.inr (Or.inl ⟨rfl, (Or.inr rfl)⟩)) rfl h
-- MourningHouse$Wardrobe.canBe(II)Z
theorem dX9_canBe_0 : decode mX9_canBe.2.1 0 = .ok (.iload_n 0, 1) := by decide +kernel
theorem dX9_canBe_1 : decode mX9_canBe.2.1 1 = .ok (.ifCond .lt 21, 3) := by decide +kernel
theorem dX9_canBe_4 : decode mX9_canBe.2.1 4 = .ok (.iload_n 0, 1) := by decide +kernel
theorem dX9_canBe_5 : decode mX9_canBe.2.1 5 = .ok (.iconst 4, 1) := by decide +kernel
theorem dX9_canBe_6 : decode mX9_canBe.2.1 6 = .ok (.if_icmp .gt 16, 3) := by decide +kernel
theorem dX9_canBe_9 : decode mX9_canBe.2.1 9 = .ok (.iload_n 1, 1) := by decide +kernel
theorem dX9_canBe_10 : decode mX9_canBe.2.1 10 = .ok (.ifCond .lt 12, 3) := by decide +kernel
theorem dX9_canBe_13 : decode mX9_canBe.2.1 13 = .ok (.iload_n 1, 1) := by decide +kernel
theorem dX9_canBe_14 : decode mX9_canBe.2.1 14 = .ok (.iconst 4, 1) := by decide +kernel
theorem dX9_canBe_15 : decode mX9_canBe.2.1 15 = .ok (.if_icmp .gt 7, 3) := by decide +kernel
theorem dX9_canBe_18 : decode mX9_canBe.2.1 18 = .ok (.iconst 1, 1) := by decide +kernel
theorem dX9_canBe_19 : decode mX9_canBe.2.1 19 = .ok (.goto 4, 3) := by decide +kernel
theorem dX9_canBe_22 : decode mX9_canBe.2.1 22 = .ok (.iconst 0, 1) := by decide +kernel
theorem dX9_canBe_23 : decode mX9_canBe.2.1 23 = .ok (.ireturn, 1) := by decide +kernel
theorem bX9_canBe_0 {SC : Nat → Nat} {X : mh_X} {d : Nat} {Q : Option am_V → am_W → Prop} {bc bs : Nat} {w : am_W} {x0 : Int} {x1 : Int}
    (h : ((x0 < 0 → Q (some (.inl 0)) w) ∧ (¬ x0 < 0 → ((4 < x0 → Q (some (.inl 0)) w) ∧ (¬ 4 < x0 → ((x1 < 0 → Q (some (.inl 0)) w) ∧ (¬ x1 < 0 → ((4 < x1 → Q (some (.inl 0)) w) ∧ (¬ 4 < x1 → Q (some (.inl 1)) w))))))))) :
    am_A (mh_G X) SC (d + 1) mX9_canBe Q 0 [(0, .inl x0), (1, .inl x1)] [] w bc bs := by
  refine am_iload_n dX9_canBe_0 (List.Mem.head _) ?_
  refine am_iflt (tgt := 22) dX9_canBe_1 (by decide) (fun c1 => ?_) (fun c1 => ?_)
  · replace h := h.1 c1
    refine am_iconst dX9_canBe_22 (by unfold am_rg; omega) ?_
    exact am_ret (r := some (.inl 0)) dX9_canBe_23 (Or.inr (Or.inl ⟨rfl, (Or.inl rfl)⟩)) rfl h
  · replace h := h.2 c1
    refine am_iload_n dX9_canBe_4 (List.Mem.head _) ?_
    refine am_iconst dX9_canBe_5 (by unfold am_rg; omega) ?_
    refine am_icmpgt (tgt := 22) dX9_canBe_6 (by decide) (fun c2 => ?_) (fun c2 => ?_)
    · replace h := h.1 c2
      refine am_iconst dX9_canBe_22 (by unfold am_rg; omega) ?_
      exact am_ret (r := some (.inl 0)) dX9_canBe_23 (Or.inr (Or.inl ⟨rfl, (Or.inl rfl)⟩)) rfl h
    · replace h := h.2 c2
      refine am_iload_n dX9_canBe_9 (List.Mem.tail _ (List.Mem.head _)) ?_
      refine am_iflt (tgt := 22) dX9_canBe_10 (by decide) (fun c3 => ?_) (fun c3 => ?_)
      · replace h := h.1 c3
        refine am_iconst dX9_canBe_22 (by unfold am_rg; omega) ?_
        exact am_ret (r := some (.inl 0)) dX9_canBe_23 (Or.inr (Or.inl ⟨rfl, (Or.inl rfl)⟩)) rfl h
      · replace h := h.2 c3
        refine am_iload_n dX9_canBe_13 (List.Mem.tail _ (List.Mem.head _)) ?_
        refine am_iconst dX9_canBe_14 (by unfold am_rg; omega) ?_
        refine am_icmpgt (tgt := 22) dX9_canBe_15 (by decide) (fun c4 => ?_) (fun c4 => ?_)
        · replace h := h.1 c4
          refine am_iconst dX9_canBe_22 (by unfold am_rg; omega) ?_
          exact am_ret (r := some (.inl 0)) dX9_canBe_23 (Or.inr (Or.inl ⟨rfl, (Or.inl rfl)⟩)) rfl h
        · replace h := h.2 c4
          refine am_iconst dX9_canBe_18 (by unfold am_rg; omega) ?_
          refine am_goto (tgt := 23) dX9_canBe_19 (by decide) ?_
          exact am_ret (r := some (.inl 1)) dX9_canBe_23 (Or.inr (Or.inl ⟨rfl, (Or.inr rfl)⟩)) rfl h
-- MourningHouse$Wardrobe.canHang(II)Z
theorem dX9_canHang_0 : decode mX9_canHang.2.1 0 = .ok (.iload_n 1, 1) := by decide +kernel
theorem dX9_canHang_1 : decode mX9_canHang.2.1 1 = .ok (.iload_n 2, 1) := by decide +kernel
theorem dX9_canHang_2 : decode mX9_canHang.2.1 2 = .ok (.invokestatic 50, 3) := by decide +kernel
theorem dX9_canHang_5 : decode mX9_canHang.2.1 5 = .ok (.ifCond .eq 21, 3) := by decide +kernel
theorem dX9_canHang_8 : decode mX9_canHang.2.1 8 = .ok (.aload_n 0, 1) := by decide +kernel
theorem dX9_canHang_9 : decode mX9_canHang.2.1 9 = .ok (.getfield 37, 3) := by decide +kernel
theorem dX9_canHang_12 : decode mX9_canHang.2.1 12 = .ok (.aload_n 0, 1) := by decide +kernel
theorem dX9_canHang_13 : decode mX9_canHang.2.1 13 = .ok (.getfield 47, 3) := by decide +kernel
theorem dX9_canHang_16 : decode mX9_canHang.2.1 16 = .ok (.iadd, 1) := by decide +kernel
theorem dX9_canHang_17 : decode mX9_canHang.2.1 17 = .ok (.bipush 40, 2) := by decide +kernel
theorem dX9_canHang_19 : decode mX9_canHang.2.1 19 = .ok (.if_icmp .ge 7, 3) := by decide +kernel
theorem dX9_canHang_22 : decode mX9_canHang.2.1 22 = .ok (.iconst 1, 1) := by decide +kernel
theorem dX9_canHang_23 : decode mX9_canHang.2.1 23 = .ok (.goto 4, 3) := by decide +kernel
theorem dX9_canHang_26 : decode mX9_canHang.2.1 26 = .ok (.iconst 0, 1) := by decide +kernel
theorem dX9_canHang_27 : decode mX9_canHang.2.1 27 = .ok (.ireturn, 1) := by decide +kernel
theorem bX9_canHang_0 {SC : Nat → Nat} {X : mh_X} {d : Nat} {Q : Option am_V → am_W → Prop} {bc bs : Nat} {w : am_W} {x1 : Int} {x2 : Int}
    (h : am_M (mh_G X) SC d 0 0 mX9_canBe [.inl x1, .inl x2] w (fun r w1 => am_A (mh_G X) SC (d + 1) mX9_canHang Q 5 [(0, .inr (.inr (some (7, 0)))), (1, .inl x1), (2, .inl x2)] (r.toList ++ []) w1 bc bs)) :
    am_A (mh_G X) SC (d + 1) mX9_canHang Q 0 [(0, .inr (.inr (some (7, 0)))), (1, .inl x1), (2, .inl x2)] [] w bc bs := by
  refine am_iload_n dX9_canHang_0 (List.Mem.tail _ (List.Mem.head _)) ?_
  refine am_iload_n dX9_canHang_1 (List.Mem.tail _ (List.Mem.tail _ (List.Mem.head _))) ?_
  exact am_calls (d' := d) (kc := 0) (ks := 0) (as := [.inl x1, .inl x2]) dX9_canHang_2 wc_X9_canBe wd_1353 wd_1354 wd_120 ds_X9_canBe (by decide) (Nat.le_refl _) (Nat.le_of_ble_eq_true rfl) (Nat.zero_le _) (Nat.zero_le _) rfl h
theorem bX9_canHang_5 {SC : Nat → Nat} {X : mh_X} {d : Nat} {Q : Option am_V → am_W → Prop} {bc bs : Nat} {w : am_W} {x1 : Int} {x2 : Int} {xs0 : Int}
    (h : ((xs0 = 0 → Q (some (.inl 0)) w) ∧ (¬ xs0 = 0 → ((40 ≤ (am_w ((w.1 7 0 8) + (w.1 7 0 11))) → Q (some (.inl 0)) w) ∧ (¬ 40 ≤ (am_w ((w.1 7 0 8) + (w.1 7 0 11))) → Q (some (.inl 1)) w))))) :
    am_A (mh_G X) SC (d + 1) mX9_canHang Q 5 [(0, .inr (.inr (some (7, 0)))), (1, .inl x1), (2, .inl x2)] [.inl xs0] w bc bs := by
  refine am_ifeq (tgt := 26) dX9_canHang_5 (by decide) (fun c1 => ?_) (fun c1 => ?_)
  · replace h := h.1 c1
    refine am_iconst dX9_canHang_26 (by unfold am_rg; omega) ?_
    exact am_ret (r := some (.inl 0)) dX9_canHang_27 (Or.inr (Or.inl ⟨rfl, (Or.inl rfl)⟩)) rfl h
  · replace h := h.2 c1
    refine am_aload_n dX9_canHang_8 (List.Mem.head _) ?_
    refine am_getf (f := 8) (v := .inl (w.1 7 0 8)) dX9_canHang_9 hc_8 (by decide) wd_488 (by decide) rfl rfl ?_
    refine am_aload_n dX9_canHang_12 (List.Mem.head _) ?_
    refine am_getf (f := 11) (v := .inl (w.1 7 0 11)) dX9_canHang_13 hc_8 (by decide) wd_496 (by decide) rfl rfl ?_
    refine am_iadd dX9_canHang_16 ?_
    refine am_bipush dX9_canHang_17 (by decide) (by unfold am_rg; omega) ?_
    refine am_icmpge (tgt := 26) dX9_canHang_19 (by decide) (fun c2 => ?_) (fun c2 => ?_)
    · replace h := h.1 c2
      refine am_iconst dX9_canHang_26 (by unfold am_rg; omega) ?_
      exact am_ret (r := some (.inl 0)) dX9_canHang_27 (Or.inr (Or.inl ⟨rfl, (Or.inl rfl)⟩)) rfl h
    · replace h := h.2 c2
      refine am_iconst dX9_canHang_22 (by unfold am_rg; omega) ?_
      refine am_goto (tgt := 27) dX9_canHang_23 (by decide) ?_
      exact am_ret (r := some (.inl 1)) dX9_canHang_27 (Or.inr (Or.inl ⟨rfl, (Or.inr rfl)⟩)) rfl h
-- MourningHouse$Wardrobe.hang(II)I
theorem dX9_hang_0 : decode mX9_hang.2.1 0 = .ok (.aload_n 0, 1) := by decide +kernel
theorem dX9_hang_1 : decode mX9_hang.2.1 1 = .ok (.getfield 11, 3) := by decide +kernel
theorem dX9_hang_4 : decode mX9_hang.2.1 4 = .ok (.aload_n 0, 1) := by decide +kernel
theorem dX9_hang_5 : decode mX9_hang.2.1 5 = .ok (.getfield 37, 3) := by decide +kernel
theorem dX9_hang_8 : decode mX9_hang.2.1 8 = .ok (.iload_n 1, 1) := by decide +kernel
theorem dX9_hang_9 : decode mX9_hang.2.1 9 = .ok (.iastore, 1) := by decide +kernel
theorem dX9_hang_10 : decode mX9_hang.2.1 10 = .ok (.aload_n 0, 1) := by decide +kernel
theorem dX9_hang_11 : decode mX9_hang.2.1 11 = .ok (.getfield 15, 3) := by decide +kernel
theorem dX9_hang_14 : decode mX9_hang.2.1 14 = .ok (.aload_n 0, 1) := by decide +kernel
theorem dX9_hang_15 : decode mX9_hang.2.1 15 = .ok (.getfield 37, 3) := by decide +kernel
theorem dX9_hang_18 : decode mX9_hang.2.1 18 = .ok (.iload_n 2, 1) := by decide +kernel
theorem dX9_hang_19 : decode mX9_hang.2.1 19 = .ok (.iastore, 1) := by decide +kernel
theorem dX9_hang_20 : decode mX9_hang.2.1 20 = .ok (.aload_n 0, 1) := by decide +kernel
theorem dX9_hang_21 : decode mX9_hang.2.1 21 = .ok (.getfield 18, 3) := by decide +kernel
theorem dX9_hang_24 : decode mX9_hang.2.1 24 = .ok (.aload_n 0, 1) := by decide +kernel
theorem dX9_hang_25 : decode mX9_hang.2.1 25 = .ok (.getfield 37, 3) := by decide +kernel
theorem dX9_hang_28 : decode mX9_hang.2.1 28 = .ok (.iconst 0, 1) := by decide +kernel
theorem dX9_hang_29 : decode mX9_hang.2.1 29 = .ok (.bastore, 1) := by decide +kernel
theorem dX9_hang_30 : decode mX9_hang.2.1 30 = .ok (.aload_n 0, 1) := by decide +kernel
theorem dX9_hang_31 : decode mX9_hang.2.1 31 = .ok (.dup, 1) := by decide +kernel
theorem dX9_hang_32 : decode mX9_hang.2.1 32 = .ok (.getfield 37, 3) := by decide +kernel
theorem dX9_hang_35 : decode mX9_hang.2.1 35 = .ok (.iconst 1, 1) := by decide +kernel
theorem dX9_hang_36 : decode mX9_hang.2.1 36 = .ok (.iadd, 1) := by decide +kernel
theorem dX9_hang_37 : decode mX9_hang.2.1 37 = .ok (.putfield 37, 3) := by decide +kernel
theorem dX9_hang_40 : decode mX9_hang.2.1 40 = .ok (.aload_n 0, 1) := by decide +kernel
theorem dX9_hang_41 : decode mX9_hang.2.1 41 = .ok (.getfield 37, 3) := by decide +kernel
theorem dX9_hang_44 : decode mX9_hang.2.1 44 = .ok (.iconst 1, 1) := by decide +kernel
theorem dX9_hang_45 : decode mX9_hang.2.1 45 = .ok (.isub, 1) := by decide +kernel
theorem dX9_hang_46 : decode mX9_hang.2.1 46 = .ok (.ireturn, 1) := by decide +kernel
theorem bX9_hang_0 {SC : Nat → Nat} {X : mh_X} {d : Nat} {Q : Option am_V → am_W → Prop} {bc bs : Nat} {w : am_W} {x1 : Int} {x2 : Int}
    (h : (0 ≤ (w.1 7 0 8) ∧ ((w.1 7 0 8) < 40 ∧ Q (some (.inl (am_w (((am_up w.1 7 0 8 (am_w ((w.1 7 0 8) + 1))) 7 0 8) - 1)))) ((am_up (am_up (am_up (am_up w.1 50 0 (w.1 7 0 8).toNat x1) 51 0 (w.1 7 0 8).toNat x2) 52 0 (w.1 7 0 8).toNat 0) 7 0 8 (am_w ((w.1 7 0 8) + 1))), w.2)))) :
    am_A (mh_G X) SC (d + 1) mX9_hang Q 0 [(0, .inr (.inr (some (7, 0)))), (1, .inl x1), (2, .inl x2)] [] w bc bs := by
  refine am_aload_n dX9_hang_0 (List.Mem.head _) ?_
  refine am_getf (f := 0) (v := .inr (.inr (some (50, 0)))) dX9_hang_1 hc_8 (by decide) wd_475 (by decide) rfl rfl ?_
  refine am_aload_n dX9_hang_4 (List.Mem.head _) ?_
  refine am_getf (f := 8) (v := .inl (w.1 7 0 8)) dX9_hang_5 hc_8 (by decide) wd_488 (by decide) rfl rfl ?_
  refine am_iload_n dX9_hang_8 (List.Mem.tail _ (List.Mem.head _)) ?_
  have o1 := h.1
  replace h := h.2
  have o2 := h.1
  replace h := h.2
  refine am_iastore dX9_hang_9 (Or.inl (by decide)) rfl o1 o2 ?_
  refine am_aload_n dX9_hang_10 (List.Mem.head _) ?_
  refine am_getf (f := 1) (v := .inr (.inr (some (51, 0)))) dX9_hang_11 hc_8 (by decide) wd_477 (by decide) rfl rfl ?_
  refine am_aload_n dX9_hang_14 (List.Mem.head _) ?_
  refine am_getf (f := 8) (v := .inl (w.1 7 0 8)) dX9_hang_15 hc_8 (by decide) wd_488 (by decide) rfl rfl ?_
  refine am_iload_n dX9_hang_18 (List.Mem.tail _ (List.Mem.tail _ (List.Mem.head _))) ?_
  refine am_iastore dX9_hang_19 (Or.inl (by decide)) rfl o1 o2 ?_
  refine am_aload_n dX9_hang_20 (List.Mem.head _) ?_
  refine am_getf (f := 2) (v := .inr (.inr (some (52, 0)))) dX9_hang_21 hc_8 (by decide) wd_479 (by decide) rfl rfl ?_
  refine am_aload_n dX9_hang_24 (List.Mem.head _) ?_
  refine am_getf (f := 8) (v := .inl (w.1 7 0 8)) dX9_hang_25 hc_8 (by decide) wd_488 (by decide) rfl rfl ?_
  refine am_iconst dX9_hang_28 (by unfold am_rg; omega) ?_
  refine am_zastore (by decide) dX9_hang_29 (Or.inl (by decide)) rfl o1 o2 ?_
  refine am_aload_n dX9_hang_30 (List.Mem.head _) ?_
  refine am_dup dX9_hang_31 rfl ?_
  refine am_getf (f := 8) (v := .inl (w.1 7 0 8)) dX9_hang_32 hc_8 (by decide) wd_488 (by decide) rfl rfl ?_
  refine am_iconst dX9_hang_35 (by unfold am_rg; omega) ?_
  refine am_iadd dX9_hang_36 ?_
  refine am_putf (f := 8) dX9_hang_37 hc_8 (by decide) wd_488 rfl (Or.inl rfl) (Or.inl (by decide)) rfl ?_
  refine am_aload_n dX9_hang_40 (List.Mem.head _) ?_
  refine am_getf (f := 8) (v := .inl ((am_up w.1 7 0 8 (am_w ((w.1 7 0 8) + 1))) 7 0 8)) dX9_hang_41 hc_8 (by decide) wd_488 (by decide) rfl rfl ?_
  refine am_iconst dX9_hang_44 (by unfold am_rg; omega) ?_
  refine am_isub dX9_hang_45 ?_
  exact am_ret (r := some (.inl (am_w (((am_up w.1 7 0 8 (am_w ((w.1 7 0 8) + 1))) 7 0 8) - 1)))) dX9_hang_46 (Or.inl rfl) rfl h
-- MourningHouse$Wardrobe.canStore(II)Z
theorem dX9_canStore_0 : decode mX9_canStore.2.1 0 = .ok (.iconst 0, 1) := by decide +kernel
theorem dX9_canStore_1 : decode mX9_canStore.2.1 1 = .ok (.iload_n 1, 1) := by decide +kernel
theorem dX9_canStore_2 : decode mX9_canStore.2.1 2 = .ok (.invokestatic 50, 3) := by decide +kernel
theorem dX9_canStore_5 : decode mX9_canStore.2.1 5 = .ok (.ifCond .eq 32, 3) := by decide +kernel
theorem dX9_canStore_8 : decode mX9_canStore.2.1 8 = .ok (.iload_n 2, 1) := by decide +kernel
theorem dX9_canStore_9 : decode mX9_canStore.2.1 9 = .ok (.iconst 1, 1) := by decide +kernel
theorem dX9_canStore_10 : decode mX9_canStore.2.1 10 = .ok (.if_icmp .lt 27, 3) := by decide +kernel
theorem dX9_canStore_13 : decode mX9_canStore.2.1 13 = .ok (.iload_n 2, 1) := by decide +kernel
theorem dX9_canStore_14 : decode mX9_canStore.2.1 14 = .ok (.bipush 99, 2) := by decide +kernel
theorem dX9_canStore_16 : decode mX9_canStore.2.1 16 = .ok (.if_icmp .gt 21, 3) := by decide +kernel
theorem dX9_canStore_19 : decode mX9_canStore.2.1 19 = .ok (.aload_n 0, 1) := by decide +kernel
theorem dX9_canStore_20 : decode mX9_canStore.2.1 20 = .ok (.getfield 22, 3) := by decide +kernel
theorem dX9_canStore_23 : decode mX9_canStore.2.1 23 = .ok (.iload_n 1, 1) := by decide +kernel
theorem dX9_canStore_24 : decode mX9_canStore.2.1 24 = .ok (.iaload, 1) := by decide +kernel
theorem dX9_canStore_25 : decode mX9_canStore.2.1 25 = .ok (.iload_n 2, 1) := by decide +kernel
theorem dX9_canStore_26 : decode mX9_canStore.2.1 26 = .ok (.iadd, 1) := by decide +kernel
theorem dX9_canStore_27 : decode mX9_canStore.2.1 27 = .ok (.sipush 999, 3) := by decide +kernel
theorem dX9_canStore_30 : decode mX9_canStore.2.1 30 = .ok (.if_icmp .gt 7, 3) := by decide +kernel
theorem dX9_canStore_33 : decode mX9_canStore.2.1 33 = .ok (.iconst 1, 1) := by decide +kernel
theorem dX9_canStore_34 : decode mX9_canStore.2.1 34 = .ok (.goto 4, 3) := by decide +kernel
theorem dX9_canStore_37 : decode mX9_canStore.2.1 37 = .ok (.iconst 0, 1) := by decide +kernel
theorem dX9_canStore_38 : decode mX9_canStore.2.1 38 = .ok (.ireturn, 1) := by decide +kernel
theorem bX9_canStore_0 {SC : Nat → Nat} {X : mh_X} {d : Nat} {Q : Option am_V → am_W → Prop} {bc bs : Nat} {w : am_W} {x1 : Int} {x2 : Int}
    (h : am_M (mh_G X) SC d 0 0 mX9_canBe [.inl 0, .inl x1] w (fun r w1 => am_A (mh_G X) SC (d + 1) mX9_canStore Q 5 [(0, .inr (.inr (some (7, 0)))), (1, .inl x1), (2, .inl x2)] (r.toList ++ []) w1 bc bs)) :
    am_A (mh_G X) SC (d + 1) mX9_canStore Q 0 [(0, .inr (.inr (some (7, 0)))), (1, .inl x1), (2, .inl x2)] [] w bc bs := by
  refine am_iconst dX9_canStore_0 (by unfold am_rg; omega) ?_
  refine am_iload_n dX9_canStore_1 (List.Mem.tail _ (List.Mem.head _)) ?_
  exact am_calls (d' := d) (kc := 0) (ks := 0) (as := [.inl 0, .inl x1]) dX9_canStore_2 wc_X9_canBe wd_1353 wd_1354 wd_120 ds_X9_canBe (by decide) (Nat.le_refl _) (Nat.le_of_ble_eq_true rfl) (Nat.zero_le _) (Nat.zero_le _) rfl h
theorem bX9_canStore_5 {SC : Nat → Nat} {X : mh_X} {d : Nat} {Q : Option am_V → am_W → Prop} {bc bs : Nat} {w : am_W} {x1 : Int} {x2 : Int} {xs0 : Int}
    (h : ((xs0 = 0 → Q (some (.inl 0)) w) ∧ (¬ xs0 = 0 → ((x2 < 1 → Q (some (.inl 0)) w) ∧ (¬ x2 < 1 → ((99 < x2 → Q (some (.inl 0)) w) ∧ (¬ 99 < x2 → (0 ≤ x1 ∧ (x1 < 5 ∧ ((999 < (am_w ((w.1 53 0 x1.toNat) + x2)) → Q (some (.inl 0)) w) ∧ (¬ 999 < (am_w ((w.1 53 0 x1.toNat) + x2)) → Q (some (.inl 1)) w))))))))))) :
    am_A (mh_G X) SC (d + 1) mX9_canStore Q 5 [(0, .inr (.inr (some (7, 0)))), (1, .inl x1), (2, .inl x2)] [.inl xs0] w bc bs := by
  refine am_ifeq (tgt := 37) dX9_canStore_5 (by decide) (fun c1 => ?_) (fun c1 => ?_)
  · replace h := h.1 c1
    refine am_iconst dX9_canStore_37 (by unfold am_rg; omega) ?_
    exact am_ret (r := some (.inl 0)) dX9_canStore_38 (Or.inr (Or.inl ⟨rfl, (Or.inl rfl)⟩)) rfl h
  · replace h := h.2 c1
    refine am_iload_n dX9_canStore_8 (List.Mem.tail _ (List.Mem.tail _ (List.Mem.head _))) ?_
    refine am_iconst dX9_canStore_9 (by unfold am_rg; omega) ?_
    refine am_icmplt (tgt := 37) dX9_canStore_10 (by decide) (fun c2 => ?_) (fun c2 => ?_)
    · replace h := h.1 c2
      refine am_iconst dX9_canStore_37 (by unfold am_rg; omega) ?_
      exact am_ret (r := some (.inl 0)) dX9_canStore_38 (Or.inr (Or.inl ⟨rfl, (Or.inl rfl)⟩)) rfl h
    · replace h := h.2 c2
      refine am_iload_n dX9_canStore_13 (List.Mem.tail _ (List.Mem.tail _ (List.Mem.head _))) ?_
      refine am_bipush dX9_canStore_14 (by decide) (by unfold am_rg; omega) ?_
      refine am_icmpgt (tgt := 37) dX9_canStore_16 (by decide) (fun c3 => ?_) (fun c3 => ?_)
      · replace h := h.1 c3
        refine am_iconst dX9_canStore_37 (by unfold am_rg; omega) ?_
        exact am_ret (r := some (.inl 0)) dX9_canStore_38 (Or.inr (Or.inl ⟨rfl, (Or.inl rfl)⟩)) rfl h
      · replace h := h.2 c3
        refine am_aload_n dX9_canStore_19 (List.Mem.head _) ?_
        refine am_getf (f := 3) (v := .inr (.inr (some (53, 0)))) dX9_canStore_20 hc_8 (by decide) wd_481 (by decide) rfl rfl ?_
        refine am_iload_n dX9_canStore_23 (List.Mem.tail _ (List.Mem.head _)) ?_
        have o4 := h.1
        replace h := h.2
        have o5 := h.1
        replace h := h.2
        refine am_iaload (v := (w.1 53 0 x1.toNat)) dX9_canStore_24 (by decide) rfl o4 o5 rfl ?_
        refine am_iload_n dX9_canStore_25 (List.Mem.tail _ (List.Mem.tail _ (List.Mem.head _))) ?_
        refine am_iadd dX9_canStore_26 ?_
        refine am_sipush dX9_canStore_27 (by decide) (by unfold am_rg; omega) ?_
        refine am_icmpgt (tgt := 37) dX9_canStore_30 (by decide) (fun c6 => ?_) (fun c6 => ?_)
        · replace h := h.1 c6
          refine am_iconst dX9_canStore_37 (by unfold am_rg; omega) ?_
          exact am_ret (r := some (.inl 0)) dX9_canStore_38 (Or.inr (Or.inl ⟨rfl, (Or.inl rfl)⟩)) rfl h
        · replace h := h.2 c6
          refine am_iconst dX9_canStore_33 (by unfold am_rg; omega) ?_
          refine am_goto (tgt := 38) dX9_canStore_34 (by decide) ?_
          exact am_ret (r := some (.inl 1)) dX9_canStore_38 (Or.inr (Or.inl ⟨rfl, (Or.inr rfl)⟩)) rfl h
-- MourningHouse$Wardrobe.store(II)I
theorem dX9_store_0 : decode mX9_store.2.1 0 = .ok (.aload_n 0, 1) := by decide +kernel
theorem dX9_store_1 : decode mX9_store.2.1 1 = .ok (.getfield 22, 3) := by decide +kernel
theorem dX9_store_4 : decode mX9_store.2.1 4 = .ok (.iload_n 1, 1) := by decide +kernel
theorem dX9_store_5 : decode mX9_store.2.1 5 = .ok (.dup2, 1) := by decide +kernel
theorem dX9_store_6 : decode mX9_store.2.1 6 = .ok (.iaload, 1) := by decide +kernel
theorem dX9_store_7 : decode mX9_store.2.1 7 = .ok (.iload_n 2, 1) := by decide +kernel
theorem dX9_store_8 : decode mX9_store.2.1 8 = .ok (.iadd, 1) := by decide +kernel
theorem dX9_store_9 : decode mX9_store.2.1 9 = .ok (.iastore, 1) := by decide +kernel
theorem dX9_store_10 : decode mX9_store.2.1 10 = .ok (.aload_n 0, 1) := by decide +kernel
theorem dX9_store_11 : decode mX9_store.2.1 11 = .ok (.getfield 22, 3) := by decide +kernel
theorem dX9_store_14 : decode mX9_store.2.1 14 = .ok (.iload_n 1, 1) := by decide +kernel
theorem dX9_store_15 : decode mX9_store.2.1 15 = .ok (.iaload, 1) := by decide +kernel
theorem dX9_store_16 : decode mX9_store.2.1 16 = .ok (.ireturn, 1) := by decide +kernel
theorem bX9_store_0 {SC : Nat → Nat} {X : mh_X} {d : Nat} {Q : Option am_V → am_W → Prop} {bc bs : Nat} {w : am_W} {x1 : Int} {x2 : Int}
    (h : (0 ≤ x1 ∧ (x1 < 5 ∧ Q (some (.inl ((am_up w.1 53 0 x1.toNat (am_w ((w.1 53 0 x1.toNat) + x2))) 53 0 x1.toNat))) ((am_up w.1 53 0 x1.toNat (am_w ((w.1 53 0 x1.toNat) + x2))), w.2)))) :
    am_A (mh_G X) SC (d + 1) mX9_store Q 0 [(0, .inr (.inr (some (7, 0)))), (1, .inl x1), (2, .inl x2)] [] w bc bs := by
  refine am_aload_n dX9_store_0 (List.Mem.head _) ?_
  refine am_getf (f := 3) (v := .inr (.inr (some (53, 0)))) dX9_store_1 hc_8 (by decide) wd_481 (by decide) rfl rfl ?_
  refine am_iload_n dX9_store_4 (List.Mem.tail _ (List.Mem.head _)) ?_
  refine am_dup2 dX9_store_5 rfl rfl ?_
  have o1 := h.1
  replace h := h.2
  have o2 := h.1
  replace h := h.2
  refine am_iaload (v := (w.1 53 0 x1.toNat)) dX9_store_6 (by decide) rfl o1 o2 rfl ?_
  refine am_iload_n dX9_store_7 (List.Mem.tail _ (List.Mem.tail _ (List.Mem.head _))) ?_
  refine am_iadd dX9_store_8 ?_
  refine am_iastore dX9_store_9 (Or.inl (by decide)) rfl o1 o2 ?_
  refine am_aload_n dX9_store_10 (List.Mem.head _) ?_
  refine am_getf (f := 3) (v := .inr (.inr (some (53, 0)))) dX9_store_11 hc_8 (by decide) wd_481 (by decide) rfl rfl ?_
  refine am_iload_n dX9_store_14 (List.Mem.tail _ (List.Mem.head _)) ?_
  refine am_iaload (v := ((am_up w.1 53 0 x1.toNat (am_w ((w.1 53 0 x1.toNat) + x2))) 53 0 x1.toNat)) dX9_store_15 (by decide) rfl o1 o2 rfl ?_
  exact am_ret (r := some (.inl ((am_up w.1 53 0 x1.toNat (am_w ((w.1 53 0 x1.toNat) + x2))) 53 0 x1.toNat))) dX9_store_16 (Or.inl rfl) rfl h
-- MourningHouse$Wardrobe.clothsOf(I)I
theorem dX9_clothsOf_0 : decode mX9_clothsOf.2.1 0 = .ok (.iload_n 1, 1) := by decide +kernel
theorem dX9_clothsOf_1 : decode mX9_clothsOf.2.1 1 = .ok (.ifCond .lt 17, 3) := by decide +kernel
theorem dX9_clothsOf_4 : decode mX9_clothsOf.2.1 4 = .ok (.iload_n 1, 1) := by decide +kernel
theorem dX9_clothsOf_5 : decode mX9_clothsOf.2.1 5 = .ok (.iconst 4, 1) := by decide +kernel
theorem dX9_clothsOf_6 : decode mX9_clothsOf.2.1 6 = .ok (.if_icmp .gt 12, 3) := by decide +kernel
theorem dX9_clothsOf_9 : decode mX9_clothsOf.2.1 9 = .ok (.aload_n 0, 1) := by decide +kernel
theorem dX9_clothsOf_10 : decode mX9_clothsOf.2.1 10 = .ok (.getfield 22, 3) := by decide +kernel
theorem dX9_clothsOf_13 : decode mX9_clothsOf.2.1 13 = .ok (.iload_n 1, 1) := by decide +kernel
theorem dX9_clothsOf_14 : decode mX9_clothsOf.2.1 14 = .ok (.iaload, 1) := by decide +kernel
theorem dX9_clothsOf_15 : decode mX9_clothsOf.2.1 15 = .ok (.goto 4, 3) := by decide +kernel
theorem dX9_clothsOf_18 : decode mX9_clothsOf.2.1 18 = .ok (.iconst (-1), 1) := by decide +kernel
theorem dX9_clothsOf_19 : decode mX9_clothsOf.2.1 19 = .ok (.ireturn, 1) := by decide +kernel
theorem bX9_clothsOf_0 {SC : Nat → Nat} {X : mh_X} {d : Nat} {Q : Option am_V → am_W → Prop} {bc bs : Nat} {w : am_W} {x1 : Int}
    (h : ((x1 < 0 → Q (some (.inl (-1))) w) ∧ (¬ x1 < 0 → ((4 < x1 → Q (some (.inl (-1))) w) ∧ (¬ 4 < x1 → (0 ≤ x1 ∧ (x1 < 5 ∧ Q (some (.inl (w.1 53 0 x1.toNat))) w))))))) :
    am_A (mh_G X) SC (d + 1) mX9_clothsOf Q 0 [(0, .inr (.inr (some (7, 0)))), (1, .inl x1)] [] w bc bs := by
  refine am_iload_n dX9_clothsOf_0 (List.Mem.tail _ (List.Mem.head _)) ?_
  refine am_iflt (tgt := 18) dX9_clothsOf_1 (by decide) (fun c1 => ?_) (fun c1 => ?_)
  · replace h := h.1 c1
    refine am_iconst dX9_clothsOf_18 (by unfold am_rg; omega) ?_
    exact am_ret (r := some (.inl (-1))) dX9_clothsOf_19 (Or.inl rfl) rfl h
  · replace h := h.2 c1
    refine am_iload_n dX9_clothsOf_4 (List.Mem.tail _ (List.Mem.head _)) ?_
    refine am_iconst dX9_clothsOf_5 (by unfold am_rg; omega) ?_
    refine am_icmpgt (tgt := 18) dX9_clothsOf_6 (by decide) (fun c2 => ?_) (fun c2 => ?_)
    · replace h := h.1 c2
      refine am_iconst dX9_clothsOf_18 (by unfold am_rg; omega) ?_
      exact am_ret (r := some (.inl (-1))) dX9_clothsOf_19 (Or.inl rfl) rfl h
    · replace h := h.2 c2
      refine am_aload_n dX9_clothsOf_9 (List.Mem.head _) ?_
      refine am_getf (f := 3) (v := .inr (.inr (some (53, 0)))) dX9_clothsOf_10 hc_8 (by decide) wd_481 (by decide) rfl rfl ?_
      refine am_iload_n dX9_clothsOf_13 (List.Mem.tail _ (List.Mem.head _)) ?_
      have o3 := h.1
      replace h := h.2
      have o4 := h.1
      replace h := h.2
      refine am_iaload (v := (w.1 53 0 x1.toNat)) dX9_clothsOf_14 (by decide) rfl o3 o4 rfl ?_
      refine am_goto (tgt := 19) dX9_clothsOf_15 (by decide) ?_
      exact am_ret (r := some (.inl (w.1 53 0 x1.toNat))) dX9_clothsOf_19 (Or.inl rfl) rfl h
-- MourningHouse$Wardrobe.canDye(II)Z
theorem dX9_canDye_0 : decode mX9_canDye.2.1 0 = .ok (.aload_n 0, 1) := by decide +kernel
theorem dX9_canDye_1 : decode mX9_canDye.2.1 1 = .ok (.iload_n 1, 1) := by decide +kernel
theorem dX9_canDye_2 : decode mX9_canDye.2.1 2 = .ok (.invokevirtual 54, 3) := by decide +kernel
theorem dX9_canDye_5 : decode mX9_canDye.2.1 5 = .ok (.ifCond .eq 40, 3) := by decide +kernel
theorem dX9_canDye_8 : decode mX9_canDye.2.1 8 = .ok (.aload_n 0, 1) := by decide +kernel
theorem dX9_canDye_9 : decode mX9_canDye.2.1 9 = .ok (.getfield 18, 3) := by decide +kernel
theorem dX9_canDye_12 : decode mX9_canDye.2.1 12 = .ok (.iload_n 1, 1) := by decide +kernel
theorem dX9_canDye_13 : decode mX9_canDye.2.1 13 = .ok (.baload, 1) := by decide +kernel
theorem dX9_canDye_14 : decode mX9_canDye.2.1 14 = .ok (.ifCond .ne 31, 3) := by decide +kernel
theorem dX9_canDye_17 : decode mX9_canDye.2.1 17 = .ok (.iload_n 2, 1) := by decide +kernel
theorem dX9_canDye_18 : decode mX9_canDye.2.1 18 = .ok (.iconst 4, 1) := by decide +kernel
theorem dX9_canDye_19 : decode mX9_canDye.2.1 19 = .ok (.if_icmp .gt 26, 3) := by decide +kernel
theorem dX9_canDye_22 : decode mX9_canDye.2.1 22 = .ok (.iload_n 2, 1) := by decide +kernel
theorem dX9_canDye_23 : decode mX9_canDye.2.1 23 = .ok (.aload_n 0, 1) := by decide +kernel
theorem dX9_canDye_24 : decode mX9_canDye.2.1 24 = .ok (.getfield 15, 3) := by decide +kernel
theorem dX9_canDye_27 : decode mX9_canDye.2.1 27 = .ok (.iload_n 1, 1) := by decide +kernel
theorem dX9_canDye_28 : decode mX9_canDye.2.1 28 = .ok (.iaload, 1) := by decide +kernel
theorem dX9_canDye_29 : decode mX9_canDye.2.1 29 = .ok (.if_icmp .le 16, 3) := by decide +kernel
theorem dX9_canDye_32 : decode mX9_canDye.2.1 32 = .ok (.aload_n 0, 1) := by decide +kernel
theorem dX9_canDye_33 : decode mX9_canDye.2.1 33 = .ok (.getfield 41, 3) := by decide +kernel
theorem dX9_canDye_36 : decode mX9_canDye.2.1 36 = .ok (.bipush 20, 2) := by decide +kernel
theorem dX9_canDye_38 : decode mX9_canDye.2.1 38 = .ok (.if_icmp .ge 7, 3) := by decide +kernel
theorem dX9_canDye_41 : decode mX9_canDye.2.1 41 = .ok (.iconst 1, 1) := by decide +kernel
theorem dX9_canDye_42 : decode mX9_canDye.2.1 42 = .ok (.goto 4, 3) := by decide +kernel
theorem dX9_canDye_45 : decode mX9_canDye.2.1 45 = .ok (.iconst 0, 1) := by decide +kernel
theorem dX9_canDye_46 : decode mX9_canDye.2.1 46 = .ok (.ireturn, 1) := by decide +kernel
theorem bX9_canDye_0 {SC : Nat → Nat} {X : mh_X} {d : Nat} {Q : Option am_V → am_W → Prop} {bc bs : Nat} {w : am_W} {x1 : Int} {x2 : Int}
    (h : am_M (mh_G X) SC d 0 0 mX9_has [.inr (.inr (some (7, 0))), .inl x1] w (fun r w1 => am_A (mh_G X) SC (d + 1) mX9_canDye Q 5 [(0, .inr (.inr (some (7, 0)))), (1, .inl x1), (2, .inl x2)] (r.toList ++ []) w1 bc bs)) :
    am_A (mh_G X) SC (d + 1) mX9_canDye Q 0 [(0, .inr (.inr (some (7, 0)))), (1, .inl x1), (2, .inl x2)] [] w bc bs := by
  refine am_aload_n dX9_canDye_0 (List.Mem.head _) ?_
  refine am_iload_n dX9_canDye_1 (List.Mem.tail _ (List.Mem.head _)) ?_
  exact am_callv (d' := d) (kc := 0) (ks := 0) (as := [.inl x1]) dX9_canDye_2 wc_X9_has wd_1057 wd_1058 wd_1059 wd_120 ds_X9_has (by decide) (Nat.le_refl _) (Nat.le_of_ble_eq_true rfl) (Nat.zero_le _) (Nat.zero_le _) hc_8 (by decide) rfl rfl h
theorem bX9_canDye_5 {SC : Nat → Nat} {X : mh_X} {d : Nat} {Q : Option am_V → am_W → Prop} {bc bs : Nat} {w : am_W} {x1 : Int} {x2 : Int} {xs0 : Int}
    (h : ((xs0 = 0 → Q (some (.inl 0)) w) ∧ (¬ xs0 = 0 → (0 ≤ x1 ∧ (x1 < 40 ∧ ((¬ (w.1 52 0 x1.toNat) = 0 → Q (some (.inl 0)) w) ∧ ((w.1 52 0 x1.toNat) = 0 → ((4 < x2 → Q (some (.inl 0)) w) ∧ (¬ 4 < x2 → ((x2 ≤ (w.1 51 0 x1.toNat) → Q (some (.inl 0)) w) ∧ (¬ x2 ≤ (w.1 51 0 x1.toNat) → ((20 ≤ (w.1 7 0 9) → Q (some (.inl 0)) w) ∧ (¬ 20 ≤ (w.1 7 0 9) → Q (some (.inl 1)) w))))))))))))) :
    am_A (mh_G X) SC (d + 1) mX9_canDye Q 5 [(0, .inr (.inr (some (7, 0)))), (1, .inl x1), (2, .inl x2)] [.inl xs0] w bc bs := by
  refine am_ifeq (tgt := 45) dX9_canDye_5 (by decide) (fun c1 => ?_) (fun c1 => ?_)
  · replace h := h.1 c1
    refine am_iconst dX9_canDye_45 (by unfold am_rg; omega) ?_
    exact am_ret (r := some (.inl 0)) dX9_canDye_46 (Or.inr (Or.inl ⟨rfl, (Or.inl rfl)⟩)) rfl h
  · replace h := h.2 c1
    refine am_aload_n dX9_canDye_8 (List.Mem.head _) ?_
    refine am_getf (f := 2) (v := .inr (.inr (some (52, 0)))) dX9_canDye_9 hc_8 (by decide) wd_479 (by decide) rfl rfl ?_
    refine am_iload_n dX9_canDye_12 (List.Mem.tail _ (List.Mem.head _)) ?_
    have o2 := h.1
    replace h := h.2
    have o3 := h.1
    replace h := h.2
    refine am_zaload (v := (w.1 52 0 x1.toNat)) dX9_canDye_13 (by decide) rfl o2 o3 rfl ?_
    refine am_ifne (tgt := 45) dX9_canDye_14 (by decide) (fun c4 => ?_) (fun c4 => ?_)
    · replace h := h.1 c4
      refine am_iconst dX9_canDye_45 (by unfold am_rg; omega) ?_
      exact am_ret (r := some (.inl 0)) dX9_canDye_46 (Or.inr (Or.inl ⟨rfl, (Or.inl rfl)⟩)) rfl h
    · replace h := h.2 c4
      refine am_iload_n dX9_canDye_17 (List.Mem.tail _ (List.Mem.tail _ (List.Mem.head _))) ?_
      refine am_iconst dX9_canDye_18 (by unfold am_rg; omega) ?_
      refine am_icmpgt (tgt := 45) dX9_canDye_19 (by decide) (fun c5 => ?_) (fun c5 => ?_)
      · replace h := h.1 c5
        refine am_iconst dX9_canDye_45 (by unfold am_rg; omega) ?_
        exact am_ret (r := some (.inl 0)) dX9_canDye_46 (Or.inr (Or.inl ⟨rfl, (Or.inl rfl)⟩)) rfl h
      · replace h := h.2 c5
        refine am_iload_n dX9_canDye_22 (List.Mem.tail _ (List.Mem.tail _ (List.Mem.head _))) ?_
        refine am_aload_n dX9_canDye_23 (List.Mem.head _) ?_
        refine am_getf (f := 1) (v := .inr (.inr (some (51, 0)))) dX9_canDye_24 hc_8 (by decide) wd_477 (by decide) rfl rfl ?_
        refine am_iload_n dX9_canDye_27 (List.Mem.tail _ (List.Mem.head _)) ?_
        refine am_iaload (v := (w.1 51 0 x1.toNat)) dX9_canDye_28 (by decide) rfl o2 o3 rfl ?_
        refine am_icmple (tgt := 45) dX9_canDye_29 (by decide) (fun c6 => ?_) (fun c6 => ?_)
        · replace h := h.1 c6
          refine am_iconst dX9_canDye_45 (by unfold am_rg; omega) ?_
          exact am_ret (r := some (.inl 0)) dX9_canDye_46 (Or.inr (Or.inl ⟨rfl, (Or.inl rfl)⟩)) rfl h
        · replace h := h.2 c6
          refine am_aload_n dX9_canDye_32 (List.Mem.head _) ?_
          refine am_getf (f := 9) (v := .inl (w.1 7 0 9)) dX9_canDye_33 hc_8 (by decide) wd_490 (by decide) rfl rfl ?_
          refine am_bipush dX9_canDye_36 (by decide) (by unfold am_rg; omega) ?_
          refine am_icmpge (tgt := 45) dX9_canDye_38 (by decide) (fun c7 => ?_) (fun c7 => ?_)
          · replace h := h.1 c7
            refine am_iconst dX9_canDye_45 (by unfold am_rg; omega) ?_
            exact am_ret (r := some (.inl 0)) dX9_canDye_46 (Or.inr (Or.inl ⟨rfl, (Or.inl rfl)⟩)) rfl h
          · replace h := h.2 c7
            refine am_iconst dX9_canDye_41 (by unfold am_rg; omega) ?_
            refine am_goto (tgt := 46) dX9_canDye_42 (by decide) ?_
            exact am_ret (r := some (.inl 1)) dX9_canDye_46 (Or.inr (Or.inl ⟨rfl, (Or.inr rfl)⟩)) rfl h
-- MourningHouse$Wardrobe.startDye(II)I
theorem dX9_startDye_0 : decode mX9_startDye.2.1 0 = .ok (.aload_n 0, 1) := by decide +kernel
theorem dX9_startDye_1 : decode mX9_startDye.2.1 1 = .ok (.getfield 18, 3) := by decide +kernel
theorem dX9_startDye_4 : decode mX9_startDye.2.1 4 = .ok (.iload_n 1, 1) := by decide +kernel
theorem dX9_startDye_5 : decode mX9_startDye.2.1 5 = .ok (.iconst 1, 1) := by decide +kernel
theorem dX9_startDye_6 : decode mX9_startDye.2.1 6 = .ok (.bastore, 1) := by decide +kernel
theorem dX9_startDye_7 : decode mX9_startDye.2.1 7 = .ok (.aload_n 0, 1) := by decide +kernel
theorem dX9_startDye_8 : decode mX9_startDye.2.1 8 = .ok (.iload_n 1, 1) := by decide +kernel
theorem dX9_startDye_9 : decode mX9_startDye.2.1 9 = .ok (.aload_n 0, 1) := by decide +kernel
theorem dX9_startDye_10 : decode mX9_startDye.2.1 10 = .ok (.getfield 11, 3) := by decide +kernel
theorem dX9_startDye_13 : decode mX9_startDye.2.1 13 = .ok (.iload_n 1, 1) := by decide +kernel
theorem dX9_startDye_14 : decode mX9_startDye.2.1 14 = .ok (.iaload, 1) := by decide +kernel
theorem dX9_startDye_15 : decode mX9_startDye.2.1 15 = .ok (.iload_n 2, 1) := by decide +kernel
theorem dX9_startDye_16 : decode mX9_startDye.2.1 16 = .ok (.iconst 2, 1) := by decide +kernel
theorem dX9_startDye_17 : decode mX9_startDye.2.1 17 = .ok (.invokevirtual 58, 3) := by decide +kernel
theorem dX9_startDye_20 : decode mX9_startDye.2.1 20 = .ok (.aload_n 0, 1) := by decide +kernel
theorem dX9_startDye_21 : decode mX9_startDye.2.1 21 = .ok (.getfield 41, 3) := by decide +kernel
theorem dX9_startDye_24 : decode mX9_startDye.2.1 24 = .ok (.ireturn, 1) := by decide +kernel
theorem bX9_startDye_0 {SC : Nat → Nat} {X : mh_X} {d : Nat} {Q : Option am_V → am_W → Prop} {bc bs : Nat} {w : am_W} {x1 : Int} {x2 : Int}
    (h : (0 ≤ x1 ∧ (x1 < 40 ∧ am_M (mh_G X) SC d 0 0 mX9_addTask [.inr (.inr (some (7, 0))), .inl x1, .inl (w.1 50 0 x1.toNat), .inl x2, .inl 2] ((am_up w.1 52 0 x1.toNat 1), w.2) (fun r w1 => am_A (mh_G X) SC (d + 1) mX9_startDye Q 20 [(0, .inr (.inr (some (7, 0)))), (1, .inl x1), (2, .inl x2)] (r.toList ++ []) w1 bc bs)))) :
    am_A (mh_G X) SC (d + 1) mX9_startDye Q 0 [(0, .inr (.inr (some (7, 0)))), (1, .inl x1), (2, .inl x2)] [] w bc bs := by
  refine am_aload_n dX9_startDye_0 (List.Mem.head _) ?_
  refine am_getf (f := 2) (v := .inr (.inr (some (52, 0)))) dX9_startDye_1 hc_8 (by decide) wd_479 (by decide) rfl rfl ?_
  refine am_iload_n dX9_startDye_4 (List.Mem.tail _ (List.Mem.head _)) ?_
  refine am_iconst dX9_startDye_5 (by unfold am_rg; omega) ?_
  have o1 := h.1
  replace h := h.2
  have o2 := h.1
  replace h := h.2
  refine am_zastore (by decide) dX9_startDye_6 (Or.inl (by decide)) rfl o1 o2 ?_
  refine am_aload_n dX9_startDye_7 (List.Mem.head _) ?_
  refine am_iload_n dX9_startDye_8 (List.Mem.tail _ (List.Mem.head _)) ?_
  refine am_aload_n dX9_startDye_9 (List.Mem.head _) ?_
  refine am_getf (f := 0) (v := .inr (.inr (some (50, 0)))) dX9_startDye_10 hc_8 (by decide) wd_475 (by decide) rfl rfl ?_
  refine am_iload_n dX9_startDye_13 (List.Mem.tail _ (List.Mem.head _)) ?_
  refine am_iaload (v := (w.1 50 0 x1.toNat)) dX9_startDye_14 (by decide) rfl o1 o2 rfl ?_
  refine am_iload_n dX9_startDye_15 (List.Mem.tail _ (List.Mem.tail _ (List.Mem.head _))) ?_
  refine am_iconst dX9_startDye_16 (by unfold am_rg; omega) ?_
  exact am_callv (d' := d) (kc := 0) (ks := 0) (as := [.inl x1, .inl (w.1 50 0 x1.toNat), .inl x2, .inl 2]) dX9_startDye_17 wc_X9_addTask wd_1385 wd_1387 wd_42 wd_120 ds_X9_addTask (by decide) (Nat.le_refl _) (Nat.le_of_ble_eq_true rfl) (Nat.zero_le _) (Nat.zero_le _) hc_8 (by decide) rfl rfl h
theorem bX9_startDye_20 {SC : Nat → Nat} {X : mh_X} {d : Nat} {Q : Option am_V → am_W → Prop} {bc bs : Nat} {w : am_W} {x1 : Int} {x2 : Int}
    (h : Q (some (.inl (w.1 7 0 9))) w) :
    am_A (mh_G X) SC (d + 1) mX9_startDye Q 20 [(0, .inr (.inr (some (7, 0)))), (1, .inl x1), (2, .inl x2)] [] w bc bs := by
  refine am_aload_n dX9_startDye_20 (List.Mem.head _) ?_
  refine am_getf (f := 9) (v := .inl (w.1 7 0 9)) dX9_startDye_21 hc_8 (by decide) wd_490 (by decide) rfl rfl ?_
  exact am_ret (r := some (.inl (w.1 7 0 9))) dX9_startDye_24 (Or.inl rfl) rfl h
-- MourningHouse$Wardrobe.canMake(II)Z
theorem dX9_canMake_0 : decode mX9_canMake.2.1 0 = .ok (.aload_n 0, 1) := by decide +kernel
theorem dX9_canMake_1 : decode mX9_canMake.2.1 1 = .ok (.iload_n 1, 1) := by decide +kernel
theorem dX9_canMake_2 : decode mX9_canMake.2.1 2 = .ok (.iload_n 2, 1) := by decide +kernel
theorem dX9_canMake_3 : decode mX9_canMake.2.1 3 = .ok (.invokevirtual 62, 3) := by decide +kernel
theorem dX9_canMake_6 : decode mX9_canMake.2.1 6 = .ok (.ifCond .eq 25, 3) := by decide +kernel
theorem dX9_canMake_9 : decode mX9_canMake.2.1 9 = .ok (.aload_n 0, 1) := by decide +kernel
theorem dX9_canMake_10 : decode mX9_canMake.2.1 10 = .ok (.getfield 22, 3) := by decide +kernel
theorem dX9_canMake_13 : decode mX9_canMake.2.1 13 = .ok (.iload_n 2, 1) := by decide +kernel
theorem dX9_canMake_14 : decode mX9_canMake.2.1 14 = .ok (.iaload, 1) := by decide +kernel
theorem dX9_canMake_15 : decode mX9_canMake.2.1 15 = .ok (.ifCond .le 16, 3) := by decide +kernel
theorem dX9_canMake_18 : decode mX9_canMake.2.1 18 = .ok (.aload_n 0, 1) := by decide +kernel
theorem dX9_canMake_19 : decode mX9_canMake.2.1 19 = .ok (.getfield 41, 3) := by decide +kernel
theorem dX9_canMake_22 : decode mX9_canMake.2.1 22 = .ok (.bipush 20, 2) := by decide +kernel
theorem dX9_canMake_24 : decode mX9_canMake.2.1 24 = .ok (.if_icmp .ge 7, 3) := by decide +kernel
theorem dX9_canMake_27 : decode mX9_canMake.2.1 27 = .ok (.iconst 1, 1) := by decide +kernel
theorem dX9_canMake_28 : decode mX9_canMake.2.1 28 = .ok (.goto 4, 3) := by decide +kernel
theorem dX9_canMake_31 : decode mX9_canMake.2.1 31 = .ok (.iconst 0, 1) := by decide +kernel
theorem dX9_canMake_32 : decode mX9_canMake.2.1 32 = .ok (.ireturn, 1) := by decide +kernel
theorem bX9_canMake_0 {SC : Nat → Nat} {X : mh_X} {d : Nat} {Q : Option am_V → am_W → Prop} {bc bs : Nat} {w : am_W} {x1 : Int} {x2 : Int}
    (h : am_M (mh_G X) SC d 0 0 mX9_canHang [.inr (.inr (some (7, 0))), .inl x1, .inl x2] w (fun r w1 => am_A (mh_G X) SC (d + 1) mX9_canMake Q 6 [(0, .inr (.inr (some (7, 0)))), (1, .inl x1), (2, .inl x2)] (r.toList ++ []) w1 bc bs)) :
    am_A (mh_G X) SC (d + 1) mX9_canMake Q 0 [(0, .inr (.inr (some (7, 0)))), (1, .inl x1), (2, .inl x2)] [] w bc bs := by
  refine am_aload_n dX9_canMake_0 (List.Mem.head _) ?_
  refine am_iload_n dX9_canMake_1 (List.Mem.tail _ (List.Mem.head _)) ?_
  refine am_iload_n dX9_canMake_2 (List.Mem.tail _ (List.Mem.tail _ (List.Mem.head _))) ?_
  exact am_callv (d' := d) (kc := 0) (ks := 0) (as := [.inl x1, .inl x2]) dX9_canMake_3 wc_X9_canHang wd_1397 wd_1350 wd_1351 wd_120 ds_X9_canHang (by decide) (Nat.le_refl _) (Nat.le_of_ble_eq_true rfl) (Nat.zero_le _) (Nat.zero_le _) hc_8 (by decide) rfl rfl h
theorem bX9_canMake_6 {SC : Nat → Nat} {X : mh_X} {d : Nat} {Q : Option am_V → am_W → Prop} {bc bs : Nat} {w : am_W} {x1 : Int} {x2 : Int} {xs0 : Int}
    (h : ((xs0 = 0 → Q (some (.inl 0)) w) ∧ (¬ xs0 = 0 → (0 ≤ x2 ∧ (x2 < 5 ∧ (((w.1 53 0 x2.toNat) ≤ 0 → Q (some (.inl 0)) w) ∧ (¬ (w.1 53 0 x2.toNat) ≤ 0 → ((20 ≤ (w.1 7 0 9) → Q (some (.inl 0)) w) ∧ (¬ 20 ≤ (w.1 7 0 9) → Q (some (.inl 1)) w))))))))) :
    am_A (mh_G X) SC (d + 1) mX9_canMake Q 6 [(0, .inr (.inr (some (7, 0)))), (1, .inl x1), (2, .inl x2)] [.inl xs0] w bc bs := by
  refine am_ifeq (tgt := 31) dX9_canMake_6 (by decide) (fun c1 => ?_) (fun c1 => ?_)
  · replace h := h.1 c1
    refine am_iconst dX9_canMake_31 (by unfold am_rg; omega) ?_
    exact am_ret (r := some (.inl 0)) dX9_canMake_32 (Or.inr (Or.inl ⟨rfl, (Or.inl rfl)⟩)) rfl h
  · replace h := h.2 c1
    refine am_aload_n dX9_canMake_9 (List.Mem.head _) ?_
    refine am_getf (f := 3) (v := .inr (.inr (some (53, 0)))) dX9_canMake_10 hc_8 (by decide) wd_481 (by decide) rfl rfl ?_
    refine am_iload_n dX9_canMake_13 (List.Mem.tail _ (List.Mem.tail _ (List.Mem.head _))) ?_
    have o2 := h.1
    replace h := h.2
    have o3 := h.1
    replace h := h.2
    refine am_iaload (v := (w.1 53 0 x2.toNat)) dX9_canMake_14 (by decide) rfl o2 o3 rfl ?_
    refine am_ifle (tgt := 31) dX9_canMake_15 (by decide) (fun c4 => ?_) (fun c4 => ?_)
    · replace h := h.1 c4
      refine am_iconst dX9_canMake_31 (by unfold am_rg; omega) ?_
      exact am_ret (r := some (.inl 0)) dX9_canMake_32 (Or.inr (Or.inl ⟨rfl, (Or.inl rfl)⟩)) rfl h
    · replace h := h.2 c4
      refine am_aload_n dX9_canMake_18 (List.Mem.head _) ?_
      refine am_getf (f := 9) (v := .inl (w.1 7 0 9)) dX9_canMake_19 hc_8 (by decide) wd_490 (by decide) rfl rfl ?_
      refine am_bipush dX9_canMake_22 (by decide) (by unfold am_rg; omega) ?_
      refine am_icmpge (tgt := 31) dX9_canMake_24 (by decide) (fun c5 => ?_) (fun c5 => ?_)
      · replace h := h.1 c5
        refine am_iconst dX9_canMake_31 (by unfold am_rg; omega) ?_
        exact am_ret (r := some (.inl 0)) dX9_canMake_32 (Or.inr (Or.inl ⟨rfl, (Or.inl rfl)⟩)) rfl h
      · replace h := h.2 c5
        refine am_iconst dX9_canMake_27 (by unfold am_rg; omega) ?_
        refine am_goto (tgt := 32) dX9_canMake_28 (by decide) ?_
        exact am_ret (r := some (.inl 1)) dX9_canMake_32 (Or.inr (Or.inl ⟨rfl, (Or.inr rfl)⟩)) rfl h
-- MourningHouse$Wardrobe.startMake(II)I
theorem dX9_startMake_0 : decode mX9_startMake.2.1 0 = .ok (.aload_n 0, 1) := by decide +kernel
theorem dX9_startMake_1 : decode mX9_startMake.2.1 1 = .ok (.getfield 22, 3) := by decide +kernel
theorem dX9_startMake_4 : decode mX9_startMake.2.1 4 = .ok (.iload_n 2, 1) := by decide +kernel
theorem dX9_startMake_5 : decode mX9_startMake.2.1 5 = .ok (.dup2, 1) := by decide +kernel
theorem dX9_startMake_6 : decode mX9_startMake.2.1 6 = .ok (.iaload, 1) := by decide +kernel
theorem dX9_startMake_7 : decode mX9_startMake.2.1 7 = .ok (.iconst 1, 1) := by decide +kernel
theorem dX9_startMake_8 : decode mX9_startMake.2.1 8 = .ok (.isub, 1) := by decide +kernel
theorem dX9_startMake_9 : decode mX9_startMake.2.1 9 = .ok (.iastore, 1) := by decide +kernel
theorem dX9_startMake_10 : decode mX9_startMake.2.1 10 = .ok (.aload_n 0, 1) := by decide +kernel
theorem dX9_startMake_11 : decode mX9_startMake.2.1 11 = .ok (.dup, 1) := by decide +kernel
theorem dX9_startMake_12 : decode mX9_startMake.2.1 12 = .ok (.getfield 47, 3) := by decide +kernel
theorem dX9_startMake_15 : decode mX9_startMake.2.1 15 = .ok (.iconst 1, 1) := by decide +kernel
theorem dX9_startMake_16 : decode mX9_startMake.2.1 16 = .ok (.iadd, 1) := by decide +kernel
theorem dX9_startMake_17 : decode mX9_startMake.2.1 17 = .ok (.putfield 47, 3) := by decide +kernel
theorem dX9_startMake_20 : decode mX9_startMake.2.1 20 = .ok (.aload_n 0, 1) := by decide +kernel
theorem dX9_startMake_21 : decode mX9_startMake.2.1 21 = .ok (.iconst (-1), 1) := by decide +kernel
theorem dX9_startMake_22 : decode mX9_startMake.2.1 22 = .ok (.iload_n 1, 1) := by decide +kernel
theorem dX9_startMake_23 : decode mX9_startMake.2.1 23 = .ok (.iload_n 2, 1) := by decide +kernel
theorem dX9_startMake_24 : decode mX9_startMake.2.1 24 = .ok (.iconst 3, 1) := by decide +kernel
theorem dX9_startMake_25 : decode mX9_startMake.2.1 25 = .ok (.invokevirtual 58, 3) := by decide +kernel
theorem dX9_startMake_28 : decode mX9_startMake.2.1 28 = .ok (.aload_n 0, 1) := by decide +kernel
theorem dX9_startMake_29 : decode mX9_startMake.2.1 29 = .ok (.getfield 41, 3) := by decide +kernel
theorem dX9_startMake_32 : decode mX9_startMake.2.1 32 = .ok (.ireturn, 1) := by decide +kernel
theorem bX9_startMake_0 {SC : Nat → Nat} {X : mh_X} {d : Nat} {Q : Option am_V → am_W → Prop} {bc bs : Nat} {w : am_W} {x1 : Int} {x2 : Int}
    (h : (0 ≤ x2 ∧ (x2 < 5 ∧ am_M (mh_G X) SC d 0 0 mX9_addTask [.inr (.inr (some (7, 0))), .inl (-1), .inl x1, .inl x2, .inl 3] ((am_up (am_up w.1 53 0 x2.toNat (am_w ((w.1 53 0 x2.toNat) - 1))) 7 0 11 (am_w ((w.1 7 0 11) + 1))), w.2) (fun r w1 => am_A (mh_G X) SC (d + 1) mX9_startMake Q 28 [(0, .inr (.inr (some (7, 0)))), (1, .inl x1), (2, .inl x2)] (r.toList ++ []) w1 bc bs)))) :
    am_A (mh_G X) SC (d + 1) mX9_startMake Q 0 [(0, .inr (.inr (some (7, 0)))), (1, .inl x1), (2, .inl x2)] [] w bc bs := by
  refine am_aload_n dX9_startMake_0 (List.Mem.head _) ?_
  refine am_getf (f := 3) (v := .inr (.inr (some (53, 0)))) dX9_startMake_1 hc_8 (by decide) wd_481 (by decide) rfl rfl ?_
  refine am_iload_n dX9_startMake_4 (List.Mem.tail _ (List.Mem.tail _ (List.Mem.head _))) ?_
  refine am_dup2 dX9_startMake_5 rfl rfl ?_
  have o1 := h.1
  replace h := h.2
  have o2 := h.1
  replace h := h.2
  refine am_iaload (v := (w.1 53 0 x2.toNat)) dX9_startMake_6 (by decide) rfl o1 o2 rfl ?_
  refine am_iconst dX9_startMake_7 (by unfold am_rg; omega) ?_
  refine am_isub dX9_startMake_8 ?_
  refine am_iastore dX9_startMake_9 (Or.inl (by decide)) rfl o1 o2 ?_
  refine am_aload_n dX9_startMake_10 (List.Mem.head _) ?_
  refine am_dup dX9_startMake_11 rfl ?_
  refine am_getf (f := 11) (v := .inl (w.1 7 0 11)) dX9_startMake_12 hc_8 (by decide) wd_496 (by decide) rfl rfl ?_
  refine am_iconst dX9_startMake_15 (by unfold am_rg; omega) ?_
  refine am_iadd dX9_startMake_16 ?_
  refine am_putf (f := 11) dX9_startMake_17 hc_8 (by decide) wd_496 rfl (Or.inl rfl) (Or.inl (by decide)) rfl ?_
  refine am_aload_n dX9_startMake_20 (List.Mem.head _) ?_
  refine am_iconst dX9_startMake_21 (by unfold am_rg; omega) ?_
  refine am_iload_n dX9_startMake_22 (List.Mem.tail _ (List.Mem.head _)) ?_
  refine am_iload_n dX9_startMake_23 (List.Mem.tail _ (List.Mem.tail _ (List.Mem.head _))) ?_
  refine am_iconst dX9_startMake_24 (by unfold am_rg; omega) ?_
  exact am_callv (d' := d) (kc := 0) (ks := 0) (as := [.inl (-1), .inl x1, .inl x2, .inl 3]) dX9_startMake_25 wc_X9_addTask wd_1385 wd_1387 wd_42 wd_120 ds_X9_addTask (by decide) (Nat.le_refl _) (Nat.le_of_ble_eq_true rfl) (Nat.zero_le _) (Nat.zero_le _) hc_8 (by decide) rfl rfl h
theorem bX9_startMake_28 {SC : Nat → Nat} {X : mh_X} {d : Nat} {Q : Option am_V → am_W → Prop} {bc bs : Nat} {w : am_W} {x1 : Int} {x2 : Int}
    (h : Q (some (.inl (w.1 7 0 9))) w) :
    am_A (mh_G X) SC (d + 1) mX9_startMake Q 28 [(0, .inr (.inr (some (7, 0)))), (1, .inl x1), (2, .inl x2)] [] w bc bs := by
  refine am_aload_n dX9_startMake_28 (List.Mem.head _) ?_
  refine am_getf (f := 9) (v := .inl (w.1 7 0 9)) dX9_startMake_29 hc_8 (by decide) wd_490 (by decide) rfl rfl ?_
  exact am_ret (r := some (.inl (w.1 7 0 9))) dX9_startMake_32 (Or.inl rfl) rfl h
-- MourningHouse$Wardrobe.addTask(IIII)V
theorem dX9_addTask_0 : decode mX9_addTask.2.1 0 = .ok (.aload_n 0, 1) := by decide +kernel
theorem dX9_addTask_1 : decode mX9_addTask.2.1 1 = .ok (.getfield 25, 3) := by decide +kernel
theorem dX9_addTask_4 : decode mX9_addTask.2.1 4 = .ok (.aload_n 0, 1) := by decide +kernel
theorem dX9_addTask_5 : decode mX9_addTask.2.1 5 = .ok (.getfield 41, 3) := by decide +kernel
theorem dX9_addTask_8 : decode mX9_addTask.2.1 8 = .ok (.iload_n 1, 1) := by decide +kernel
theorem dX9_addTask_9 : decode mX9_addTask.2.1 9 = .ok (.iastore, 1) := by decide +kernel
theorem dX9_addTask_10 : decode mX9_addTask.2.1 10 = .ok (.aload_n 0, 1) := by decide +kernel
theorem dX9_addTask_11 : decode mX9_addTask.2.1 11 = .ok (.getfield 28, 3) := by decide +kernel
theorem dX9_addTask_14 : decode mX9_addTask.2.1 14 = .ok (.aload_n 0, 1) := by decide +kernel
theorem dX9_addTask_15 : decode mX9_addTask.2.1 15 = .ok (.getfield 41, 3) := by decide +kernel
theorem dX9_addTask_18 : decode mX9_addTask.2.1 18 = .ok (.iload_n 2, 1) := by decide +kernel
theorem dX9_addTask_19 : decode mX9_addTask.2.1 19 = .ok (.iastore, 1) := by decide +kernel
theorem dX9_addTask_20 : decode mX9_addTask.2.1 20 = .ok (.aload_n 0, 1) := by decide +kernel
theorem dX9_addTask_21 : decode mX9_addTask.2.1 21 = .ok (.getfield 31, 3) := by decide +kernel
theorem dX9_addTask_24 : decode mX9_addTask.2.1 24 = .ok (.aload_n 0, 1) := by decide +kernel
theorem dX9_addTask_25 : decode mX9_addTask.2.1 25 = .ok (.getfield 41, 3) := by decide +kernel
theorem dX9_addTask_28 : decode mX9_addTask.2.1 28 = .ok (.iload_n 3, 1) := by decide +kernel
theorem dX9_addTask_29 : decode mX9_addTask.2.1 29 = .ok (.iastore, 1) := by decide +kernel
theorem dX9_addTask_30 : decode mX9_addTask.2.1 30 = .ok (.aload_n 0, 1) := by decide +kernel
theorem dX9_addTask_31 : decode mX9_addTask.2.1 31 = .ok (.getfield 34, 3) := by decide +kernel
theorem dX9_addTask_34 : decode mX9_addTask.2.1 34 = .ok (.aload_n 0, 1) := by decide +kernel
theorem dX9_addTask_35 : decode mX9_addTask.2.1 35 = .ok (.getfield 41, 3) := by decide +kernel
theorem dX9_addTask_38 : decode mX9_addTask.2.1 38 = .ok (.iload 4, 2) := by decide +kernel
theorem dX9_addTask_40 : decode mX9_addTask.2.1 40 = .ok (.iastore, 1) := by decide +kernel
theorem dX9_addTask_41 : decode mX9_addTask.2.1 41 = .ok (.aload_n 0, 1) := by decide +kernel
theorem dX9_addTask_42 : decode mX9_addTask.2.1 42 = .ok (.dup, 1) := by decide +kernel
theorem dX9_addTask_43 : decode mX9_addTask.2.1 43 = .ok (.getfield 41, 3) := by decide +kernel
theorem dX9_addTask_46 : decode mX9_addTask.2.1 46 = .ok (.iconst 1, 1) := by decide +kernel
theorem dX9_addTask_47 : decode mX9_addTask.2.1 47 = .ok (.iadd, 1) := by decide +kernel
theorem dX9_addTask_48 : decode mX9_addTask.2.1 48 = .ok (.putfield 41, 3) := by decide +kernel
theorem dX9_addTask_51 : decode mX9_addTask.2.1 51 = .ok (.return_, 1) := by decide +kernel
theorem bX9_addTask_0 {SC : Nat → Nat} {X : mh_X} {d : Nat} {Q : Option am_V → am_W → Prop} {bc bs : Nat} {w : am_W} {x1 : Int} {x2 : Int} {x3 : Int} {x4 : Int}
    (h : (0 ≤ (w.1 7 0 9) ∧ ((w.1 7 0 9) < 20 ∧ Q none ((am_up (am_up (am_up (am_up (am_up w.1 54 0 (w.1 7 0 9).toNat x1) 55 0 (w.1 7 0 9).toNat x2) 56 0 (w.1 7 0 9).toNat x3) 57 0 (w.1 7 0 9).toNat x4) 7 0 9 (am_w ((w.1 7 0 9) + 1))), w.2)))) :
    am_A (mh_G X) SC (d + 1) mX9_addTask Q 0 [(0, .inr (.inr (some (7, 0)))), (1, .inl x1), (2, .inl x2), (3, .inl x3), (4, .inl x4)] [] w bc bs := by
  refine am_aload_n dX9_addTask_0 (List.Mem.head _) ?_
  refine am_getf (f := 4) (v := .inr (.inr (some (54, 0)))) dX9_addTask_1 hc_8 (by decide) wd_483 (by decide) rfl rfl ?_
  refine am_aload_n dX9_addTask_4 (List.Mem.head _) ?_
  refine am_getf (f := 9) (v := .inl (w.1 7 0 9)) dX9_addTask_5 hc_8 (by decide) wd_490 (by decide) rfl rfl ?_
  refine am_iload_n dX9_addTask_8 (List.Mem.tail _ (List.Mem.head _)) ?_
  have o1 := h.1
  replace h := h.2
  have o2 := h.1
  replace h := h.2
  refine am_iastore dX9_addTask_9 (Or.inl (by decide)) rfl o1 o2 ?_
  refine am_aload_n dX9_addTask_10 (List.Mem.head _) ?_
  refine am_getf (f := 5) (v := .inr (.inr (some (55, 0)))) dX9_addTask_11 hc_8 (by decide) wd_484 (by decide) rfl rfl ?_
  refine am_aload_n dX9_addTask_14 (List.Mem.head _) ?_
  refine am_getf (f := 9) (v := .inl (w.1 7 0 9)) dX9_addTask_15 hc_8 (by decide) wd_490 (by decide) rfl rfl ?_
  refine am_iload_n dX9_addTask_18 (List.Mem.tail _ (List.Mem.tail _ (List.Mem.head _))) ?_
  refine am_iastore dX9_addTask_19 (Or.inl (by decide)) rfl o1 o2 ?_
  refine am_aload_n dX9_addTask_20 (List.Mem.head _) ?_
  refine am_getf (f := 6) (v := .inr (.inr (some (56, 0)))) dX9_addTask_21 hc_8 (by decide) wd_485 (by decide) rfl rfl ?_
  refine am_aload_n dX9_addTask_24 (List.Mem.head _) ?_
  refine am_getf (f := 9) (v := .inl (w.1 7 0 9)) dX9_addTask_25 hc_8 (by decide) wd_490 (by decide) rfl rfl ?_
  refine am_iload_n dX9_addTask_28 (List.Mem.tail _ (List.Mem.tail _ (List.Mem.tail _ (List.Mem.head _)))) ?_
  refine am_iastore dX9_addTask_29 (Or.inl (by decide)) rfl o1 o2 ?_
  refine am_aload_n dX9_addTask_30 (List.Mem.head _) ?_
  refine am_getf (f := 7) (v := .inr (.inr (some (57, 0)))) dX9_addTask_31 hc_8 (by decide) wd_486 (by decide) rfl rfl ?_
  refine am_aload_n dX9_addTask_34 (List.Mem.head _) ?_
  refine am_getf (f := 9) (v := .inl (w.1 7 0 9)) dX9_addTask_35 hc_8 (by decide) wd_490 (by decide) rfl rfl ?_
  refine am_iload dX9_addTask_38 (List.Mem.tail _ (List.Mem.tail _ (List.Mem.tail _ (List.Mem.tail _ (List.Mem.head _))))) ?_
  refine am_iastore dX9_addTask_40 (Or.inl (by decide)) rfl o1 o2 ?_
  refine am_aload_n dX9_addTask_41 (List.Mem.head _) ?_
  refine am_dup dX9_addTask_42 rfl ?_
  refine am_getf (f := 9) (v := .inl (w.1 7 0 9)) dX9_addTask_43 hc_8 (by decide) wd_490 (by decide) rfl rfl ?_
  refine am_iconst dX9_addTask_46 (by unfold am_rg; omega) ?_
  refine am_iadd dX9_addTask_47 ?_
  refine am_putf (f := 9) dX9_addTask_48 hc_8 (by decide) wd_490 rfl (Or.inl rfl) (Or.inl (by decide)) rfl ?_
  exact am_ret (r := none) dX9_addTask_51 rfl rfl h
-- MourningHouse$Wardrobe.work(I)V
theorem dX9_work_0 : decode mX9_work.2.1 0 = .ok (.iconst 0, 1) := by decide +kernel
theorem dX9_work_1 : decode mX9_work.2.1 1 = .ok (.istore_n 2, 1) := by decide +kernel
theorem dX9_work_2 : decode mX9_work.2.1 2 = .ok (.iload_n 2, 1) := by decide +kernel
theorem dX9_work_3 : decode mX9_work.2.1 3 = .ok (.iload_n 1, 1) := by decide +kernel
theorem dX9_work_4 : decode mX9_work.2.1 4 = .ok (.if_icmp .ge 61, 3) := by decide +kernel
theorem dX9_work_7 : decode mX9_work.2.1 7 = .ok (.aload_n 0, 1) := by decide +kernel
theorem dX9_work_8 : decode mX9_work.2.1 8 = .ok (.getfield 41, 3) := by decide +kernel
theorem dX9_work_11 : decode mX9_work.2.1 11 = .ok (.ifCond .le 54, 3) := by decide +kernel
theorem dX9_work_14 : decode mX9_work.2.1 14 = .ok (.aload_n 0, 1) := by decide +kernel
theorem dX9_work_15 : decode mX9_work.2.1 15 = .ok (.getfield 44, 3) := by decide +kernel
theorem dX9_work_18 : decode mX9_work.2.1 18 = .ok (.ifCond .le 47, 3) := by decide +kernel
theorem dX9_work_21 : decode mX9_work.2.1 21 = .ok (.iconst 0, 1) := by decide +kernel
theorem dX9_work_22 : decode mX9_work.2.1 22 = .ok (.istore_n 3, 1) := by decide +kernel
theorem dX9_work_23 : decode mX9_work.2.1 23 = .ok (.iload_n 3, 1) := by decide +kernel
theorem dX9_work_24 : decode mX9_work.2.1 24 = .ok (.aload_n 0, 1) := by decide +kernel
theorem dX9_work_25 : decode mX9_work.2.1 25 = .ok (.getfield 41, 3) := by decide +kernel
theorem dX9_work_28 : decode mX9_work.2.1 28 = .ok (.if_icmp .ge 27, 3) := by decide +kernel
theorem dX9_work_31 : decode mX9_work.2.1 31 = .ok (.iload_n 3, 1) := by decide +kernel
theorem dX9_work_32 : decode mX9_work.2.1 32 = .ok (.aload_n 0, 1) := by decide +kernel
theorem dX9_work_33 : decode mX9_work.2.1 33 = .ok (.getfield 44, 3) := by decide +kernel
theorem dX9_work_36 : decode mX9_work.2.1 36 = .ok (.if_icmp .ge 19, 3) := by decide +kernel
theorem dX9_work_39 : decode mX9_work.2.1 39 = .ok (.aload_n 0, 1) := by decide +kernel
theorem dX9_work_40 : decode mX9_work.2.1 40 = .ok (.getfield 34, 3) := by decide +kernel
theorem dX9_work_43 : decode mX9_work.2.1 43 = .ok (.iload_n 3, 1) := by decide +kernel
theorem dX9_work_44 : decode mX9_work.2.1 44 = .ok (.dup2, 1) := by decide +kernel
theorem dX9_work_45 : decode mX9_work.2.1 45 = .ok (.iaload, 1) := by decide +kernel
theorem dX9_work_46 : decode mX9_work.2.1 46 = .ok (.iconst 1, 1) := by decide +kernel
theorem dX9_work_47 : decode mX9_work.2.1 47 = .ok (.isub, 1) := by decide +kernel
theorem dX9_work_48 : decode mX9_work.2.1 48 = .ok (.iastore, 1) := by decide +kernel
theorem dX9_work_49 : decode mX9_work.2.1 49 = .ok (.iinc 3 1, 3) := by decide +kernel
theorem dX9_work_52 : decode mX9_work.2.1 52 = .ok (.goto (-29), 3) := by decide +kernel
theorem dX9_work_55 : decode mX9_work.2.1 55 = .ok (.aload_n 0, 1) := by decide +kernel
theorem dX9_work_56 : decode mX9_work.2.1 56 = .ok (.invokevirtual 65, 3) := by decide +kernel
theorem dX9_work_59 : decode mX9_work.2.1 59 = .ok (.iinc 2 1, 3) := by decide +kernel
theorem dX9_work_62 : decode mX9_work.2.1 62 = .ok (.goto (-60), 3) := by decide +kernel
theorem dX9_work_65 : decode mX9_work.2.1 65 = .ok (.return_, 1) := by decide +kernel
theorem bX9_work_0 {SC : Nat → Nat} {X : mh_X} {d : Nat} {Q : Option am_V → am_W → Prop} {bc bs : Nat} {w : am_W} {x1 : Int}
    (h : am_A (mh_G X) SC (d + 1) mX9_work Q 2 [(0, .inr (.inr (some (7, 0)))), (1, .inl x1), (2, .inl 0)] [] w bc bs) :
    am_A (mh_G X) SC (d + 1) mX9_work Q 0 [(0, .inr (.inr (some (7, 0)))), (1, .inl x1)] [] w bc bs := by
  refine am_iconst dX9_work_0 (by unfold am_rg; omega) ?_
  refine am_istore_n (ls' := [(2, .inl 0), (0, .inr (.inr (some (7, 0)))), (1, .inl x1)]) dX9_work_1 (by decide) rfl ?_
  exact am_sub [1, 2, 0] rfl h
theorem bX9_work_2 {SC : Nat → Nat} {X : mh_X} {d : Nat} {Q : Option am_V → am_W → Prop} {bc bs : Nat} {w : am_W} {x1 : Int} {x2 : Int}
    (h : ((x1 ≤ x2 → Q none w) ∧ (¬ x1 ≤ x2 → (((w.1 7 0 9) ≤ 0 → Q none w) ∧ (¬ (w.1 7 0 9) ≤ 0 → (((w.1 7 0 10) ≤ 0 → Q none w) ∧ (¬ (w.1 7 0 10) ≤ 0 → am_A (mh_G X) SC (d + 1) mX9_work Q 23 [(0, .inr (.inr (some (7, 0)))), (1, .inl x1), (2, .inl x2), (3, .inl 0)] [] w bc bs))))))) :
    am_A (mh_G X) SC (d + 1) mX9_work Q 2 [(0, .inr (.inr (some (7, 0)))), (1, .inl x1), (2, .inl x2)] [] w bc bs := by
  refine am_iload_n dX9_work_2 (List.Mem.tail _ (List.Mem.tail _ (List.Mem.head _))) ?_
  refine am_iload_n dX9_work_3 (List.Mem.tail _ (List.Mem.head _)) ?_
  refine am_icmpge (tgt := 65) dX9_work_4 (by decide) (fun c1 => ?_) (fun c1 => ?_)
  · replace h := h.1 c1
    exact am_ret (r := none) dX9_work_65 rfl rfl h
  · replace h := h.2 c1
    refine am_aload_n dX9_work_7 (List.Mem.head _) ?_
    refine am_getf (f := 9) (v := .inl (w.1 7 0 9)) dX9_work_8 hc_8 (by decide) wd_490 (by decide) rfl rfl ?_
    refine am_ifle (tgt := 65) dX9_work_11 (by decide) (fun c2 => ?_) (fun c2 => ?_)
    · replace h := h.1 c2
      exact am_ret (r := none) dX9_work_65 rfl rfl h
    · replace h := h.2 c2
      refine am_aload_n dX9_work_14 (List.Mem.head _) ?_
      refine am_getf (f := 10) (v := .inl (w.1 7 0 10)) dX9_work_15 hc_8 (by decide) wd_493 (by decide) rfl rfl ?_
      refine am_ifle (tgt := 65) dX9_work_18 (by decide) (fun c3 => ?_) (fun c3 => ?_)
      · replace h := h.1 c3
        exact am_ret (r := none) dX9_work_65 rfl rfl h
      · replace h := h.2 c3
        refine am_iconst dX9_work_21 (by unfold am_rg; omega) ?_
        refine am_istore_n (ls' := [(3, .inl 0), (0, .inr (.inr (some (7, 0)))), (1, .inl x1), (2, .inl x2)]) dX9_work_22 (by decide) rfl ?_
        exact am_sub [1, 2, 3, 0] rfl h
theorem bX9_work_23 {SC : Nat → Nat} {X : mh_X} {d : Nat} {Q : Option am_V → am_W → Prop} {bc bs : Nat} {w : am_W} {x1 : Int} {x2 : Int} {x3 : Int}
    (h : (((w.1 7 0 9) ≤ x3 → am_A (mh_G X) SC (d + 1) mX9_work Q 55 [(0, .inr (.inr (some (7, 0)))), (1, .inl x1), (2, .inl x2)] [] w bc bs) ∧ (¬ (w.1 7 0 9) ≤ x3 → (((w.1 7 0 10) ≤ x3 → am_A (mh_G X) SC (d + 1) mX9_work Q 55 [(0, .inr (.inr (some (7, 0)))), (1, .inl x1), (2, .inl x2)] [] w bc bs) ∧ (¬ (w.1 7 0 10) ≤ x3 → (0 ≤ x3 ∧ (x3 < 20 ∧ am_A (mh_G X) SC (d + 1) mX9_work Q 23 [(0, .inr (.inr (some (7, 0)))), (1, .inl x1), (2, .inl x2), (3, .inl (am_w (x3 + 1)))] [] ((am_up w.1 57 0 x3.toNat (am_w ((w.1 57 0 x3.toNat) - 1))), w.2) bc bs))))))) :
    am_A (mh_G X) SC (d + 1) mX9_work Q 23 [(0, .inr (.inr (some (7, 0)))), (1, .inl x1), (2, .inl x2), (3, .inl x3)] [] w bc bs := by
  refine am_iload_n dX9_work_23 (List.Mem.tail _ (List.Mem.tail _ (List.Mem.tail _ (List.Mem.head _)))) ?_
  refine am_aload_n dX9_work_24 (List.Mem.head _) ?_
  refine am_getf (f := 9) (v := .inl (w.1 7 0 9)) dX9_work_25 hc_8 (by decide) wd_490 (by decide) rfl rfl ?_
  refine am_icmpge (tgt := 55) dX9_work_28 (by decide) (fun c1 => ?_) (fun c1 => ?_)
  · replace h := h.1 c1
    exact am_sub [0, 1, 2] rfl h
  · replace h := h.2 c1
    refine am_iload_n dX9_work_31 (List.Mem.tail _ (List.Mem.tail _ (List.Mem.tail _ (List.Mem.head _)))) ?_
    refine am_aload_n dX9_work_32 (List.Mem.head _) ?_
    refine am_getf (f := 10) (v := .inl (w.1 7 0 10)) dX9_work_33 hc_8 (by decide) wd_493 (by decide) rfl rfl ?_
    refine am_icmpge (tgt := 55) dX9_work_36 (by decide) (fun c2 => ?_) (fun c2 => ?_)
    · replace h := h.1 c2
      exact am_sub [0, 1, 2] rfl h
    · replace h := h.2 c2
      refine am_aload_n dX9_work_39 (List.Mem.head _) ?_
      refine am_getf (f := 7) (v := .inr (.inr (some (57, 0)))) dX9_work_40 hc_8 (by decide) wd_486 (by decide) rfl rfl ?_
      refine am_iload_n dX9_work_43 (List.Mem.tail _ (List.Mem.tail _ (List.Mem.tail _ (List.Mem.head _)))) ?_
      refine am_dup2 dX9_work_44 rfl rfl ?_
      have o3 := h.1
      replace h := h.2
      have o4 := h.1
      replace h := h.2
      refine am_iaload (v := (w.1 57 0 x3.toNat)) dX9_work_45 (by decide) rfl o3 o4 rfl ?_
      refine am_iconst dX9_work_46 (by unfold am_rg; omega) ?_
      refine am_isub dX9_work_47 ?_
      refine am_iastore dX9_work_48 (Or.inl (by decide)) rfl o3 o4 ?_
      refine am_iinc (ls' := [(3, .inl (am_w (x3 + 1))), (0, .inr (.inr (some (7, 0)))), (1, .inl x1), (2, .inl x2)]) dX9_work_49 (List.Mem.tail _ (List.Mem.tail _ (List.Mem.tail _ (List.Mem.head _)))) (by decide) rfl ?_
      refine am_goto (tgt := 23) dX9_work_52 (by decide) ?_
      exact am_sub [1, 2, 3, 0] rfl h
theorem bX9_work_55 {SC : Nat → Nat} {X : mh_X} {d : Nat} {Q : Option am_V → am_W → Prop} {bc bs : Nat} {w : am_W} {x1 : Int} {x2 : Int}
    (h : am_M (mh_G X) SC d 0 0 mX9_clearDone [.inr (.inr (some (7, 0)))] w (fun r w1 => am_A (mh_G X) SC (d + 1) mX9_work Q 59 [(0, .inr (.inr (some (7, 0)))), (1, .inl x1), (2, .inl x2)] (r.toList ++ []) w1 bc bs)) :
    am_A (mh_G X) SC (d + 1) mX9_work Q 55 [(0, .inr (.inr (some (7, 0)))), (1, .inl x1), (2, .inl x2)] [] w bc bs := by
  refine am_aload_n dX9_work_55 (List.Mem.head _) ?_
  exact am_callv (d' := d) (kc := 0) (ks := 0) (as := []) dX9_work_56 wc_X9_clearDone wd_1049 wd_1051 wd_26 wd_120 ds_X9_clearDone (by decide) (Nat.le_refl _) (Nat.le_of_ble_eq_true rfl) (Nat.zero_le _) (Nat.zero_le _) hc_8 (by decide) rfl rfl h
theorem bX9_work_59 {SC : Nat → Nat} {X : mh_X} {d : Nat} {Q : Option am_V → am_W → Prop} {bc bs : Nat} {w : am_W} {x1 : Int} {x2 : Int}
    (h : am_A (mh_G X) SC (d + 1) mX9_work Q 2 [(0, .inr (.inr (some (7, 0)))), (1, .inl x1), (2, .inl (am_w (x2 + 1)))] [] w bc bs) :
    am_A (mh_G X) SC (d + 1) mX9_work Q 59 [(0, .inr (.inr (some (7, 0)))), (1, .inl x1), (2, .inl x2)] [] w bc bs := by
  refine am_iinc (ls' := [(2, .inl (am_w (x2 + 1))), (0, .inr (.inr (some (7, 0)))), (1, .inl x1)]) dX9_work_59 (List.Mem.tail _ (List.Mem.tail _ (List.Mem.head _))) (by decide) rfl ?_
  refine am_goto (tgt := 2) dX9_work_62 (by decide) ?_
  exact am_sub [1, 2, 0] rfl h
-- MourningHouse$Wardrobe.clearDone()V
theorem dX9_clearDone_0 : decode mX9_clearDone.2.1 0 = .ok (.iconst 0, 1) := by decide +kernel
theorem dX9_clearDone_1 : decode mX9_clearDone.2.1 1 = .ok (.istore_n 1, 1) := by decide +kernel
theorem dX9_clearDone_2 : decode mX9_clearDone.2.1 2 = .ok (.iconst 0, 1) := by decide +kernel
theorem dX9_clearDone_3 : decode mX9_clearDone.2.1 3 = .ok (.istore_n 2, 1) := by decide +kernel
theorem dX9_clearDone_4 : decode mX9_clearDone.2.1 4 = .ok (.iload_n 2, 1) := by decide +kernel
theorem dX9_clearDone_5 : decode mX9_clearDone.2.1 5 = .ok (.aload_n 0, 1) := by decide +kernel
theorem dX9_clearDone_6 : decode mX9_clearDone.2.1 6 = .ok (.getfield 41, 3) := by decide +kernel
theorem dX9_clearDone_9 : decode mX9_clearDone.2.1 9 = .ok (.if_icmp .ge 77, 3) := by decide +kernel
theorem dX9_clearDone_12 : decode mX9_clearDone.2.1 12 = .ok (.aload_n 0, 1) := by decide +kernel
theorem dX9_clearDone_13 : decode mX9_clearDone.2.1 13 = .ok (.getfield 34, 3) := by decide +kernel
theorem dX9_clearDone_16 : decode mX9_clearDone.2.1 16 = .ok (.iload_n 2, 1) := by decide +kernel
theorem dX9_clearDone_17 : decode mX9_clearDone.2.1 17 = .ok (.iaload, 1) := by decide +kernel
theorem dX9_clearDone_18 : decode mX9_clearDone.2.1 18 = .ok (.ifCond .gt 11, 3) := by decide +kernel
theorem dX9_clearDone_21 : decode mX9_clearDone.2.1 21 = .ok (.aload_n 0, 1) := by decide +kernel
theorem dX9_clearDone_22 : decode mX9_clearDone.2.1 22 = .ok (.iload_n 2, 1) := by decide +kernel
theorem dX9_clearDone_23 : decode mX9_clearDone.2.1 23 = .ok (.invokevirtual 68, 3) := by decide +kernel
theorem dX9_clearDone_26 : decode mX9_clearDone.2.1 26 = .ok (.goto 54, 3) := by decide +kernel
theorem dX9_clearDone_29 : decode mX9_clearDone.2.1 29 = .ok (.aload_n 0, 1) := by decide +kernel
theorem dX9_clearDone_30 : decode mX9_clearDone.2.1 30 = .ok (.getfield 25, 3) := by decide +kernel
theorem dX9_clearDone_33 : decode mX9_clearDone.2.1 33 = .ok (.iload_n 1, 1) := by decide +kernel
theorem dX9_clearDone_34 : decode mX9_clearDone.2.1 34 = .ok (.aload_n 0, 1) := by decide +kernel
theorem dX9_clearDone_35 : decode mX9_clearDone.2.1 35 = .ok (.getfield 25, 3) := by decide +kernel
theorem dX9_clearDone_38 : decode mX9_clearDone.2.1 38 = .ok (.iload_n 2, 1) := by decide +kernel
theorem dX9_clearDone_39 : decode mX9_clearDone.2.1 39 = .ok (.iaload, 1) := by decide +kernel
theorem dX9_clearDone_40 : decode mX9_clearDone.2.1 40 = .ok (.iastore, 1) := by decide +kernel
theorem dX9_clearDone_41 : decode mX9_clearDone.2.1 41 = .ok (.aload_n 0, 1) := by decide +kernel
theorem dX9_clearDone_42 : decode mX9_clearDone.2.1 42 = .ok (.getfield 28, 3) := by decide +kernel
theorem dX9_clearDone_45 : decode mX9_clearDone.2.1 45 = .ok (.iload_n 1, 1) := by decide +kernel
theorem dX9_clearDone_46 : decode mX9_clearDone.2.1 46 = .ok (.aload_n 0, 1) := by decide +kernel
theorem dX9_clearDone_47 : decode mX9_clearDone.2.1 47 = .ok (.getfield 28, 3) := by decide +kernel
theorem dX9_clearDone_50 : decode mX9_clearDone.2.1 50 = .ok (.iload_n 2, 1) := by decide +kernel
theorem dX9_clearDone_51 : decode mX9_clearDone.2.1 51 = .ok (.iaload, 1) := by decide +kernel
theorem dX9_clearDone_52 : decode mX9_clearDone.2.1 52 = .ok (.iastore, 1) := by decide +kernel
theorem dX9_clearDone_53 : decode mX9_clearDone.2.1 53 = .ok (.aload_n 0, 1) := by decide +kernel
theorem dX9_clearDone_54 : decode mX9_clearDone.2.1 54 = .ok (.getfield 31, 3) := by decide +kernel
theorem dX9_clearDone_57 : decode mX9_clearDone.2.1 57 = .ok (.iload_n 1, 1) := by decide +kernel
theorem dX9_clearDone_58 : decode mX9_clearDone.2.1 58 = .ok (.aload_n 0, 1) := by decide +kernel
theorem dX9_clearDone_59 : decode mX9_clearDone.2.1 59 = .ok (.getfield 31, 3) := by decide +kernel
theorem dX9_clearDone_62 : decode mX9_clearDone.2.1 62 = .ok (.iload_n 2, 1) := by decide +kernel
theorem dX9_clearDone_63 : decode mX9_clearDone.2.1 63 = .ok (.iaload, 1) := by decide +kernel
theorem dX9_clearDone_64 : decode mX9_clearDone.2.1 64 = .ok (.iastore, 1) := by decide +kernel
theorem dX9_clearDone_65 : decode mX9_clearDone.2.1 65 = .ok (.aload_n 0, 1) := by decide +kernel
theorem dX9_clearDone_66 : decode mX9_clearDone.2.1 66 = .ok (.getfield 34, 3) := by decide +kernel
theorem dX9_clearDone_69 : decode mX9_clearDone.2.1 69 = .ok (.iload_n 1, 1) := by decide +kernel
theorem dX9_clearDone_70 : decode mX9_clearDone.2.1 70 = .ok (.aload_n 0, 1) := by decide +kernel
theorem dX9_clearDone_71 : decode mX9_clearDone.2.1 71 = .ok (.getfield 34, 3) := by decide +kernel
theorem dX9_clearDone_74 : decode mX9_clearDone.2.1 74 = .ok (.iload_n 2, 1) := by decide +kernel
theorem dX9_clearDone_75 : decode mX9_clearDone.2.1 75 = .ok (.iaload, 1) := by decide +kernel
theorem dX9_clearDone_76 : decode mX9_clearDone.2.1 76 = .ok (.iastore, 1) := by decide +kernel
theorem dX9_clearDone_77 : decode mX9_clearDone.2.1 77 = .ok (.iinc 1 1, 3) := by decide +kernel
theorem dX9_clearDone_80 : decode mX9_clearDone.2.1 80 = .ok (.iinc 2 1, 3) := by decide +kernel
theorem dX9_clearDone_83 : decode mX9_clearDone.2.1 83 = .ok (.goto (-79), 3) := by decide +kernel
theorem dX9_clearDone_86 : decode mX9_clearDone.2.1 86 = .ok (.aload_n 0, 1) := by decide +kernel
theorem dX9_clearDone_87 : decode mX9_clearDone.2.1 87 = .ok (.iload_n 1, 1) := by decide +kernel
theorem dX9_clearDone_88 : decode mX9_clearDone.2.1 88 = .ok (.putfield 41, 3) := by decide +kernel
theorem dX9_clearDone_91 : decode mX9_clearDone.2.1 91 = .ok (.return_, 1) := by decide +kernel
theorem bX9_clearDone_0 {SC : Nat → Nat} {X : mh_X} {d : Nat} {Q : Option am_V → am_W → Prop} {bc bs : Nat} {w : am_W} 
    (h : am_A (mh_G X) SC (d + 1) mX9_clearDone Q 4 [(0, .inr (.inr (some (7, 0)))), (1, .inl 0), (2, .inl 0)] [] w bc bs) :
    am_A (mh_G X) SC (d + 1) mX9_clearDone Q 0 [(0, .inr (.inr (some (7, 0))))] [] w bc bs := by
  refine am_iconst dX9_clearDone_0 (by unfold am_rg; omega) ?_
  refine am_istore_n (ls' := [(1, .inl 0), (0, .inr (.inr (some (7, 0))))]) dX9_clearDone_1 (by decide) rfl ?_
  refine am_iconst dX9_clearDone_2 (by unfold am_rg; omega) ?_
  refine am_istore_n (ls' := [(2, .inl 0), (1, .inl 0), (0, .inr (.inr (some (7, 0))))]) dX9_clearDone_3 (by decide) rfl ?_
  exact am_sub [2, 1, 0] rfl h
theorem bX9_clearDone_4 {SC : Nat → Nat} {X : mh_X} {d : Nat} {Q : Option am_V → am_W → Prop} {bc bs : Nat} {w : am_W} {x1 : Int} {x2 : Int}
    (h : (((w.1 7 0 9) ≤ x2 → Q none ((am_up w.1 7 0 9 x1), w.2)) ∧ (¬ (w.1 7 0 9) ≤ x2 → (0 ≤ x2 ∧ (x2 < 20 ∧ ((0 < (w.1 57 0 x2.toNat) → (0 ≤ x1 ∧ (x1 < 20 ∧ am_A (mh_G X) SC (d + 1) mX9_clearDone Q 80 [(0, .inr (.inr (some (7, 0)))), (1, .inl (am_w (x1 + 1))), (2, .inl x2)] [] ((am_up (am_up (am_up (am_up w.1 54 0 x1.toNat (w.1 54 0 x2.toNat)) 55 0 x1.toNat (w.1 55 0 x2.toNat)) 56 0 x1.toNat (w.1 56 0 x2.toNat)) 57 0 x1.toNat (w.1 57 0 x2.toNat)), w.2) bc bs))) ∧ (¬ 0 < (w.1 57 0 x2.toNat) → am_M (mh_G X) SC d 0 0 mX9_bring [.inr (.inr (some (7, 0))), .inl x2] w (fun r w1 => am_A (mh_G X) SC (d + 1) mX9_clearDone Q 26 [(0, .inr (.inr (some (7, 0)))), (1, .inl x1), (2, .inl x2)] (r.toList ++ []) w1 bc bs)))))))) :
    am_A (mh_G X) SC (d + 1) mX9_clearDone Q 4 [(0, .inr (.inr (some (7, 0)))), (1, .inl x1), (2, .inl x2)] [] w bc bs := by
  refine am_iload_n dX9_clearDone_4 (List.Mem.tail _ (List.Mem.tail _ (List.Mem.head _))) ?_
  refine am_aload_n dX9_clearDone_5 (List.Mem.head _) ?_
  refine am_getf (f := 9) (v := .inl (w.1 7 0 9)) dX9_clearDone_6 hc_8 (by decide) wd_490 (by decide) rfl rfl ?_
  refine am_icmpge (tgt := 86) dX9_clearDone_9 (by decide) (fun c1 => ?_) (fun c1 => ?_)
  · replace h := h.1 c1
    refine am_aload_n dX9_clearDone_86 (List.Mem.head _) ?_
    refine am_iload_n dX9_clearDone_87 (List.Mem.tail _ (List.Mem.head _)) ?_
    refine am_putf (f := 9) dX9_clearDone_88 hc_8 (by decide) wd_490 rfl (Or.inl rfl) (Or.inl (by decide)) rfl ?_
    exact am_ret (r := none) dX9_clearDone_91 rfl rfl h
  · replace h := h.2 c1
    refine am_aload_n dX9_clearDone_12 (List.Mem.head _) ?_
    refine am_getf (f := 7) (v := .inr (.inr (some (57, 0)))) dX9_clearDone_13 hc_8 (by decide) wd_486 (by decide) rfl rfl ?_
    refine am_iload_n dX9_clearDone_16 (List.Mem.tail _ (List.Mem.tail _ (List.Mem.head _))) ?_
    have o2 := h.1
    replace h := h.2
    have o3 := h.1
    replace h := h.2
    refine am_iaload (v := (w.1 57 0 x2.toNat)) dX9_clearDone_17 (by decide) rfl o2 o3 rfl ?_
    refine am_ifgt (tgt := 29) dX9_clearDone_18 (by decide) (fun c4 => ?_) (fun c4 => ?_)
    · replace h := h.1 c4
      refine am_aload_n dX9_clearDone_29 (List.Mem.head _) ?_
      refine am_getf (f := 4) (v := .inr (.inr (some (54, 0)))) dX9_clearDone_30 hc_8 (by decide) wd_483 (by decide) rfl rfl ?_
      refine am_iload_n dX9_clearDone_33 (List.Mem.tail _ (List.Mem.head _)) ?_
      refine am_aload_n dX9_clearDone_34 (List.Mem.head _) ?_
      refine am_getf (f := 4) (v := .inr (.inr (some (54, 0)))) dX9_clearDone_35 hc_8 (by decide) wd_483 (by decide) rfl rfl ?_
      refine am_iload_n dX9_clearDone_38 (List.Mem.tail _ (List.Mem.tail _ (List.Mem.head _))) ?_
      refine am_iaload (v := (w.1 54 0 x2.toNat)) dX9_clearDone_39 (by decide) rfl o2 o3 rfl ?_
      have o5 := h.1
      replace h := h.2
      have o6 := h.1
      replace h := h.2
      refine am_iastore dX9_clearDone_40 (Or.inl (by decide)) rfl o5 o6 ?_
      refine am_aload_n dX9_clearDone_41 (List.Mem.head _) ?_
      refine am_getf (f := 5) (v := .inr (.inr (some (55, 0)))) dX9_clearDone_42 hc_8 (by decide) wd_484 (by decide) rfl rfl ?_
      refine am_iload_n dX9_clearDone_45 (List.Mem.tail _ (List.Mem.head _)) ?_
      refine am_aload_n dX9_clearDone_46 (List.Mem.head _) ?_
      refine am_getf (f := 5) (v := .inr (.inr (some (55, 0)))) dX9_clearDone_47 hc_8 (by decide) wd_484 (by decide) rfl rfl ?_
      refine am_iload_n dX9_clearDone_50 (List.Mem.tail _ (List.Mem.tail _ (List.Mem.head _))) ?_
      refine am_iaload (v := (w.1 55 0 x2.toNat)) dX9_clearDone_51 (by decide) rfl o2 o3 rfl ?_
      refine am_iastore dX9_clearDone_52 (Or.inl (by decide)) rfl o5 o6 ?_
      refine am_aload_n dX9_clearDone_53 (List.Mem.head _) ?_
      refine am_getf (f := 6) (v := .inr (.inr (some (56, 0)))) dX9_clearDone_54 hc_8 (by decide) wd_485 (by decide) rfl rfl ?_
      refine am_iload_n dX9_clearDone_57 (List.Mem.tail _ (List.Mem.head _)) ?_
      refine am_aload_n dX9_clearDone_58 (List.Mem.head _) ?_
      refine am_getf (f := 6) (v := .inr (.inr (some (56, 0)))) dX9_clearDone_59 hc_8 (by decide) wd_485 (by decide) rfl rfl ?_
      refine am_iload_n dX9_clearDone_62 (List.Mem.tail _ (List.Mem.tail _ (List.Mem.head _))) ?_
      refine am_iaload (v := (w.1 56 0 x2.toNat)) dX9_clearDone_63 (by decide) rfl o2 o3 rfl ?_
      refine am_iastore dX9_clearDone_64 (Or.inl (by decide)) rfl o5 o6 ?_
      refine am_aload_n dX9_clearDone_65 (List.Mem.head _) ?_
      refine am_getf (f := 7) (v := .inr (.inr (some (57, 0)))) dX9_clearDone_66 hc_8 (by decide) wd_486 (by decide) rfl rfl ?_
      refine am_iload_n dX9_clearDone_69 (List.Mem.tail _ (List.Mem.head _)) ?_
      refine am_aload_n dX9_clearDone_70 (List.Mem.head _) ?_
      refine am_getf (f := 7) (v := .inr (.inr (some (57, 0)))) dX9_clearDone_71 hc_8 (by decide) wd_486 (by decide) rfl rfl ?_
      refine am_iload_n dX9_clearDone_74 (List.Mem.tail _ (List.Mem.tail _ (List.Mem.head _))) ?_
      refine am_iaload (v := (w.1 57 0 x2.toNat)) dX9_clearDone_75 (by decide) rfl o2 o3 rfl ?_
      refine am_iastore dX9_clearDone_76 (Or.inl (by decide)) rfl o5 o6 ?_
      refine am_iinc (ls' := [(1, .inl (am_w (x1 + 1))), (0, .inr (.inr (some (7, 0)))), (2, .inl x2)]) dX9_clearDone_77 (List.Mem.tail _ (List.Mem.head _)) (by decide) rfl ?_
      exact am_sub [1, 0, 2] rfl h
    · replace h := h.2 c4
      refine am_aload_n dX9_clearDone_21 (List.Mem.head _) ?_
      refine am_iload_n dX9_clearDone_22 (List.Mem.tail _ (List.Mem.tail _ (List.Mem.head _))) ?_
      exact am_callv (d' := d) (kc := 0) (ks := 0) (as := [.inl x2]) dX9_clearDone_23 wc_X9_bring wd_1053 wd_1055 wd_27 wd_120 ds_X9_bring (by decide) (Nat.le_refl _) (Nat.le_of_ble_eq_true rfl) (Nat.zero_le _) (Nat.zero_le _) hc_8 (by decide) rfl rfl h
theorem bX9_clearDone_80 {SC : Nat → Nat} {X : mh_X} {d : Nat} {Q : Option am_V → am_W → Prop} {bc bs : Nat} {w : am_W} {x1 : Int} {x2 : Int}
    (h : am_A (mh_G X) SC (d + 1) mX9_clearDone Q 4 [(0, .inr (.inr (some (7, 0)))), (1, .inl x1), (2, .inl (am_w (x2 + 1)))] [] w bc bs) :
    am_A (mh_G X) SC (d + 1) mX9_clearDone Q 80 [(0, .inr (.inr (some (7, 0)))), (1, .inl x1), (2, .inl x2)] [] w bc bs := by
  refine am_iinc (ls' := [(2, .inl (am_w (x2 + 1))), (0, .inr (.inr (some (7, 0)))), (1, .inl x1)]) dX9_clearDone_80 (List.Mem.tail _ (List.Mem.tail _ (List.Mem.head _))) (by decide) rfl ?_
  refine am_goto (tgt := 4) dX9_clearDone_83 (by decide) ?_
  exact am_sub [1, 2, 0] rfl h
theorem bX9_clearDone_26 {SC : Nat → Nat} {X : mh_X} {d : Nat} {Q : Option am_V → am_W → Prop} {bc bs : Nat} {w : am_W} {x1 : Int} {x2 : Int}
    (h : am_A (mh_G X) SC (d + 1) mX9_clearDone Q 80 [(0, .inr (.inr (some (7, 0)))), (1, .inl x1), (2, .inl x2)] [] w bc bs) :
    am_A (mh_G X) SC (d + 1) mX9_clearDone Q 26 [(0, .inr (.inr (some (7, 0)))), (1, .inl x1), (2, .inl x2)] [] w bc bs := by
  refine am_goto (tgt := 80) dX9_clearDone_26 (by decide) ?_
  exact h
-- MourningHouse$Wardrobe.bring(I)V
theorem dX9_bring_0 : decode mX9_bring.2.1 0 = .ok (.aload_n 0, 1) := by decide +kernel
theorem dX9_bring_1 : decode mX9_bring.2.1 1 = .ok (.getfield 25, 3) := by decide +kernel
theorem dX9_bring_4 : decode mX9_bring.2.1 4 = .ok (.iload_n 1, 1) := by decide +kernel
theorem dX9_bring_5 : decode mX9_bring.2.1 5 = .ok (.iaload, 1) := by decide +kernel
theorem dX9_bring_6 : decode mX9_bring.2.1 6 = .ok (.istore_n 2, 1) := by decide +kernel
theorem dX9_bring_7 : decode mX9_bring.2.1 7 = .ok (.aload_n 0, 1) := by decide +kernel
theorem dX9_bring_8 : decode mX9_bring.2.1 8 = .ok (.iload_n 2, 1) := by decide +kernel
theorem dX9_bring_9 : decode mX9_bring.2.1 9 = .ok (.invokevirtual 54, 3) := by decide +kernel
theorem dX9_bring_12 : decode mX9_bring.2.1 12 = .ok (.ifCond .eq 25, 3) := by decide +kernel
theorem dX9_bring_15 : decode mX9_bring.2.1 15 = .ok (.aload_n 0, 1) := by decide +kernel
theorem dX9_bring_16 : decode mX9_bring.2.1 16 = .ok (.getfield 15, 3) := by decide +kernel
theorem dX9_bring_19 : decode mX9_bring.2.1 19 = .ok (.iload_n 2, 1) := by decide +kernel
theorem dX9_bring_20 : decode mX9_bring.2.1 20 = .ok (.aload_n 0, 1) := by decide +kernel
theorem dX9_bring_21 : decode mX9_bring.2.1 21 = .ok (.getfield 31, 3) := by decide +kernel
theorem dX9_bring_24 : decode mX9_bring.2.1 24 = .ok (.iload_n 1, 1) := by decide +kernel
theorem dX9_bring_25 : decode mX9_bring.2.1 25 = .ok (.iaload, 1) := by decide +kernel
theorem dX9_bring_26 : decode mX9_bring.2.1 26 = .ok (.iastore, 1) := by decide +kernel
theorem dX9_bring_27 : decode mX9_bring.2.1 27 = .ok (.aload_n 0, 1) := by decide +kernel
theorem dX9_bring_28 : decode mX9_bring.2.1 28 = .ok (.getfield 18, 3) := by decide +kernel
theorem dX9_bring_31 : decode mX9_bring.2.1 31 = .ok (.iload_n 2, 1) := by decide +kernel
theorem dX9_bring_32 : decode mX9_bring.2.1 32 = .ok (.iconst 0, 1) := by decide +kernel
theorem dX9_bring_33 : decode mX9_bring.2.1 33 = .ok (.bastore, 1) := by decide +kernel
theorem dX9_bring_34 : decode mX9_bring.2.1 34 = .ok (.goto 39, 3) := by decide +kernel
theorem dX9_bring_37 : decode mX9_bring.2.1 37 = .ok (.aload_n 0, 1) := by decide +kernel
theorem dX9_bring_38 : decode mX9_bring.2.1 38 = .ok (.getfield 37, 3) := by decide +kernel
theorem dX9_bring_41 : decode mX9_bring.2.1 41 = .ok (.bipush 40, 2) := by decide +kernel
theorem dX9_bring_43 : decode mX9_bring.2.1 43 = .ok (.if_icmp .ge 30, 3) := by decide +kernel
theorem dX9_bring_46 : decode mX9_bring.2.1 46 = .ok (.aload_n 0, 1) := by decide +kernel
theorem dX9_bring_47 : decode mX9_bring.2.1 47 = .ok (.dup, 1) := by decide +kernel
theorem dX9_bring_48 : decode mX9_bring.2.1 48 = .ok (.getfield 47, 3) := by decide +kernel
theorem dX9_bring_51 : decode mX9_bring.2.1 51 = .ok (.iconst 1, 1) := by decide +kernel
theorem dX9_bring_52 : decode mX9_bring.2.1 52 = .ok (.isub, 1) := by decide +kernel
theorem dX9_bring_53 : decode mX9_bring.2.1 53 = .ok (.putfield 47, 3) := by decide +kernel
theorem dX9_bring_56 : decode mX9_bring.2.1 56 = .ok (.aload_n 0, 1) := by decide +kernel
theorem dX9_bring_57 : decode mX9_bring.2.1 57 = .ok (.aload_n 0, 1) := by decide +kernel
theorem dX9_bring_58 : decode mX9_bring.2.1 58 = .ok (.getfield 28, 3) := by decide +kernel
theorem dX9_bring_61 : decode mX9_bring.2.1 61 = .ok (.iload_n 1, 1) := by decide +kernel
theorem dX9_bring_62 : decode mX9_bring.2.1 62 = .ok (.iaload, 1) := by decide +kernel
theorem dX9_bring_63 : decode mX9_bring.2.1 63 = .ok (.aload_n 0, 1) := by decide +kernel
theorem dX9_bring_64 : decode mX9_bring.2.1 64 = .ok (.getfield 31, 3) := by decide +kernel
theorem dX9_bring_67 : decode mX9_bring.2.1 67 = .ok (.iload_n 1, 1) := by decide +kernel
theorem dX9_bring_68 : decode mX9_bring.2.1 68 = .ok (.iaload, 1) := by decide +kernel
theorem dX9_bring_69 : decode mX9_bring.2.1 69 = .ok (.invokevirtual 72, 3) := by decide +kernel
theorem dX9_bring_72 : decode mX9_bring.2.1 72 = .ok (.pop, 1) := by decide +kernel
theorem dX9_bring_73 : decode mX9_bring.2.1 73 = .ok (.return_, 1) := by decide +kernel
theorem bX9_bring_0 {SC : Nat → Nat} {X : mh_X} {d : Nat} {Q : Option am_V → am_W → Prop} {bc bs : Nat} {w : am_W} {x1 : Int}
    (h : (0 ≤ x1 ∧ (x1 < 20 ∧ am_M (mh_G X) SC d 0 0 mX9_has [.inr (.inr (some (7, 0))), .inl (w.1 54 0 x1.toNat)] w (fun r w1 => am_A (mh_G X) SC (d + 1) mX9_bring Q 12 [(2, .inl (w.1 54 0 x1.toNat)), (0, .inr (.inr (some (7, 0)))), (1, .inl x1)] (r.toList ++ []) w1 bc bs)))) :
    am_A (mh_G X) SC (d + 1) mX9_bring Q 0 [(0, .inr (.inr (some (7, 0)))), (1, .inl x1)] [] w bc bs := by
  refine am_aload_n dX9_bring_0 (List.Mem.head _) ?_
  refine am_getf (f := 4) (v := .inr (.inr (some (54, 0)))) dX9_bring_1 hc_8 (by decide) wd_483 (by decide) rfl rfl ?_
  refine am_iload_n dX9_bring_4 (List.Mem.tail _ (List.Mem.head _)) ?_
  have o1 := h.1
  replace h := h.2
  have o2 := h.1
  replace h := h.2
  refine am_iaload (v := (w.1 54 0 x1.toNat)) dX9_bring_5 (by decide) rfl o1 o2 rfl ?_
  refine am_istore_n (ls' := [(2, .inl (w.1 54 0 x1.toNat)), (0, .inr (.inr (some (7, 0)))), (1, .inl x1)]) dX9_bring_6 (by decide) rfl ?_
  refine am_aload_n dX9_bring_7 (List.Mem.tail _ (List.Mem.head _)) ?_
  refine am_iload_n dX9_bring_8 (List.Mem.head _) ?_
  exact am_callv (d' := d) (kc := 0) (ks := 0) (as := [.inl (w.1 54 0 x1.toNat)]) dX9_bring_9 wc_X9_has wd_1057 wd_1058 wd_1059 wd_120 ds_X9_has (by decide) (Nat.le_refl _) (Nat.le_of_ble_eq_true rfl) (Nat.zero_le _) (Nat.zero_le _) hc_8 (by decide) rfl rfl h
theorem bX9_bring_12 {SC : Nat → Nat} {X : mh_X} {d : Nat} {Q : Option am_V → am_W → Prop} {bc bs : Nat} {w : am_W} {x2 : Int} {x1 : Int} {xs0 : Int}
    (h : ((xs0 = 0 → ((40 ≤ (w.1 7 0 8) → Q none w) ∧ (¬ 40 ≤ (w.1 7 0 8) → (0 ≤ x1 ∧ (x1 < 20 ∧ am_M (mh_G X) SC d 0 0 mX9_hang [.inr (.inr (some (7, 0))), .inl (w.1 55 0 x1.toNat), .inl (w.1 56 0 x1.toNat)] ((am_up w.1 7 0 11 (am_w ((w.1 7 0 11) - 1))), w.2) (fun r w1 => am_A (mh_G X) SC (d + 1) mX9_bring Q 72 [(2, .inl x2), (0, .inr (.inr (some (7, 0)))), (1, .inl x1)] (r.toList ++ []) w1 bc bs)))))) ∧ (¬ xs0 = 0 → (0 ≤ x1 ∧ (x1 < 20 ∧ (0 ≤ x2 ∧ (x2 < 40 ∧ Q none ((am_up (am_up w.1 51 0 x2.toNat (w.1 56 0 x1.toNat)) 52 0 x2.toNat 0), w.2)))))))) :
    am_A (mh_G X) SC (d + 1) mX9_bring Q 12 [(2, .inl x2), (0, .inr (.inr (some (7, 0)))), (1, .inl x1)] [.inl xs0] w bc bs := by
  refine am_ifeq (tgt := 37) dX9_bring_12 (by decide) (fun c1 => ?_) (fun c1 => ?_)
  · replace h := h.1 c1
    refine am_aload_n dX9_bring_37 (List.Mem.tail _ (List.Mem.head _)) ?_
    refine am_getf (f := 8) (v := .inl (w.1 7 0 8)) dX9_bring_38 hc_8 (by decide) wd_488 (by decide) rfl rfl ?_
    refine am_bipush dX9_bring_41 (by decide) (by unfold am_rg; omega) ?_
    refine am_icmpge (tgt := 73) dX9_bring_43 (by decide) (fun c2 => ?_) (fun c2 => ?_)
    · replace h := h.1 c2
      exact am_ret (r := none) dX9_bring_73 rfl rfl h
    · replace h := h.2 c2
      refine am_aload_n dX9_bring_46 (List.Mem.tail _ (List.Mem.head _)) ?_
      refine am_dup dX9_bring_47 rfl ?_
      refine am_getf (f := 11) (v := .inl (w.1 7 0 11)) dX9_bring_48 hc_8 (by decide) wd_496 (by decide) rfl rfl ?_
      refine am_iconst dX9_bring_51 (by unfold am_rg; omega) ?_
      refine am_isub dX9_bring_52 ?_
      refine am_putf (f := 11) dX9_bring_53 hc_8 (by decide) wd_496 rfl (Or.inl rfl) (Or.inl (by decide)) rfl ?_
      refine am_aload_n dX9_bring_56 (List.Mem.tail _ (List.Mem.head _)) ?_
      refine am_aload_n dX9_bring_57 (List.Mem.tail _ (List.Mem.head _)) ?_
      refine am_getf (f := 5) (v := .inr (.inr (some (55, 0)))) dX9_bring_58 hc_8 (by decide) wd_484 (by decide) rfl rfl ?_
      refine am_iload_n dX9_bring_61 (List.Mem.tail _ (List.Mem.tail _ (List.Mem.head _))) ?_
      have o3 := h.1
      replace h := h.2
      have o4 := h.1
      replace h := h.2
      refine am_iaload (v := (w.1 55 0 x1.toNat)) dX9_bring_62 (by decide) rfl o3 o4 rfl ?_
      refine am_aload_n dX9_bring_63 (List.Mem.tail _ (List.Mem.head _)) ?_
      refine am_getf (f := 6) (v := .inr (.inr (some (56, 0)))) dX9_bring_64 hc_8 (by decide) wd_485 (by decide) rfl rfl ?_
      refine am_iload_n dX9_bring_67 (List.Mem.tail _ (List.Mem.tail _ (List.Mem.head _))) ?_
      refine am_iaload (v := (w.1 56 0 x1.toNat)) dX9_bring_68 (by decide) rfl o3 o4 rfl ?_
      exact am_callv (d' := d) (kc := 0) (ks := 0) (as := [.inl (w.1 55 0 x1.toNat), .inl (w.1 56 0 x1.toNat)]) dX9_bring_69 wc_X9_hang wd_1061 wd_1062 wd_1063 wd_120 ds_X9_hang (by decide) (Nat.le_refl _) (Nat.le_of_ble_eq_true rfl) (Nat.zero_le _) (Nat.zero_le _) hc_8 (by decide) rfl rfl h
  · replace h := h.2 c1
    refine am_aload_n dX9_bring_15 (List.Mem.tail _ (List.Mem.head _)) ?_
    refine am_getf (f := 1) (v := .inr (.inr (some (51, 0)))) dX9_bring_16 hc_8 (by decide) wd_477 (by decide) rfl rfl ?_
    refine am_iload_n dX9_bring_19 (List.Mem.head _) ?_
    refine am_aload_n dX9_bring_20 (List.Mem.tail _ (List.Mem.head _)) ?_
    refine am_getf (f := 6) (v := .inr (.inr (some (56, 0)))) dX9_bring_21 hc_8 (by decide) wd_485 (by decide) rfl rfl ?_
    refine am_iload_n dX9_bring_24 (List.Mem.tail _ (List.Mem.tail _ (List.Mem.head _))) ?_
    have o5 := h.1
    replace h := h.2
    have o6 := h.1
    replace h := h.2
    refine am_iaload (v := (w.1 56 0 x1.toNat)) dX9_bring_25 (by decide) rfl o5 o6 rfl ?_
    have o7 := h.1
    replace h := h.2
    have o8 := h.1
    replace h := h.2
    refine am_iastore dX9_bring_26 (Or.inl (by decide)) rfl o7 o8 ?_
    refine am_aload_n dX9_bring_27 (List.Mem.tail _ (List.Mem.head _)) ?_
    refine am_getf (f := 2) (v := .inr (.inr (some (52, 0)))) dX9_bring_28 hc_8 (by decide) wd_479 (by decide) rfl rfl ?_
    refine am_iload_n dX9_bring_31 (List.Mem.head _) ?_
    refine am_iconst dX9_bring_32 (by unfold am_rg; omega) ?_
    refine am_zastore (by decide) dX9_bring_33 (Or.inl (by decide)) rfl o7 o8 ?_
    refine am_goto (tgt := 73) dX9_bring_34 (by decide) ?_
    exact am_ret (r := none) dX9_bring_73 rfl rfl h
theorem bX9_bring_72 {SC : Nat → Nat} {X : mh_X} {d : Nat} {Q : Option am_V → am_W → Prop} {bc bs : Nat} {w : am_W} {x2 : Int} {x1 : Int} {xs0 : Int}
    (h : Q none w) :
    am_A (mh_G X) SC (d + 1) mX9_bring Q 72 [(2, .inl x2), (0, .inr (.inr (some (7, 0)))), (1, .inl x1)] [.inl xs0] w bc bs := by
  refine am_pop dX9_bring_72 rfl ?_
  exact am_ret (r := none) dX9_bring_73 rfl rfl h
-- MourningHouse$Wardrobe.leastDress(IIJ)I
theorem dX9_leastDress_0 : decode mX9_leastDress.2.1 0 = .ok (.iconst 0, 1) := by decide +kernel
theorem dX9_leastDress_1 : decode mX9_leastDress.2.1 1 = .ok (.istore 5, 2) := by decide +kernel
theorem dX9_leastDress_3 : decode mX9_leastDress.2.1 3 = .ok (.iload 5, 2) := by decide +kernel
theorem dX9_leastDress_5 : decode mX9_leastDress.2.1 5 = .ok (.aload_n 0, 1) := by decide +kernel
theorem dX9_leastDress_6 : decode mX9_leastDress.2.1 6 = .ok (.getfield 37, 3) := by decide +kernel
theorem dX9_leastDress_9 : decode mX9_leastDress.2.1 9 = .ok (.if_icmp .ge 67, 3) := by decide +kernel
theorem dX9_leastDress_12 : decode mX9_leastDress.2.1 12 = .ok (.aload_n 0, 1) := by decide +kernel
theorem dX9_leastDress_13 : decode mX9_leastDress.2.1 13 = .ok (.getfield 18, 3) := by decide +kernel
theorem dX9_leastDress_16 : decode mX9_leastDress.2.1 16 = .ok (.iload 5, 2) := by decide +kernel
theorem dX9_leastDress_18 : decode mX9_leastDress.2.1 18 = .ok (.baload, 1) := by decide +kernel
theorem dX9_leastDress_19 : decode mX9_leastDress.2.1 19 = .ok (.ifCond .ne 18, 3) := by decide +kernel
theorem dX9_leastDress_22 : decode mX9_leastDress.2.1 22 = .ok (.lload_n 3, 1) := by decide +kernel
theorem dX9_leastDress_23 : decode mX9_leastDress.2.1 23 = .ok (.iload 5, 2) := by decide +kernel
theorem dX9_leastDress_25 : decode mX9_leastDress.2.1 25 = .ok (.lshr, 1) := by decide +kernel
theorem dX9_leastDress_26 : decode mX9_leastDress.2.1 26 = .ok (.lconst 1, 1) := by decide +kernel
theorem dX9_leastDress_27 : decode mX9_leastDress.2.1 27 = .ok (.land, 1) := by decide +kernel
theorem dX9_leastDress_28 : decode mX9_leastDress.2.1 28 = .ok (.lconst 0, 1) := by decide +kernel
theorem dX9_leastDress_29 : decode mX9_leastDress.2.1 29 = .ok (.lcmp, 1) := by decide +kernel
theorem dX9_leastDress_30 : decode mX9_leastDress.2.1 30 = .ok (.ifCond .ne 7, 3) := by decide +kernel
theorem dX9_leastDress_33 : decode mX9_leastDress.2.1 33 = .ok (.iconst 1, 1) := by decide +kernel
theorem dX9_leastDress_34 : decode mX9_leastDress.2.1 34 = .ok (.goto 4, 3) := by decide +kernel
theorem dX9_leastDress_37 : decode mX9_leastDress.2.1 37 = .ok (.iconst 0, 1) := by decide +kernel
theorem dX9_leastDress_38 : decode mX9_leastDress.2.1 38 = .ok (.istore 6, 2) := by decide +kernel
theorem dX9_leastDress_40 : decode mX9_leastDress.2.1 40 = .ok (.iload 6, 2) := by decide +kernel
theorem dX9_leastDress_42 : decode mX9_leastDress.2.1 42 = .ok (.ifCond .eq 28, 3) := by decide +kernel
theorem dX9_leastDress_45 : decode mX9_leastDress.2.1 45 = .ok (.aload_n 0, 1) := by decide +kernel
theorem dX9_leastDress_46 : decode mX9_leastDress.2.1 46 = .ok (.getfield 11, 3) := by decide +kernel
theorem dX9_leastDress_49 : decode mX9_leastDress.2.1 49 = .ok (.iload 5, 2) := by decide +kernel
theorem dX9_leastDress_51 : decode mX9_leastDress.2.1 51 = .ok (.iaload, 1) := by decide +kernel
theorem dX9_leastDress_52 : decode mX9_leastDress.2.1 52 = .ok (.iload_n 1, 1) := by decide +kernel
theorem dX9_leastDress_53 : decode mX9_leastDress.2.1 53 = .ok (.if_icmp .ne 17, 3) := by decide +kernel
theorem dX9_leastDress_56 : decode mX9_leastDress.2.1 56 = .ok (.aload_n 0, 1) := by decide +kernel
theorem dX9_leastDress_57 : decode mX9_leastDress.2.1 57 = .ok (.getfield 15, 3) := by decide +kernel
theorem dX9_leastDress_60 : decode mX9_leastDress.2.1 60 = .ok (.iload 5, 2) := by decide +kernel
theorem dX9_leastDress_62 : decode mX9_leastDress.2.1 62 = .ok (.iaload, 1) := by decide +kernel
theorem dX9_leastDress_63 : decode mX9_leastDress.2.1 63 = .ok (.iload_n 2, 1) := by decide +kernel
theorem dX9_leastDress_64 : decode mX9_leastDress.2.1 64 = .ok (.if_icmp .ne 6, 3) := by decide +kernel
theorem dX9_leastDress_67 : decode mX9_leastDress.2.1 67 = .ok (.iload 5, 2) := by decide +kernel
theorem dX9_leastDress_69 : decode mX9_leastDress.2.1 69 = .ok (.ireturn, 1) := by decide +kernel
theorem dX9_leastDress_70 : decode mX9_leastDress.2.1 70 = .ok (.iinc 5 1, 3) := by decide +kernel
theorem dX9_leastDress_73 : decode mX9_leastDress.2.1 73 = .ok (.goto (-70), 3) := by decide +kernel
theorem dX9_leastDress_76 : decode mX9_leastDress.2.1 76 = .ok (.iconst (-1), 1) := by decide +kernel
theorem dX9_leastDress_77 : decode mX9_leastDress.2.1 77 = .ok (.ireturn, 1) := by decide +kernel
theorem bX9_leastDress_0 {SC : Nat → Nat} {X : mh_X} {d : Nat} {Q : Option am_V → am_W → Prop} {bc bs : Nat} {w : am_W} {x1 : Int} {x2 : Int} {y3 : Int64}
    (h : am_A (mh_G X) SC (d + 1) mX9_leastDress Q 3 [(0, .inr (.inr (some (7, 0)))), (1, .inl x1), (2, .inl x2), (3, .inr (.inl y3)), (5, .inl 0)] [] w bc bs) :
    am_A (mh_G X) SC (d + 1) mX9_leastDress Q 0 [(0, .inr (.inr (some (7, 0)))), (1, .inl x1), (2, .inl x2), (3, .inr (.inl y3))] [] w bc bs := by
  refine am_iconst dX9_leastDress_0 (by unfold am_rg; omega) ?_
  refine am_istore (ls' := [(5, .inl 0), (0, .inr (.inr (some (7, 0)))), (1, .inl x1), (2, .inl x2), (3, .inr (.inl y3))]) dX9_leastDress_1 (by decide) rfl ?_
  exact am_sub [1, 2, 3, 4, 0] rfl h
theorem bX9_leastDress_3 {SC : Nat → Nat} {X : mh_X} {d : Nat} {Q : Option am_V → am_W → Prop} {bc bs : Nat} {w : am_W} {x1 : Int} {x2 : Int} {y3 : Int64} {x5 : Int}
    (h : (((w.1 7 0 8) ≤ x5 → Q (some (.inl (-1))) w) ∧ (¬ (w.1 7 0 8) ≤ x5 → (0 ≤ x5 ∧ (x5 < 40 ∧ ((¬ (w.1 52 0 x5.toNat) = 0 → am_A (mh_G X) SC (d + 1) mX9_leastDress Q 37 [(0, .inr (.inr (some (7, 0)))), (1, .inl x1), (2, .inl x2), (3, .inr (.inl y3)), (5, .inl x5)] [] w bc bs) ∧ ((w.1 52 0 x5.toNat) = 0 → ((¬ (am_lcmpv ((y3 >>> ((Int32.ofInt x5).toInt64 &&& 63)) &&& (1 : Int64)) (0 : Int64)) = 0 → am_A (mh_G X) SC (d + 1) mX9_leastDress Q 37 [(0, .inr (.inr (some (7, 0)))), (1, .inl x1), (2, .inl x2), (3, .inr (.inl y3)), (5, .inl x5)] [] w bc bs) ∧ ((am_lcmpv ((y3 >>> ((Int32.ofInt x5).toInt64 &&& 63)) &&& (1 : Int64)) (0 : Int64)) = 0 → am_A (mh_G X) SC (d + 1) mX9_leastDress Q 38 [(0, .inr (.inr (some (7, 0)))), (1, .inl x1), (2, .inl x2), (3, .inr (.inl y3)), (5, .inl x5)] [.inl 1] w bc bs))))))))) :
    am_A (mh_G X) SC (d + 1) mX9_leastDress Q 3 [(0, .inr (.inr (some (7, 0)))), (1, .inl x1), (2, .inl x2), (3, .inr (.inl y3)), (5, .inl x5)] [] w bc bs := by
  refine am_iload dX9_leastDress_3 (List.Mem.tail _ (List.Mem.tail _ (List.Mem.tail _ (List.Mem.tail _ (List.Mem.head _))))) ?_
  refine am_aload_n dX9_leastDress_5 (List.Mem.head _) ?_
  refine am_getf (f := 8) (v := .inl (w.1 7 0 8)) dX9_leastDress_6 hc_8 (by decide) wd_488 (by decide) rfl rfl ?_
  refine am_icmpge (tgt := 76) dX9_leastDress_9 (by decide) (fun c1 => ?_) (fun c1 => ?_)
  · replace h := h.1 c1
    refine am_iconst dX9_leastDress_76 (by unfold am_rg; omega) ?_
    exact am_ret (r := some (.inl (-1))) dX9_leastDress_77 (Or.inl rfl) rfl h
  · replace h := h.2 c1
    refine am_aload_n dX9_leastDress_12 (List.Mem.head _) ?_
    refine am_getf (f := 2) (v := .inr (.inr (some (52, 0)))) dX9_leastDress_13 hc_8 (by decide) wd_479 (by decide) rfl rfl ?_
    refine am_iload dX9_leastDress_16 (List.Mem.tail _ (List.Mem.tail _ (List.Mem.tail _ (List.Mem.tail _ (List.Mem.head _))))) ?_
    have o2 := h.1
    replace h := h.2
    have o3 := h.1
    replace h := h.2
    refine am_zaload (v := (w.1 52 0 x5.toNat)) dX9_leastDress_18 (by decide) rfl o2 o3 rfl ?_
    refine am_ifne (tgt := 37) dX9_leastDress_19 (by decide) (fun c4 => ?_) (fun c4 => ?_)
    · replace h := h.1 c4
      exact h
    · replace h := h.2 c4
      refine am_lload_n dX9_leastDress_22 (List.Mem.tail _ (List.Mem.tail _ (List.Mem.tail _ (List.Mem.head _)))) ?_
      refine am_iload dX9_leastDress_23 (List.Mem.tail _ (List.Mem.tail _ (List.Mem.tail _ (List.Mem.tail _ (List.Mem.head _))))) ?_
      refine am_lshr dX9_leastDress_25 ?_
      refine am_lconst (x := 1) dX9_leastDress_26 rfl ?_
      refine am_land dX9_leastDress_27 ?_
      refine am_lconst (x := 0) dX9_leastDress_28 rfl ?_
      refine am_lcmp dX9_leastDress_29 ?_
      refine am_ifne (tgt := 37) dX9_leastDress_30 (by decide) (fun c5 => ?_) (fun c5 => ?_)
      · replace h := h.1 c5
        exact h
      · replace h := h.2 c5
        refine am_iconst dX9_leastDress_33 (by unfold am_rg; omega) ?_
        refine am_goto (tgt := 38) dX9_leastDress_34 (by decide) ?_
        exact h
theorem bX9_leastDress_37 {SC : Nat → Nat} {X : mh_X} {d : Nat} {Q : Option am_V → am_W → Prop} {bc bs : Nat} {w : am_W} {x1 : Int} {x2 : Int} {y3 : Int64} {x5 : Int}
    (h : am_A (mh_G X) SC (d + 1) mX9_leastDress Q 38 [(0, .inr (.inr (some (7, 0)))), (1, .inl x1), (2, .inl x2), (3, .inr (.inl y3)), (5, .inl x5)] [.inl 0] w bc bs) :
    am_A (mh_G X) SC (d + 1) mX9_leastDress Q 37 [(0, .inr (.inr (some (7, 0)))), (1, .inl x1), (2, .inl x2), (3, .inr (.inl y3)), (5, .inl x5)] [] w bc bs := by
  refine am_iconst dX9_leastDress_37 (by unfold am_rg; omega) ?_
  exact h
theorem bX9_leastDress_38 {SC : Nat → Nat} {X : mh_X} {d : Nat} {Q : Option am_V → am_W → Prop} {bc bs : Nat} {w : am_W} {x1 : Int} {x2 : Int} {y3 : Int64} {x5 : Int} {xs0 : Int}
    (h : ((xs0 = 0 → am_A (mh_G X) SC (d + 1) mX9_leastDress Q 70 [(0, .inr (.inr (some (7, 0)))), (1, .inl x1), (2, .inl x2), (3, .inr (.inl y3)), (5, .inl x5)] [] w bc bs) ∧ (¬ xs0 = 0 → (0 ≤ x5 ∧ (x5 < 40 ∧ ((¬ (w.1 50 0 x5.toNat) = x1 → am_A (mh_G X) SC (d + 1) mX9_leastDress Q 70 [(0, .inr (.inr (some (7, 0)))), (1, .inl x1), (2, .inl x2), (3, .inr (.inl y3)), (5, .inl x5)] [] w bc bs) ∧ ((w.1 50 0 x5.toNat) = x1 → ((¬ (w.1 51 0 x5.toNat) = x2 → am_A (mh_G X) SC (d + 1) mX9_leastDress Q 70 [(0, .inr (.inr (some (7, 0)))), (1, .inl x1), (2, .inl x2), (3, .inr (.inl y3)), (5, .inl x5)] [] w bc bs) ∧ ((w.1 51 0 x5.toNat) = x2 → Q (some (.inl x5)) w))))))))) :
    am_A (mh_G X) SC (d + 1) mX9_leastDress Q 38 [(0, .inr (.inr (some (7, 0)))), (1, .inl x1), (2, .inl x2), (3, .inr (.inl y3)), (5, .inl x5)] [.inl xs0] w bc bs := by
  refine am_istore (ls' := [(6, .inl xs0), (0, .inr (.inr (some (7, 0)))), (1, .inl x1), (2, .inl x2), (3, .inr (.inl y3)), (5, .inl x5)]) dX9_leastDress_38 (by decide) rfl ?_
  refine am_iload dX9_leastDress_40 (List.Mem.head _) ?_
  refine am_ifeq (tgt := 70) dX9_leastDress_42 (by decide) (fun c1 => ?_) (fun c1 => ?_)
  · replace h := h.1 c1
    exact am_sub [1, 2, 3, 4, 5] rfl h
  · replace h := h.2 c1
    refine am_aload_n dX9_leastDress_45 (List.Mem.tail _ (List.Mem.head _)) ?_
    refine am_getf (f := 0) (v := .inr (.inr (some (50, 0)))) dX9_leastDress_46 hc_8 (by decide) wd_475 (by decide) rfl rfl ?_
    refine am_iload dX9_leastDress_49 (List.Mem.tail _ (List.Mem.tail _ (List.Mem.tail _ (List.Mem.tail _ (List.Mem.tail _ (List.Mem.head _)))))) ?_
    have o2 := h.1
    replace h := h.2
    have o3 := h.1
    replace h := h.2
    refine am_iaload (v := (w.1 50 0 x5.toNat)) dX9_leastDress_51 (by decide) rfl o2 o3 rfl ?_
    refine am_iload_n dX9_leastDress_52 (List.Mem.tail _ (List.Mem.tail _ (List.Mem.head _))) ?_
    refine am_icmpne (tgt := 70) dX9_leastDress_53 (by decide) (fun c4 => ?_) (fun c4 => ?_)
    · replace h := h.1 c4
      exact am_sub [1, 2, 3, 4, 5] rfl h
    · replace h := h.2 c4
      refine am_aload_n dX9_leastDress_56 (List.Mem.tail _ (List.Mem.head _)) ?_
      refine am_getf (f := 1) (v := .inr (.inr (some (51, 0)))) dX9_leastDress_57 hc_8 (by decide) wd_477 (by decide) rfl rfl ?_
      refine am_iload dX9_leastDress_60 (List.Mem.tail _ (List.Mem.tail _ (List.Mem.tail _ (List.Mem.tail _ (List.Mem.tail _ (List.Mem.head _)))))) ?_
      refine am_iaload (v := (w.1 51 0 x5.toNat)) dX9_leastDress_62 (by decide) rfl o2 o3 rfl ?_
      refine am_iload_n dX9_leastDress_63 (List.Mem.tail _ (List.Mem.tail _ (List.Mem.tail _ (List.Mem.head _)))) ?_
      refine am_icmpne (tgt := 70) dX9_leastDress_64 (by decide) (fun c5 => ?_) (fun c5 => ?_)
      · replace h := h.1 c5
        exact am_sub [1, 2, 3, 4, 5] rfl h
      · replace h := h.2 c5
        refine am_iload dX9_leastDress_67 (List.Mem.tail _ (List.Mem.tail _ (List.Mem.tail _ (List.Mem.tail _ (List.Mem.tail _ (List.Mem.head _)))))) ?_
        exact am_ret (r := some (.inl x5)) dX9_leastDress_69 (Or.inl rfl) rfl h
theorem bX9_leastDress_70 {SC : Nat → Nat} {X : mh_X} {d : Nat} {Q : Option am_V → am_W → Prop} {bc bs : Nat} {w : am_W} {x1 : Int} {x2 : Int} {y3 : Int64} {x5 : Int}
    (h : am_A (mh_G X) SC (d + 1) mX9_leastDress Q 3 [(0, .inr (.inr (some (7, 0)))), (1, .inl x1), (2, .inl x2), (3, .inr (.inl y3)), (5, .inl (am_w (x5 + 1)))] [] w bc bs) :
    am_A (mh_G X) SC (d + 1) mX9_leastDress Q 70 [(0, .inr (.inr (some (7, 0)))), (1, .inl x1), (2, .inl x2), (3, .inr (.inl y3)), (5, .inl x5)] [] w bc bs := by
  refine am_iinc (ls' := [(5, .inl (am_w (x5 + 1))), (0, .inr (.inr (some (7, 0)))), (1, .inl x1), (2, .inl x2), (3, .inr (.inl y3))]) dX9_leastDress_70 (List.Mem.tail _ (List.Mem.tail _ (List.Mem.tail _ (List.Mem.tail _ (List.Mem.head _))))) (by decide) rfl ?_
  refine am_goto (tgt := 3) dX9_leastDress_73 (by decide) ?_
  exact am_sub [1, 2, 3, 4, 0] rfl h
-- MourningHouse$Words.nameOf(I)Ljava/lang/String;
theorem dX10_nameOf_0 : decode mX10_nameOf.2.1 0 = .ok (.iload_n 0, 1) := by decide +kernel
theorem dX10_nameOf_1 : decode mX10_nameOf.2.1 1 = .ok (.bipush 16, 2) := by decide +kernel
theorem dX10_nameOf_3 : decode mX10_nameOf.2.1 3 = .ok (.if_icmp .gt 10, 3) := by decide +kernel
theorem dX10_nameOf_6 : decode mX10_nameOf.2.1 6 = .ok (.iload_n 0, 1) := by decide +kernel
theorem dX10_nameOf_7 : decode mX10_nameOf.2.1 7 = .ok (.invokestatic 9, 3) := by decide +kernel
theorem dX10_nameOf_10 : decode mX10_nameOf.2.1 10 = .ok (.goto 20, 3) := by decide +kernel
theorem dX10_nameOf_13 : decode mX10_nameOf.2.1 13 = .ok (.iload_n 0, 1) := by decide +kernel
theorem dX10_nameOf_14 : decode mX10_nameOf.2.1 14 = .ok (.bipush 28, 2) := by decide +kernel
theorem dX10_nameOf_16 : decode mX10_nameOf.2.1 16 = .ok (.if_icmp .gt 10, 3) := by decide +kernel
theorem dX10_nameOf_19 : decode mX10_nameOf.2.1 19 = .ok (.iload_n 0, 1) := by decide +kernel
theorem dX10_nameOf_20 : decode mX10_nameOf.2.1 20 = .ok (.invokestatic 13, 3) := by decide +kernel
theorem dX10_nameOf_23 : decode mX10_nameOf.2.1 23 = .ok (.goto 7, 3) := by decide +kernel
theorem dX10_nameOf_26 : decode mX10_nameOf.2.1 26 = .ok (.iload_n 0, 1) := by decide +kernel
theorem dX10_nameOf_27 : decode mX10_nameOf.2.1 27 = .ok (.invokestatic 16, 3) := by decide +kernel
theorem dX10_nameOf_30 : decode mX10_nameOf.2.1 30 = .ok (.areturn, 1) := by decide +kernel
theorem bX10_nameOf_0 {SC : Nat → Nat} {X : mh_X} {d : Nat} {Q : Option am_V → am_W → Prop} {bc bs : Nat} {w : am_W} {x0 : Int}
    (h : ((16 < x0 → ((28 < x0 → am_M (mh_G X) SC d 0 0 mX10_lineWord [.inl x0] w (fun r w1 => am_A (mh_G X) SC (d + 1) mX10_nameOf Q 30 [(0, .inl x0)] (r.toList ++ []) w1 bc bs)) ∧ (¬ 28 < x0 → am_M (mh_G X) SC d 0 0 mX10_termOrOption [.inl x0] w (fun r w1 => am_A (mh_G X) SC (d + 1) mX10_nameOf Q 23 [(0, .inl x0)] (r.toList ++ []) w1 bc bs)))) ∧ (¬ 16 < x0 → am_M (mh_G X) SC d 0 0 mX10_kinOrColour [.inl x0] w (fun r w1 => am_A (mh_G X) SC (d + 1) mX10_nameOf Q 10 [(0, .inl x0)] (r.toList ++ []) w1 bc bs)))) :
    am_A (mh_G X) SC (d + 1) mX10_nameOf Q 0 [(0, .inl x0)] [] w bc bs := by
  refine am_iload_n dX10_nameOf_0 (List.Mem.head _) ?_
  refine am_bipush dX10_nameOf_1 (by decide) (by unfold am_rg; omega) ?_
  refine am_icmpgt (tgt := 13) dX10_nameOf_3 (by decide) (fun c1 => ?_) (fun c1 => ?_)
  · replace h := h.1 c1
    refine am_iload_n dX10_nameOf_13 (List.Mem.head _) ?_
    refine am_bipush dX10_nameOf_14 (by decide) (by unfold am_rg; omega) ?_
    refine am_icmpgt (tgt := 26) dX10_nameOf_16 (by decide) (fun c2 => ?_) (fun c2 => ?_)
    · replace h := h.1 c2
      refine am_iload_n dX10_nameOf_26 (List.Mem.head _) ?_
      exact am_calls (d' := d) (kc := 0) (ks := 0) (as := [.inl x0]) dX10_nameOf_27 wc_X10_lineWord wd_704 wd_705 wd_123 ds_X10_lineWord (by decide) (Nat.le_refl _) (Nat.le_of_ble_eq_true rfl) (Nat.zero_le _) (Nat.zero_le _) rfl h
    · replace h := h.2 c2
      refine am_iload_n dX10_nameOf_19 (List.Mem.head _) ?_
      exact am_calls (d' := d) (kc := 0) (ks := 0) (as := [.inl x0]) dX10_nameOf_20 wc_X10_termOrOption wd_689 wd_690 wd_123 ds_X10_termOrOption (by decide) (Nat.le_refl _) (Nat.le_of_ble_eq_true rfl) (Nat.zero_le _) (Nat.zero_le _) rfl h
  · replace h := h.2 c1
    refine am_iload_n dX10_nameOf_6 (List.Mem.head _) ?_
    exact am_calls (d' := d) (kc := 0) (ks := 0) (as := [.inl x0]) dX10_nameOf_7 wc_X10_kinOrColour wd_669 wd_670 wd_123 ds_X10_kinOrColour (by decide) (Nat.le_refl _) (Nat.le_of_ble_eq_true rfl) (Nat.zero_le _) (Nat.zero_le _) rfl h
theorem bX10_nameOf_30 {SC : Nat → Nat} {X : mh_X} {d : Nat} {Q : Option am_V → am_W → Prop} {bc bs : Nat} {w : am_W} {x0 : Int} {ts0 : Nat} {js0 : Nat}
    (h : Q (some (.inr (.inr (some (ts0, js0))))) w) :
    am_A (mh_G X) SC (d + 1) mX10_nameOf Q 30 [(0, .inl x0)] [.inr (.inr (some (ts0, js0)))] w bc bs := by
  exact am_ret (r := some (.inr (.inr (some (ts0, js0))))) dX10_nameOf_30 ⟨_, rfl, Or.inl ⟨_, rfl⟩⟩ rfl h
theorem bX10_nameOf_23 {SC : Nat → Nat} {X : mh_X} {d : Nat} {Q : Option am_V → am_W → Prop} {bc bs : Nat} {w : am_W} {x0 : Int} {ts0 : Nat} {js0 : Nat}
    (h : Q (some (.inr (.inr (some (ts0, js0))))) w) :
    am_A (mh_G X) SC (d + 1) mX10_nameOf Q 23 [(0, .inl x0)] [.inr (.inr (some (ts0, js0)))] w bc bs := by
  refine am_goto (tgt := 30) dX10_nameOf_23 (by decide) ?_
  exact am_ret (r := some (.inr (.inr (some (ts0, js0))))) dX10_nameOf_30 ⟨_, rfl, Or.inl ⟨_, rfl⟩⟩ rfl h
theorem bX10_nameOf_10 {SC : Nat → Nat} {X : mh_X} {d : Nat} {Q : Option am_V → am_W → Prop} {bc bs : Nat} {w : am_W} {x0 : Int} {ts0 : Nat} {js0 : Nat}
    (h : Q (some (.inr (.inr (some (ts0, js0))))) w) :
    am_A (mh_G X) SC (d + 1) mX10_nameOf Q 10 [(0, .inl x0)] [.inr (.inr (some (ts0, js0)))] w bc bs := by
  refine am_goto (tgt := 30) dX10_nameOf_10 (by decide) ?_
  exact am_ret (r := some (.inr (.inr (some (ts0, js0))))) dX10_nameOf_30 ⟨_, rfl, Or.inl ⟨_, rfl⟩⟩ rfl h
-- MourningHouse$Words.kinOrColour(I)Ljava/lang/String;
theorem dX10_kinOrColour_0 : decode mX10_kinOrColour.2.1 0 = .ok (.iload_n 0, 1) := by decide +kernel
theorem dX10_kinOrColour_1 : decode mX10_kinOrColour.2.1 1 = .ok (.tableswitch 127 0 15 #[79, 82, 85, 88, 91, 94, 97, 100, 103, 106, 109, 112, 115, 118, 121, 124], 79) := by decide +kernel
theorem dX10_kinOrColour_80 : decode mX10_kinOrColour.2.1 80 = .ok (.ldc 19, 2) := by decide +kernel
theorem dX10_kinOrColour_82 : decode mX10_kinOrColour.2.1 82 = .ok (.areturn, 1) := by decide +kernel
theorem dX10_kinOrColour_83 : decode mX10_kinOrColour.2.1 83 = .ok (.ldc 21, 2) := by decide +kernel
theorem dX10_kinOrColour_85 : decode mX10_kinOrColour.2.1 85 = .ok (.areturn, 1) := by decide +kernel
theorem dX10_kinOrColour_86 : decode mX10_kinOrColour.2.1 86 = .ok (.ldc 23, 2) := by decide +kernel
theorem dX10_kinOrColour_88 : decode mX10_kinOrColour.2.1 88 = .ok (.areturn, 1) := by decide +kernel
theorem dX10_kinOrColour_89 : decode mX10_kinOrColour.2.1 89 = .ok (.ldc 25, 2) := by decide +kernel
theorem dX10_kinOrColour_91 : decode mX10_kinOrColour.2.1 91 = .ok (.areturn, 1) := by decide +kernel
theorem dX10_kinOrColour_92 : decode mX10_kinOrColour.2.1 92 = .ok (.ldc 27, 2) := by decide +kernel
theorem dX10_kinOrColour_94 : decode mX10_kinOrColour.2.1 94 = .ok (.areturn, 1) := by decide +kernel
theorem dX10_kinOrColour_95 : decode mX10_kinOrColour.2.1 95 = .ok (.ldc 29, 2) := by decide +kernel
theorem dX10_kinOrColour_97 : decode mX10_kinOrColour.2.1 97 = .ok (.areturn, 1) := by decide +kernel
theorem dX10_kinOrColour_98 : decode mX10_kinOrColour.2.1 98 = .ok (.ldc 31, 2) := by decide +kernel
theorem dX10_kinOrColour_100 : decode mX10_kinOrColour.2.1 100 = .ok (.areturn, 1) := by decide +kernel
theorem dX10_kinOrColour_101 : decode mX10_kinOrColour.2.1 101 = .ok (.ldc 33, 2) := by decide +kernel
theorem dX10_kinOrColour_103 : decode mX10_kinOrColour.2.1 103 = .ok (.areturn, 1) := by decide +kernel
theorem dX10_kinOrColour_104 : decode mX10_kinOrColour.2.1 104 = .ok (.ldc 35, 2) := by decide +kernel
theorem dX10_kinOrColour_106 : decode mX10_kinOrColour.2.1 106 = .ok (.areturn, 1) := by decide +kernel
theorem dX10_kinOrColour_107 : decode mX10_kinOrColour.2.1 107 = .ok (.ldc 37, 2) := by decide +kernel
theorem dX10_kinOrColour_109 : decode mX10_kinOrColour.2.1 109 = .ok (.areturn, 1) := by decide +kernel
theorem dX10_kinOrColour_110 : decode mX10_kinOrColour.2.1 110 = .ok (.ldc 39, 2) := by decide +kernel
theorem dX10_kinOrColour_112 : decode mX10_kinOrColour.2.1 112 = .ok (.areturn, 1) := by decide +kernel
theorem dX10_kinOrColour_113 : decode mX10_kinOrColour.2.1 113 = .ok (.ldc 41, 2) := by decide +kernel
theorem dX10_kinOrColour_115 : decode mX10_kinOrColour.2.1 115 = .ok (.areturn, 1) := by decide +kernel
theorem dX10_kinOrColour_116 : decode mX10_kinOrColour.2.1 116 = .ok (.ldc 43, 2) := by decide +kernel
theorem dX10_kinOrColour_118 : decode mX10_kinOrColour.2.1 118 = .ok (.areturn, 1) := by decide +kernel
theorem dX10_kinOrColour_119 : decode mX10_kinOrColour.2.1 119 = .ok (.ldc 45, 2) := by decide +kernel
theorem dX10_kinOrColour_121 : decode mX10_kinOrColour.2.1 121 = .ok (.areturn, 1) := by decide +kernel
theorem dX10_kinOrColour_122 : decode mX10_kinOrColour.2.1 122 = .ok (.ldc 47, 2) := by decide +kernel
theorem dX10_kinOrColour_124 : decode mX10_kinOrColour.2.1 124 = .ok (.areturn, 1) := by decide +kernel
theorem dX10_kinOrColour_125 : decode mX10_kinOrColour.2.1 125 = .ok (.ldc 49, 2) := by decide +kernel
theorem dX10_kinOrColour_127 : decode mX10_kinOrColour.2.1 127 = .ok (.areturn, 1) := by decide +kernel
theorem dX10_kinOrColour_128 : decode mX10_kinOrColour.2.1 128 = .ok (.ldc 51, 2) := by decide +kernel
theorem dX10_kinOrColour_130 : decode mX10_kinOrColour.2.1 130 = .ok (.areturn, 1) := by decide +kernel
theorem bX10_kinOrColour_0 {SC : Nat → Nat} {X : mh_X} {d : Nat} {Q : Option am_V → am_W → Prop} {bc bs : Nat} {w : am_W} {x0 : Int}
    (h : (((x0 < 0 ∨ 15 < x0) → Q (some (.inr (.inr (some (1000, 16))))) w) ∧ (x0 = 0 → Q (some (.inr (.inr (some (1000, 0))))) w) ∧ (x0 = 1 → Q (some (.inr (.inr (some (1000, 1))))) w) ∧ (x0 = 2 → Q (some (.inr (.inr (some (1000, 2))))) w) ∧ (x0 = 3 → Q (some (.inr (.inr (some (1000, 3))))) w) ∧ (x0 = 4 → Q (some (.inr (.inr (some (1000, 4))))) w) ∧ (x0 = 5 → Q (some (.inr (.inr (some (1000, 5))))) w) ∧ (x0 = 6 → Q (some (.inr (.inr (some (1000, 6))))) w) ∧ (x0 = 7 → Q (some (.inr (.inr (some (1000, 7))))) w) ∧ (x0 = 8 → Q (some (.inr (.inr (some (1000, 8))))) w) ∧ (x0 = 9 → Q (some (.inr (.inr (some (1000, 9))))) w) ∧ (x0 = 10 → Q (some (.inr (.inr (some (1000, 10))))) w) ∧ (x0 = 11 → Q (some (.inr (.inr (some (1000, 11))))) w) ∧ (x0 = 12 → Q (some (.inr (.inr (some (1000, 12))))) w) ∧ (x0 = 13 → Q (some (.inr (.inr (some (1000, 13))))) w) ∧ (x0 = 14 → Q (some (.inr (.inr (some (1000, 14))))) w) ∧ (x0 = 15 → Q (some (.inr (.inr (some (1000, 15))))) w))) :
    am_A (mh_G X) SC (d + 1) mX10_kinOrColour Q 0 [(0, .inl x0)] [] w bc bs := by
  refine am_iload_n dX10_kinOrColour_0 (List.Mem.head _) ?_
  by_cases c1 : x0 < 0 ∨ 15 < x0
  · replace h := h.1 c1
    refine am_tswOut (tgt := 128) dX10_kinOrColour_1 c1 (by decide) ?_
    refine am_ldcS (sid := 16) dX10_kinOrColour_128 rfl ?_
    exact am_ret (r := some (.inr (.inr (some (1000, 16))))) dX10_kinOrColour_130 ⟨_, rfl, Or.inl ⟨_, rfl⟩⟩ rfl h
  · replace h := h.2
    rcases (show x0 = 0 ∨ x0 = 1 ∨ x0 = 2 ∨ x0 = 3 ∨ x0 = 4 ∨ x0 = 5 ∨ x0 = 6 ∨ x0 = 7 ∨ x0 = 8 ∨ x0 = 9 ∨ x0 = 10 ∨ x0 = 11 ∨ x0 = 12 ∨ x0 = 13 ∨ x0 = 14 ∨ x0 = 15 by omega) with c1 | c1 | c1 | c1 | c1 | c1 | c1 | c1 | c1 | c1 | c1 | c1 | c1 | c1 | c1 | c1
    · replace h := h.1 c1
      refine am_tswIn (off := 79) (tgt := 80) dX10_kinOrColour_1 (by omega) (by omega) (by rw [c1]; decide) (by decide) ?_
      refine am_ldcS (sid := 0) dX10_kinOrColour_80 rfl ?_
      exact am_ret (r := some (.inr (.inr (some (1000, 0))))) dX10_kinOrColour_82 ⟨_, rfl, Or.inl ⟨_, rfl⟩⟩ rfl h
    · replace h := h.2.1 c1
      refine am_tswIn (off := 82) (tgt := 83) dX10_kinOrColour_1 (by omega) (by omega) (by rw [c1]; decide) (by decide) ?_
      refine am_ldcS (sid := 1) dX10_kinOrColour_83 rfl ?_
      exact am_ret (r := some (.inr (.inr (some (1000, 1))))) dX10_kinOrColour_85 ⟨_, rfl, Or.inl ⟨_, rfl⟩⟩ rfl h
    · replace h := h.2.2.1 c1
      refine am_tswIn (off := 85) (tgt := 86) dX10_kinOrColour_1 (by omega) (by omega) (by rw [c1]; decide) (by decide) ?_
      refine am_ldcS (sid := 2) dX10_kinOrColour_86 rfl ?_
      exact am_ret (r := some (.inr (.inr (some (1000, 2))))) dX10_kinOrColour_88 ⟨_, rfl, Or.inl ⟨_, rfl⟩⟩ rfl h
    · replace h := h.2.2.2.1 c1
      refine am_tswIn (off := 88) (tgt := 89) dX10_kinOrColour_1 (by omega) (by omega) (by rw [c1]; decide) (by decide) ?_
      refine am_ldcS (sid := 3) dX10_kinOrColour_89 rfl ?_
      exact am_ret (r := some (.inr (.inr (some (1000, 3))))) dX10_kinOrColour_91 ⟨_, rfl, Or.inl ⟨_, rfl⟩⟩ rfl h
    · replace h := h.2.2.2.2.1 c1
      refine am_tswIn (off := 91) (tgt := 92) dX10_kinOrColour_1 (by omega) (by omega) (by rw [c1]; decide) (by decide) ?_
      refine am_ldcS (sid := 4) dX10_kinOrColour_92 rfl ?_
      exact am_ret (r := some (.inr (.inr (some (1000, 4))))) dX10_kinOrColour_94 ⟨_, rfl, Or.inl ⟨_, rfl⟩⟩ rfl h
    · replace h := h.2.2.2.2.2.1 c1
      refine am_tswIn (off := 94) (tgt := 95) dX10_kinOrColour_1 (by omega) (by omega) (by rw [c1]; decide) (by decide) ?_
      refine am_ldcS (sid := 5) dX10_kinOrColour_95 rfl ?_
      exact am_ret (r := some (.inr (.inr (some (1000, 5))))) dX10_kinOrColour_97 ⟨_, rfl, Or.inl ⟨_, rfl⟩⟩ rfl h
    · replace h := h.2.2.2.2.2.2.1 c1
      refine am_tswIn (off := 97) (tgt := 98) dX10_kinOrColour_1 (by omega) (by omega) (by rw [c1]; decide) (by decide) ?_
      refine am_ldcS (sid := 6) dX10_kinOrColour_98 rfl ?_
      exact am_ret (r := some (.inr (.inr (some (1000, 6))))) dX10_kinOrColour_100 ⟨_, rfl, Or.inl ⟨_, rfl⟩⟩ rfl h
    · replace h := h.2.2.2.2.2.2.2.1 c1
      refine am_tswIn (off := 100) (tgt := 101) dX10_kinOrColour_1 (by omega) (by omega) (by rw [c1]; decide) (by decide) ?_
      refine am_ldcS (sid := 7) dX10_kinOrColour_101 rfl ?_
      exact am_ret (r := some (.inr (.inr (some (1000, 7))))) dX10_kinOrColour_103 ⟨_, rfl, Or.inl ⟨_, rfl⟩⟩ rfl h
    · replace h := h.2.2.2.2.2.2.2.2.1 c1
      refine am_tswIn (off := 103) (tgt := 104) dX10_kinOrColour_1 (by omega) (by omega) (by rw [c1]; decide) (by decide) ?_
      refine am_ldcS (sid := 8) dX10_kinOrColour_104 rfl ?_
      exact am_ret (r := some (.inr (.inr (some (1000, 8))))) dX10_kinOrColour_106 ⟨_, rfl, Or.inl ⟨_, rfl⟩⟩ rfl h
    · replace h := h.2.2.2.2.2.2.2.2.2.1 c1
      refine am_tswIn (off := 106) (tgt := 107) dX10_kinOrColour_1 (by omega) (by omega) (by rw [c1]; decide) (by decide) ?_
      refine am_ldcS (sid := 9) dX10_kinOrColour_107 rfl ?_
      exact am_ret (r := some (.inr (.inr (some (1000, 9))))) dX10_kinOrColour_109 ⟨_, rfl, Or.inl ⟨_, rfl⟩⟩ rfl h
    · replace h := h.2.2.2.2.2.2.2.2.2.2.1 c1
      refine am_tswIn (off := 109) (tgt := 110) dX10_kinOrColour_1 (by omega) (by omega) (by rw [c1]; decide) (by decide) ?_
      refine am_ldcS (sid := 10) dX10_kinOrColour_110 rfl ?_
      exact am_ret (r := some (.inr (.inr (some (1000, 10))))) dX10_kinOrColour_112 ⟨_, rfl, Or.inl ⟨_, rfl⟩⟩ rfl h
    · replace h := h.2.2.2.2.2.2.2.2.2.2.2.1 c1
      refine am_tswIn (off := 112) (tgt := 113) dX10_kinOrColour_1 (by omega) (by omega) (by rw [c1]; decide) (by decide) ?_
      refine am_ldcS (sid := 11) dX10_kinOrColour_113 rfl ?_
      exact am_ret (r := some (.inr (.inr (some (1000, 11))))) dX10_kinOrColour_115 ⟨_, rfl, Or.inl ⟨_, rfl⟩⟩ rfl h
    · replace h := h.2.2.2.2.2.2.2.2.2.2.2.2.1 c1
      refine am_tswIn (off := 115) (tgt := 116) dX10_kinOrColour_1 (by omega) (by omega) (by rw [c1]; decide) (by decide) ?_
      refine am_ldcS (sid := 12) dX10_kinOrColour_116 rfl ?_
      exact am_ret (r := some (.inr (.inr (some (1000, 12))))) dX10_kinOrColour_118 ⟨_, rfl, Or.inl ⟨_, rfl⟩⟩ rfl h
    · replace h := h.2.2.2.2.2.2.2.2.2.2.2.2.2.1 c1
      refine am_tswIn (off := 118) (tgt := 119) dX10_kinOrColour_1 (by omega) (by omega) (by rw [c1]; decide) (by decide) ?_
      refine am_ldcS (sid := 13) dX10_kinOrColour_119 rfl ?_
      exact am_ret (r := some (.inr (.inr (some (1000, 13))))) dX10_kinOrColour_121 ⟨_, rfl, Or.inl ⟨_, rfl⟩⟩ rfl h
    · replace h := h.2.2.2.2.2.2.2.2.2.2.2.2.2.2.1 c1
      refine am_tswIn (off := 121) (tgt := 122) dX10_kinOrColour_1 (by omega) (by omega) (by rw [c1]; decide) (by decide) ?_
      refine am_ldcS (sid := 14) dX10_kinOrColour_122 rfl ?_
      exact am_ret (r := some (.inr (.inr (some (1000, 14))))) dX10_kinOrColour_124 ⟨_, rfl, Or.inl ⟨_, rfl⟩⟩ rfl h
    · replace h := h.2.2.2.2.2.2.2.2.2.2.2.2.2.2.2 c1
      refine am_tswIn (off := 124) (tgt := 125) dX10_kinOrColour_1 (by omega) (by omega) (by rw [c1]; decide) (by decide) ?_
      refine am_ldcS (sid := 15) dX10_kinOrColour_125 rfl ?_
      exact am_ret (r := some (.inr (.inr (some (1000, 15))))) dX10_kinOrColour_127 ⟨_, rfl, Or.inl ⟨_, rfl⟩⟩ rfl h
-- MourningHouse$Words.termOrOption(I)Ljava/lang/String;
theorem dX10_termOrOption_0 : decode mX10_termOrOption.2.1 0 = .ok (.iload_n 0, 1) := by decide +kernel
theorem dX10_termOrOption_1 : decode mX10_termOrOption.2.1 1 = .ok (.tableswitch 92 17 27 #[59, 62, 65, 68, 71, 74, 77, 80, 83, 86, 89], 59) := by decide +kernel
theorem dX10_termOrOption_60 : decode mX10_termOrOption.2.1 60 = .ok (.ldc 53, 2) := by decide +kernel
theorem dX10_termOrOption_62 : decode mX10_termOrOption.2.1 62 = .ok (.areturn, 1) := by decide +kernel
theorem dX10_termOrOption_63 : decode mX10_termOrOption.2.1 63 = .ok (.ldc 55, 2) := by decide +kernel
theorem dX10_termOrOption_65 : decode mX10_termOrOption.2.1 65 = .ok (.areturn, 1) := by decide +kernel
theorem dX10_termOrOption_66 : decode mX10_termOrOption.2.1 66 = .ok (.ldc 57, 2) := by decide +kernel
theorem dX10_termOrOption_68 : decode mX10_termOrOption.2.1 68 = .ok (.areturn, 1) := by decide +kernel
theorem dX10_termOrOption_69 : decode mX10_termOrOption.2.1 69 = .ok (.ldc 59, 2) := by decide +kernel
theorem dX10_termOrOption_71 : decode mX10_termOrOption.2.1 71 = .ok (.areturn, 1) := by decide +kernel
theorem dX10_termOrOption_72 : decode mX10_termOrOption.2.1 72 = .ok (.ldc 61, 2) := by decide +kernel
theorem dX10_termOrOption_74 : decode mX10_termOrOption.2.1 74 = .ok (.areturn, 1) := by decide +kernel
theorem dX10_termOrOption_75 : decode mX10_termOrOption.2.1 75 = .ok (.ldc 63, 2) := by decide +kernel
theorem dX10_termOrOption_77 : decode mX10_termOrOption.2.1 77 = .ok (.areturn, 1) := by decide +kernel
theorem dX10_termOrOption_78 : decode mX10_termOrOption.2.1 78 = .ok (.ldc 65, 2) := by decide +kernel
theorem dX10_termOrOption_80 : decode mX10_termOrOption.2.1 80 = .ok (.areturn, 1) := by decide +kernel
theorem dX10_termOrOption_81 : decode mX10_termOrOption.2.1 81 = .ok (.ldc 67, 2) := by decide +kernel
theorem dX10_termOrOption_83 : decode mX10_termOrOption.2.1 83 = .ok (.areturn, 1) := by decide +kernel
theorem dX10_termOrOption_84 : decode mX10_termOrOption.2.1 84 = .ok (.ldc 69, 2) := by decide +kernel
theorem dX10_termOrOption_86 : decode mX10_termOrOption.2.1 86 = .ok (.areturn, 1) := by decide +kernel
theorem dX10_termOrOption_87 : decode mX10_termOrOption.2.1 87 = .ok (.ldc 71, 2) := by decide +kernel
theorem dX10_termOrOption_89 : decode mX10_termOrOption.2.1 89 = .ok (.areturn, 1) := by decide +kernel
theorem dX10_termOrOption_90 : decode mX10_termOrOption.2.1 90 = .ok (.ldc 73, 2) := by decide +kernel
theorem dX10_termOrOption_92 : decode mX10_termOrOption.2.1 92 = .ok (.areturn, 1) := by decide +kernel
theorem dX10_termOrOption_93 : decode mX10_termOrOption.2.1 93 = .ok (.ldc 75, 2) := by decide +kernel
theorem dX10_termOrOption_95 : decode mX10_termOrOption.2.1 95 = .ok (.areturn, 1) := by decide +kernel
theorem bX10_termOrOption_0 {SC : Nat → Nat} {X : mh_X} {d : Nat} {Q : Option am_V → am_W → Prop} {bc bs : Nat} {w : am_W} {x0 : Int}
    (h : (((x0 < 17 ∨ 27 < x0) → Q (some (.inr (.inr (some (1000, 28))))) w) ∧ (x0 = 17 → Q (some (.inr (.inr (some (1000, 17))))) w) ∧ (x0 = 18 → Q (some (.inr (.inr (some (1000, 18))))) w) ∧ (x0 = 19 → Q (some (.inr (.inr (some (1000, 19))))) w) ∧ (x0 = 20 → Q (some (.inr (.inr (some (1000, 20))))) w) ∧ (x0 = 21 → Q (some (.inr (.inr (some (1000, 21))))) w) ∧ (x0 = 22 → Q (some (.inr (.inr (some (1000, 22))))) w) ∧ (x0 = 23 → Q (some (.inr (.inr (some (1000, 23))))) w) ∧ (x0 = 24 → Q (some (.inr (.inr (some (1000, 24))))) w) ∧ (x0 = 25 → Q (some (.inr (.inr (some (1000, 25))))) w) ∧ (x0 = 26 → Q (some (.inr (.inr (some (1000, 26))))) w) ∧ (x0 = 27 → Q (some (.inr (.inr (some (1000, 27))))) w))) :
    am_A (mh_G X) SC (d + 1) mX10_termOrOption Q 0 [(0, .inl x0)] [] w bc bs := by
  refine am_iload_n dX10_termOrOption_0 (List.Mem.head _) ?_
  by_cases c1 : x0 < 17 ∨ 27 < x0
  · replace h := h.1 c1
    refine am_tswOut (tgt := 93) dX10_termOrOption_1 c1 (by decide) ?_
    refine am_ldcS (sid := 28) dX10_termOrOption_93 rfl ?_
    exact am_ret (r := some (.inr (.inr (some (1000, 28))))) dX10_termOrOption_95 ⟨_, rfl, Or.inl ⟨_, rfl⟩⟩ rfl h
  · replace h := h.2
    rcases (show x0 = 17 ∨ x0 = 18 ∨ x0 = 19 ∨ x0 = 20 ∨ x0 = 21 ∨ x0 = 22 ∨ x0 = 23 ∨ x0 = 24 ∨ x0 = 25 ∨ x0 = 26 ∨ x0 = 27 by omega) with c1 | c1 | c1 | c1 | c1 | c1 | c1 | c1 | c1 | c1 | c1
    · replace h := h.1 c1
      refine am_tswIn (off := 59) (tgt := 60) dX10_termOrOption_1 (by omega) (by omega) (by rw [c1]; decide) (by decide) ?_
      refine am_ldcS (sid := 17) dX10_termOrOption_60 rfl ?_
      exact am_ret (r := some (.inr (.inr (some (1000, 17))))) dX10_termOrOption_62 ⟨_, rfl, Or.inl ⟨_, rfl⟩⟩ rfl h
    · replace h := h.2.1 c1
      refine am_tswIn (off := 62) (tgt := 63) dX10_termOrOption_1 (by omega) (by omega) (by rw [c1]; decide) (by decide) ?_
      refine am_ldcS (sid := 18) dX10_termOrOption_63 rfl ?_
      exact am_ret (r := some (.inr (.inr (some (1000, 18))))) dX10_termOrOption_65 ⟨_, rfl, Or.inl ⟨_, rfl⟩⟩ rfl h
    · replace h := h.2.2.1 c1
      refine am_tswIn (off := 65) (tgt := 66) dX10_termOrOption_1 (by omega) (by omega) (by rw [c1]; decide) (by decide) ?_
      refine am_ldcS (sid := 19) dX10_termOrOption_66 rfl ?_
      exact am_ret (r := some (.inr (.inr (some (1000, 19))))) dX10_termOrOption_68 ⟨_, rfl, Or.inl ⟨_, rfl⟩⟩ rfl h
    · replace h := h.2.2.2.1 c1
      refine am_tswIn (off := 68) (tgt := 69) dX10_termOrOption_1 (by omega) (by omega) (by rw [c1]; decide) (by decide) ?_
      refine am_ldcS (sid := 20) dX10_termOrOption_69 rfl ?_
      exact am_ret (r := some (.inr (.inr (some (1000, 20))))) dX10_termOrOption_71 ⟨_, rfl, Or.inl ⟨_, rfl⟩⟩ rfl h
    · replace h := h.2.2.2.2.1 c1
      refine am_tswIn (off := 71) (tgt := 72) dX10_termOrOption_1 (by omega) (by omega) (by rw [c1]; decide) (by decide) ?_
      refine am_ldcS (sid := 21) dX10_termOrOption_72 rfl ?_
      exact am_ret (r := some (.inr (.inr (some (1000, 21))))) dX10_termOrOption_74 ⟨_, rfl, Or.inl ⟨_, rfl⟩⟩ rfl h
    · replace h := h.2.2.2.2.2.1 c1
      refine am_tswIn (off := 74) (tgt := 75) dX10_termOrOption_1 (by omega) (by omega) (by rw [c1]; decide) (by decide) ?_
      refine am_ldcS (sid := 22) dX10_termOrOption_75 rfl ?_
      exact am_ret (r := some (.inr (.inr (some (1000, 22))))) dX10_termOrOption_77 ⟨_, rfl, Or.inl ⟨_, rfl⟩⟩ rfl h
    · replace h := h.2.2.2.2.2.2.1 c1
      refine am_tswIn (off := 77) (tgt := 78) dX10_termOrOption_1 (by omega) (by omega) (by rw [c1]; decide) (by decide) ?_
      refine am_ldcS (sid := 23) dX10_termOrOption_78 rfl ?_
      exact am_ret (r := some (.inr (.inr (some (1000, 23))))) dX10_termOrOption_80 ⟨_, rfl, Or.inl ⟨_, rfl⟩⟩ rfl h
    · replace h := h.2.2.2.2.2.2.2.1 c1
      refine am_tswIn (off := 80) (tgt := 81) dX10_termOrOption_1 (by omega) (by omega) (by rw [c1]; decide) (by decide) ?_
      refine am_ldcS (sid := 24) dX10_termOrOption_81 rfl ?_
      exact am_ret (r := some (.inr (.inr (some (1000, 24))))) dX10_termOrOption_83 ⟨_, rfl, Or.inl ⟨_, rfl⟩⟩ rfl h
    · replace h := h.2.2.2.2.2.2.2.2.1 c1
      refine am_tswIn (off := 83) (tgt := 84) dX10_termOrOption_1 (by omega) (by omega) (by rw [c1]; decide) (by decide) ?_
      refine am_ldcS (sid := 25) dX10_termOrOption_84 rfl ?_
      exact am_ret (r := some (.inr (.inr (some (1000, 25))))) dX10_termOrOption_86 ⟨_, rfl, Or.inl ⟨_, rfl⟩⟩ rfl h
    · replace h := h.2.2.2.2.2.2.2.2.2.1 c1
      refine am_tswIn (off := 86) (tgt := 87) dX10_termOrOption_1 (by omega) (by omega) (by rw [c1]; decide) (by decide) ?_
      refine am_ldcS (sid := 26) dX10_termOrOption_87 rfl ?_
      exact am_ret (r := some (.inr (.inr (some (1000, 26))))) dX10_termOrOption_89 ⟨_, rfl, Or.inl ⟨_, rfl⟩⟩ rfl h
    · replace h := h.2.2.2.2.2.2.2.2.2.2 c1
      refine am_tswIn (off := 89) (tgt := 90) dX10_termOrOption_1 (by omega) (by omega) (by rw [c1]; decide) (by decide) ?_
      refine am_ldcS (sid := 27) dX10_termOrOption_90 rfl ?_
      exact am_ret (r := some (.inr (.inr (some (1000, 27))))) dX10_termOrOption_92 ⟨_, rfl, Or.inl ⟨_, rfl⟩⟩ rfl h
-- MourningHouse$Words.lineWord(I)Ljava/lang/String;
theorem dX10_lineWord_0 : decode mX10_lineWord.2.1 0 = .ok (.iload_n 0, 1) := by decide +kernel
theorem dX10_lineWord_1 : decode mX10_lineWord.2.1 1 = .ok (.tableswitch 85 29 38 #[55, 58, 61, 64, 67, 70, 73, 76, 79, 82], 55) := by decide +kernel
theorem dX10_lineWord_56 : decode mX10_lineWord.2.1 56 = .ok (.ldc 77, 2) := by decide +kernel
theorem dX10_lineWord_58 : decode mX10_lineWord.2.1 58 = .ok (.areturn, 1) := by decide +kernel
theorem dX10_lineWord_59 : decode mX10_lineWord.2.1 59 = .ok (.ldc 79, 2) := by decide +kernel
theorem dX10_lineWord_61 : decode mX10_lineWord.2.1 61 = .ok (.areturn, 1) := by decide +kernel
theorem dX10_lineWord_62 : decode mX10_lineWord.2.1 62 = .ok (.ldc 81, 2) := by decide +kernel
theorem dX10_lineWord_64 : decode mX10_lineWord.2.1 64 = .ok (.areturn, 1) := by decide +kernel
theorem dX10_lineWord_65 : decode mX10_lineWord.2.1 65 = .ok (.ldc 83, 2) := by decide +kernel
theorem dX10_lineWord_67 : decode mX10_lineWord.2.1 67 = .ok (.areturn, 1) := by decide +kernel
theorem dX10_lineWord_68 : decode mX10_lineWord.2.1 68 = .ok (.ldc 85, 2) := by decide +kernel
theorem dX10_lineWord_70 : decode mX10_lineWord.2.1 70 = .ok (.areturn, 1) := by decide +kernel
theorem dX10_lineWord_71 : decode mX10_lineWord.2.1 71 = .ok (.ldc 87, 2) := by decide +kernel
theorem dX10_lineWord_73 : decode mX10_lineWord.2.1 73 = .ok (.areturn, 1) := by decide +kernel
theorem dX10_lineWord_74 : decode mX10_lineWord.2.1 74 = .ok (.ldc 89, 2) := by decide +kernel
theorem dX10_lineWord_76 : decode mX10_lineWord.2.1 76 = .ok (.areturn, 1) := by decide +kernel
theorem dX10_lineWord_77 : decode mX10_lineWord.2.1 77 = .ok (.ldc 91, 2) := by decide +kernel
theorem dX10_lineWord_79 : decode mX10_lineWord.2.1 79 = .ok (.areturn, 1) := by decide +kernel
theorem dX10_lineWord_80 : decode mX10_lineWord.2.1 80 = .ok (.ldc 93, 2) := by decide +kernel
theorem dX10_lineWord_82 : decode mX10_lineWord.2.1 82 = .ok (.areturn, 1) := by decide +kernel
theorem dX10_lineWord_83 : decode mX10_lineWord.2.1 83 = .ok (.ldc 95, 2) := by decide +kernel
theorem dX10_lineWord_85 : decode mX10_lineWord.2.1 85 = .ok (.areturn, 1) := by decide +kernel
theorem dX10_lineWord_86 : decode mX10_lineWord.2.1 86 = .ok (.ldc 97, 2) := by decide +kernel
theorem dX10_lineWord_88 : decode mX10_lineWord.2.1 88 = .ok (.areturn, 1) := by decide +kernel
theorem bX10_lineWord_0 {SC : Nat → Nat} {X : mh_X} {d : Nat} {Q : Option am_V → am_W → Prop} {bc bs : Nat} {w : am_W} {x0 : Int}
    (h : (((x0 < 29 ∨ 38 < x0) → Q (some (.inr (.inr (some (1000, 39))))) w) ∧ (x0 = 29 → Q (some (.inr (.inr (some (1000, 29))))) w) ∧ (x0 = 30 → Q (some (.inr (.inr (some (1000, 30))))) w) ∧ (x0 = 31 → Q (some (.inr (.inr (some (1000, 31))))) w) ∧ (x0 = 32 → Q (some (.inr (.inr (some (1000, 32))))) w) ∧ (x0 = 33 → Q (some (.inr (.inr (some (1000, 33))))) w) ∧ (x0 = 34 → Q (some (.inr (.inr (some (1000, 34))))) w) ∧ (x0 = 35 → Q (some (.inr (.inr (some (1000, 35))))) w) ∧ (x0 = 36 → Q (some (.inr (.inr (some (1000, 36))))) w) ∧ (x0 = 37 → Q (some (.inr (.inr (some (1000, 37))))) w) ∧ (x0 = 38 → Q (some (.inr (.inr (some (1000, 38))))) w))) :
    am_A (mh_G X) SC (d + 1) mX10_lineWord Q 0 [(0, .inl x0)] [] w bc bs := by
  refine am_iload_n dX10_lineWord_0 (List.Mem.head _) ?_
  by_cases c1 : x0 < 29 ∨ 38 < x0
  · replace h := h.1 c1
    refine am_tswOut (tgt := 86) dX10_lineWord_1 c1 (by decide) ?_
    refine am_ldcS (sid := 39) dX10_lineWord_86 rfl ?_
    exact am_ret (r := some (.inr (.inr (some (1000, 39))))) dX10_lineWord_88 ⟨_, rfl, Or.inl ⟨_, rfl⟩⟩ rfl h
  · replace h := h.2
    rcases (show x0 = 29 ∨ x0 = 30 ∨ x0 = 31 ∨ x0 = 32 ∨ x0 = 33 ∨ x0 = 34 ∨ x0 = 35 ∨ x0 = 36 ∨ x0 = 37 ∨ x0 = 38 by omega) with c1 | c1 | c1 | c1 | c1 | c1 | c1 | c1 | c1 | c1
    · replace h := h.1 c1
      refine am_tswIn (off := 55) (tgt := 56) dX10_lineWord_1 (by omega) (by omega) (by rw [c1]; decide) (by decide) ?_
      refine am_ldcS (sid := 29) dX10_lineWord_56 rfl ?_
      exact am_ret (r := some (.inr (.inr (some (1000, 29))))) dX10_lineWord_58 ⟨_, rfl, Or.inl ⟨_, rfl⟩⟩ rfl h
    · replace h := h.2.1 c1
      refine am_tswIn (off := 58) (tgt := 59) dX10_lineWord_1 (by omega) (by omega) (by rw [c1]; decide) (by decide) ?_
      refine am_ldcS (sid := 30) dX10_lineWord_59 rfl ?_
      exact am_ret (r := some (.inr (.inr (some (1000, 30))))) dX10_lineWord_61 ⟨_, rfl, Or.inl ⟨_, rfl⟩⟩ rfl h
    · replace h := h.2.2.1 c1
      refine am_tswIn (off := 61) (tgt := 62) dX10_lineWord_1 (by omega) (by omega) (by rw [c1]; decide) (by decide) ?_
      refine am_ldcS (sid := 31) dX10_lineWord_62 rfl ?_
      exact am_ret (r := some (.inr (.inr (some (1000, 31))))) dX10_lineWord_64 ⟨_, rfl, Or.inl ⟨_, rfl⟩⟩ rfl h
    · replace h := h.2.2.2.1 c1
      refine am_tswIn (off := 64) (tgt := 65) dX10_lineWord_1 (by omega) (by omega) (by rw [c1]; decide) (by decide) ?_
      refine am_ldcS (sid := 32) dX10_lineWord_65 rfl ?_
      exact am_ret (r := some (.inr (.inr (some (1000, 32))))) dX10_lineWord_67 ⟨_, rfl, Or.inl ⟨_, rfl⟩⟩ rfl h
    · replace h := h.2.2.2.2.1 c1
      refine am_tswIn (off := 67) (tgt := 68) dX10_lineWord_1 (by omega) (by omega) (by rw [c1]; decide) (by decide) ?_
      refine am_ldcS (sid := 33) dX10_lineWord_68 rfl ?_
      exact am_ret (r := some (.inr (.inr (some (1000, 33))))) dX10_lineWord_70 ⟨_, rfl, Or.inl ⟨_, rfl⟩⟩ rfl h
    · replace h := h.2.2.2.2.2.1 c1
      refine am_tswIn (off := 70) (tgt := 71) dX10_lineWord_1 (by omega) (by omega) (by rw [c1]; decide) (by decide) ?_
      refine am_ldcS (sid := 34) dX10_lineWord_71 rfl ?_
      exact am_ret (r := some (.inr (.inr (some (1000, 34))))) dX10_lineWord_73 ⟨_, rfl, Or.inl ⟨_, rfl⟩⟩ rfl h
    · replace h := h.2.2.2.2.2.2.1 c1
      refine am_tswIn (off := 73) (tgt := 74) dX10_lineWord_1 (by omega) (by omega) (by rw [c1]; decide) (by decide) ?_
      refine am_ldcS (sid := 35) dX10_lineWord_74 rfl ?_
      exact am_ret (r := some (.inr (.inr (some (1000, 35))))) dX10_lineWord_76 ⟨_, rfl, Or.inl ⟨_, rfl⟩⟩ rfl h
    · replace h := h.2.2.2.2.2.2.2.1 c1
      refine am_tswIn (off := 76) (tgt := 77) dX10_lineWord_1 (by omega) (by omega) (by rw [c1]; decide) (by decide) ?_
      refine am_ldcS (sid := 36) dX10_lineWord_77 rfl ?_
      exact am_ret (r := some (.inr (.inr (some (1000, 36))))) dX10_lineWord_79 ⟨_, rfl, Or.inl ⟨_, rfl⟩⟩ rfl h
    · replace h := h.2.2.2.2.2.2.2.2.1 c1
      refine am_tswIn (off := 79) (tgt := 80) dX10_lineWord_1 (by omega) (by omega) (by rw [c1]; decide) (by decide) ?_
      refine am_ldcS (sid := 37) dX10_lineWord_80 rfl ?_
      exact am_ret (r := some (.inr (.inr (some (1000, 37))))) dX10_lineWord_82 ⟨_, rfl, Or.inl ⟨_, rfl⟩⟩ rfl h
    · replace h := h.2.2.2.2.2.2.2.2.2 c1
      refine am_tswIn (off := 82) (tgt := 83) dX10_lineWord_1 (by omega) (by omega) (by rw [c1]; decide) (by decide) ?_
      refine am_ldcS (sid := 38) dX10_lineWord_83 rfl ?_
      exact am_ret (r := some (.inr (.inr (some (1000, 38))))) dX10_lineWord_85 ⟨_, rfl, Or.inl ⟨_, rfl⟩⟩ rfl h
-- MourningHouse$Words.codeOf([CII)I
theorem dX10_codeOf_0 : decode mX10_codeOf.2.1 0 = .ok (.iconst 0, 1) := by decide +kernel
theorem dX10_codeOf_1 : decode mX10_codeOf.2.1 1 = .ok (.istore_n 3, 1) := by decide +kernel
theorem dX10_codeOf_2 : decode mX10_codeOf.2.1 2 = .ok (.iload_n 3, 1) := by decide +kernel
theorem dX10_codeOf_3 : decode mX10_codeOf.2.1 3 = .ok (.bipush 40, 2) := by decide +kernel
theorem dX10_codeOf_5 : decode mX10_codeOf.2.1 5 = .ok (.if_icmp .ge 24, 3) := by decide +kernel
theorem dX10_codeOf_8 : decode mX10_codeOf.2.1 8 = .ok (.iload_n 3, 1) := by decide +kernel
theorem dX10_codeOf_9 : decode mX10_codeOf.2.1 9 = .ok (.invokestatic 99, 3) := by decide +kernel
theorem dX10_codeOf_12 : decode mX10_codeOf.2.1 12 = .ok (.aload_n 0, 1) := by decide +kernel
theorem dX10_codeOf_13 : decode mX10_codeOf.2.1 13 = .ok (.iload_n 1, 1) := by decide +kernel
theorem dX10_codeOf_14 : decode mX10_codeOf.2.1 14 = .ok (.iload_n 2, 1) := by decide +kernel
theorem dX10_codeOf_15 : decode mX10_codeOf.2.1 15 = .ok (.invokestatic 102, 3) := by decide +kernel
theorem dX10_codeOf_18 : decode mX10_codeOf.2.1 18 = .ok (.ifCond .eq 5, 3) := by decide +kernel
theorem dX10_codeOf_21 : decode mX10_codeOf.2.1 21 = .ok (.iload_n 3, 1) := by decide +kernel
theorem dX10_codeOf_22 : decode mX10_codeOf.2.1 22 = .ok (.ireturn, 1) := by decide +kernel
theorem dX10_codeOf_23 : decode mX10_codeOf.2.1 23 = .ok (.iinc 3 1, 3) := by decide +kernel
theorem dX10_codeOf_26 : decode mX10_codeOf.2.1 26 = .ok (.goto (-24), 3) := by decide +kernel
theorem dX10_codeOf_29 : decode mX10_codeOf.2.1 29 = .ok (.bipush 40, 2) := by decide +kernel
theorem dX10_codeOf_31 : decode mX10_codeOf.2.1 31 = .ok (.ireturn, 1) := by decide +kernel
theorem bX10_codeOf_0 {SC : Nat → Nat} {X : mh_X} {d : Nat} {Q : Option am_V → am_W → Prop} {bc bs : Nat} {w : am_W} {x1 : Int} {x2 : Int}
    (h : am_A (mh_G X) SC (d + 1) mX10_codeOf Q 2 [(0, .inr (.inr (some (24, 0)))), (1, .inl x1), (2, .inl x2), (3, .inl 0)] [] w bc bs) :
    am_A (mh_G X) SC (d + 1) mX10_codeOf Q 0 [(0, .inr (.inr (some (24, 0)))), (1, .inl x1), (2, .inl x2)] [] w bc bs := by
  refine am_iconst dX10_codeOf_0 (by unfold am_rg; omega) ?_
  refine am_istore_n (ls' := [(3, .inl 0), (0, .inr (.inr (some (24, 0)))), (1, .inl x1), (2, .inl x2)]) dX10_codeOf_1 (by decide) rfl ?_
  exact am_sub [1, 2, 3, 0] rfl h
theorem bX10_codeOf_2 {SC : Nat → Nat} {X : mh_X} {d : Nat} {Q : Option am_V → am_W → Prop} {bc bs : Nat} {w : am_W} {x1 : Int} {x2 : Int} {x3 : Int}
    (h : ((40 ≤ x3 → Q (some (.inl 40)) w) ∧ (¬ 40 ≤ x3 → am_M (mh_G X) SC d 0 0 mX10_nameOf [.inl x3] w (fun r w1 => am_A (mh_G X) SC (d + 1) mX10_codeOf Q 12 [(0, .inr (.inr (some (24, 0)))), (1, .inl x1), (2, .inl x2), (3, .inl x3)] (r.toList ++ []) w1 bc bs)))) :
    am_A (mh_G X) SC (d + 1) mX10_codeOf Q 2 [(0, .inr (.inr (some (24, 0)))), (1, .inl x1), (2, .inl x2), (3, .inl x3)] [] w bc bs := by
  refine am_iload_n dX10_codeOf_2 (List.Mem.tail _ (List.Mem.tail _ (List.Mem.tail _ (List.Mem.head _)))) ?_
  refine am_bipush dX10_codeOf_3 (by decide) (by unfold am_rg; omega) ?_
  refine am_icmpge (tgt := 29) dX10_codeOf_5 (by decide) (fun c1 => ?_) (fun c1 => ?_)
  · replace h := h.1 c1
    refine am_bipush dX10_codeOf_29 (by decide) (by unfold am_rg; omega) ?_
    exact am_ret (r := some (.inl 40)) dX10_codeOf_31 (Or.inl rfl) rfl h
  · replace h := h.2 c1
    refine am_iload_n dX10_codeOf_8 (List.Mem.tail _ (List.Mem.tail _ (List.Mem.tail _ (List.Mem.head _)))) ?_
    exact am_calls (d' := d) (kc := 0) (ks := 0) (as := [.inl x3]) dX10_codeOf_9 wc_X10_nameOf wd_666 wd_667 wd_123 ds_X10_nameOf (by decide) (Nat.le_refl _) (Nat.le_of_ble_eq_true rfl) (Nat.zero_le _) (Nat.zero_le _) rfl h
theorem bX10_codeOf_12 {SC : Nat → Nat} {X : mh_X} {d : Nat} {Q : Option am_V → am_W → Prop} {bc bs : Nat} {w : am_W} {x1 : Int} {x2 : Int} {x3 : Int} {ts0 : Nat} {js0 : Nat}
    (h : am_M (mh_G X) SC d 0 0 mX10_isAt [.inr (.inr (some (ts0, js0))), .inr (.inr (some (24, 0))), .inl x1, .inl x2] w (fun r w1 => am_A (mh_G X) SC (d + 1) mX10_codeOf Q 18 [(0, .inr (.inr (some (24, 0)))), (1, .inl x1), (2, .inl x2), (3, .inl x3)] (r.toList ++ []) w1 bc bs)) :
    am_A (mh_G X) SC (d + 1) mX10_codeOf Q 12 [(0, .inr (.inr (some (24, 0)))), (1, .inl x1), (2, .inl x2), (3, .inl x3)] [.inr (.inr (some (ts0, js0)))] w bc bs := by
  refine am_aload_n dX10_codeOf_12 (List.Mem.head _) ?_
  refine am_iload_n dX10_codeOf_13 (List.Mem.tail _ (List.Mem.head _)) ?_
  refine am_iload_n dX10_codeOf_14 (List.Mem.tail _ (List.Mem.tail _ (List.Mem.head _))) ?_
  exact am_calls (d' := d) (kc := 0) (ks := 0) (as := [.inr (.inr (some (ts0, js0))), .inr (.inr (some (24, 0))), .inl x1, .inl x2]) dX10_codeOf_15 wc_X10_isAt wd_718 wd_719 wd_123 ds_X10_isAt (by decide) (Nat.le_refl _) (Nat.le_of_ble_eq_true rfl) (Nat.zero_le _) (Nat.zero_le _) rfl h
theorem bX10_codeOf_18 {SC : Nat → Nat} {X : mh_X} {d : Nat} {Q : Option am_V → am_W → Prop} {bc bs : Nat} {w : am_W} {x1 : Int} {x2 : Int} {x3 : Int} {xs0 : Int}
    (h : ((xs0 = 0 → am_A (mh_G X) SC (d + 1) mX10_codeOf Q 2 [(0, .inr (.inr (some (24, 0)))), (1, .inl x1), (2, .inl x2), (3, .inl (am_w (x3 + 1)))] [] w bc bs) ∧ (¬ xs0 = 0 → Q (some (.inl x3)) w))) :
    am_A (mh_G X) SC (d + 1) mX10_codeOf Q 18 [(0, .inr (.inr (some (24, 0)))), (1, .inl x1), (2, .inl x2), (3, .inl x3)] [.inl xs0] w bc bs := by
  refine am_ifeq (tgt := 23) dX10_codeOf_18 (by decide) (fun c1 => ?_) (fun c1 => ?_)
  · replace h := h.1 c1
    refine am_iinc (ls' := [(3, .inl (am_w (x3 + 1))), (0, .inr (.inr (some (24, 0)))), (1, .inl x1), (2, .inl x2)]) dX10_codeOf_23 (List.Mem.tail _ (List.Mem.tail _ (List.Mem.tail _ (List.Mem.head _)))) (by decide) rfl ?_
    refine am_goto (tgt := 2) dX10_codeOf_26 (by decide) ?_
    exact am_sub [1, 2, 3, 0] rfl h
  · replace h := h.2 c1
    refine am_iload_n dX10_codeOf_21 (List.Mem.tail _ (List.Mem.tail _ (List.Mem.tail _ (List.Mem.head _)))) ?_
    exact am_ret (r := some (.inl x3)) dX10_codeOf_22 (Or.inl rfl) rfl h
-- MourningHouse$Words.isAt(Ljava/lang/String;[CII)Z
theorem dX10_isAt_0 : decode mX10_isAt.2.1 0 = .ok (.aload_n 0, 1) := by decide +kernel
theorem dX10_isAt_1 : decode mX10_isAt.2.1 1 = .ok (.invokevirtual 106, 3) := by decide +kernel
theorem dX10_isAt_4 : decode mX10_isAt.2.1 4 = .ok (.iload_n 3, 1) := by decide +kernel
theorem dX10_isAt_5 : decode mX10_isAt.2.1 5 = .ok (.iload_n 2, 1) := by decide +kernel
theorem dX10_isAt_6 : decode mX10_isAt.2.1 6 = .ok (.isub, 1) := by decide +kernel
theorem dX10_isAt_7 : decode mX10_isAt.2.1 7 = .ok (.if_icmp .eq 5, 3) := by decide +kernel
theorem dX10_isAt_10 : decode mX10_isAt.2.1 10 = .ok (.iconst 0, 1) := by decide +kernel
theorem dX10_isAt_11 : decode mX10_isAt.2.1 11 = .ok (.ireturn, 1) := by decide +kernel
theorem dX10_isAt_12 : decode mX10_isAt.2.1 12 = .ok (.iconst 0, 1) := by decide +kernel
theorem dX10_isAt_13 : decode mX10_isAt.2.1 13 = .ok (.istore 4, 2) := by decide +kernel
theorem dX10_isAt_15 : decode mX10_isAt.2.1 15 = .ok (.iload 4, 2) := by decide +kernel
theorem dX10_isAt_17 : decode mX10_isAt.2.1 17 = .ok (.aload_n 0, 1) := by decide +kernel
theorem dX10_isAt_18 : decode mX10_isAt.2.1 18 = .ok (.invokevirtual 106, 3) := by decide +kernel
theorem dX10_isAt_21 : decode mX10_isAt.2.1 21 = .ok (.if_icmp .ge 26, 3) := by decide +kernel
theorem dX10_isAt_24 : decode mX10_isAt.2.1 24 = .ok (.aload_n 0, 1) := by decide +kernel
theorem dX10_isAt_25 : decode mX10_isAt.2.1 25 = .ok (.iload 4, 2) := by decide +kernel
theorem dX10_isAt_27 : decode mX10_isAt.2.1 27 = .ok (.invokevirtual 112, 3) := by decide +kernel
theorem dX10_isAt_30 : decode mX10_isAt.2.1 30 = .ok (.aload_n 1, 1) := by decide +kernel
theorem dX10_isAt_31 : decode mX10_isAt.2.1 31 = .ok (.iload_n 2, 1) := by decide +kernel
theorem dX10_isAt_32 : decode mX10_isAt.2.1 32 = .ok (.iload 4, 2) := by decide +kernel
theorem dX10_isAt_34 : decode mX10_isAt.2.1 34 = .ok (.iadd, 1) := by decide +kernel
theorem dX10_isAt_35 : decode mX10_isAt.2.1 35 = .ok (.caload, 1) := by decide +kernel
theorem dX10_isAt_36 : decode mX10_isAt.2.1 36 = .ok (.if_icmp .eq 5, 3) := by decide +kernel
theorem dX10_isAt_39 : decode mX10_isAt.2.1 39 = .ok (.iconst 0, 1) := by decide +kernel
theorem dX10_isAt_40 : decode mX10_isAt.2.1 40 = .ok (.ireturn, 1) := by decide +kernel
theorem dX10_isAt_41 : decode mX10_isAt.2.1 41 = .ok (.iinc 4 1, 3) := by decide +kernel
theorem dX10_isAt_44 : decode mX10_isAt.2.1 44 = .ok (.goto (-29), 3) := by decide +kernel
theorem dX10_isAt_47 : decode mX10_isAt.2.1 47 = .ok (.iconst 1, 1) := by decide +kernel
theorem dX10_isAt_48 : decode mX10_isAt.2.1 48 = .ok (.ireturn, 1) := by decide +kernel
theorem bX10_isAt_0 {SC : Nat → Nat} {X : mh_X} {d : Nat} {Q : Option am_V → am_W → Prop} {bc bs : Nat} {w : am_W} {t0 : Nat} {j0 : Nat} {x2 : Int} {x3 : Int}
    (h : (t0 < 1100 ∧ (am_kd (mh_G X) w t0 j0 = 111 ∧ am_M (mh_G X) SC d 0 0 mJ0_length_8abf5 [.inr (.inr (some (t0, j0)))] w (fun r w1 => am_A (mh_G X) SC (d + 1) mX10_isAt Q 4 [(0, .inr (.inr (some (t0, j0)))), (1, .inr (.inr (some (24, 0)))), (2, .inl x2), (3, .inl x3)] (r.toList ++ []) w1 bc bs)))) :
    am_A (mh_G X) SC (d + 1) mX10_isAt Q 0 [(0, .inr (.inr (some (t0, j0)))), (1, .inr (.inr (some (24, 0)))), (2, .inl x2), (3, .inl x3)] [] w bc bs := by
  refine am_aload_n dX10_isAt_0 (List.Mem.head _) ?_
  have o1 := h.1
  replace h := h.2
  have o2 := h.1
  replace h := h.2
  exact am_callv (d' := d) (kc := 0) (ks := 0) (as := []) dX10_isAt_1 wc_J0_length_8abf5 wd_721 wd_722 wd_723 wd_124 ds_J0_length_8abf5 (by decide) (Nat.le_refl _) (Nat.le_of_ble_eq_true rfl) (Nat.zero_le _) (Nat.zero_le _) hc_11 o1 o2 rfl h
theorem bX10_isAt_4 {SC : Nat → Nat} {X : mh_X} {d : Nat} {Q : Option am_V → am_W → Prop} {bc bs : Nat} {w : am_W} {t0 : Nat} {j0 : Nat} {x2 : Int} {x3 : Int} {xs0 : Int}
    (h : ((xs0 = (am_w (x3 - x2)) → am_A (mh_G X) SC (d + 1) mX10_isAt Q 15 [(0, .inr (.inr (some (t0, j0)))), (1, .inr (.inr (some (24, 0)))), (2, .inl x2), (4, .inl 0)] [] w bc bs) ∧ (¬ xs0 = (am_w (x3 - x2)) → Q (some (.inl 0)) w))) :
    am_A (mh_G X) SC (d + 1) mX10_isAt Q 4 [(0, .inr (.inr (some (t0, j0)))), (1, .inr (.inr (some (24, 0)))), (2, .inl x2), (3, .inl x3)] [.inl xs0] w bc bs := by
  refine am_iload_n dX10_isAt_4 (List.Mem.tail _ (List.Mem.tail _ (List.Mem.tail _ (List.Mem.head _)))) ?_
  refine am_iload_n dX10_isAt_5 (List.Mem.tail _ (List.Mem.tail _ (List.Mem.head _))) ?_
  refine am_isub dX10_isAt_6 ?_
  refine am_icmpeq (tgt := 12) dX10_isAt_7 (by decide) (fun c1 => ?_) (fun c1 => ?_)
  · replace h := h.1 c1
    refine am_iconst dX10_isAt_12 (by unfold am_rg; omega) ?_
    refine am_istore (ls' := [(4, .inl 0), (0, .inr (.inr (some (t0, j0)))), (1, .inr (.inr (some (24, 0)))), (2, .inl x2), (3, .inl x3)]) dX10_isAt_13 (by decide) rfl ?_
    exact am_sub [1, 2, 3, 0] rfl h
  · replace h := h.2 c1
    refine am_iconst dX10_isAt_10 (by unfold am_rg; omega) ?_
    exact am_ret (r := some (.inl 0)) dX10_isAt_11 (Or.inr (Or.inl ⟨rfl, (Or.inl rfl)⟩)) rfl h
theorem bX10_isAt_15 {SC : Nat → Nat} {X : mh_X} {d : Nat} {Q : Option am_V → am_W → Prop} {bc bs : Nat} {w : am_W} {t0 : Nat} {j0 : Nat} {x2 : Int} {x4 : Int}
    (h : (t0 < 1100 ∧ (am_kd (mh_G X) w t0 j0 = 111 ∧ am_M (mh_G X) SC d 0 0 mJ0_length_8abf5 [.inr (.inr (some (t0, j0)))] w (fun r w1 => am_A (mh_G X) SC (d + 1) mX10_isAt Q 21 [(0, .inr (.inr (some (t0, j0)))), (1, .inr (.inr (some (24, 0)))), (2, .inl x2), (4, .inl x4)] (r.toList ++ [.inl x4]) w1 bc bs)))) :
    am_A (mh_G X) SC (d + 1) mX10_isAt Q 15 [(0, .inr (.inr (some (t0, j0)))), (1, .inr (.inr (some (24, 0)))), (2, .inl x2), (4, .inl x4)] [] w bc bs := by
  refine am_iload dX10_isAt_15 (List.Mem.tail _ (List.Mem.tail _ (List.Mem.tail _ (List.Mem.head _)))) ?_
  refine am_aload_n dX10_isAt_17 (List.Mem.head _) ?_
  have o1 := h.1
  replace h := h.2
  have o2 := h.1
  replace h := h.2
  exact am_callv (d' := d) (kc := 0) (ks := 0) (as := []) dX10_isAt_18 wc_J0_length_8abf5 wd_721 wd_722 wd_723 wd_124 ds_J0_length_8abf5 (by decide) (Nat.le_refl _) (Nat.le_of_ble_eq_true rfl) (Nat.zero_le _) (Nat.zero_le _) hc_11 o1 o2 rfl h
theorem bX10_isAt_21 {SC : Nat → Nat} {X : mh_X} {d : Nat} {Q : Option am_V → am_W → Prop} {bc bs : Nat} {w : am_W} {t0 : Nat} {j0 : Nat} {x2 : Int} {x4 : Int} {xs0 : Int} {xs1 : Int}
    (h : ((xs0 ≤ xs1 → Q (some (.inl 1)) w) ∧ (¬ xs0 ≤ xs1 → (t0 < 1100 ∧ (am_kd (mh_G X) w t0 j0 = 111 ∧ am_M (mh_G X) SC d 0 0 mJ0_charAt_5068e [.inr (.inr (some (t0, j0))), .inl x4] w (fun r w1 => am_A (mh_G X) SC (d + 1) mX10_isAt Q 30 [(0, .inr (.inr (some (t0, j0)))), (1, .inr (.inr (some (24, 0)))), (2, .inl x2), (4, .inl x4)] (r.toList ++ []) w1 bc bs)))))) :
    am_A (mh_G X) SC (d + 1) mX10_isAt Q 21 [(0, .inr (.inr (some (t0, j0)))), (1, .inr (.inr (some (24, 0)))), (2, .inl x2), (4, .inl x4)] [.inl xs0, .inl xs1] w bc bs := by
  refine am_icmpge (tgt := 47) dX10_isAt_21 (by decide) (fun c1 => ?_) (fun c1 => ?_)
  · replace h := h.1 c1
    refine am_iconst dX10_isAt_47 (by unfold am_rg; omega) ?_
    exact am_ret (r := some (.inl 1)) dX10_isAt_48 (Or.inr (Or.inl ⟨rfl, (Or.inr rfl)⟩)) rfl h
  · replace h := h.2 c1
    refine am_aload_n dX10_isAt_24 (List.Mem.head _) ?_
    refine am_iload dX10_isAt_25 (List.Mem.tail _ (List.Mem.tail _ (List.Mem.tail _ (List.Mem.head _)))) ?_
    have o2 := h.1
    replace h := h.2
    have o3 := h.1
    replace h := h.2
    exact am_callv (d' := d) (kc := 0) (ks := 0) (as := [.inl x4]) dX10_isAt_27 wc_J0_charAt_5068e wd_731 wd_732 wd_733 wd_124 ds_J0_charAt_5068e (by decide) (Nat.le_refl _) (Nat.le_of_ble_eq_true rfl) (Nat.zero_le _) (Nat.zero_le _) hc_11 o2 o3 rfl h
theorem bX10_isAt_30 {SC : Nat → Nat} {X : mh_X} {d : Nat} {Q : Option am_V → am_W → Prop} {bc bs : Nat} {w : am_W} {t0 : Nat} {j0 : Nat} {x2 : Int} {x4 : Int} {xs0 : Int}
    (h : (0 ≤ (am_w (x2 + x4)) ∧ ((am_w (x2 + x4)) < 3000 ∧ ((xs0 = (w.1 24 0 (am_w (x2 + x4)).toNat) → am_A (mh_G X) SC (d + 1) mX10_isAt Q 15 [(0, .inr (.inr (some (t0, j0)))), (1, .inr (.inr (some (24, 0)))), (2, .inl x2), (4, .inl (am_w (x4 + 1)))] [] w bc bs) ∧ (¬ xs0 = (w.1 24 0 (am_w (x2 + x4)).toNat) → Q (some (.inl 0)) w))))) :
    am_A (mh_G X) SC (d + 1) mX10_isAt Q 30 [(0, .inr (.inr (some (t0, j0)))), (1, .inr (.inr (some (24, 0)))), (2, .inl x2), (4, .inl x4)] [.inl xs0] w bc bs := by
  refine am_aload_n dX10_isAt_30 (List.Mem.tail _ (List.Mem.head _)) ?_
  refine am_iload_n dX10_isAt_31 (List.Mem.tail _ (List.Mem.tail _ (List.Mem.head _))) ?_
  refine am_iload dX10_isAt_32 (List.Mem.tail _ (List.Mem.tail _ (List.Mem.tail _ (List.Mem.head _)))) ?_
  refine am_iadd dX10_isAt_34 ?_
  have o1 := h.1
  replace h := h.2
  have o2 := h.1
  replace h := h.2
  refine am_caload (v := (w.1 24 0 (am_w (x2 + x4)).toNat)) dX10_isAt_35 (by decide) rfl o1 o2 rfl ?_
  refine am_icmpeq (tgt := 41) dX10_isAt_36 (by decide) (fun c3 => ?_) (fun c3 => ?_)
  · replace h := h.1 c3
    refine am_iinc (ls' := [(4, .inl (am_w (x4 + 1))), (0, .inr (.inr (some (t0, j0)))), (1, .inr (.inr (some (24, 0)))), (2, .inl x2)]) dX10_isAt_41 (List.Mem.tail _ (List.Mem.tail _ (List.Mem.tail _ (List.Mem.head _)))) (by decide) rfl ?_
    refine am_goto (tgt := 15) dX10_isAt_44 (by decide) ?_
    exact am_sub [1, 2, 3, 0] rfl h
  · replace h := h.2 c3
    refine am_iconst dX10_isAt_39 (by unfold am_rg; omega) ?_
    exact am_ret (r := some (.inl 0)) dX10_isAt_40 (Or.inr (Or.inl ⟨rfl, (Or.inl rfl)⟩)) rfl h
-- MourningHouse$Words.signOf(C)I
theorem dX10_signOf_0 : decode mX10_signOf.2.1 0 = .ok (.iload_n 0, 1) := by decide +kernel
theorem dX10_signOf_1 : decode mX10_signOf.2.1 1 = .ok (.lookupswitch 55 #[(44, 46), (46, 52), (58, 43), (59, 49)], 43) := by decide +kernel
theorem dX10_signOf_44 : decode mX10_signOf.2.1 44 = .ok (.bipush 42, 2) := by decide +kernel
theorem dX10_signOf_46 : decode mX10_signOf.2.1 46 = .ok (.ireturn, 1) := by decide +kernel
theorem dX10_signOf_47 : decode mX10_signOf.2.1 47 = .ok (.bipush 43, 2) := by decide +kernel
theorem dX10_signOf_49 : decode mX10_signOf.2.1 49 = .ok (.ireturn, 1) := by decide +kernel
theorem dX10_signOf_50 : decode mX10_signOf.2.1 50 = .ok (.bipush 44, 2) := by decide +kernel
theorem dX10_signOf_52 : decode mX10_signOf.2.1 52 = .ok (.ireturn, 1) := by decide +kernel
theorem dX10_signOf_53 : decode mX10_signOf.2.1 53 = .ok (.bipush 45, 2) := by decide +kernel
theorem dX10_signOf_55 : decode mX10_signOf.2.1 55 = .ok (.ireturn, 1) := by decide +kernel
theorem dX10_signOf_56 : decode mX10_signOf.2.1 56 = .ok (.bipush 47, 2) := by decide +kernel
theorem dX10_signOf_58 : decode mX10_signOf.2.1 58 = .ok (.ireturn, 1) := by decide +kernel
theorem bX10_signOf_0 {SC : Nat → Nat} {X : mh_X} {d : Nat} {Q : Option am_V → am_W → Prop} {bc bs : Nat} {w : am_W} {x0 : Int}
    (h : ((x0 = 44 → Q (some (.inl 43)) w) ∧ (x0 = 46 → Q (some (.inl 45)) w) ∧ (x0 = 58 → Q (some (.inl 42)) w) ∧ (x0 = 59 → Q (some (.inl 44)) w) ∧ (¬ x0 = 44 → ¬ x0 = 46 → ¬ x0 = 58 → ¬ x0 = 59 → Q (some (.inl 47)) w))) :
    am_A (mh_G X) SC (d + 1) mX10_signOf Q 0 [(0, .inl x0)] [] w bc bs := by
  refine am_iload_n dX10_signOf_0 (List.Mem.head _) ?_
  by_cases c1 : x0 = 44
  · replace h := h.1 c1
    refine am_lsw (off := 46) (tgt := 47) dX10_signOf_1 (by decide) (by rw [c1]; decide) (by decide) ?_
    refine am_bipush dX10_signOf_47 (by decide) (by unfold am_rg; omega) ?_
    exact am_ret (r := some (.inl 43)) dX10_signOf_49 (Or.inl rfl) rfl h
  have n0_1 := c1
  by_cases c2 : x0 = 46
  · replace h := h.2.1 c2
    refine am_lsw (off := 52) (tgt := 53) dX10_signOf_1 (by decide) (by rw [c2]; decide) (by decide) ?_
    refine am_bipush dX10_signOf_53 (by decide) (by unfold am_rg; omega) ?_
    exact am_ret (r := some (.inl 45)) dX10_signOf_55 (Or.inl rfl) rfl h
  have n1_1 := c2
  by_cases c3 : x0 = 58
  · replace h := h.2.2.1 c3
    refine am_lsw (off := 43) (tgt := 44) dX10_signOf_1 (by decide) (by rw [c3]; decide) (by decide) ?_
    refine am_bipush dX10_signOf_44 (by decide) (by unfold am_rg; omega) ?_
    exact am_ret (r := some (.inl 42)) dX10_signOf_46 (Or.inl rfl) rfl h
  have n2_1 := c3
  by_cases c4 : x0 = 59
  · replace h := h.2.2.2.1 c4
    refine am_lsw (off := 49) (tgt := 50) dX10_signOf_1 (by decide) (by rw [c4]; decide) (by decide) ?_
    refine am_bipush dX10_signOf_50 (by decide) (by unfold am_rg; omega) ?_
    exact am_ret (r := some (.inl 44)) dX10_signOf_52 (Or.inl rfl) rfl h
  have n3_1 := c4
  replace h := h.2.2.2.2 n0_1 n1_1 n2_1 n3_1
  refine am_lsw (off := 55) (tgt := 56) dX10_signOf_1 (by decide) (by show Op.lookupswitch.offset [(44, 46), (46, 52), (58, 43), (59, 49)] 55 x0 = 55; rw [am_off1 n0_1, am_off1 n1_1, am_off1 n2_1, am_off1 n3_1]; rfl) (by decide) ?_
  refine am_bipush dX10_signOf_56 (by decide) (by unfold am_rg; omega) ?_
  exact am_ret (r := some (.inl 47)) dX10_signOf_58 (Or.inl rfl) rfl h
-- MourningHouse$Words.isKin(I)Z
theorem dX10_isKin_0 : decode mX10_isKin.2.1 0 = .ok (.iload_n 0, 1) := by decide +kernel
theorem dX10_isKin_1 : decode mX10_isKin.2.1 1 = .ok (.ifCond .lt 13, 3) := by decide +kernel
theorem dX10_isKin_4 : decode mX10_isKin.2.1 4 = .ok (.iload_n 0, 1) := by decide +kernel
theorem dX10_isKin_5 : decode mX10_isKin.2.1 5 = .ok (.bipush 11, 2) := by decide +kernel
theorem dX10_isKin_7 : decode mX10_isKin.2.1 7 = .ok (.if_icmp .gt 7, 3) := by decide +kernel
theorem dX10_isKin_10 : decode mX10_isKin.2.1 10 = .ok (.iconst 1, 1) := by decide +kernel
theorem dX10_isKin_11 : decode mX10_isKin.2.1 11 = .ok (.goto 4, 3) := by decide +kernel
theorem dX10_isKin_14 : decode mX10_isKin.2.1 14 = .ok (.iconst 0, 1) := by decide +kernel
theorem dX10_isKin_15 : decode mX10_isKin.2.1 15 = .ok (.ireturn, 1) := by decide +kernel
theorem bX10_isKin_0 {SC : Nat → Nat} {X : mh_X} {d : Nat} {Q : Option am_V → am_W → Prop} {bc bs : Nat} {w : am_W} {x0 : Int}
    (h : ((x0 < 0 → Q (some (.inl 0)) w) ∧ (¬ x0 < 0 → ((11 < x0 → Q (some (.inl 0)) w) ∧ (¬ 11 < x0 → Q (some (.inl 1)) w))))) :
    am_A (mh_G X) SC (d + 1) mX10_isKin Q 0 [(0, .inl x0)] [] w bc bs := by
  refine am_iload_n dX10_isKin_0 (List.Mem.head _) ?_
  refine am_iflt (tgt := 14) dX10_isKin_1 (by decide) (fun c1 => ?_) (fun c1 => ?_)
  · replace h := h.1 c1
    refine am_iconst dX10_isKin_14 (by unfold am_rg; omega) ?_
    exact am_ret (r := some (.inl 0)) dX10_isKin_15 (Or.inr (Or.inl ⟨rfl, (Or.inl rfl)⟩)) rfl h
  · replace h := h.2 c1
    refine am_iload_n dX10_isKin_4 (List.Mem.head _) ?_
    refine am_bipush dX10_isKin_5 (by decide) (by unfold am_rg; omega) ?_
    refine am_icmpgt (tgt := 14) dX10_isKin_7 (by decide) (fun c2 => ?_) (fun c2 => ?_)
    · replace h := h.1 c2
      refine am_iconst dX10_isKin_14 (by unfold am_rg; omega) ?_
      exact am_ret (r := some (.inl 0)) dX10_isKin_15 (Or.inr (Or.inl ⟨rfl, (Or.inl rfl)⟩)) rfl h
    · replace h := h.2 c2
      refine am_iconst dX10_isKin_10 (by unfold am_rg; omega) ?_
      refine am_goto (tgt := 15) dX10_isKin_11 (by decide) ?_
      exact am_ret (r := some (.inl 1)) dX10_isKin_15 (Or.inr (Or.inl ⟨rfl, (Or.inr rfl)⟩)) rfl h
-- MourningHouse$Words.isMourning(I)Z
theorem dX10_isMourning_0 : decode mX10_isMourning.2.1 0 = .ok (.iload_n 0, 1) := by decide +kernel
theorem dX10_isMourning_1 : decode mX10_isMourning.2.1 1 = .ok (.bipush 12, 2) := by decide +kernel
theorem dX10_isMourning_3 : decode mX10_isMourning.2.1 3 = .ok (.if_icmp .le 13, 3) := by decide +kernel
theorem dX10_isMourning_6 : decode mX10_isMourning.2.1 6 = .ok (.iload_n 0, 1) := by decide +kernel
theorem dX10_isMourning_7 : decode mX10_isMourning.2.1 7 = .ok (.bipush 16, 2) := by decide +kernel
theorem dX10_isMourning_9 : decode mX10_isMourning.2.1 9 = .ok (.if_icmp .gt 7, 3) := by decide +kernel
theorem dX10_isMourning_12 : decode mX10_isMourning.2.1 12 = .ok (.iconst 1, 1) := by decide +kernel
theorem dX10_isMourning_13 : decode mX10_isMourning.2.1 13 = .ok (.goto 4, 3) := by decide +kernel
theorem dX10_isMourning_16 : decode mX10_isMourning.2.1 16 = .ok (.iconst 0, 1) := by decide +kernel
theorem dX10_isMourning_17 : decode mX10_isMourning.2.1 17 = .ok (.ireturn, 1) := by decide +kernel
theorem bX10_isMourning_0 {SC : Nat → Nat} {X : mh_X} {d : Nat} {Q : Option am_V → am_W → Prop} {bc bs : Nat} {w : am_W} {x0 : Int}
    (h : ((x0 ≤ 12 → Q (some (.inl 0)) w) ∧ (¬ x0 ≤ 12 → ((16 < x0 → Q (some (.inl 0)) w) ∧ (¬ 16 < x0 → Q (some (.inl 1)) w))))) :
    am_A (mh_G X) SC (d + 1) mX10_isMourning Q 0 [(0, .inl x0)] [] w bc bs := by
  refine am_iload_n dX10_isMourning_0 (List.Mem.head _) ?_
  refine am_bipush dX10_isMourning_1 (by decide) (by unfold am_rg; omega) ?_
  refine am_icmple (tgt := 16) dX10_isMourning_3 (by decide) (fun c1 => ?_) (fun c1 => ?_)
  · replace h := h.1 c1
    refine am_iconst dX10_isMourning_16 (by unfold am_rg; omega) ?_
    exact am_ret (r := some (.inl 0)) dX10_isMourning_17 (Or.inr (Or.inl ⟨rfl, (Or.inl rfl)⟩)) rfl h
  · replace h := h.2 c1
    refine am_iload_n dX10_isMourning_6 (List.Mem.head _) ?_
    refine am_bipush dX10_isMourning_7 (by decide) (by unfold am_rg; omega) ?_
    refine am_icmpgt (tgt := 16) dX10_isMourning_9 (by decide) (fun c2 => ?_) (fun c2 => ?_)
    · replace h := h.1 c2
      refine am_iconst dX10_isMourning_16 (by unfold am_rg; omega) ?_
      exact am_ret (r := some (.inl 0)) dX10_isMourning_17 (Or.inr (Or.inl ⟨rfl, (Or.inl rfl)⟩)) rfl h
    · replace h := h.2 c2
      refine am_iconst dX10_isMourning_12 (by unfold am_rg; omega) ?_
      refine am_goto (tgt := 17) dX10_isMourning_13 (by decide) ?_
      exact am_ret (r := some (.inl 1)) dX10_isMourning_17 (Or.inr (Or.inl ⟨rfl, (Or.inr rfl)⟩)) rfl h
-- MourningHouse$Words.isStuff(I)Z
theorem dX10_isStuff_0 : decode mX10_isStuff.2.1 0 = .ok (.iload_n 0, 1) := by decide +kernel
theorem dX10_isStuff_1 : decode mX10_isStuff.2.1 1 = .ok (.bipush 12, 2) := by decide +kernel
theorem dX10_isStuff_3 : decode mX10_isStuff.2.1 3 = .ok (.if_icmp .lt 13, 3) := by decide +kernel
theorem dX10_isStuff_6 : decode mX10_isStuff.2.1 6 = .ok (.iload_n 0, 1) := by decide +kernel
theorem dX10_isStuff_7 : decode mX10_isStuff.2.1 7 = .ok (.bipush 16, 2) := by decide +kernel
theorem dX10_isStuff_9 : decode mX10_isStuff.2.1 9 = .ok (.if_icmp .gt 7, 3) := by decide +kernel
theorem dX10_isStuff_12 : decode mX10_isStuff.2.1 12 = .ok (.iconst 1, 1) := by decide +kernel
theorem dX10_isStuff_13 : decode mX10_isStuff.2.1 13 = .ok (.goto 4, 3) := by decide +kernel
theorem dX10_isStuff_16 : decode mX10_isStuff.2.1 16 = .ok (.iconst 0, 1) := by decide +kernel
theorem dX10_isStuff_17 : decode mX10_isStuff.2.1 17 = .ok (.ireturn, 1) := by decide +kernel
theorem bX10_isStuff_0 {SC : Nat → Nat} {X : mh_X} {d : Nat} {Q : Option am_V → am_W → Prop} {bc bs : Nat} {w : am_W} {x0 : Int}
    (h : ((x0 < 12 → Q (some (.inl 0)) w) ∧ (¬ x0 < 12 → ((16 < x0 → Q (some (.inl 0)) w) ∧ (¬ 16 < x0 → Q (some (.inl 1)) w))))) :
    am_A (mh_G X) SC (d + 1) mX10_isStuff Q 0 [(0, .inl x0)] [] w bc bs := by
  refine am_iload_n dX10_isStuff_0 (List.Mem.head _) ?_
  refine am_bipush dX10_isStuff_1 (by decide) (by unfold am_rg; omega) ?_
  refine am_icmplt (tgt := 16) dX10_isStuff_3 (by decide) (fun c1 => ?_) (fun c1 => ?_)
  · replace h := h.1 c1
    refine am_iconst dX10_isStuff_16 (by unfold am_rg; omega) ?_
    exact am_ret (r := some (.inl 0)) dX10_isStuff_17 (Or.inr (Or.inl ⟨rfl, (Or.inl rfl)⟩)) rfl h
  · replace h := h.2 c1
    refine am_iload_n dX10_isStuff_6 (List.Mem.head _) ?_
    refine am_bipush dX10_isStuff_7 (by decide) (by unfold am_rg; omega) ?_
    refine am_icmpgt (tgt := 16) dX10_isStuff_9 (by decide) (fun c2 => ?_) (fun c2 => ?_)
    · replace h := h.1 c2
      refine am_iconst dX10_isStuff_16 (by unfold am_rg; omega) ?_
      exact am_ret (r := some (.inl 0)) dX10_isStuff_17 (Or.inr (Or.inl ⟨rfl, (Or.inl rfl)⟩)) rfl h
    · replace h := h.2 c2
      refine am_iconst dX10_isStuff_12 (by unfold am_rg; omega) ?_
      refine am_goto (tgt := 17) dX10_isStuff_13 (by decide) ?_
      exact am_ret (r := some (.inl 1)) dX10_isStuff_17 (Or.inr (Or.inl ⟨rfl, (Or.inr rfl)⟩)) rfl h
-- MourningHouse$Words.isUnit(I)Z
theorem dX10_isUnit_0 : decode mX10_isUnit.2.1 0 = .ok (.iload_n 0, 1) := by decide +kernel
theorem dX10_isUnit_1 : decode mX10_isUnit.2.1 1 = .ok (.bipush 17, 2) := by decide +kernel
theorem dX10_isUnit_3 : decode mX10_isUnit.2.1 3 = .ok (.if_icmp .lt 13, 3) := by decide +kernel
theorem dX10_isUnit_6 : decode mX10_isUnit.2.1 6 = .ok (.iload_n 0, 1) := by decide +kernel
theorem dX10_isUnit_7 : decode mX10_isUnit.2.1 7 = .ok (.bipush 20, 2) := by decide +kernel
theorem dX10_isUnit_9 : decode mX10_isUnit.2.1 9 = .ok (.if_icmp .gt 7, 3) := by decide +kernel
theorem dX10_isUnit_12 : decode mX10_isUnit.2.1 12 = .ok (.iconst 1, 1) := by decide +kernel
theorem dX10_isUnit_13 : decode mX10_isUnit.2.1 13 = .ok (.goto 4, 3) := by decide +kernel
theorem dX10_isUnit_16 : decode mX10_isUnit.2.1 16 = .ok (.iconst 0, 1) := by decide +kernel
theorem dX10_isUnit_17 : decode mX10_isUnit.2.1 17 = .ok (.ireturn, 1) := by decide +kernel
theorem bX10_isUnit_0 {SC : Nat → Nat} {X : mh_X} {d : Nat} {Q : Option am_V → am_W → Prop} {bc bs : Nat} {w : am_W} {x0 : Int}
    (h : ((x0 < 17 → Q (some (.inl 0)) w) ∧ (¬ x0 < 17 → ((20 < x0 → Q (some (.inl 0)) w) ∧ (¬ 20 < x0 → Q (some (.inl 1)) w))))) :
    am_A (mh_G X) SC (d + 1) mX10_isUnit Q 0 [(0, .inl x0)] [] w bc bs := by
  refine am_iload_n dX10_isUnit_0 (List.Mem.head _) ?_
  refine am_bipush dX10_isUnit_1 (by decide) (by unfold am_rg; omega) ?_
  refine am_icmplt (tgt := 16) dX10_isUnit_3 (by decide) (fun c1 => ?_) (fun c1 => ?_)
  · replace h := h.1 c1
    refine am_iconst dX10_isUnit_16 (by unfold am_rg; omega) ?_
    exact am_ret (r := some (.inl 0)) dX10_isUnit_17 (Or.inr (Or.inl ⟨rfl, (Or.inl rfl)⟩)) rfl h
  · replace h := h.2 c1
    refine am_iload_n dX10_isUnit_6 (List.Mem.head _) ?_
    refine am_bipush dX10_isUnit_7 (by decide) (by unfold am_rg; omega) ?_
    refine am_icmpgt (tgt := 16) dX10_isUnit_9 (by decide) (fun c2 => ?_) (fun c2 => ?_)
    · replace h := h.1 c2
      refine am_iconst dX10_isUnit_16 (by unfold am_rg; omega) ?_
      exact am_ret (r := some (.inl 0)) dX10_isUnit_17 (Or.inr (Or.inl ⟨rfl, (Or.inl rfl)⟩)) rfl h
    · replace h := h.2 c2
      refine am_iconst dX10_isUnit_12 (by unfold am_rg; omega) ?_
      refine am_goto (tgt := 17) dX10_isUnit_13 (by decide) ?_
      exact am_ret (r := some (.inl 1)) dX10_isUnit_17 (Or.inr (Or.inl ⟨rfl, (Or.inr rfl)⟩)) rfl h
-- MourningHouse$Words.isAct(I)Z
theorem dX10_isAct_0 : decode mX10_isAct.2.1 0 = .ok (.iload_n 0, 1) := by decide +kernel
theorem dX10_isAct_1 : decode mX10_isAct.2.1 1 = .ok (.bipush 21, 2) := by decide +kernel
theorem dX10_isAct_3 : decode mX10_isAct.2.1 3 = .ok (.if_icmp .lt 13, 3) := by decide +kernel
theorem dX10_isAct_6 : decode mX10_isAct.2.1 6 = .ok (.iload_n 0, 1) := by decide +kernel
theorem dX10_isAct_7 : decode mX10_isAct.2.1 7 = .ok (.bipush 24, 2) := by decide +kernel
theorem dX10_isAct_9 : decode mX10_isAct.2.1 9 = .ok (.if_icmp .gt 7, 3) := by decide +kernel
theorem dX10_isAct_12 : decode mX10_isAct.2.1 12 = .ok (.iconst 1, 1) := by decide +kernel
theorem dX10_isAct_13 : decode mX10_isAct.2.1 13 = .ok (.goto 4, 3) := by decide +kernel
theorem dX10_isAct_16 : decode mX10_isAct.2.1 16 = .ok (.iconst 0, 1) := by decide +kernel
theorem dX10_isAct_17 : decode mX10_isAct.2.1 17 = .ok (.ireturn, 1) := by decide +kernel
theorem bX10_isAct_0 {SC : Nat → Nat} {X : mh_X} {d : Nat} {Q : Option am_V → am_W → Prop} {bc bs : Nat} {w : am_W} {x0 : Int}
    (h : ((x0 < 21 → Q (some (.inl 0)) w) ∧ (¬ x0 < 21 → ((24 < x0 → Q (some (.inl 0)) w) ∧ (¬ 24 < x0 → Q (some (.inl 1)) w))))) :
    am_A (mh_G X) SC (d + 1) mX10_isAct Q 0 [(0, .inl x0)] [] w bc bs := by
  refine am_iload_n dX10_isAct_0 (List.Mem.head _) ?_
  refine am_bipush dX10_isAct_1 (by decide) (by unfold am_rg; omega) ?_
  refine am_icmplt (tgt := 16) dX10_isAct_3 (by decide) (fun c1 => ?_) (fun c1 => ?_)
  · replace h := h.1 c1
    refine am_iconst dX10_isAct_16 (by unfold am_rg; omega) ?_
    exact am_ret (r := some (.inl 0)) dX10_isAct_17 (Or.inr (Or.inl ⟨rfl, (Or.inl rfl)⟩)) rfl h
  · replace h := h.2 c1
    refine am_iload_n dX10_isAct_6 (List.Mem.head _) ?_
    refine am_bipush dX10_isAct_7 (by decide) (by unfold am_rg; omega) ?_
    refine am_icmpgt (tgt := 16) dX10_isAct_9 (by decide) (fun c2 => ?_) (fun c2 => ?_)
    · replace h := h.1 c2
      refine am_iconst dX10_isAct_16 (by unfold am_rg; omega) ?_
      exact am_ret (r := some (.inl 0)) dX10_isAct_17 (Or.inr (Or.inl ⟨rfl, (Or.inl rfl)⟩)) rfl h
    · replace h := h.2 c2
      refine am_iconst dX10_isAct_12 (by unfold am_rg; omega) ?_
      refine am_goto (tgt := 17) dX10_isAct_13 (by decide) ?_
      exact am_ret (r := some (.inl 1)) dX10_isAct_17 (Or.inr (Or.inl ⟨rfl, (Or.inr rfl)⟩)) rfl h
-- MourningHouse$Words.isOption(I)Z
theorem dX10_isOption_0 : decode mX10_isOption.2.1 0 = .ok (.iload_n 0, 1) := by decide +kernel
theorem dX10_isOption_1 : decode mX10_isOption.2.1 1 = .ok (.bipush 25, 2) := by decide +kernel
theorem dX10_isOption_3 : decode mX10_isOption.2.1 3 = .ok (.if_icmp .lt 13, 3) := by decide +kernel
theorem dX10_isOption_6 : decode mX10_isOption.2.1 6 = .ok (.iload_n 0, 1) := by decide +kernel
theorem dX10_isOption_7 : decode mX10_isOption.2.1 7 = .ok (.bipush 28, 2) := by decide +kernel
theorem dX10_isOption_9 : decode mX10_isOption.2.1 9 = .ok (.if_icmp .gt 7, 3) := by decide +kernel
theorem dX10_isOption_12 : decode mX10_isOption.2.1 12 = .ok (.iconst 1, 1) := by decide +kernel
theorem dX10_isOption_13 : decode mX10_isOption.2.1 13 = .ok (.goto 4, 3) := by decide +kernel
theorem dX10_isOption_16 : decode mX10_isOption.2.1 16 = .ok (.iconst 0, 1) := by decide +kernel
theorem dX10_isOption_17 : decode mX10_isOption.2.1 17 = .ok (.ireturn, 1) := by decide +kernel
theorem bX10_isOption_0 {SC : Nat → Nat} {X : mh_X} {d : Nat} {Q : Option am_V → am_W → Prop} {bc bs : Nat} {w : am_W} {x0 : Int}
    (h : ((x0 < 25 → Q (some (.inl 0)) w) ∧ (¬ x0 < 25 → ((28 < x0 → Q (some (.inl 0)) w) ∧ (¬ 28 < x0 → Q (some (.inl 1)) w))))) :
    am_A (mh_G X) SC (d + 1) mX10_isOption Q 0 [(0, .inl x0)] [] w bc bs := by
  refine am_iload_n dX10_isOption_0 (List.Mem.head _) ?_
  refine am_bipush dX10_isOption_1 (by decide) (by unfold am_rg; omega) ?_
  refine am_icmplt (tgt := 16) dX10_isOption_3 (by decide) (fun c1 => ?_) (fun c1 => ?_)
  · replace h := h.1 c1
    refine am_iconst dX10_isOption_16 (by unfold am_rg; omega) ?_
    exact am_ret (r := some (.inl 0)) dX10_isOption_17 (Or.inr (Or.inl ⟨rfl, (Or.inl rfl)⟩)) rfl h
  · replace h := h.2 c1
    refine am_iload_n dX10_isOption_6 (List.Mem.head _) ?_
    refine am_bipush dX10_isOption_7 (by decide) (by unfold am_rg; omega) ?_
    refine am_icmpgt (tgt := 16) dX10_isOption_9 (by decide) (fun c2 => ?_) (fun c2 => ?_)
    · replace h := h.1 c2
      refine am_iconst dX10_isOption_16 (by unfold am_rg; omega) ?_
      exact am_ret (r := some (.inl 0)) dX10_isOption_17 (Or.inr (Or.inl ⟨rfl, (Or.inl rfl)⟩)) rfl h
    · replace h := h.2 c2
      refine am_iconst dX10_isOption_12 (by unfold am_rg; omega) ?_
      refine am_goto (tgt := 17) dX10_isOption_13 (by decide) ?_
      exact am_ret (r := some (.inl 1)) dX10_isOption_17 (Or.inr (Or.inl ⟨rfl, (Or.inr rfl)⟩)) rfl h
