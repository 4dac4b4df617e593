-- MourningHouse$Reader.expectNumber(II)Z
theorem dX8_expectNumber_0 : decode mX8_expectNumber.2.1 0 = .ok (.aload_n 0, 1) := by decide +kernel
theorem dX8_expectNumber_1 : decode mX8_expectNumber.2.1 1 = .ok (.aload_n 0, 1) := by decide +kernel
theorem dX8_expectNumber_2 : decode mX8_expectNumber.2.1 2 = .ok (.getfield 39, 3) := by decide +kernel
theorem dX8_expectNumber_5 : decode mX8_expectNumber.2.1 5 = .ok (.invokevirtual 59, 3) := by decide +kernel
theorem dX8_expectNumber_8 : decode mX8_expectNumber.2.1 8 = .ok (.bipush 41, 2) := by decide +kernel
theorem dX8_expectNumber_10 : decode mX8_expectNumber.2.1 10 = .ok (.if_icmp .eq 9, 3) := by decide +kernel
theorem dX8_expectNumber_13 : decode mX8_expectNumber.2.1 13 = .ok (.aload_n 0, 1) := by decide +kernel
theorem dX8_expectNumber_14 : decode mX8_expectNumber.2.1 14 = .ok (.iconst 2, 1) := by decide +kernel
theorem dX8_expectNumber_15 : decode mX8_expectNumber.2.1 15 = .ok (.invokevirtual 55, 3) := by decide +kernel
theorem dX8_expectNumber_18 : decode mX8_expectNumber.2.1 18 = .ok (.ireturn, 1) := by decide +kernel
theorem dX8_expectNumber_19 : decode mX8_expectNumber.2.1 19 = .ok (.aload_n 0, 1) := by decide +kernel
theorem dX8_expectNumber_20 : decode mX8_expectNumber.2.1 20 = .ok (.invokevirtual 122, 3) := by decide +kernel
theorem dX8_expectNumber_23 : decode mX8_expectNumber.2.1 23 = .ok (.iload_n 1, 1) := by decide +kernel
theorem dX8_expectNumber_24 : decode mX8_expectNumber.2.1 24 = .ok (.if_icmp .lt 11, 3) := by decide +kernel
theorem dX8_expectNumber_27 : decode mX8_expectNumber.2.1 27 = .ok (.aload_n 0, 1) := by decide +kernel
theorem dX8_expectNumber_28 : decode mX8_expectNumber.2.1 28 = .ok (.invokevirtual 122, 3) := by decide +kernel
theorem dX8_expectNumber_31 : decode mX8_expectNumber.2.1 31 = .ok (.iload_n 2, 1) := by decide +kernel
theorem dX8_expectNumber_32 : decode mX8_expectNumber.2.1 32 = .ok (.if_icmp .le 9, 3) := by decide +kernel
theorem dX8_expectNumber_35 : decode mX8_expectNumber.2.1 35 = .ok (.aload_n 0, 1) := by decide +kernel
theorem dX8_expectNumber_36 : decode mX8_expectNumber.2.1 36 = .ok (.iconst 3, 1) := by decide +kernel
theorem dX8_expectNumber_37 : decode mX8_expectNumber.2.1 37 = .ok (.invokevirtual 55, 3) := by decide +kernel
theorem dX8_expectNumber_40 : decode mX8_expectNumber.2.1 40 = .ok (.ireturn, 1) := by decide +kernel
theorem dX8_expectNumber_41 : decode mX8_expectNumber.2.1 41 = .ok (.aload_n 0, 1) := by decide +kernel
theorem dX8_expectNumber_42 : decode mX8_expectNumber.2.1 42 = .ok (.dup, 1) := by decide +kernel
theorem dX8_expectNumber_43 : decode mX8_expectNumber.2.1 43 = .ok (.getfield 39, 3) := by decide +kernel
theorem dX8_expectNumber_46 : decode mX8_expectNumber.2.1 46 = .ok (.iconst 1, 1) := by decide +kernel
theorem dX8_expectNumber_47 : decode mX8_expectNumber.2.1 47 = .ok (.iadd, 1) := by decide +kernel
theorem dX8_expectNumber_48 : decode mX8_expectNumber.2.1 48 = .ok (.putfield 39, 3) := by decide +kernel
theorem dX8_expectNumber_51 : decode mX8_expectNumber.2.1 51 = .ok (.iconst 1, 1) := by decide +kernel
theorem dX8_expectNumber_52 : decode mX8_expectNumber.2.1 52 = .ok (.ireturn, 1) := by decide +kernel
theorem bX8_expectNumber_0 {SC : Nat → Nat} {X : mh_X} {d : Nat} {Q : Option am_V → am_W → Prop} {bc bs : Nat} {w : am_W} {x1 : Int} {x2 : Int}
    (h : ((¬ (w.1 2 0 9) < 0 → ¬ (w.1 2 0 8) ≤ (w.1 2 0 9) → ¬ 64 ≤ (w.1 2 0 9) → 0 ≤ (w.1 2 0 9)) ∧ ((¬ (w.1 2 0 9) < 0 → ¬ (w.1 2 0 8) ≤ (w.1 2 0 9) → ¬ 64 ≤ (w.1 2 0 9) → (w.1 2 0 9) < 64) ∧ (((if (w.1 2 0 9) < 0 then 46 else (if (w.1 2 0 8) ≤ (w.1 2 0 9) then 46 else (if 64 ≤ (w.1 2 0 9) then 46 else (w.1 25 0 (w.1 2 0 9).toNat)))) = 41 → (((if (w.1 2 0 9) < 0 then 0 else (if (w.1 2 0 8) ≤ (w.1 2 0 9) then 0 else (if 64 ≤ (w.1 2 0 9) then 0 else (w.1 26 0 (w.1 2 0 9).toNat)))) < x1 → am_A (mh_G X) SC (d + 2) mX8_expectNumber Q 35 [(0, .inr (.inr (some (2, 0))))] [] w bc bs) ∧ (¬ (if (w.1 2 0 9) < 0 then 0 else (if (w.1 2 0 8) ≤ (w.1 2 0 9) then 0 else (if 64 ≤ (w.1 2 0 9) then 0 else (w.1 26 0 (w.1 2 0 9).toNat)))) < x1 → (((if (w.1 2 0 9) < 0 then 0 else (if (w.1 2 0 8) ≤ (w.1 2 0 9) then 0 else (if 64 ≤ (w.1 2 0 9) then 0 else (w.1 26 0 (w.1 2 0 9).toNat)))) ≤ x2 → Q (some (.inl 1)) ((am_up w.1 2 0 9 (am_w ((w.1 2 0 9) + 1))), w.2)) ∧ (¬ (if (w.1 2 0 9) < 0 then 0 else (if (w.1 2 0 8) ≤ (w.1 2 0 9) then 0 else (if 64 ≤ (w.1 2 0 9) then 0 else (w.1 26 0 (w.1 2 0 9).toNat)))) ≤ x2 → am_A (mh_G X) SC (d + 2) mX8_expectNumber Q 35 [(0, .inr (.inr (some (2, 0))))] [] w bc bs))))) ∧ (¬ (if (w.1 2 0 9) < 0 then 46 else (if (w.1 2 0 8) ≤ (w.1 2 0 9) then 46 else (if 64 ≤ (w.1 2 0 9) then 46 else (w.1 25 0 (w.1 2 0 9).toNat)))) = 41 → Q (some (.inl 0)) ((am_up (am_up (am_up w.1 2 0 4 (w.1 2 0 7)) 2 0 5 (am_w (((am_up w.1 2 0 4 (w.1 2 0 7)) 2 0 9) + 1))) 2 0 6 (2 : Int)), w.2)))))) :
    am_A (mh_G X) SC (d + 2) mX8_expectNumber Q 0 [(0, .inr (.inr (some (2, 0)))), (1, .inl x1), (2, .inl x2)] [] w bc bs := by
  refine am_aload_n dX8_expectNumber_0 (List.Mem.head _) ?_
  refine am_aload_n dX8_expectNumber_1 (List.Mem.head _) ?_
  refine am_getf (f := 9) (v := .inl (w.1 2 0 9)) dX8_expectNumber_2 hc_1 (by decide) wd_163 (by decide) rfl rfl ?_
  have o1 := h.1
  replace h := h.2
  have o2 := h.1
  replace h := h.2
  refine am_callv (d' := d + 1) (kc := 0) (ks := 0) (as := [.inl (w.1 2 0 9)]) dX8_expectNumber_5 wc_X8_codeAt wd_791 wd_793 wd_7 wd_113 ds_X8_codeAt (by decide) (by omega) (Nat.le_of_ble_eq_true rfl) (Nat.zero_le _) (Nat.zero_le _) hc_1 (by decide) rfl rfl (sX8_codeAt (d := d + 0) (x1 := (w.1 2 0 9)) o1 o2 ?_)
  show am_A (mh_G X) SC (d + 2) mX8_expectNumber Q 8 [(0, .inr (.inr (some (2, 0)))), (1, .inl x1), (2, .inl x2)] [.inl (if (w.1 2 0 9) < 0 then 46 else (if (w.1 2 0 8) ≤ (w.1 2 0 9) then 46 else (if 64 ≤ (w.1 2 0 9) then 46 else (w.1 25 0 (w.1 2 0 9).toNat))))] w bc bs
  refine am_bipush dX8_expectNumber_8 (by decide) (by unfold am_rg; omega) ?_
  refine am_icmpeq (tgt := 19) dX8_expectNumber_10 (by decide) (fun c3 => ?_) (fun c3 => ?_)
  · replace h := h.1 c3
    refine am_aload_n dX8_expectNumber_19 (List.Mem.head _) ?_
    refine am_callv (d' := d + 1) (kc := 0) (ks := 0) (as := []) dX8_expectNumber_20 wc_X8_value wd_845 wd_847 wd_14 wd_113 ds_X8_value (by decide) (by omega) (Nat.le_of_ble_eq_true rfl) (Nat.zero_le _) (Nat.zero_le _) hc_1 (by decide) rfl rfl (sX8_value (d := d + 0)  o1 o2 ?_)
    show am_A (mh_G X) SC (d + 2) mX8_expectNumber Q 23 [(0, .inr (.inr (some (2, 0)))), (1, .inl x1), (2, .inl x2)] [.inl (if (w.1 2 0 9) < 0 then 0 else (if (w.1 2 0 8) ≤ (w.1 2 0 9) then 0 else (if 64 ≤ (w.1 2 0 9) then 0 else (w.1 26 0 (w.1 2 0 9).toNat))))] w bc bs
    refine am_iload_n dX8_expectNumber_23 (List.Mem.tail _ (List.Mem.head _)) ?_
    refine am_icmplt (tgt := 35) dX8_expectNumber_24 (by decide) (fun c4 => ?_) (fun c4 => ?_)
    · replace h := h.1 c4
      exact am_sub [0] rfl h
    · replace h := h.2 c4
      refine am_aload_n dX8_expectNumber_27 (List.Mem.head _) ?_
      refine am_callv (d' := d + 1) (kc := 0) (ks := 0) (as := []) dX8_expectNumber_28 wc_X8_value wd_845 wd_847 wd_14 wd_113 ds_X8_value (by decide) (by omega) (Nat.le_of_ble_eq_true rfl) (Nat.zero_le _) (Nat.zero_le _) hc_1 (by decide) rfl rfl (sX8_value (d := d + 0)  o1 o2 ?_)
      show am_A (mh_G X) SC (d + 2) mX8_expectNumber Q 31 [(0, .inr (.inr (some (2, 0)))), (1, .inl x1), (2, .inl x2)] [.inl (if (w.1 2 0 9) < 0 then 0 else (if (w.1 2 0 8) ≤ (w.1 2 0 9) then 0 else (if 64 ≤ (w.1 2 0 9) then 0 else (w.1 26 0 (w.1 2 0 9).toNat))))] w bc bs
      refine am_iload_n dX8_expectNumber_31 (List.Mem.tail _ (List.Mem.tail _ (List.Mem.head _))) ?_
      refine am_icmple (tgt := 41) dX8_expectNumber_32 (by decide) (fun c5 => ?_) (fun c5 => ?_)
      · replace h := h.1 c5
        refine am_aload_n dX8_expectNumber_41 (List.Mem.head _) ?_
        refine am_dup dX8_expectNumber_42 rfl ?_
        refine am_getf (f := 9) (v := .inl (w.1 2 0 9)) dX8_expectNumber_43 hc_1 (by decide) wd_163 (by decide) rfl rfl ?_
        refine am_iconst dX8_expectNumber_46 (by unfold am_rg; omega) ?_
        refine am_iadd dX8_expectNumber_47 ?_
        refine am_putf (f := 9) dX8_expectNumber_48 hc_1 (by decide) wd_163 rfl (Or.inl rfl) (Or.inl (by decide)) rfl ?_
        refine am_iconst dX8_expectNumber_51 (by unfold am_rg; omega) ?_
        exact am_ret (r := some (.inl 1)) dX8_expectNumber_52 (Or.inr (Or.inl ⟨rfl, (Or.inr rfl)⟩)) rfl h
      · replace h := h.2 c5
        exact am_sub [0] rfl h
  · replace h := h.2 c3
    refine am_aload_n dX8_expectNumber_13 (List.Mem.head _) ?_
    refine am_iconst dX8_expectNumber_14 (by unfold am_rg; omega) ?_
    refine am_callv (d' := d + 1) (kc := 0) (ks := 0) (as := [.inl 2]) dX8_expectNumber_15 wc_X8_fail wd_787 wd_789 wd_6 wd_113 ds_X8_fail (by decide) (by omega) (Nat.le_of_ble_eq_true rfl) (Nat.zero_le _) (Nat.zero_le _) hc_1 (by decide) rfl rfl (sX8_fail (d := d + 0) (x1 := 2)  ?_)
    show am_A (mh_G X) SC (d + 2) mX8_expectNumber Q 18 [(0, .inr (.inr (some (2, 0)))), (1, .inl x1), (2, .inl x2)] [.inl 0] ((am_up (am_up (am_up w.1 2 0 4 (w.1 2 0 7)) 2 0 5 (am_w (((am_up w.1 2 0 4 (w.1 2 0 7)) 2 0 9) + 1))) 2 0 6 (2 : Int)), w.2) bc bs
    exact am_ret (r := some (.inl 0)) dX8_expectNumber_18 (Or.inr (Or.inl ⟨rfl, (Or.inl rfl)⟩)) rfl h
theorem bX8_expectNumber_35 {SC : Nat → Nat} {X : mh_X} {d : Nat} {Q : Option am_V → am_W → Prop} {bc bs : Nat} {w : am_W} 
    (h : Q (some (.inl 0)) ((am_up (am_up (am_up w.1 2 0 4 (w.1 2 0 7)) 2 0 5 (am_w (((am_up w.1 2 0 4 (w.1 2 0 7)) 2 0 9) + 1))) 2 0 6 (3 : Int)), w.2)) :
    am_A (mh_G X) SC (d + 2) mX8_expectNumber Q 35 [(0, .inr (.inr (some (2, 0))))] [] w bc bs := by
  refine am_aload_n dX8_expectNumber_35 (List.Mem.head _) ?_
  refine am_iconst dX8_expectNumber_36 (by unfold am_rg; omega) ?_
  refine am_callv (d' := d + 1) (kc := 0) (ks := 0) (as := [.inl 3]) dX8_expectNumber_37 wc_X8_fail wd_787 wd_789 wd_6 wd_113 ds_X8_fail (by decide) (by omega) (Nat.le_of_ble_eq_true rfl) (Nat.zero_le _) (Nat.zero_le _) hc_1 (by decide) rfl rfl (sX8_fail (d := d + 0) (x1 := 3)  ?_)
  show am_A (mh_G X) SC (d + 2) mX8_expectNumber Q 40 [(0, .inr (.inr (some (2, 0))))] [.inl 0] ((am_up (am_up (am_up w.1 2 0 4 (w.1 2 0 7)) 2 0 5 (am_w (((am_up w.1 2 0 4 (w.1 2 0 7)) 2 0 9) + 1))) 2 0 6 (3 : Int)), w.2) bc bs
  exact am_ret (r := some (.inl 0)) dX8_expectNumber_40 (Or.inr (Or.inl ⟨rfl, (Or.inl rfl)⟩)) rfl h
-- MourningHouse$Words.isStuff(I)Z
theorem dX10_isStuff_0 : decode mX10_isStuff.2.1 0 = .ok (.iload_n 0, 1) := by decide +kernel
theorem dX10_isStuff_1 : decode mX10_isStuff.2.1 1 = .ok (.bipush 12, 2) := by decide +kernel
theorem dX10_isStuff_3 : decode mX10_isStuff.2.1 3 = .ok (.if_icmp .lt 13, 3) := by decide +kernel
theorem dX10_isStuff_6 : decode mX10_isStuff.2.1 6 = .ok (.iload_n 0, 1) := by decide +kernel
theorem dX10_isStuff_7 : decode mX10_isStuff.2.1 7 = .ok (.bipush 16, 2) := by decide +kernel
theorem dX10_isStuff_9 : decode mX10_isStuff.2.1 9 = .ok (.if_icmp .gt 7, 3) := by decide +kernel
theorem dX10_isStuff_12 : decode mX10_isStuff.2.1 12 = .ok (.iconst 1, 1) := by decide +kernel
theorem dX10_isStuff_13 : decode mX10_isStuff.2.1 13 = .ok (.goto 4, 3) := by decide +kernel
theorem dX10_isStuff_16 : decode mX10_isStuff.2.1 16 = .ok (.iconst 0, 1) := by decide +kernel
theorem dX10_isStuff_17 : decode mX10_isStuff.2.1 17 = .ok (.ireturn, 1) := by decide +kernel
theorem sX10_isStuff {SC : Nat → Nat} {X : mh_X} {d kc ks : Nat} {Q : Option am_V → am_W → Prop} {w : am_W} {x0 : Int}
    (h : Q (some (.inl (if (¬ x0 < 12 ∧ (¬ 16 < x0)) then 1 else 0))) w) : am_M (mh_G X) SC (d + 1) kc ks mX10_isStuff [.inl x0] w Q := by
  refine am_M_of (by decide) (Nat.le_of_ble_eq_true rfl) ?_
  show am_A (mh_G X) SC (d + 1) mX10_isStuff Q 0 [(0, .inl x0)] [] w kc ks
  refine am_iload_n dX10_isStuff_0 (List.Mem.head _) ?_
  refine am_bipush dX10_isStuff_1 (by decide) (by unfold am_rg; omega) ?_
  refine am_icmplt (tgt := 16) dX10_isStuff_3 (by decide) (fun c1 => ?_) (fun c1 => ?_)
  · refine am_iconst dX10_isStuff_16 (by unfold am_rg; omega) ?_
    rw [if_neg (by omega)] at h
    exact am_ret (r := some (.inl 0)) dX10_isStuff_17 (Or.inr (Or.inl ⟨rfl, (Or.inl rfl)⟩)) rfl h
  · refine am_iload_n dX10_isStuff_6 (List.Mem.head _) ?_
    refine am_bipush dX10_isStuff_7 (by decide) (by unfold am_rg; omega) ?_
    refine am_icmpgt (tgt := 16) dX10_isStuff_9 (by decide) (fun c2 => ?_) (fun c2 => ?_)
    · refine am_iconst dX10_isStuff_16 (by unfold am_rg; omega) ?_
      rw [if_neg (by omega)] at h
      exact am_ret (r := some (.inl 0)) dX10_isStuff_17 (Or.inr (Or.inl ⟨rfl, (Or.inl rfl)⟩)) rfl h
    · refine am_iconst dX10_isStuff_12 (by unfold am_rg; omega) ?_
      refine am_goto (tgt := 17) dX10_isStuff_13 (by decide) ?_
      rw [if_pos (by omega)] at h
      exact am_ret (r := some (.inl 1)) dX10_isStuff_17 (Or.inr (Or.inl ⟨rfl, (Or.inr rfl)⟩)) rfl h
-- MourningHouse$Reader.expectStuff()Z
theorem dX8_expectStuff_0 : decode mX8_expectStuff.2.1 0 = .ok (.aload_n 0, 1) := by decide +kernel
theorem dX8_expectStuff_1 : decode mX8_expectStuff.2.1 1 = .ok (.aload_n 0, 1) := by decide +kernel
theorem dX8_expectStuff_2 : decode mX8_expectStuff.2.1 2 = .ok (.getfield 39, 3) := by decide +kernel
theorem dX8_expectStuff_5 : decode mX8_expectStuff.2.1 5 = .ok (.invokevirtual 59, 3) := by decide +kernel
theorem dX8_expectStuff_8 : decode mX8_expectStuff.2.1 8 = .ok (.invokestatic 126, 3) := by decide +kernel
theorem dX8_expectStuff_11 : decode mX8_expectStuff.2.1 11 = .ok (.ifCond .ne 9, 3) := by decide +kernel
theorem dX8_expectStuff_14 : decode mX8_expectStuff.2.1 14 = .ok (.aload_n 0, 1) := by decide +kernel
theorem dX8_expectStuff_15 : decode mX8_expectStuff.2.1 15 = .ok (.iconst 2, 1) := by decide +kernel
theorem dX8_expectStuff_16 : decode mX8_expectStuff.2.1 16 = .ok (.invokevirtual 55, 3) := by decide +kernel
theorem dX8_expectStuff_19 : decode mX8_expectStuff.2.1 19 = .ok (.ireturn, 1) := by decide +kernel
theorem dX8_expectStuff_20 : decode mX8_expectStuff.2.1 20 = .ok (.aload_n 0, 1) := by decide +kernel
theorem dX8_expectStuff_21 : decode mX8_expectStuff.2.1 21 = .ok (.dup, 1) := by decide +kernel
theorem dX8_expectStuff_22 : decode mX8_expectStuff.2.1 22 = .ok (.getfield 39, 3) := by decide +kernel
theorem dX8_expectStuff_25 : decode mX8_expectStuff.2.1 25 = .ok (.iconst 1, 1) := by decide +kernel
theorem dX8_expectStuff_26 : decode mX8_expectStuff.2.1 26 = .ok (.iadd, 1) := by decide +kernel
theorem dX8_expectStuff_27 : decode mX8_expectStuff.2.1 27 = .ok (.putfield 39, 3) := by decide +kernel
theorem dX8_expectStuff_30 : decode mX8_expectStuff.2.1 30 = .ok (.aload_n 0, 1) := by decide +kernel
theorem dX8_expectStuff_31 : decode mX8_expectStuff.2.1 31 = .ok (.bipush 46, 2) := by decide +kernel
theorem dX8_expectStuff_33 : decode mX8_expectStuff.2.1 33 = .ok (.invokevirtual 129, 3) := by decide +kernel
theorem dX8_expectStuff_36 : decode mX8_expectStuff.2.1 36 = .ok (.ireturn, 1) := by decide +kernel
theorem bX8_expectStuff_0 {SC : Nat → Nat} {X : mh_X} {d : Nat} {Q : Option am_V → am_W → Prop} {bc bs : Nat} {w : am_W} 
    (h : ((¬ (w.1 2 0 9) < 0 → ¬ (w.1 2 0 8) ≤ (w.1 2 0 9) → ¬ 64 ≤ (w.1 2 0 9) → 0 ≤ (w.1 2 0 9)) ∧ ((¬ (w.1 2 0 9) < 0 → ¬ (w.1 2 0 8) ≤ (w.1 2 0 9) → ¬ 64 ≤ (w.1 2 0 9) → (w.1 2 0 9) < 64) ∧ (((¬ (if (w.1 2 0 9) < 0 then 46 else (if (w.1 2 0 8) ≤ (w.1 2 0 9) then 46 else (if 64 ≤ (w.1 2 0 9) then 46 else (w.1 25 0 (w.1 2 0 9).toNat)))) < 12 ∧ (¬ 16 < (if (w.1 2 0 9) < 0 then 46 else (if (w.1 2 0 8) ≤ (w.1 2 0 9) then 46 else (if 64 ≤ (w.1 2 0 9) then 46 else (w.1 25 0 (w.1 2 0 9).toNat)))))) → am_M (mh_G X) SC (d + 2) 0 0 mX8_expect [.inr (.inr (some (2, 0))), .inl 46] ((am_up w.1 2 0 9 (am_w ((w.1 2 0 9) + 1))), w.2) (fun r w1 => am_A (mh_G X) SC (d + 3) mX8_expectStuff Q 36 [(0, .inr (.inr (some (2, 0))))] (r.toList ++ []) w1 bc bs)) ∧ (¬ (¬ (if (w.1 2 0 9) < 0 then 46 else (if (w.1 2 0 8) ≤ (w.1 2 0 9) then 46 else (if 64 ≤ (w.1 2 0 9) then 46 else (w.1 25 0 (w.1 2 0 9).toNat)))) < 12 ∧ (¬ 16 < (if (w.1 2 0 9) < 0 then 46 else (if (w.1 2 0 8) ≤ (w.1 2 0 9) then 46 else (if 64 ≤ (w.1 2 0 9) then 46 else (w.1 25 0 (w.1 2 0 9).toNat)))))) → Q (some (.inl 0)) ((am_up (am_up (am_up w.1 2 0 4 (w.1 2 0 7)) 2 0 5 (am_w (((am_up w.1 2 0 4 (w.1 2 0 7)) 2 0 9) + 1))) 2 0 6 (2 : Int)), w.2)))))) :
    am_A (mh_G X) SC (d + 3) mX8_expectStuff Q 0 [(0, .inr (.inr (some (2, 0))))] [] w bc bs := by
  refine am_aload_n dX8_expectStuff_0 (List.Mem.head _) ?_
  refine am_aload_n dX8_expectStuff_1 (List.Mem.head _) ?_
  refine am_getf (f := 9) (v := .inl (w.1 2 0 9)) dX8_expectStuff_2 hc_1 (by decide) wd_163 (by decide) rfl rfl ?_
  have o1 := h.1
  replace h := h.2
  have o2 := h.1
  replace h := h.2
  refine am_callv (d' := d + 2) (kc := 0) (ks := 0) (as := [.inl (w.1 2 0 9)]) dX8_expectStuff_5 wc_X8_codeAt wd_791 wd_793 wd_7 wd_113 ds_X8_codeAt (by decide) (by omega) (Nat.le_of_ble_eq_true rfl) (Nat.zero_le _) (Nat.zero_le _) hc_1 (by decide) rfl rfl (sX8_codeAt (d := d + 1) (x1 := (w.1 2 0 9)) o1 o2 ?_)
  show am_A (mh_G X) SC (d + 3) mX8_expectStuff Q 8 [(0, .inr (.inr (some (2, 0))))] [.inl (if (w.1 2 0 9) < 0 then 46 else (if (w.1 2 0 8) ≤ (w.1 2 0 9) then 46 else (if 64 ≤ (w.1 2 0 9) then 46 else (w.1 25 0 (w.1 2 0 9).toNat))))] w bc bs
  refine am_calls (d' := d + 2) (kc := 0) (ks := 0) (as := [.inl (if (w.1 2 0 9) < 0 then 46 else (if (w.1 2 0 8) ≤ (w.1 2 0 9) then 46 else (if 64 ≤ (w.1 2 0 9) then 46 else (w.1 25 0 (w.1 2 0 9).toNat))))]) dX8_expectStuff_8 wc_X10_isStuff wd_882 wd_883 wd_123 ds_X10_isStuff (by decide) (by omega) (Nat.le_of_ble_eq_true rfl) (Nat.zero_le _) (Nat.zero_le _) rfl (sX10_isStuff (d := d + 1) (x0 := (if (w.1 2 0 9) < 0 then 46 else (if (w.1 2 0 8) ≤ (w.1 2 0 9) then 46 else (if 64 ≤ (w.1 2 0 9) then 46 else (w.1 25 0 (w.1 2 0 9).toNat)))))  ?_)
  show am_A (mh_G X) SC (d + 3) mX8_expectStuff Q 11 [(0, .inr (.inr (some (2, 0))))] [.inl (if (¬ (if (w.1 2 0 9) < 0 then 46 else (if (w.1 2 0 8) ≤ (w.1 2 0 9) then 46 else (if 64 ≤ (w.1 2 0 9) then 46 else (w.1 25 0 (w.1 2 0 9).toNat)))) < 12 ∧ (¬ 16 < (if (w.1 2 0 9) < 0 then 46 else (if (w.1 2 0 8) ≤ (w.1 2 0 9) then 46 else (if 64 ≤ (w.1 2 0 9) then 46 else (w.1 25 0 (w.1 2 0 9).toNat)))))) then 1 else 0)] w bc bs
  refine am_ifne (tgt := 20) dX8_expectStuff_11 (by decide) (fun c3 => ?_) (fun c3 => ?_)
  · replace c3 := am_bne1 c3
    replace h := h.1 c3
    refine am_aload_n dX8_expectStuff_20 (List.Mem.head _) ?_
    refine am_dup dX8_expectStuff_21 rfl ?_
    refine am_getf (f := 9) (v := .inl (w.1 2 0 9)) dX8_expectStuff_22 hc_1 (by decide) wd_163 (by decide) rfl rfl ?_
    refine am_iconst dX8_expectStuff_25 (by unfold am_rg; omega) ?_
    refine am_iadd dX8_expectStuff_26 ?_
    refine am_putf (f := 9) dX8_expectStuff_27 hc_1 (by decide) wd_163 rfl (Or.inl rfl) (Or.inl (by decide)) rfl ?_
    refine am_aload_n dX8_expectStuff_30 (List.Mem.head _) ?_
    refine am_bipush dX8_expectStuff_31 (by decide) (by unfold am_rg; omega) ?_
    exact am_callv (d' := d + 2) (kc := 0) (ks := 0) (as := [.inl 46]) dX8_expectStuff_33 wc_X8_expect wd_867 wd_869 wd_16 wd_113 ds_X8_expect (by decide) (by omega) (Nat.le_of_ble_eq_true rfl) (Nat.zero_le _) (Nat.zero_le _) hc_1 (by decide) rfl rfl h
  · replace c3 := am_bne2 c3
    replace h := h.2 c3
    refine am_aload_n dX8_expectStuff_14 (List.Mem.head _) ?_
    refine am_iconst dX8_expectStuff_15 (by unfold am_rg; omega) ?_
    refine am_callv (d' := d + 2) (kc := 0) (ks := 0) (as := [.inl 2]) dX8_expectStuff_16 wc_X8_fail wd_787 wd_789 wd_6 wd_113 ds_X8_fail (by decide) (by omega) (Nat.le_of_ble_eq_true rfl) (Nat.zero_le _) (Nat.zero_le _) hc_1 (by decide) rfl rfl (sX8_fail (d := d + 1) (x1 := 2)  ?_)
    show am_A (mh_G X) SC (d + 3) mX8_expectStuff Q 19 [(0, .inr (.inr (some (2, 0))))] [.inl 0] ((am_up (am_up (am_up w.1 2 0 4 (w.1 2 0 7)) 2 0 5 (am_w (((am_up w.1 2 0 4 (w.1 2 0 7)) 2 0 9) + 1))) 2 0 6 (2 : Int)), w.2) bc bs
    exact am_ret (r := some (.inl 0)) dX8_expectStuff_19 (Or.inr (Or.inl ⟨rfl, (Or.inl rfl)⟩)) rfl h
theorem bX8_expectStuff_36 {SC : Nat → Nat} {X : mh_X} {d : Nat} {Q : Option am_V → am_W → Prop} {bc bs : Nat} {w : am_W} {xs0 : Int}
    (h : ((xs0 = 0 ∨ xs0 = 1) ∧ Q (some (.inl xs0)) w)) :
    am_A (mh_G X) SC (d + 3) mX8_expectStuff Q 36 [(0, .inr (.inr (some (2, 0))))] [.inl xs0] w bc bs := by
  have o1 := h.1
  replace h := h.2
  exact am_ret (r := some (.inl xs0)) dX8_expectStuff_36 (Or.inr (Or.inl ⟨rfl, o1⟩)) rfl h
-- MourningHouse$Reader.readFeast(LMourningHouse$Law;)Z
theorem dX8_readFeast_0 : decode mX8_readFeast.2.1 0 = .ok (.aload_n 1, 1) := by decide +kernel
theorem dX8_readFeast_1 : decode mX8_readFeast.2.1 1 = .ok (.invokevirtual 193, 3) := by decide +kernel
theorem dX8_readFeast_4 : decode mX8_readFeast.2.1 4 = .ok (.ifCond .ne 10, 3) := by decide +kernel
theorem dX8_readFeast_7 : decode mX8_readFeast.2.1 7 = .ok (.aload_n 0, 1) := by decide +kernel
theorem dX8_readFeast_8 : decode mX8_readFeast.2.1 8 = .ok (.bipush 6, 2) := by decide +kernel
theorem dX8_readFeast_10 : decode mX8_readFeast.2.1 10 = .ok (.invokevirtual 55, 3) := by decide +kernel
theorem dX8_readFeast_13 : decode mX8_readFeast.2.1 13 = .ok (.ireturn, 1) := by decide +kernel
theorem dX8_readFeast_14 : decode mX8_readFeast.2.1 14 = .ok (.aload_n 0, 1) := by decide +kernel
theorem dX8_readFeast_15 : decode mX8_readFeast.2.1 15 = .ok (.iconst 1, 1) := by decide +kernel
theorem dX8_readFeast_16 : decode mX8_readFeast.2.1 16 = .ok (.putfield 39, 3) := by decide +kernel
theorem dX8_readFeast_19 : decode mX8_readFeast.2.1 19 = .ok (.aload_n 0, 1) := by decide +kernel
theorem dX8_readFeast_20 : decode mX8_readFeast.2.1 20 = .ok (.iconst 1, 1) := by decide +kernel
theorem dX8_readFeast_21 : decode mX8_readFeast.2.1 21 = .ok (.bipush 12, 2) := by decide +kernel
theorem dX8_readFeast_23 : decode mX8_readFeast.2.1 23 = .ok (.invokevirtual 169, 3) := by decide +kernel
theorem dX8_readFeast_26 : decode mX8_readFeast.2.1 26 = .ok (.ifCond .ne 5, 3) := by decide +kernel
theorem dX8_readFeast_29 : decode mX8_readFeast.2.1 29 = .ok (.iconst 0, 1) := by decide +kernel
theorem dX8_readFeast_30 : decode mX8_readFeast.2.1 30 = .ok (.ireturn, 1) := by decide +kernel
theorem dX8_readFeast_31 : decode mX8_readFeast.2.1 31 = .ok (.aload_n 0, 1) := by decide +kernel
theorem dX8_readFeast_32 : decode mX8_readFeast.2.1 32 = .ok (.getfield 17, 3) := by decide +kernel
theorem dX8_readFeast_35 : decode mX8_readFeast.2.1 35 = .ok (.iconst 1, 1) := by decide +kernel
theorem dX8_readFeast_36 : decode mX8_readFeast.2.1 36 = .ok (.iaload, 1) := by decide +kernel
theorem dX8_readFeast_37 : decode mX8_readFeast.2.1 37 = .ok (.istore_n 2, 1) := by decide +kernel
theorem dX8_readFeast_38 : decode mX8_readFeast.2.1 38 = .ok (.aload_n 0, 1) := by decide +kernel
theorem dX8_readFeast_39 : decode mX8_readFeast.2.1 39 = .ok (.bipush 45, 2) := by decide +kernel
theorem dX8_readFeast_41 : decode mX8_readFeast.2.1 41 = .ok (.invokevirtual 129, 3) := by decide +kernel
theorem dX8_readFeast_44 : decode mX8_readFeast.2.1 44 = .ok (.ifCond .eq 32, 3) := by decide +kernel
theorem dX8_readFeast_47 : decode mX8_readFeast.2.1 47 = .ok (.aload_n 0, 1) := by decide +kernel
theorem dX8_readFeast_48 : decode mX8_readFeast.2.1 48 = .ok (.iconst 1, 1) := by decide +kernel
theorem dX8_readFeast_49 : decode mX8_readFeast.2.1 49 = .ok (.iconst 0, 1) := by decide +kernel
theorem dX8_readFeast_50 : decode mX8_readFeast.2.1 50 = .ok (.iload_n 2, 1) := by decide +kernel
theorem dX8_readFeast_51 : decode mX8_readFeast.2.1 51 = .ok (.invokestatic 196, 3) := by decide +kernel
theorem dX8_readFeast_54 : decode mX8_readFeast.2.1 54 = .ok (.invokevirtual 169, 3) := by decide +kernel
theorem dX8_readFeast_57 : decode mX8_readFeast.2.1 57 = .ok (.ifCond .eq 19, 3) := by decide +kernel
theorem dX8_readFeast_60 : decode mX8_readFeast.2.1 60 = .ok (.aload_n 0, 1) := by decide +kernel
theorem dX8_readFeast_61 : decode mX8_readFeast.2.1 61 = .ok (.bipush 35, 2) := by decide +kernel
theorem dX8_readFeast_63 : decode mX8_readFeast.2.1 63 = .ok (.invokevirtual 129, 3) := by decide +kernel
theorem dX8_readFeast_66 : decode mX8_readFeast.2.1 66 = .ok (.ifCond .eq 10, 3) := by decide +kernel
theorem dX8_readFeast_69 : decode mX8_readFeast.2.1 69 = .ok (.aload_n 0, 1) := by decide +kernel
theorem dX8_readFeast_70 : decode mX8_readFeast.2.1 70 = .ok (.invokevirtual 187, 3) := by decide +kernel
theorem dX8_readFeast_73 : decode mX8_readFeast.2.1 73 = .ok (.ifCond .ne 5, 3) := by decide +kernel
theorem dX8_readFeast_76 : decode mX8_readFeast.2.1 76 = .ok (.iconst 0, 1) := by decide +kernel
theorem dX8_readFeast_77 : decode mX8_readFeast.2.1 77 = .ok (.ireturn, 1) := by decide +kernel
theorem dX8_readFeast_78 : decode mX8_readFeast.2.1 78 = .ok (.aload_n 1, 1) := by decide +kernel
theorem dX8_readFeast_79 : decode mX8_readFeast.2.1 79 = .ok (.iload_n 2, 1) := by decide +kernel
theorem dX8_readFeast_80 : decode mX8_readFeast.2.1 80 = .ok (.bipush 100, 2) := by decide +kernel
theorem dX8_readFeast_82 : decode mX8_readFeast.2.1 82 = .ok (.imul, 1) := by decide +kernel
theorem dX8_readFeast_83 : decode mX8_readFeast.2.1 83 = .ok (.aload_n 0, 1) := by decide +kernel
theorem dX8_readFeast_84 : decode mX8_readFeast.2.1 84 = .ok (.getfield 17, 3) := by decide +kernel
theorem dX8_readFeast_87 : decode mX8_readFeast.2.1 87 = .ok (.iconst 3, 1) := by decide +kernel
theorem dX8_readFeast_88 : decode mX8_readFeast.2.1 88 = .ok (.iaload, 1) := by decide +kernel
theorem dX8_readFeast_89 : decode mX8_readFeast.2.1 89 = .ok (.iadd, 1) := by decide +kernel
theorem dX8_readFeast_90 : decode mX8_readFeast.2.1 90 = .ok (.aload_n 0, 1) := by decide +kernel
theorem dX8_readFeast_91 : decode mX8_readFeast.2.1 91 = .ok (.iconst 5, 1) := by decide +kernel
theorem dX8_readFeast_92 : decode mX8_readFeast.2.1 92 = .ok (.invokevirtual 163, 3) := by decide +kernel
theorem dX8_readFeast_95 : decode mX8_readFeast.2.1 95 = .ok (.invokevirtual 201, 3) := by decide +kernel
theorem dX8_readFeast_98 : decode mX8_readFeast.2.1 98 = .ok (.iconst 1, 1) := by decide +kernel
theorem dX8_readFeast_99 : decode mX8_readFeast.2.1 99 = .ok (.ireturn, 1) := by decide +kernel
theorem bX8_readFeast_0 {SC : Nat → Nat} {X : mh_X} {d : Nat} {Q : Option am_V → am_W → Prop} {bc bs : Nat} {w : am_W} {j1 : Nat}
    (h : (((¬ 8 ≤ (w.1 10 j1 11)) → am_M (mh_G X) SC (d + 3) 0 0 mX8_expectNumber [.inr (.inr (some (2, 0))), .inl 1, .inl 12] ((am_up w.1 2 0 9 1), w.2) (fun r w1 => am_A (mh_G X) SC (d + 4) mX8_readFeast Q 26 [(0, .inr (.inr (some (2, 0)))), (1, .inr (.inr (some (10, j1))))] (r.toList ++ []) w1 bc bs)) ∧ (¬ (¬ 8 ≤ (w.1 10 j1 11)) → Q (some (.inl 0)) ((am_up (am_up (am_up w.1 2 0 4 (w.1 2 0 7)) 2 0 5 (am_w (((am_up w.1 2 0 4 (w.1 2 0 7)) 2 0 9) + 1))) 2 0 6 (6 : Int)), w.2)))) :
    am_A (mh_G X) SC (d + 4) mX8_readFeast Q 0 [(0, .inr (.inr (some (2, 0)))), (1, .inr (.inr (some (10, j1))))] [] w bc bs := by
  refine am_aload_n dX8_readFeast_0 (List.Mem.tail _ (List.Mem.head _)) ?_
  refine am_callv (d' := d + 3) (kc := 0) (ks := 0) (as := []) dX8_readFeast_1 wc_X3_hasRoomForFeast wd_889 wd_890 wd_891 wd_116 ds_X3_hasRoomForFeast (by decide) (by omega) (Nat.le_of_ble_eq_true rfl) (Nat.zero_le _) (Nat.zero_le _) hc_4 (by decide) rfl rfl (sX3_hasRoomForFeast (d := d + 2) (j0 := j1)  ?_)
  show am_A (mh_G X) SC (d + 4) mX8_readFeast Q 4 [(0, .inr (.inr (some (2, 0)))), (1, .inr (.inr (some (10, j1))))] [.inl (if (¬ 8 ≤ (w.1 10 j1 11)) then 1 else 0)] w bc bs
  refine am_ifne (tgt := 14) dX8_readFeast_4 (by decide) (fun c1 => ?_) (fun c1 => ?_)
  · replace c1 := am_bne1 c1
    replace h := h.1 c1
    refine am_aload_n dX8_readFeast_14 (List.Mem.head _) ?_
    refine am_iconst dX8_readFeast_15 (by unfold am_rg; omega) ?_
    refine am_putf (f := 9) dX8_readFeast_16 hc_1 (by decide) wd_163 rfl (Or.inl rfl) (Or.inl (by decide)) rfl ?_
    refine am_aload_n dX8_readFeast_19 (List.Mem.head _) ?_
    refine am_iconst dX8_readFeast_20 (by unfold am_rg; omega) ?_
    refine am_bipush dX8_readFeast_21 (by decide) (by unfold am_rg; omega) ?_
    exact am_callv (d' := d + 3) (kc := 0) (ks := 0) (as := [.inl 1, .inl 12]) dX8_readFeast_23 wc_X8_expectNumber wd_841 wd_843 wd_13 wd_113 ds_X8_expectNumber (by decide) (by omega) (Nat.le_of_ble_eq_true rfl) (Nat.zero_le _) (Nat.zero_le _) hc_1 (by decide) rfl rfl h
  · replace c1 := am_bne2 c1
    replace h := h.2 c1
    refine am_aload_n dX8_readFeast_7 (List.Mem.head _) ?_
    refine am_bipush dX8_readFeast_8 (by decide) (by unfold am_rg; omega) ?_
    refine am_callv (d' := d + 3) (kc := 0) (ks := 0) (as := [.inl 6]) dX8_readFeast_10 wc_X8_fail wd_787 wd_789 wd_6 wd_113 ds_X8_fail (by decide) (by omega) (Nat.le_of_ble_eq_true rfl) (Nat.zero_le _) (Nat.zero_le _) hc_1 (by decide) rfl rfl (sX8_fail (d := d + 2) (x1 := 6)  ?_)
    show am_A (mh_G X) SC (d + 4) mX8_readFeast Q 13 [(0, .inr (.inr (some (2, 0)))), (1, .inr (.inr (some (10, j1))))] [.inl 0] ((am_up (am_up (am_up w.1 2 0 4 (w.1 2 0 7)) 2 0 5 (am_w (((am_up w.1 2 0 4 (w.1 2 0 7)) 2 0 9) + 1))) 2 0 6 (6 : Int)), w.2) bc bs
    exact am_ret (r := some (.inl 0)) dX8_readFeast_13 (Or.inr (Or.inl ⟨rfl, (Or.inl rfl)⟩)) rfl h
theorem bX8_readFeast_26 {SC : Nat → Nat} {X : mh_X} {d : Nat} {Q : Option am_V → am_W → Prop} {bc bs : Nat} {w : am_W} {j1 : Nat} {xs0 : Int}
    (h : ((¬ xs0 = 0 → am_M (mh_G X) SC (d + 3) 0 0 mX8_expect [.inr (.inr (some (2, 0))), .inl 45] w (fun r w1 => am_A (mh_G X) SC (d + 4) mX8_readFeast Q 44 [(2, .inl (w.1 26 0 1)), (0, .inr (.inr (some (2, 0)))), (1, .inr (.inr (some (10, j1))))] (r.toList ++ []) w1 bc bs)) ∧ (xs0 = 0 → Q (some (.inl 0)) w))) :
    am_A (mh_G X) SC (d + 4) mX8_readFeast Q 26 [(0, .inr (.inr (some (2, 0)))), (1, .inr (.inr (some (10, j1))))] [.inl xs0] w bc bs := by
  refine am_ifne (tgt := 31) dX8_readFeast_26 (by decide) (fun c1 => ?_) (fun c1 => ?_)
  · replace h := h.1 c1
    refine am_aload_n dX8_readFeast_31 (List.Mem.head _) ?_
    refine am_getf (f := 2) (v := .inr (.inr (some (26, 0)))) dX8_readFeast_32 hc_1 (by decide) wd_152 (by decide) rfl rfl ?_
    refine am_iconst dX8_readFeast_35 (by unfold am_rg; omega) ?_
    refine am_iaload (v := (w.1 26 0 1)) dX8_readFeast_36 (by decide) rfl (by decide) (show (1 : Int) < (64 : Nat) by decide) rfl ?_
    refine am_istore_n (ls' := [(2, .inl (w.1 26 0 1)), (0, .inr (.inr (some (2, 0)))), (1, .inr (.inr (some (10, j1))))]) dX8_readFeast_37 (by decide) rfl ?_
    refine am_aload_n dX8_readFeast_38 (List.Mem.tail _ (List.Mem.head _)) ?_
    refine am_bipush dX8_readFeast_39 (by decide) (by unfold am_rg; omega) ?_
    exact am_callv (d' := d + 3) (kc := 0) (ks := 0) (as := [.inl 45]) dX8_readFeast_41 wc_X8_expect wd_867 wd_869 wd_16 wd_113 ds_X8_expect (by decide) (by omega) (Nat.le_of_ble_eq_true rfl) (Nat.zero_le _) (Nat.zero_le _) hc_1 (by decide) rfl rfl h
  · replace h := h.2 c1
    refine am_iconst dX8_readFeast_29 (by unfold am_rg; omega) ?_
    exact am_ret (r := some (.inl 0)) dX8_readFeast_30 (Or.inr (Or.inl ⟨rfl, (Or.inl rfl)⟩)) rfl h
theorem bX8_readFeast_44 {SC : Nat → Nat} {X : mh_X} {d : Nat} {Q : Option am_V → am_W → Prop} {bc bs : Nat} {w : am_W} {x2 : Int} {j1 : Nat} {xs0 : Int}
    (h : ((xs0 = 0 → Q (some (.inl 0)) w) ∧ (¬ xs0 = 0 → am_M (mh_G X) SC (d + 3) 0 0 mX0_lengthOf [.inl 0, .inl x2] w (fun r w1 => am_A (mh_G X) SC (d + 4) mX8_readFeast Q 54 [(2, .inl x2), (0, .inr (.inr (some (2, 0)))), (1, .inr (.inr (some (10, j1))))] (r.toList ++ [.inl 1, .inr (.inr (some (2, 0)))]) w1 bc bs)))) :
    am_A (mh_G X) SC (d + 4) mX8_readFeast Q 44 [(2, .inl x2), (0, .inr (.inr (some (2, 0)))), (1, .inr (.inr (some (10, j1))))] [.inl xs0] w bc bs := by
  refine am_ifeq (tgt := 76) dX8_readFeast_44 (by decide) (fun c1 => ?_) (fun c1 => ?_)
  · replace h := h.1 c1
    refine am_iconst dX8_readFeast_76 (by unfold am_rg; omega) ?_
    exact am_ret (r := some (.inl 0)) dX8_readFeast_77 (Or.inr (Or.inl ⟨rfl, (Or.inl rfl)⟩)) rfl h
  · replace h := h.2 c1
    refine am_aload_n dX8_readFeast_47 (List.Mem.tail _ (List.Mem.head _)) ?_
    refine am_iconst dX8_readFeast_48 (by unfold am_rg; omega) ?_
    refine am_iconst dX8_readFeast_49 (by unfold am_rg; omega) ?_
    refine am_iload_n dX8_readFeast_50 (List.Mem.head _) ?_
    exact am_calls (d' := d + 3) (kc := 0) (ks := 0) (as := [.inl 0, .inl x2]) dX8_readFeast_51 wc_X0_lengthOf wd_893 wd_894 wd_129 ds_X0_lengthOf (by decide) (by omega) (Nat.le_of_ble_eq_true rfl) (Nat.zero_le _) (Nat.zero_le _) rfl h
theorem bX8_readFeast_54 {SC : Nat → Nat} {X : mh_X} {d : Nat} {Q : Option am_V → am_W → Prop} {bc bs : Nat} {w : am_W} {x2 : Int} {j1 : Nat} {xs0 : Int} {xs1 : Int}
    (h : am_M (mh_G X) SC (d + 3) 0 0 mX8_expectNumber [.inr (.inr (some (2, 0))), .inl xs1, .inl xs0] w (fun r w1 => am_A (mh_G X) SC (d + 4) mX8_readFeast Q 57 [(2, .inl x2), (0, .inr (.inr (some (2, 0)))), (1, .inr (.inr (some (10, j1))))] (r.toList ++ []) w1 bc bs)) :
    am_A (mh_G X) SC (d + 4) mX8_readFeast Q 54 [(2, .inl x2), (0, .inr (.inr (some (2, 0)))), (1, .inr (.inr (some (10, j1))))] [.inl xs0, .inl xs1, .inr (.inr (some (2, 0)))] w bc bs := by
  exact am_callv (d' := d + 3) (kc := 0) (ks := 0) (as := [.inl xs1, .inl xs0]) dX8_readFeast_54 wc_X8_expectNumber wd_841 wd_843 wd_13 wd_113 ds_X8_expectNumber (by decide) (by omega) (Nat.le_of_ble_eq_true rfl) (Nat.zero_le _) (Nat.zero_le _) hc_1 (by decide) rfl rfl h
theorem bX8_readFeast_57 {SC : Nat → Nat} {X : mh_X} {d : Nat} {Q : Option am_V → am_W → Prop} {bc bs : Nat} {w : am_W} {x2 : Int} {j1 : Nat} {xs0 : Int}
    (h : ((xs0 = 0 → Q (some (.inl 0)) w) ∧ (¬ xs0 = 0 → am_M (mh_G X) SC (d + 3) 0 0 mX8_expect [.inr (.inr (some (2, 0))), .inl 35] w (fun r w1 => am_A (mh_G X) SC (d + 4) mX8_readFeast Q 66 [(2, .inl x2), (0, .inr (.inr (some (2, 0)))), (1, .inr (.inr (some (10, j1))))] (r.toList ++ []) w1 bc bs)))) :
    am_A (mh_G X) SC (d + 4) mX8_readFeast Q 57 [(2, .inl x2), (0, .inr (.inr (some (2, 0)))), (1, .inr (.inr (some (10, j1))))] [.inl xs0] w bc bs := by
  refine am_ifeq (tgt := 76) dX8_readFeast_57 (by decide) (fun c1 => ?_) (fun c1 => ?_)
  · replace h := h.1 c1
    refine am_iconst dX8_readFeast_76 (by unfold am_rg; omega) ?_
    exact am_ret (r := some (.inl 0)) dX8_readFeast_77 (Or.inr (Or.inl ⟨rfl, (Or.inl rfl)⟩)) rfl h
  · replace h := h.2 c1
    refine am_aload_n dX8_readFeast_60 (List.Mem.tail _ (List.Mem.head _)) ?_
    refine am_bipush dX8_readFeast_61 (by decide) (by unfold am_rg; omega) ?_
    exact am_callv (d' := d + 3) (kc := 0) (ks := 0) (as := [.inl 35]) dX8_readFeast_63 wc_X8_expect wd_867 wd_869 wd_16 wd_113 ds_X8_expect (by decide) (by omega) (Nat.le_of_ble_eq_true rfl) (Nat.zero_le _) (Nat.zero_le _) hc_1 (by decide) rfl rfl h
theorem bX8_readFeast_66 {SC : Nat → Nat} {X : mh_X} {d : Nat} {Q : Option am_V → am_W → Prop} {bc bs : Nat} {w : am_W} {x2 : Int} {j1 : Nat} {xs0 : Int}
    (h : ((xs0 = 0 → Q (some (.inl 0)) w) ∧ (¬ xs0 = 0 → am_M (mh_G X) SC (d + 3) 0 0 mX8_expectStuff [.inr (.inr (some (2, 0)))] w (fun r w1 => am_A (mh_G X) SC (d + 4) mX8_readFeast Q 73 [(2, .inl x2), (0, .inr (.inr (some (2, 0)))), (1, .inr (.inr (some (10, j1))))] (r.toList ++ []) w1 bc bs)))) :
    am_A (mh_G X) SC (d + 4) mX8_readFeast Q 66 [(2, .inl x2), (0, .inr (.inr (some (2, 0)))), (1, .inr (.inr (some (10, j1))))] [.inl xs0] w bc bs := by
  refine am_ifeq (tgt := 76) dX8_readFeast_66 (by decide) (fun c1 => ?_) (fun c1 => ?_)
  · replace h := h.1 c1
    refine am_iconst dX8_readFeast_76 (by unfold am_rg; omega) ?_
    exact am_ret (r := some (.inl 0)) dX8_readFeast_77 (Or.inr (Or.inl ⟨rfl, (Or.inl rfl)⟩)) rfl h
  · replace h := h.2 c1
    refine am_aload_n dX8_readFeast_69 (List.Mem.tail _ (List.Mem.head _)) ?_
    exact am_callv (d' := d + 3) (kc := 0) (ks := 0) (as := []) dX8_readFeast_70 wc_X8_expectStuff wd_878 wd_880 wd_18 wd_113 ds_X8_expectStuff (by decide) (by omega) (Nat.le_of_ble_eq_true rfl) (Nat.zero_le _) (Nat.zero_le _) hc_1 (by decide) rfl rfl h
theorem bX8_readFeast_73 {SC : Nat → Nat} {X : mh_X} {d : Nat} {Q : Option am_V → am_W → Prop} {bc bs : Nat} {w : am_W} {x2 : Int} {j1 : Nat} {xs0 : Int}
    (h : ((¬ xs0 = 0 → ((¬ (5 : Int) < 0 → ¬ (w.1 2 0 8) ≤ (5 : Int) → ¬ 64 ≤ (5 : Int) → 0 ≤ (5 : Int)) ∧ ((¬ (5 : Int) < 0 → ¬ (w.1 2 0 8) ≤ (5 : Int) → ¬ 64 ≤ (5 : Int) → (5 : Int) < 64) ∧ (0 ≤ (w.1 10 j1 11) ∧ ((w.1 10 j1 11) < 8 ∧ Q (some (.inl 1)) ((am_up (am_up (am_up w.1 151 j1 (w.1 10 j1 11).toNat (am_w ((am_w (x2 * 100)) + (w.1 26 0 3)))) 152 j1 (w.1 10 j1 11).toNat (am_w ((if (5 : Int) < 0 then 46 else (if (w.1 2 0 8) ≤ (5 : Int) then 46 else (if 64 ≤ (5 : Int) then 46 else (w.1 25 0 5)))) - 12))) 10 j1 11 (am_w ((w.1 10 j1 11) + 1))), w.2)))))) ∧ (xs0 = 0 → Q (some (.inl 0)) w))) :
    am_A (mh_G X) SC (d + 4) mX8_readFeast Q 73 [(2, .inl x2), (0, .inr (.inr (some (2, 0)))), (1, .inr (.inr (some (10, j1))))] [.inl xs0] w bc bs := by
  refine am_ifne (tgt := 78) dX8_readFeast_73 (by decide) (fun c1 => ?_) (fun c1 => ?_)
  · replace h := h.1 c1
    refine am_aload_n dX8_readFeast_78 (List.Mem.tail _ (List.Mem.tail _ (List.Mem.head _))) ?_
    refine am_iload_n dX8_readFeast_79 (List.Mem.head _) ?_
    refine am_bipush dX8_readFeast_80 (by decide) (by unfold am_rg; omega) ?_
    refine am_imul dX8_readFeast_82 ?_
    refine am_aload_n dX8_readFeast_83 (List.Mem.tail _ (List.Mem.head _)) ?_
    refine am_getf (f := 2) (v := .inr (.inr (some (26, 0)))) dX8_readFeast_84 hc_1 (by decide) wd_152 (by decide) rfl rfl ?_
    refine am_iconst dX8_readFeast_87 (by unfold am_rg; omega) ?_
    refine am_iaload (v := (w.1 26 0 3)) dX8_readFeast_88 (by decide) rfl (by decide) (show (3 : Int) < (64 : Nat) by decide) rfl ?_
    refine am_iadd dX8_readFeast_89 ?_
    refine am_aload_n dX8_readFeast_90 (List.Mem.tail _ (List.Mem.head _)) ?_
    refine am_iconst dX8_readFeast_91 (by unfold am_rg; omega) ?_
    have o2 := h.1
    replace h := h.2
    have o3 := h.1
    replace h := h.2
    refine am_callv (d' := d + 3) (kc := 0) (ks := 0) (as := [.inl 5]) dX8_readFeast_92 wc_X8_depthAt wd_833 wd_835 wd_12 wd_113 ds_X8_depthAt (by decide) (by omega) (Nat.le_of_ble_eq_true rfl) (Nat.zero_le _) (Nat.zero_le _) hc_1 (by decide) rfl rfl (sX8_depthAt (d := d + 1) (x1 := 5) o2 o3 ?_)
    show am_A (mh_G X) SC (d + 4) mX8_readFeast Q 95 [(2, .inl x2), (0, .inr (.inr (some (2, 0)))), (1, .inr (.inr (some (10, j1))))] [.inl (am_w ((if (5 : Int) < 0 then 46 else (if (w.1 2 0 8) ≤ (5 : Int) then 46 else (if 64 ≤ (5 : Int) then 46 else (w.1 25 0 5)))) - 12)), .inl (am_w ((am_w (x2 * 100)) + (w.1 26 0 3))), .inr (.inr (some (10, j1)))] w bc bs
    have o4 := h.1
    replace h := h.2
    have o5 := h.1
    replace h := h.2
    refine am_callv (d' := d + 3) (kc := 0) (ks := 0) (as := [.inl (am_w ((am_w (x2 * 100)) + (w.1 26 0 3))), .inl (am_w ((if (5 : Int) < 0 then 46 else (if (w.1 2 0 8) ≤ (5 : Int) then 46 else (if 64 ≤ (5 : Int) then 46 else (w.1 25 0 5)))) - 12))]) dX8_readFeast_95 wc_X3_addFeast wd_896 wd_897 wd_898 wd_116 ds_X3_addFeast (by decide) (by omega) (Nat.le_of_ble_eq_true rfl) (Nat.zero_le _) (Nat.zero_le _) hc_4 (by decide) rfl rfl (sX3_addFeast (d := d + 2) (j0 := j1) (x1 := (am_w ((am_w (x2 * 100)) + (w.1 26 0 3)))) (x2 := (am_w ((if (5 : Int) < 0 then 46 else (if (w.1 2 0 8) ≤ (5 : Int) then 46 else (if 64 ≤ (5 : Int) then 46 else (w.1 25 0 5)))) - 12))) o4 o5 ?_)
    show am_A (mh_G X) SC (d + 4) mX8_readFeast Q 98 [(2, .inl x2), (0, .inr (.inr (some (2, 0)))), (1, .inr (.inr (some (10, j1))))] [] ((am_up (am_up (am_up w.1 151 j1 (w.1 10 j1 11).toNat (am_w ((am_w (x2 * 100)) + (w.1 26 0 3)))) 152 j1 (w.1 10 j1 11).toNat (am_w ((if (5 : Int) < 0 then 46 else (if (w.1 2 0 8) ≤ (5 : Int) then 46 else (if 64 ≤ (5 : Int) then 46 else (w.1 25 0 5)))) - 12))) 10 j1 11 (am_w ((w.1 10 j1 11) + 1))), w.2) bc bs
    refine am_iconst dX8_readFeast_98 (by unfold am_rg; omega) ?_
    exact am_ret (r := some (.inl 1)) dX8_readFeast_99 (Or.inr (Or.inl ⟨rfl, (Or.inr rfl)⟩)) rfl h
  · replace h := h.2 c1
    refine am_iconst dX8_readFeast_76 (by unfold am_rg; omega) ?_
    exact am_ret (r := some (.inl 0)) dX8_readFeast_77 (Or.inr (Or.inl ⟨rfl, (Or.inl rfl)⟩)) rfl h
-- MourningHouse$Reader.readHeir(LMourningHouse$Law;)Z
theorem dX8_readHeir_0 : decode mX8_readHeir.2.1 0 = .ok (.aload_n 0, 1) := by decide +kernel
theorem dX8_readHeir_1 : decode mX8_readHeir.2.1 1 = .ok (.iconst 1, 1) := by decide +kernel
theorem dX8_readHeir_2 : decode mX8_readHeir.2.1 2 = .ok (.putfield 39, 3) := by decide +kernel
theorem dX8_readHeir_5 : decode mX8_readHeir.2.1 5 = .ok (.aload_n 0, 1) := by decide +kernel
theorem dX8_readHeir_6 : decode mX8_readHeir.2.1 6 = .ok (.iconst 1, 1) := by decide +kernel
theorem dX8_readHeir_7 : decode mX8_readHeir.2.1 7 = .ok (.sipush 400, 3) := by decide +kernel
theorem dX8_readHeir_10 : decode mX8_readHeir.2.1 10 = .ok (.invokevirtual 169, 3) := by decide +kernel
theorem dX8_readHeir_13 : decode mX8_readHeir.2.1 13 = .ok (.ifCond .eq 28, 3) := by decide +kernel
theorem dX8_readHeir_16 : decode mX8_readHeir.2.1 16 = .ok (.aload_n 0, 1) := by decide +kernel
theorem dX8_readHeir_17 : decode mX8_readHeir.2.1 17 = .ok (.bipush 17, 2) := by decide +kernel
theorem dX8_readHeir_19 : decode mX8_readHeir.2.1 19 = .ok (.invokevirtual 129, 3) := by decide +kernel
theorem dX8_readHeir_22 : decode mX8_readHeir.2.1 22 = .ok (.ifCond .eq 19, 3) := by decide +kernel
theorem dX8_readHeir_25 : decode mX8_readHeir.2.1 25 = .ok (.aload_n 0, 1) := by decide +kernel
theorem dX8_readHeir_26 : decode mX8_readHeir.2.1 26 = .ok (.bipush 35, 2) := by decide +kernel
theorem dX8_readHeir_28 : decode mX8_readHeir.2.1 28 = .ok (.invokevirtual 129, 3) := by decide +kernel
theorem dX8_readHeir_31 : decode mX8_readHeir.2.1 31 = .ok (.ifCond .eq 10, 3) := by decide +kernel
theorem dX8_readHeir_34 : decode mX8_readHeir.2.1 34 = .ok (.aload_n 0, 1) := by decide +kernel
theorem dX8_readHeir_35 : decode mX8_readHeir.2.1 35 = .ok (.invokevirtual 187, 3) := by decide +kernel
theorem dX8_readHeir_38 : decode mX8_readHeir.2.1 38 = .ok (.ifCond .ne 5, 3) := by decide +kernel
theorem dX8_readHeir_41 : decode mX8_readHeir.2.1 41 = .ok (.iconst 0, 1) := by decide +kernel
theorem dX8_readHeir_42 : decode mX8_readHeir.2.1 42 = .ok (.ireturn, 1) := by decide +kernel
theorem dX8_readHeir_43 : decode mX8_readHeir.2.1 43 = .ok (.aload_n 1, 1) := by decide +kernel
theorem dX8_readHeir_44 : decode mX8_readHeir.2.1 44 = .ok (.aload_n 0, 1) := by decide +kernel
theorem dX8_readHeir_45 : decode mX8_readHeir.2.1 45 = .ok (.getfield 17, 3) := by decide +kernel
theorem dX8_readHeir_48 : decode mX8_readHeir.2.1 48 = .ok (.iconst 1, 1) := by decide +kernel
theorem dX8_readHeir_49 : decode mX8_readHeir.2.1 49 = .ok (.iaload, 1) := by decide +kernel
theorem dX8_readHeir_50 : decode mX8_readHeir.2.1 50 = .ok (.putfield 205, 3) := by decide +kernel
theorem dX8_readHeir_53 : decode mX8_readHeir.2.1 53 = .ok (.aload_n 1, 1) := by decide +kernel
theorem dX8_readHeir_54 : decode mX8_readHeir.2.1 54 = .ok (.aload_n 0, 1) := by decide +kernel
theorem dX8_readHeir_55 : decode mX8_readHeir.2.1 55 = .ok (.iconst 4, 1) := by decide +kernel
theorem dX8_readHeir_56 : decode mX8_readHeir.2.1 56 = .ok (.invokevirtual 163, 3) := by decide +kernel
theorem dX8_readHeir_59 : decode mX8_readHeir.2.1 59 = .ok (.putfield 208, 3) := by decide +kernel
theorem dX8_readHeir_62 : decode mX8_readHeir.2.1 62 = .ok (.iconst 1, 1) := by decide +kernel
theorem dX8_readHeir_63 : decode mX8_readHeir.2.1 63 = .ok (.ireturn, 1) := by decide +kernel
theorem bX8_readHeir_0 {SC : Nat → Nat} {X : mh_X} {d : Nat} {Q : Option am_V → am_W → Prop} {bc bs : Nat} {w : am_W} {j1 : Nat}
    (h : am_M (mh_G X) SC (d + 3) 0 0 mX8_expectNumber [.inr (.inr (some (2, 0))), .inl 1, .inl 400] ((am_up w.1 2 0 9 1), w.2) (fun r w1 => am_A (mh_G X) SC (d + 4) mX8_readHeir Q 13 [(0, .inr (.inr (some (2, 0)))), (1, .inr (.inr (some (10, j1))))] (r.toList ++ []) w1 bc bs)) :
    am_A (mh_G X) SC (d + 4) mX8_readHeir Q 0 [(0, .inr (.inr (some (2, 0)))), (1, .inr (.inr (some (10, j1))))] [] w bc bs := by
  refine am_aload_n dX8_readHeir_0 (List.Mem.head _) ?_
  refine am_iconst dX8_readHeir_1 (by unfold am_rg; omega) ?_
  refine am_putf (f := 9) dX8_readHeir_2 hc_1 (by decide) wd_163 rfl (Or.inl rfl) (Or.inl (by decide)) rfl ?_
  refine am_aload_n dX8_readHeir_5 (List.Mem.head _) ?_
  refine am_iconst dX8_readHeir_6 (by unfold am_rg; omega) ?_
  refine am_sipush dX8_readHeir_7 (by decide) (by unfold am_rg; omega) ?_
  exact am_callv (d' := d + 3) (kc := 0) (ks := 0) (as := [.inl 1, .inl 400]) dX8_readHeir_10 wc_X8_expectNumber wd_841 wd_843 wd_13 wd_113 ds_X8_expectNumber (by decide) (by omega) (Nat.le_of_ble_eq_true rfl) (Nat.zero_le _) (Nat.zero_le _) hc_1 (by decide) rfl rfl h
theorem bX8_readHeir_13 {SC : Nat → Nat} {X : mh_X} {d : Nat} {Q : Option am_V → am_W → Prop} {bc bs : Nat} {w : am_W} {j1 : Nat} {xs0 : Int}
    (h : ((xs0 = 0 → Q (some (.inl 0)) w) ∧ (¬ xs0 = 0 → am_M (mh_G X) SC (d + 3) 0 0 mX8_expect [.inr (.inr (some (2, 0))), .inl 17] w (fun r w1 => am_A (mh_G X) SC (d + 4) mX8_readHeir Q 22 [(0, .inr (.inr (some (2, 0)))), (1, .inr (.inr (some (10, j1))))] (r.toList ++ []) w1 bc bs)))) :
    am_A (mh_G X) SC (d + 4) mX8_readHeir Q 13 [(0, .inr (.inr (some (2, 0)))), (1, .inr (.inr (some (10, j1))))] [.inl xs0] w bc bs := by
  refine am_ifeq (tgt := 41) dX8_readHeir_13 (by decide) (fun c1 => ?_) (fun c1 => ?_)
  · replace h := h.1 c1
    refine am_iconst dX8_readHeir_41 (by unfold am_rg; omega) ?_
    exact am_ret (r := some (.inl 0)) dX8_readHeir_42 (Or.inr (Or.inl ⟨rfl, (Or.inl rfl)⟩)) rfl h
  · replace h := h.2 c1
    refine am_aload_n dX8_readHeir_16 (List.Mem.head _) ?_
    refine am_bipush dX8_readHeir_17 (by decide) (by unfold am_rg; omega) ?_
    exact am_callv (d' := d + 3) (kc := 0) (ks := 0) (as := [.inl 17]) dX8_readHeir_19 wc_X8_expect wd_867 wd_869 wd_16 wd_113 ds_X8_expect (by decide) (by omega) (Nat.le_of_ble_eq_true rfl) (Nat.zero_le _) (Nat.zero_le _) hc_1 (by decide) rfl rfl h
theorem bX8_readHeir_22 {SC : Nat → Nat} {X : mh_X} {d : Nat} {Q : Option am_V → am_W → Prop} {bc bs : Nat} {w : am_W} {j1 : Nat} {xs0 : Int}
    (h : ((xs0 = 0 → Q (some (.inl 0)) w) ∧ (¬ xs0 = 0 → am_M (mh_G X) SC (d + 3) 0 0 mX8_expect [.inr (.inr (some (2, 0))), .inl 35] w (fun r w1 => am_A (mh_G X) SC (d + 4) mX8_readHeir Q 31 [(0, .inr (.inr (some (2, 0)))), (1, .inr (.inr (some (10, j1))))] (r.toList ++ []) w1 bc bs)))) :
    am_A (mh_G X) SC (d + 4) mX8_readHeir Q 22 [(0, .inr (.inr (some (2, 0)))), (1, .inr (.inr (some (10, j1))))] [.inl xs0] w bc bs := by
  refine am_ifeq (tgt := 41) dX8_readHeir_22 (by decide) (fun c1 => ?_) (fun c1 => ?_)
  · replace h := h.1 c1
    refine am_iconst dX8_readHeir_41 (by unfold am_rg; omega) ?_
    exact am_ret (r := some (.inl 0)) dX8_readHeir_42 (Or.inr (Or.inl ⟨rfl, (Or.inl rfl)⟩)) rfl h
  · replace h := h.2 c1
    refine am_aload_n dX8_readHeir_25 (List.Mem.head _) ?_
    refine am_bipush dX8_readHeir_26 (by decide) (by unfold am_rg; omega) ?_
    exact am_callv (d' := d + 3) (kc := 0) (ks := 0) (as := [.inl 35]) dX8_readHeir_28 wc_X8_expect wd_867 wd_869 wd_16 wd_113 ds_X8_expect (by decide) (by omega) (Nat.le_of_ble_eq_true rfl) (Nat.zero_le _) (Nat.zero_le _) hc_1 (by decide) rfl rfl h
theorem bX8_readHeir_31 {SC : Nat → Nat} {X : mh_X} {d : Nat} {Q : Option am_V → am_W → Prop} {bc bs : Nat} {w : am_W} {j1 : Nat} {xs0 : Int}
    (h : ((xs0 = 0 → Q (some (.inl 0)) w) ∧ (¬ xs0 = 0 → am_M (mh_G X) SC (d + 3) 0 0 mX8_expectStuff [.inr (.inr (some (2, 0)))] w (fun r w1 => am_A (mh_G X) SC (d + 4) mX8_readHeir Q 38 [(0, .inr (.inr (some (2, 0)))), (1, .inr (.inr (some (10, j1))))] (r.toList ++ []) w1 bc bs)))) :
    am_A (mh_G X) SC (d + 4) mX8_readHeir Q 31 [(0, .inr (.inr (some (2, 0)))), (1, .inr (.inr (some (10, j1))))] [.inl xs0] w bc bs := by
  refine am_ifeq (tgt := 41) dX8_readHeir_31 (by decide) (fun c1 => ?_) (fun c1 => ?_)
  · replace h := h.1 c1
    refine am_iconst dX8_readHeir_41 (by unfold am_rg; omega) ?_
    exact am_ret (r := some (.inl 0)) dX8_readHeir_42 (Or.inr (Or.inl ⟨rfl, (Or.inl rfl)⟩)) rfl h
  · replace h := h.2 c1
    refine am_aload_n dX8_readHeir_34 (List.Mem.head _) ?_
    exact am_callv (d' := d + 3) (kc := 0) (ks := 0) (as := []) dX8_readHeir_35 wc_X8_expectStuff wd_878 wd_880 wd_18 wd_113 ds_X8_expectStuff (by decide) (by omega) (Nat.le_of_ble_eq_true rfl) (Nat.zero_le _) (Nat.zero_le _) hc_1 (by decide) rfl rfl h
theorem bX8_readHeir_38 {SC : Nat → Nat} {X : mh_X} {d : Nat} {Q : Option am_V → am_W → Prop} {bc bs : Nat} {w : am_W} {j1 : Nat} {xs0 : Int}
    (h : ((¬ xs0 = 0 → ((¬ (4 : Int) < 0 → ¬ (w.1 2 0 8) ≤ (4 : Int) → ¬ 64 ≤ (4 : Int) → 0 ≤ (4 : Int)) ∧ ((¬ (4 : Int) < 0 → ¬ (w.1 2 0 8) ≤ (4 : Int) → ¬ 64 ≤ (4 : Int) → (4 : Int) < 64) ∧ Q (some (.inl 1)) ((am_up (am_up w.1 10 j1 12 (w.1 26 0 1)) 10 j1 13 (am_w ((if (4 : Int) < 0 then 46 else (if (w.1 2 0 8) ≤ (4 : Int) then 46 else (if 64 ≤ (4 : Int) then 46 else (w.1 25 0 4)))) - 12))), w.2)))) ∧ (xs0 = 0 → Q (some (.inl 0)) w))) :
    am_A (mh_G X) SC (d + 4) mX8_readHeir Q 38 [(0, .inr (.inr (some (2, 0)))), (1, .inr (.inr (some (10, j1))))] [.inl xs0] w bc bs := by
  refine am_ifne (tgt := 43) dX8_readHeir_38 (by decide) (fun c1 => ?_) (fun c1 => ?_)
  · replace h := h.1 c1
    refine am_aload_n dX8_readHeir_43 (List.Mem.tail _ (List.Mem.head _)) ?_
    refine am_aload_n dX8_readHeir_44 (List.Mem.head _) ?_
    refine am_getf (f := 2) (v := .inr (.inr (some (26, 0)))) dX8_readHeir_45 hc_1 (by decide) wd_152 (by decide) rfl rfl ?_
    refine am_iconst dX8_readHeir_48 (by unfold am_rg; omega) ?_
    refine am_iaload (v := (w.1 26 0 1)) dX8_readHeir_49 (by decide) rfl (by decide) (show (1 : Int) < (64 : Nat) by decide) rfl ?_
    refine am_putf (f := 12) dX8_readHeir_50 hc_4 (by decide) wd_233 rfl (Or.inl rfl) (Or.inl (by decide)) rfl ?_
    refine am_aload_n dX8_readHeir_53 (List.Mem.tail _ (List.Mem.head _)) ?_
    refine am_aload_n dX8_readHeir_54 (List.Mem.head _) ?_
    refine am_iconst dX8_readHeir_55 (by unfold am_rg; omega) ?_
    have o2 := h.1
    replace h := h.2
    have o3 := h.1
    replace h := h.2
    refine am_callv (d' := d + 3) (kc := 0) (ks := 0) (as := [.inl 4]) dX8_readHeir_56 wc_X8_depthAt wd_833 wd_835 wd_12 wd_113 ds_X8_depthAt (by decide) (by omega) (Nat.le_of_ble_eq_true rfl) (Nat.zero_le _) (Nat.zero_le _) hc_1 (by decide) rfl rfl (sX8_depthAt (d := d + 1) (x1 := 4) o2 o3 ?_)
    show am_A (mh_G X) SC (d + 4) mX8_readHeir Q 59 [(0, .inr (.inr (some (2, 0)))), (1, .inr (.inr (some (10, j1))))] [.inl (am_w ((if (4 : Int) < 0 then 46 else (if (w.1 2 0 8) ≤ (4 : Int) then 46 else (if 64 ≤ (4 : Int) then 46 else (w.1 25 0 4)))) - 12)), .inr (.inr (some (10, j1)))] ((am_up w.1 10 j1 12 (w.1 26 0 1)), w.2) bc bs
    refine am_putf (f := 13) dX8_readHeir_59 hc_4 (by decide) wd_236 rfl (Or.inl rfl) (Or.inl (by decide)) rfl ?_
    refine am_iconst dX8_readHeir_62 (by unfold am_rg; omega) ?_
    exact am_ret (r := some (.inl 1)) dX8_readHeir_63 (Or.inr (Or.inl ⟨rfl, (Or.inr rfl)⟩)) rfl h
  · replace h := h.2 c1
    refine am_iconst dX8_readHeir_41 (by unfold am_rg; omega) ?_
    exact am_ret (r := some (.inl 0)) dX8_readHeir_42 (Or.inr (Or.inl ⟨rfl, (Or.inl rfl)⟩)) rfl h
-- MourningHouse$Words.isAct(I)Z
theorem dX10_isAct_0 : decode mX10_isAct.2.1 0 = .ok (.iload_n 0, 1) := by decide +kernel
theorem dX10_isAct_1 : decode mX10_isAct.2.1 1 = .ok (.bipush 21, 2) := by decide +kernel
theorem dX10_isAct_3 : decode mX10_isAct.2.1 3 = .ok (.if_icmp .lt 13, 3) := by decide +kernel
theorem dX10_isAct_6 : decode mX10_isAct.2.1 6 = .ok (.iload_n 0, 1) := by decide +kernel
theorem dX10_isAct_7 : decode mX10_isAct.2.1 7 = .ok (.bipush 24, 2) := by decide +kernel
theorem dX10_isAct_9 : decode mX10_isAct.2.1 9 = .ok (.if_icmp .gt 7, 3) := by decide +kernel
theorem dX10_isAct_12 : decode mX10_isAct.2.1 12 = .ok (.iconst 1, 1) := by decide +kernel
theorem dX10_isAct_13 : decode mX10_isAct.2.1 13 = .ok (.goto 4, 3) := by decide +kernel
theorem dX10_isAct_16 : decode mX10_isAct.2.1 16 = .ok (.iconst 0, 1) := by decide +kernel
theorem dX10_isAct_17 : decode mX10_isAct.2.1 17 = .ok (.ireturn, 1) := by decide +kernel
theorem sX10_isAct {SC : Nat → Nat} {X : mh_X} {d kc ks : Nat} {Q : Option am_V → am_W → Prop} {w : am_W} {x0 : Int}
    (h : Q (some (.inl (if (¬ x0 < 21 ∧ (¬ 24 < x0)) then 1 else 0))) w) : am_M (mh_G X) SC (d + 1) kc ks mX10_isAct [.inl x0] w Q := by
  refine am_M_of (by decide) (Nat.le_of_ble_eq_true rfl) ?_
  show am_A (mh_G X) SC (d + 1) mX10_isAct Q 0 [(0, .inl x0)] [] w kc ks
  refine am_iload_n dX10_isAct_0 (List.Mem.head _) ?_
  refine am_bipush dX10_isAct_1 (by decide) (by unfold am_rg; omega) ?_
  refine am_icmplt (tgt := 16) dX10_isAct_3 (by decide) (fun c1 => ?_) (fun c1 => ?_)
  · refine am_iconst dX10_isAct_16 (by unfold am_rg; omega) ?_
    rw [if_neg (by omega)] at h
    exact am_ret (r := some (.inl 0)) dX10_isAct_17 (Or.inr (Or.inl ⟨rfl, (Or.inl rfl)⟩)) rfl h
  · refine am_iload_n dX10_isAct_6 (List.Mem.head _) ?_
    refine am_bipush dX10_isAct_7 (by decide) (by unfold am_rg; omega) ?_
    refine am_icmpgt (tgt := 16) dX10_isAct_9 (by decide) (fun c2 => ?_) (fun c2 => ?_)
    · refine am_iconst dX10_isAct_16 (by unfold am_rg; omega) ?_
      rw [if_neg (by omega)] at h
      exact am_ret (r := some (.inl 0)) dX10_isAct_17 (Or.inr (Or.inl ⟨rfl, (Or.inl rfl)⟩)) rfl h
    · refine am_iconst dX10_isAct_12 (by unfold am_rg; omega) ?_
      refine am_goto (tgt := 17) dX10_isAct_13 (by decide) ?_
      rw [if_pos (by omega)] at h
      exact am_ret (r := some (.inl 1)) dX10_isAct_17 (Or.inr (Or.inl ⟨rfl, (Or.inr rfl)⟩)) rfl h
-- MourningHouse$Reader.readMay(LMourningHouse$Law;)Z
theorem dX8_readMay_0 : decode mX8_readMay.2.1 0 = .ok (.aload_n 0, 1) := by decide +kernel
theorem dX8_readMay_1 : decode mX8_readMay.2.1 1 = .ok (.iconst 1, 1) := by decide +kernel
theorem dX8_readMay_2 : decode mX8_readMay.2.1 2 = .ok (.invokevirtual 59, 3) := by decide +kernel
theorem dX8_readMay_5 : decode mX8_readMay.2.1 5 = .ok (.bipush 21, 2) := by decide +kernel
theorem dX8_readMay_7 : decode mX8_readMay.2.1 7 = .ok (.isub, 1) := by decide +kernel
theorem dX8_readMay_8 : decode mX8_readMay.2.1 8 = .ok (.istore_n 2, 1) := by decide +kernel
theorem dX8_readMay_9 : decode mX8_readMay.2.1 9 = .ok (.aload_n 0, 1) := by decide +kernel
theorem dX8_readMay_10 : decode mX8_readMay.2.1 10 = .ok (.iconst 1, 1) := by decide +kernel
theorem dX8_readMay_11 : decode mX8_readMay.2.1 11 = .ok (.putfield 39, 3) := by decide +kernel
theorem dX8_readMay_14 : decode mX8_readMay.2.1 14 = .ok (.aload_n 0, 1) := by decide +kernel
theorem dX8_readMay_15 : decode mX8_readMay.2.1 15 = .ok (.aload_n 0, 1) := by decide +kernel
theorem dX8_readMay_16 : decode mX8_readMay.2.1 16 = .ok (.getfield 39, 3) := by decide +kernel
theorem dX8_readMay_19 : decode mX8_readMay.2.1 19 = .ok (.invokevirtual 59, 3) := by decide +kernel
theorem dX8_readMay_22 : decode mX8_readMay.2.1 22 = .ok (.invokestatic 184, 3) := by decide +kernel
theorem dX8_readMay_25 : decode mX8_readMay.2.1 25 = .ok (.ifCond .ne 9, 3) := by decide +kernel
theorem dX8_readMay_28 : decode mX8_readMay.2.1 28 = .ok (.aload_n 0, 1) := by decide +kernel
theorem dX8_readMay_29 : decode mX8_readMay.2.1 29 = .ok (.iconst 2, 1) := by decide +kernel
theorem dX8_readMay_30 : decode mX8_readMay.2.1 30 = .ok (.invokevirtual 55, 3) := by decide +kernel
theorem dX8_readMay_33 : decode mX8_readMay.2.1 33 = .ok (.ireturn, 1) := by decide +kernel
theorem dX8_readMay_34 : decode mX8_readMay.2.1 34 = .ok (.aload_n 0, 1) := by decide +kernel
theorem dX8_readMay_35 : decode mX8_readMay.2.1 35 = .ok (.dup, 1) := by decide +kernel
theorem dX8_readMay_36 : decode mX8_readMay.2.1 36 = .ok (.getfield 39, 3) := by decide +kernel
theorem dX8_readMay_39 : decode mX8_readMay.2.1 39 = .ok (.iconst 1, 1) := by decide +kernel
theorem dX8_readMay_40 : decode mX8_readMay.2.1 40 = .ok (.iadd, 1) := by decide +kernel
theorem dX8_readMay_41 : decode mX8_readMay.2.1 41 = .ok (.putfield 39, 3) := by decide +kernel
theorem dX8_readMay_44 : decode mX8_readMay.2.1 44 = .ok (.aload_n 0, 1) := by decide +kernel
theorem dX8_readMay_45 : decode mX8_readMay.2.1 45 = .ok (.bipush 33, 2) := by decide +kernel
theorem dX8_readMay_47 : decode mX8_readMay.2.1 47 = .ok (.invokevirtual 129, 3) := by decide +kernel
theorem dX8_readMay_50 : decode mX8_readMay.2.1 50 = .ok (.ifCond .eq 10, 3) := by decide +kernel
theorem dX8_readMay_53 : decode mX8_readMay.2.1 53 = .ok (.aload_n 0, 1) := by decide +kernel
theorem dX8_readMay_54 : decode mX8_readMay.2.1 54 = .ok (.invokevirtual 187, 3) := by decide +kernel
theorem dX8_readMay_57 : decode mX8_readMay.2.1 57 = .ok (.ifCond .ne 5, 3) := by decide +kernel
theorem dX8_readMay_60 : decode mX8_readMay.2.1 60 = .ok (.iconst 0, 1) := by decide +kernel
theorem dX8_readMay_61 : decode mX8_readMay.2.1 61 = .ok (.ireturn, 1) := by decide +kernel
theorem dX8_readMay_62 : decode mX8_readMay.2.1 62 = .ok (.aload_n 1, 1) := by decide +kernel
theorem dX8_readMay_63 : decode mX8_readMay.2.1 63 = .ok (.getfield 190, 3) := by decide +kernel
theorem dX8_readMay_66 : decode mX8_readMay.2.1 66 = .ok (.iload_n 2, 1) := by decide +kernel
theorem dX8_readMay_67 : decode mX8_readMay.2.1 67 = .ok (.aload_n 0, 1) := by decide +kernel
theorem dX8_readMay_68 : decode mX8_readMay.2.1 68 = .ok (.iconst 3, 1) := by decide +kernel
theorem dX8_readMay_69 : decode mX8_readMay.2.1 69 = .ok (.invokevirtual 163, 3) := by decide +kernel
theorem dX8_readMay_72 : decode mX8_readMay.2.1 72 = .ok (.iastore, 1) := by decide +kernel
theorem dX8_readMay_73 : decode mX8_readMay.2.1 73 = .ok (.iconst 1, 1) := by decide +kernel
theorem dX8_readMay_74 : decode mX8_readMay.2.1 74 = .ok (.ireturn, 1) := by decide +kernel
theorem bX8_readMay_0 {SC : Nat → Nat} {X : mh_X} {d : Nat} {Q : Option am_V → am_W → Prop} {bc bs : Nat} {w : am_W} {j1 : Nat}
    (h : ((¬ (1 : Int) < 0 → ¬ (w.1 2 0 8) ≤ (1 : Int) → ¬ 64 ≤ (1 : Int) → 0 ≤ (1 : Int)) ∧ ((¬ (1 : Int) < 0 → ¬ (w.1 2 0 8) ≤ (1 : Int) → ¬ 64 ≤ (1 : Int) → (1 : Int) < 64) ∧ (∀ n3 : Int, n3 = (am_w ((if (1 : Int) < 0 then 46 else (if (w.1 2 0 8) ≤ (1 : Int) then 46 else (if 64 ≤ (1 : Int) then 46 else (w.1 25 0 1)))) - 21)) → ((¬ ((am_up w.1 2 0 9 1) 2 0 9) < 0 → ¬ ((am_up w.1 2 0 9 1) 2 0 8) ≤ ((am_up w.1 2 0 9 1) 2 0 9) → ¬ 64 ≤ ((am_up w.1 2 0 9 1) 2 0 9) → 0 ≤ ((am_up w.1 2 0 9 1) 2 0 9)) ∧ ((¬ ((am_up w.1 2 0 9 1) 2 0 9) < 0 → ¬ ((am_up w.1 2 0 9 1) 2 0 8) ≤ ((am_up w.1 2 0 9 1) 2 0 9) → ¬ 64 ≤ ((am_up w.1 2 0 9 1) 2 0 9) → ((am_up w.1 2 0 9 1) 2 0 9) < 64) ∧ (((¬ (if ((am_up w.1 2 0 9 1) 2 0 9) < 0 then 46 else (if ((am_up w.1 2 0 9 1) 2 0 8) ≤ ((am_up w.1 2 0 9 1) 2 0 9) then 46 else (if 64 ≤ ((am_up w.1 2 0 9 1) 2 0 9) then 46 else (w.1 25 0 ((am_up w.1 2 0 9 1) 2 0 9).toNat)))) < 21 ∧ (¬ 24 < (if ((am_up w.1 2 0 9 1) 2 0 9) < 0 then 46 else (if ((am_up w.1 2 0 9 1) 2 0 8) ≤ ((am_up w.1 2 0 9 1) 2 0 9) then 46 else (if 64 ≤ ((am_up w.1 2 0 9 1) 2 0 9) then 46 else (w.1 25 0 ((am_up w.1 2 0 9 1) 2 0 9).toNat)))))) → am_M (mh_G X) SC (d + 3) 0 0 mX8_expect [.inr (.inr (some (2, 0))), .inl 33] ((am_up (am_up w.1 2 0 9 1) 2 0 9 (am_w (((am_up w.1 2 0 9 1) 2 0 9) + 1))), w.2) (fun r w1 => am_A (mh_G X) SC (d + 4) mX8_readMay Q 50 [(2, .inl n3), (0, .inr (.inr (some (2, 0)))), (1, .inr (.inr (some (10, j1))))] (r.toList ++ []) w1 bc bs)) ∧ (¬ (¬ (if ((am_up w.1 2 0 9 1) 2 0 9) < 0 then 46 else (if ((am_up w.1 2 0 9 1) 2 0 8) ≤ ((am_up w.1 2 0 9 1) 2 0 9) then 46 else (if 64 ≤ ((am_up w.1 2 0 9 1) 2 0 9) then 46 else (w.1 25 0 ((am_up w.1 2 0 9 1) 2 0 9).toNat)))) < 21 ∧ (¬ 24 < (if ((am_up w.1 2 0 9 1) 2 0 9) < 0 then 46 else (if ((am_up w.1 2 0 9 1) 2 0 8) ≤ ((am_up w.1 2 0 9 1) 2 0 9) then 46 else (if 64 ≤ ((am_up w.1 2 0 9 1) 2 0 9) then 46 else (w.1 25 0 ((am_up w.1 2 0 9 1) 2 0 9).toNat)))))) → Q (some (.inl 0)) ((am_up (am_up (am_up (am_up w.1 2 0 9 1) 2 0 4 ((am_up w.1 2 0 9 1) 2 0 7)) 2 0 5 (am_w (((am_up (am_up w.1 2 0 9 1) 2 0 4 ((am_up w.1 2 0 9 1) 2 0 7)) 2 0 9) + 1))) 2 0 6 (2 : Int)), w.2))))))))) :
    am_A (mh_G X) SC (d + 4) mX8_readMay Q 0 [(0, .inr (.inr (some (2, 0)))), (1, .inr (.inr (some (10, j1))))] [] w bc bs := by
  refine am_aload_n dX8_readMay_0 (List.Mem.head _) ?_
  refine am_iconst dX8_readMay_1 (by unfold am_rg; omega) ?_
  have o1 := h.1
  replace h := h.2
  have o2 := h.1
  replace h := h.2
  refine am_callv (d' := d + 3) (kc := 0) (ks := 0) (as := [.inl 1]) dX8_readMay_2 wc_X8_codeAt wd_791 wd_793 wd_7 wd_113 ds_X8_codeAt (by decide) (by omega) (Nat.le_of_ble_eq_true rfl) (Nat.zero_le _) (Nat.zero_le _) hc_1 (by decide) rfl rfl (sX8_codeAt (d := d + 2) (x1 := 1) o1 o2 ?_)
  show am_A (mh_G X) SC (d + 4) mX8_readMay Q 5 [(0, .inr (.inr (some (2, 0)))), (1, .inr (.inr (some (10, j1))))] [.inl (if (1 : Int) < 0 then 46 else (if (w.1 2 0 8) ≤ (1 : Int) then 46 else (if 64 ≤ (1 : Int) then 46 else (w.1 25 0 1))))] w bc bs
  refine am_bipush dX8_readMay_5 (by decide) (by unfold am_rg; omega) ?_
  refine am_isub dX8_readMay_7 ?_
  refine am_named (fun n3 en3 => ?_)
  replace h := h n3 en3
  refine am_istore_n (ls' := [(2, .inl n3), (0, .inr (.inr (some (2, 0)))), (1, .inr (.inr (some (10, j1))))]) dX8_readMay_8 (by decide) rfl ?_
  refine am_aload_n dX8_readMay_9 (List.Mem.tail _ (List.Mem.head _)) ?_
  refine am_iconst dX8_readMay_10 (by unfold am_rg; omega) ?_
  refine am_putf (f := 9) dX8_readMay_11 hc_1 (by decide) wd_163 rfl (Or.inl rfl) (Or.inl (by decide)) rfl ?_
  refine am_aload_n dX8_readMay_14 (List.Mem.tail _ (List.Mem.head _)) ?_
  refine am_aload_n dX8_readMay_15 (List.Mem.tail _ (List.Mem.head _)) ?_
  refine am_getf (f := 9) (v := .inl ((am_up w.1 2 0 9 1) 2 0 9)) dX8_readMay_16 hc_1 (by decide) wd_163 (by decide) rfl rfl ?_
  have o4 := h.1
  replace h := h.2
  have o5 := h.1
  replace h := h.2
  refine am_callv (d' := d + 3) (kc := 0) (ks := 0) (as := [.inl ((am_up w.1 2 0 9 1) 2 0 9)]) dX8_readMay_19 wc_X8_codeAt wd_791 wd_793 wd_7 wd_113 ds_X8_codeAt (by decide) (by omega) (Nat.le_of_ble_eq_true rfl) (Nat.zero_le _) (Nat.zero_le _) hc_1 (by decide) rfl rfl (sX8_codeAt (d := d + 2) (x1 := ((am_up w.1 2 0 9 1) 2 0 9)) o4 o5 ?_)
  show am_A (mh_G X) SC (d + 4) mX8_readMay Q 22 [(2, .inl n3), (0, .inr (.inr (some (2, 0)))), (1, .inr (.inr (some (10, j1))))] [.inl (if ((am_up w.1 2 0 9 1) 2 0 9) < 0 then 46 else (if ((am_up w.1 2 0 9 1) 2 0 8) ≤ ((am_up w.1 2 0 9 1) 2 0 9) then 46 else (if 64 ≤ ((am_up w.1 2 0 9 1) 2 0 9) then 46 else (w.1 25 0 ((am_up w.1 2 0 9 1) 2 0 9).toNat))))] ((am_up w.1 2 0 9 1), w.2) bc bs
  refine am_calls (d' := d + 3) (kc := 0) (ks := 0) (as := [.inl (if ((am_up w.1 2 0 9 1) 2 0 9) < 0 then 46 else (if ((am_up w.1 2 0 9 1) 2 0 8) ≤ ((am_up w.1 2 0 9 1) 2 0 9) then 46 else (if 64 ≤ ((am_up w.1 2 0 9 1) 2 0 9) then 46 else (w.1 25 0 ((am_up w.1 2 0 9 1) 2 0 9).toNat))))]) dX8_readMay_22 wc_X10_isAct wd_875 wd_876 wd_123 ds_X10_isAct (by decide) (by omega) (Nat.le_of_ble_eq_true rfl) (Nat.zero_le _) (Nat.zero_le _) rfl (sX10_isAct (d := d + 2) (x0 := (if ((am_up w.1 2 0 9 1) 2 0 9) < 0 then 46 else (if ((am_up w.1 2 0 9 1) 2 0 8) ≤ ((am_up w.1 2 0 9 1) 2 0 9) then 46 else (if 64 ≤ ((am_up w.1 2 0 9 1) 2 0 9) then 46 else (w.1 25 0 ((am_up w.1 2 0 9 1) 2 0 9).toNat)))))  ?_)
  show am_A (mh_G X) SC (d + 4) mX8_readMay Q 25 [(2, .inl n3), (0, .inr (.inr (some (2, 0)))), (1, .inr (.inr (some (10, j1))))] [.inl (if (¬ (if ((am_up w.1 2 0 9 1) 2 0 9) < 0 then 46 else (if ((am_up w.1 2 0 9 1) 2 0 8) ≤ ((am_up w.1 2 0 9 1) 2 0 9) then 46 else (if 64 ≤ ((am_up w.1 2 0 9 1) 2 0 9) then 46 else (w.1 25 0 ((am_up w.1 2 0 9 1) 2 0 9).toNat)))) < 21 ∧ (¬ 24 < (if ((am_up w.1 2 0 9 1) 2 0 9) < 0 then 46 else (if ((am_up w.1 2 0 9 1) 2 0 8) ≤ ((am_up w.1 2 0 9 1) 2 0 9) then 46 else (if 64 ≤ ((am_up w.1 2 0 9 1) 2 0 9) then 46 else (w.1 25 0 ((am_up w.1 2 0 9 1) 2 0 9).toNat)))))) then 1 else 0)] ((am_up w.1 2 0 9 1), w.2) bc bs
  refine am_ifne (tgt := 34) dX8_readMay_25 (by decide) (fun c6 => ?_) (fun c6 => ?_)
  · replace c6 := am_bne1 c6
    replace h := h.1 c6
    refine am_aload_n dX8_readMay_34 (List.Mem.tail _ (List.Mem.head _)) ?_
    refine am_dup dX8_readMay_35 rfl ?_
    refine am_getf (f := 9) (v := .inl ((am_up w.1 2 0 9 1) 2 0 9)) dX8_readMay_36 hc_1 (by decide) wd_163 (by decide) rfl rfl ?_
    refine am_iconst dX8_readMay_39 (by unfold am_rg; omega) ?_
    refine am_iadd dX8_readMay_40 ?_
    refine am_putf (f := 9) dX8_readMay_41 hc_1 (by decide) wd_163 rfl (Or.inl rfl) (Or.inl (by decide)) rfl ?_
    refine am_aload_n dX8_readMay_44 (List.Mem.tail _ (List.Mem.head _)) ?_
    refine am_bipush dX8_readMay_45 (by decide) (by unfold am_rg; omega) ?_
    exact am_callv (d' := d + 3) (kc := 0) (ks := 0) (as := [.inl 33]) dX8_readMay_47 wc_X8_expect wd_867 wd_869 wd_16 wd_113 ds_X8_expect (by decide) (by omega) (Nat.le_of_ble_eq_true rfl) (Nat.zero_le _) (Nat.zero_le _) hc_1 (by decide) rfl rfl h
  · replace c6 := am_bne2 c6
    replace h := h.2 c6
    refine am_aload_n dX8_readMay_28 (List.Mem.tail _ (List.Mem.head _)) ?_
    refine am_iconst dX8_readMay_29 (by unfold am_rg; omega) ?_
    refine am_callv (d' := d + 3) (kc := 0) (ks := 0) (as := [.inl 2]) dX8_readMay_30 wc_X8_fail wd_787 wd_789 wd_6 wd_113 ds_X8_fail (by decide) (by omega) (Nat.le_of_ble_eq_true rfl) (Nat.zero_le _) (Nat.zero_le _) hc_1 (by decide) rfl rfl (sX8_fail (d := d + 2) (x1 := 2)  ?_)
    show am_A (mh_G X) SC (d + 4) mX8_readMay Q 33 [(2, .inl n3), (0, .inr (.inr (some (2, 0)))), (1, .inr (.inr (some (10, j1))))] [.inl 0] ((am_up (am_up (am_up (am_up w.1 2 0 9 1) 2 0 4 ((am_up w.1 2 0 9 1) 2 0 7)) 2 0 5 (am_w (((am_up (am_up w.1 2 0 9 1) 2 0 4 ((am_up w.1 2 0 9 1) 2 0 7)) 2 0 9) + 1))) 2 0 6 (2 : Int)), w.2) bc bs
    exact am_ret (r := some (.inl 0)) dX8_readMay_33 (Or.inr (Or.inl ⟨rfl, (Or.inl rfl)⟩)) rfl h
theorem bX8_readMay_50 {SC : Nat → Nat} {X : mh_X} {d : Nat} {Q : Option am_V → am_W → Prop} {bc bs : Nat} {w : am_W} {x2 : Int} {j1 : Nat} {xs0 : Int}
    (h : ((xs0 = 0 → Q (some (.inl 0)) w) ∧ (¬ xs0 = 0 → am_M (mh_G X) SC (d + 3) 0 0 mX8_expectStuff [.inr (.inr (some (2, 0)))] w (fun r w1 => am_A (mh_G X) SC (d + 4) mX8_readMay Q 57 [(2, .inl x2), (0, .inr (.inr (some (2, 0)))), (1, .inr (.inr (some (10, j1))))] (r.toList ++ []) w1 bc bs)))) :
    am_A (mh_G X) SC (d + 4) mX8_readMay Q 50 [(2, .inl x2), (0, .inr (.inr (some (2, 0)))), (1, .inr (.inr (some (10, j1))))] [.inl xs0] w bc bs := by
  refine am_ifeq (tgt := 60) dX8_readMay_50 (by decide) (fun c1 => ?_) (fun c1 => ?_)
  · replace h := h.1 c1
    refine am_iconst dX8_readMay_60 (by unfold am_rg; omega) ?_
    exact am_ret (r := some (.inl 0)) dX8_readMay_61 (Or.inr (Or.inl ⟨rfl, (Or.inl rfl)⟩)) rfl h
  · replace h := h.2 c1
    refine am_aload_n dX8_readMay_53 (List.Mem.tail _ (List.Mem.head _)) ?_
    exact am_callv (d' := d + 3) (kc := 0) (ks := 0) (as := []) dX8_readMay_54 wc_X8_expectStuff wd_878 wd_880 wd_18 wd_113 ds_X8_expectStuff (by decide) (by omega) (Nat.le_of_ble_eq_true rfl) (Nat.zero_le _) (Nat.zero_le _) hc_1 (by decide) rfl rfl h
theorem bX8_readMay_57 {SC : Nat → Nat} {X : mh_X} {d : Nat} {Q : Option am_V → am_W → Prop} {bc bs : Nat} {w : am_W} {x2 : Int} {j1 : Nat} {xs0 : Int}
    (h : ((¬ xs0 = 0 → ((¬ (3 : Int) < 0 → ¬ (w.1 2 0 8) ≤ (3 : Int) → ¬ 64 ≤ (3 : Int) → 0 ≤ (3 : Int)) ∧ ((¬ (3 : Int) < 0 → ¬ (w.1 2 0 8) ≤ (3 : Int) → ¬ 64 ≤ (3 : Int) → (3 : Int) < 64) ∧ (0 ≤ x2 ∧ (x2 < 4 ∧ Q (some (.inl 1)) ((am_up w.1 153 j1 x2.toNat (am_w ((if (3 : Int) < 0 then 46 else (if (w.1 2 0 8) ≤ (3 : Int) then 46 else (if 64 ≤ (3 : Int) then 46 else (w.1 25 0 3)))) - 12))), w.2)))))) ∧ (xs0 = 0 → Q (some (.inl 0)) w))) :
    am_A (mh_G X) SC (d + 4) mX8_readMay Q 57 [(2, .inl x2), (0, .inr (.inr (some (2, 0)))), (1, .inr (.inr (some (10, j1))))] [.inl xs0] w bc bs := by
  refine am_ifne (tgt := 62) dX8_readMay_57 (by decide) (fun c1 => ?_) (fun c1 => ?_)
  · replace h := h.1 c1
    refine am_aload_n dX8_readMay_62 (List.Mem.tail _ (List.Mem.tail _ (List.Mem.head _))) ?_
    refine am_getf (f := 9) (v := .inr (.inr (some (153, j1)))) dX8_readMay_63 hc_4 (by decide) wd_226 (by decide) rfl rfl ?_
    refine am_iload_n dX8_readMay_66 (List.Mem.head _) ?_
    refine am_aload_n dX8_readMay_67 (List.Mem.tail _ (List.Mem.head _)) ?_
    refine am_iconst dX8_readMay_68 (by unfold am_rg; omega) ?_
    have o2 := h.1
    replace h := h.2
    have o3 := h.1
    replace h := h.2
    refine am_callv (d' := d + 3) (kc := 0) (ks := 0) (as := [.inl 3]) dX8_readMay_69 wc_X8_depthAt wd_833 wd_835 wd_12 wd_113 ds_X8_depthAt (by decide) (by omega) (Nat.le_of_ble_eq_true rfl) (Nat.zero_le _) (Nat.zero_le _) hc_1 (by decide) rfl rfl (sX8_depthAt (d := d + 1) (x1 := 3) o2 o3 ?_)
    show am_A (mh_G X) SC (d + 4) mX8_readMay Q 72 [(2, .inl x2), (0, .inr (.inr (some (2, 0)))), (1, .inr (.inr (some (10, j1))))] [.inl (am_w ((if (3 : Int) < 0 then 46 else (if (w.1 2 0 8) ≤ (3 : Int) then 46 else (if 64 ≤ (3 : Int) then 46 else (w.1 25 0 3)))) - 12)), .inl x2, .inr (.inr (some (153, j1)))] w bc bs
    have o4 := h.1
    replace h := h.2
    have o5 := h.1
    replace h := h.2
    refine am_iastore dX8_readMay_72 (Or.inl (by decide)) rfl o4 o5 ?_
    refine am_iconst dX8_readMay_73 (by unfold am_rg; omega) ?_
    exact am_ret (r := some (.inl 1)) dX8_readMay_74 (Or.inr (Or.inl ⟨rfl, (Or.inr rfl)⟩)) rfl h
  · replace h := h.2 c1
    refine am_iconst dX8_readMay_60 (by unfold am_rg; omega) ?_
    exact am_ret (r := some (.inl 0)) dX8_readMay_61 (Or.inr (Or.inl ⟨rfl, (Or.inl rfl)⟩)) rfl h
-- MourningHouse$Words.isKin(I)Z
theorem dX10_isKin_0 : decode mX10_isKin.2.1 0 = .ok (.iload_n 0, 1) := by decide +kernel
theorem dX10_isKin_1 : decode mX10_isKin.2.1 1 = .ok (.ifCond .lt 13, 3) := by decide +kernel
theorem dX10_isKin_4 : decode mX10_isKin.2.1 4 = .ok (.iload_n 0, 1) := by decide +kernel
theorem dX10_isKin_5 : decode mX10_isKin.2.1 5 = .ok (.bipush 11, 2) := by decide +kernel
theorem dX10_isKin_7 : decode mX10_isKin.2.1 7 = .ok (.if_icmp .gt 7, 3) := by decide +kernel
theorem dX10_isKin_10 : decode mX10_isKin.2.1 10 = .ok (.iconst 1, 1) := by decide +kernel
theorem dX10_isKin_11 : decode mX10_isKin.2.1 11 = .ok (.goto 4, 3) := by decide +kernel
theorem dX10_isKin_14 : decode mX10_isKin.2.1 14 = .ok (.iconst 0, 1) := by decide +kernel
theorem dX10_isKin_15 : decode mX10_isKin.2.1 15 = .ok (.ireturn, 1) := by decide +kernel
theorem sX10_isKin {SC : Nat → Nat} {X : mh_X} {d kc ks : Nat} {Q : Option am_V → am_W → Prop} {w : am_W} {x0 : Int}
    (h : Q (some (.inl (if (¬ x0 < 0 ∧ (¬ 11 < x0)) then 1 else 0))) w) : am_M (mh_G X) SC (d + 1) kc ks mX10_isKin [.inl x0] w Q := by
  refine am_M_of (by decide) (Nat.le_of_ble_eq_true rfl) ?_
  show am_A (mh_G X) SC (d + 1) mX10_isKin Q 0 [(0, .inl x0)] [] w kc ks
  refine am_iload_n dX10_isKin_0 (List.Mem.head _) ?_
  refine am_iflt (tgt := 14) dX10_isKin_1 (by decide) (fun c1 => ?_) (fun c1 => ?_)
  · refine am_iconst dX10_isKin_14 (by unfold am_rg; omega) ?_
    rw [if_neg (by omega)] at h
    exact am_ret (r := some (.inl 0)) dX10_isKin_15 (Or.inr (Or.inl ⟨rfl, (Or.inl rfl)⟩)) rfl h
  · refine am_iload_n dX10_isKin_4 (List.Mem.head _) ?_
    refine am_bipush dX10_isKin_5 (by decide) (by unfold am_rg; omega) ?_
    refine am_icmpgt (tgt := 14) dX10_isKin_7 (by decide) (fun c2 => ?_) (fun c2 => ?_)
    · refine am_iconst dX10_isKin_14 (by unfold am_rg; omega) ?_
      rw [if_neg (by omega)] at h
      exact am_ret (r := some (.inl 0)) dX10_isKin_15 (Or.inr (Or.inl ⟨rfl, (Or.inl rfl)⟩)) rfl h
    · refine am_iconst dX10_isKin_10 (by unfold am_rg; omega) ?_
      refine am_goto (tgt := 15) dX10_isKin_11 (by decide) ?_
      rw [if_pos (by omega)] at h
      exact am_ret (r := some (.inl 1)) dX10_isKin_15 (Or.inr (Or.inl ⟨rfl, (Or.inr rfl)⟩)) rfl h
-- MourningHouse$Reader.readKin(LMourningHouse$Law;)Z
theorem dX8_readKin_0 : decode mX8_readKin.2.1 0 = .ok (.aload_n 0, 1) := by decide +kernel
theorem dX8_readKin_1 : decode mX8_readKin.2.1 1 = .ok (.dup, 1) := by decide +kernel
theorem dX8_readKin_2 : decode mX8_readKin.2.1 2 = .ok (.getfield 39, 3) := by decide +kernel
theorem dX8_readKin_5 : decode mX8_readKin.2.1 5 = .ok (.iconst 1, 1) := by decide +kernel
theorem dX8_readKin_6 : decode mX8_readKin.2.1 6 = .ok (.iadd, 1) := by decide +kernel
theorem dX8_readKin_7 : decode mX8_readKin.2.1 7 = .ok (.putfield 39, 3) := by decide +kernel
theorem dX8_readKin_10 : decode mX8_readKin.2.1 10 = .ok (.aload_n 0, 1) := by decide +kernel
theorem dX8_readKin_11 : decode mX8_readKin.2.1 11 = .ok (.aload_n 0, 1) := by decide +kernel
theorem dX8_readKin_12 : decode mX8_readKin.2.1 12 = .ok (.getfield 39, 3) := by decide +kernel
theorem dX8_readKin_15 : decode mX8_readKin.2.1 15 = .ok (.invokevirtual 59, 3) := by decide +kernel
theorem dX8_readKin_18 : decode mX8_readKin.2.1 18 = .ok (.invokestatic 148, 3) := by decide +kernel
theorem dX8_readKin_21 : decode mX8_readKin.2.1 21 = .ok (.ifCond .ne 9, 3) := by decide +kernel
theorem dX8_readKin_24 : decode mX8_readKin.2.1 24 = .ok (.aload_n 0, 1) := by decide +kernel
theorem dX8_readKin_25 : decode mX8_readKin.2.1 25 = .ok (.iconst 2, 1) := by decide +kernel
theorem dX8_readKin_26 : decode mX8_readKin.2.1 26 = .ok (.invokevirtual 55, 3) := by decide +kernel
theorem dX8_readKin_29 : decode mX8_readKin.2.1 29 = .ok (.ireturn, 1) := by decide +kernel
theorem dX8_readKin_30 : decode mX8_readKin.2.1 30 = .ok (.aload_n 1, 1) := by decide +kernel
theorem dX8_readKin_31 : decode mX8_readKin.2.1 31 = .ok (.aload_n 0, 1) := by decide +kernel
theorem dX8_readKin_32 : decode mX8_readKin.2.1 32 = .ok (.aload_n 0, 1) := by decide +kernel
theorem dX8_readKin_33 : decode mX8_readKin.2.1 33 = .ok (.getfield 39, 3) := by decide +kernel
theorem dX8_readKin_36 : decode mX8_readKin.2.1 36 = .ok (.invokevirtual 59, 3) := by decide +kernel
theorem dX8_readKin_39 : decode mX8_readKin.2.1 39 = .ok (.invokevirtual 151, 3) := by decide +kernel
theorem dX8_readKin_42 : decode mX8_readKin.2.1 42 = .ok (.ifCond .ne 10, 3) := by decide +kernel
theorem dX8_readKin_45 : decode mX8_readKin.2.1 45 = .ok (.aload_n 0, 1) := by decide +kernel
theorem dX8_readKin_46 : decode mX8_readKin.2.1 46 = .ok (.bipush 6, 2) := by decide +kernel
theorem dX8_readKin_48 : decode mX8_readKin.2.1 48 = .ok (.invokevirtual 55, 3) := by decide +kernel
theorem dX8_readKin_51 : decode mX8_readKin.2.1 51 = .ok (.ireturn, 1) := by decide +kernel
theorem dX8_readKin_52 : decode mX8_readKin.2.1 52 = .ok (.aload_n 0, 1) := by decide +kernel
theorem dX8_readKin_53 : decode mX8_readKin.2.1 53 = .ok (.dup, 1) := by decide +kernel
theorem dX8_readKin_54 : decode mX8_readKin.2.1 54 = .ok (.getfield 39, 3) := by decide +kernel
theorem dX8_readKin_57 : decode mX8_readKin.2.1 57 = .ok (.iconst 1, 1) := by decide +kernel
theorem dX8_readKin_58 : decode mX8_readKin.2.1 58 = .ok (.iadd, 1) := by decide +kernel
theorem dX8_readKin_59 : decode mX8_readKin.2.1 59 = .ok (.putfield 39, 3) := by decide +kernel
theorem dX8_readKin_62 : decode mX8_readKin.2.1 62 = .ok (.aload_n 0, 1) := by decide +kernel
theorem dX8_readKin_63 : decode mX8_readKin.2.1 63 = .ok (.getfield 39, 3) := by decide +kernel
theorem dX8_readKin_66 : decode mX8_readKin.2.1 66 = .ok (.aload_n 0, 1) := by decide +kernel
theorem dX8_readKin_67 : decode mX8_readKin.2.1 67 = .ok (.getfield 36, 3) := by decide +kernel
theorem dX8_readKin_70 : decode mX8_readKin.2.1 70 = .ok (.if_icmp .ge 16, 3) := by decide +kernel
theorem dX8_readKin_73 : decode mX8_readKin.2.1 73 = .ok (.aload_n 0, 1) := by decide +kernel
theorem dX8_readKin_74 : decode mX8_readKin.2.1 74 = .ok (.aload_n 0, 1) := by decide +kernel
theorem dX8_readKin_75 : decode mX8_readKin.2.1 75 = .ok (.getfield 39, 3) := by decide +kernel
theorem dX8_readKin_78 : decode mX8_readKin.2.1 78 = .ok (.invokevirtual 59, 3) := by decide +kernel
theorem dX8_readKin_81 : decode mX8_readKin.2.1 81 = .ok (.bipush 31, 2) := by decide +kernel
theorem dX8_readKin_83 : decode mX8_readKin.2.1 83 = .ok (.if_icmp .eq (-83), 3) := by decide +kernel
theorem dX8_readKin_86 : decode mX8_readKin.2.1 86 = .ok (.aload_n 0, 1) := by decide +kernel
theorem dX8_readKin_87 : decode mX8_readKin.2.1 87 = .ok (.aload_n 0, 1) := by decide +kernel
theorem dX8_readKin_88 : decode mX8_readKin.2.1 88 = .ok (.getfield 39, 3) := by decide +kernel
theorem dX8_readKin_91 : decode mX8_readKin.2.1 91 = .ok (.invokevirtual 59, 3) := by decide +kernel
theorem dX8_readKin_94 : decode mX8_readKin.2.1 94 = .ok (.bipush 42, 2) := by decide +kernel
theorem dX8_readKin_96 : decode mX8_readKin.2.1 96 = .ok (.if_icmp .eq 11, 3) := by decide +kernel
theorem dX8_readKin_99 : decode mX8_readKin.2.1 99 = .ok (.aload_n 0, 1) := by decide +kernel
theorem dX8_readKin_100 : decode mX8_readKin.2.1 100 = .ok (.iconst 2, 1) := by decide +kernel
theorem dX8_readKin_101 : decode mX8_readKin.2.1 101 = .ok (.invokevirtual 55, 3) := by decide +kernel
theorem dX8_readKin_104 : decode mX8_readKin.2.1 104 = .ok (.ifCond .eq 7, 3) := by decide +kernel
theorem dX8_readKin_107 : decode mX8_readKin.2.1 107 = .ok (.iconst 1, 1) := by decide +kernel
theorem dX8_readKin_108 : decode mX8_readKin.2.1 108 = .ok (.goto 4, 3) := by decide +kernel
theorem dX8_readKin_111 : decode mX8_readKin.2.1 111 = .ok (.iconst 0, 1) := by decide +kernel
theorem dX8_readKin_112 : decode mX8_readKin.2.1 112 = .ok (.ireturn, 1) := by decide +kernel
theorem bX8_readKin_0 {SC : Nat → Nat} {X : mh_X} {d : Nat} {Q : Option am_V → am_W → Prop} {bc bs : Nat} {w : am_W} {j1 : Nat}
    (h : ((¬ ((am_up w.1 2 0 9 (am_w ((w.1 2 0 9) + 1))) 2 0 9) < 0 → ¬ ((am_up w.1 2 0 9 (am_w ((w.1 2 0 9) + 1))) 2 0 8) ≤ ((am_up w.1 2 0 9 (am_w ((w.1 2 0 9) + 1))) 2 0 9) → ¬ 64 ≤ ((am_up w.1 2 0 9 (am_w ((w.1 2 0 9) + 1))) 2 0 9) → 0 ≤ ((am_up w.1 2 0 9 (am_w ((w.1 2 0 9) + 1))) 2 0 9)) ∧ ((¬ ((am_up w.1 2 0 9 (am_w ((w.1 2 0 9) + 1))) 2 0 9) < 0 → ¬ ((am_up w.1 2 0 9 (am_w ((w.1 2 0 9) + 1))) 2 0 8) ≤ ((am_up w.1 2 0 9 (am_w ((w.1 2 0 9) + 1))) 2 0 9) → ¬ 64 ≤ ((am_up w.1 2 0 9 (am_w ((w.1 2 0 9) + 1))) 2 0 9) → ((am_up w.1 2 0 9 (am_w ((w.1 2 0 9) + 1))) 2 0 9) < 64) ∧ (((¬ (if ((am_up w.1 2 0 9 (am_w ((w.1 2 0 9) + 1))) 2 0 9) < 0 then 46 else (if ((am_up w.1 2 0 9 (am_w ((w.1 2 0 9) + 1))) 2 0 8) ≤ ((am_up w.1 2 0 9 (am_w ((w.1 2 0 9) + 1))) 2 0 9) then 46 else (if 64 ≤ ((am_up w.1 2 0 9 (am_w ((w.1 2 0 9) + 1))) 2 0 9) then 46 else (w.1 25 0 ((am_up w.1 2 0 9 (am_w ((w.1 2 0 9) + 1))) 2 0 9).toNat)))) < 0 ∧ (¬ 11 < (if ((am_up w.1 2 0 9 (am_w ((w.1 2 0 9) + 1))) 2 0 9) < 0 then 46 else (if ((am_up w.1 2 0 9 (am_w ((w.1 2 0 9) + 1))) 2 0 8) ≤ ((am_up w.1 2 0 9 (am_w ((w.1 2 0 9) + 1))) 2 0 9) then 46 else (if 64 ≤ ((am_up w.1 2 0 9 (am_w ((w.1 2 0 9) + 1))) 2 0 9) then 46 else (w.1 25 0 ((am_up w.1 2 0 9 (am_w ((w.1 2 0 9) + 1))) 2 0 9).toNat)))))) → am_M (mh_G X) SC (d + 1) 0 0 mX3_addKin [.inr (.inr (some (10, j1))), .inl (if ((am_up w.1 2 0 9 (am_w ((w.1 2 0 9) + 1))) 2 0 9) < 0 then 46 else (if ((am_up w.1 2 0 9 (am_w ((w.1 2 0 9) + 1))) 2 0 8) ≤ ((am_up w.1 2 0 9 (am_w ((w.1 2 0 9) + 1))) 2 0 9) then 46 else (if 64 ≤ ((am_up w.1 2 0 9 (am_w ((w.1 2 0 9) + 1))) 2 0 9) then 46 else (w.1 25 0 ((am_up w.1 2 0 9 (am_w ((w.1 2 0 9) + 1))) 2 0 9).toNat))))] ((am_up w.1 2 0 9 (am_w ((w.1 2 0 9) + 1))), w.2) (fun r w1 => am_A (mh_G X) SC (d + 2) mX8_readKin Q 42 [(0, .inr (.inr (some (2, 0)))), (1, .inr (.inr (some (10, j1))))] (r.toList ++ []) w1 bc bs)) ∧ (¬ (¬ (if ((am_up w.1 2 0 9 (am_w ((w.1 2 0 9) + 1))) 2 0 9) < 0 then 46 else (if ((am_up w.1 2 0 9 (am_w ((w.1 2 0 9) + 1))) 2 0 8) ≤ ((am_up w.1 2 0 9 (am_w ((w.1 2 0 9) + 1))) 2 0 9) then 46 else (if 64 ≤ ((am_up w.1 2 0 9 (am_w ((w.1 2 0 9) + 1))) 2 0 9) then 46 else (w.1 25 0 ((am_up w.1 2 0 9 (am_w ((w.1 2 0 9) + 1))) 2 0 9).toNat)))) < 0 ∧ (¬ 11 < (if ((am_up w.1 2 0 9 (am_w ((w.1 2 0 9) + 1))) 2 0 9) < 0 then 46 else (if ((am_up w.1 2 0 9 (am_w ((w.1 2 0 9) + 1))) 2 0 8) ≤ ((am_up w.1 2 0 9 (am_w ((w.1 2 0 9) + 1))) 2 0 9) then 46 else (if 64 ≤ ((am_up w.1 2 0 9 (am_w ((w.1 2 0 9) + 1))) 2 0 9) then 46 else (w.1 25 0 ((am_up w.1 2 0 9 (am_w ((w.1 2 0 9) + 1))) 2 0 9).toNat)))))) → Q (some (.inl 0)) ((am_up (am_up (am_up (am_up w.1 2 0 9 (am_w ((w.1 2 0 9) + 1))) 2 0 4 ((am_up w.1 2 0 9 (am_w ((w.1 2 0 9) + 1))) 2 0 7)) 2 0 5 (am_w (((am_up (am_up w.1 2 0 9 (am_w ((w.1 2 0 9) + 1))) 2 0 4 ((am_up w.1 2 0 9 (am_w ((w.1 2 0 9) + 1))) 2 0 7)) 2 0 9) + 1))) 2 0 6 (2 : Int)), w.2)))))) :
    am_A (mh_G X) SC (d + 2) mX8_readKin Q 0 [(0, .inr (.inr (some (2, 0)))), (1, .inr (.inr (some (10, j1))))] [] w bc bs := by
  refine am_aload_n dX8_readKin_0 (List.Mem.head _) ?_
  refine am_dup dX8_readKin_1 rfl ?_
  refine am_getf (f := 9) (v := .inl (w.1 2 0 9)) dX8_readKin_2 hc_1 (by decide) wd_163 (by decide) rfl rfl ?_
  refine am_iconst dX8_readKin_5 (by unfold am_rg; omega) ?_
  refine am_iadd dX8_readKin_6 ?_
  refine am_putf (f := 9) dX8_readKin_7 hc_1 (by decide) wd_163 rfl (Or.inl rfl) (Or.inl (by decide)) rfl ?_
  refine am_aload_n dX8_readKin_10 (List.Mem.head _) ?_
  refine am_aload_n dX8_readKin_11 (List.Mem.head _) ?_
  refine am_getf (f := 9) (v := .inl ((am_up w.1 2 0 9 (am_w ((w.1 2 0 9) + 1))) 2 0 9)) dX8_readKin_12 hc_1 (by decide) wd_163 (by decide) rfl rfl ?_
  have o1 := h.1
  replace h := h.2
  have o2 := h.1
  replace h := h.2
  refine am_callv (d' := d + 1) (kc := 0) (ks := 0) (as := [.inl ((am_up w.1 2 0 9 (am_w ((w.1 2 0 9) + 1))) 2 0 9)]) dX8_readKin_15 wc_X8_codeAt wd_791 wd_793 wd_7 wd_113 ds_X8_codeAt (by decide) (by omega) (Nat.le_of_ble_eq_true rfl) (Nat.zero_le _) (Nat.zero_le _) hc_1 (by decide) rfl rfl (sX8_codeAt (d := d + 0) (x1 := ((am_up w.1 2 0 9 (am_w ((w.1 2 0 9) + 1))) 2 0 9)) o1 o2 ?_)
  show am_A (mh_G X) SC (d + 2) mX8_readKin Q 18 [(0, .inr (.inr (some (2, 0)))), (1, .inr (.inr (some (10, j1))))] [.inl (if ((am_up w.1 2 0 9 (am_w ((w.1 2 0 9) + 1))) 2 0 9) < 0 then 46 else (if ((am_up w.1 2 0 9 (am_w ((w.1 2 0 9) + 1))) 2 0 8) ≤ ((am_up w.1 2 0 9 (am_w ((w.1 2 0 9) + 1))) 2 0 9) then 46 else (if 64 ≤ ((am_up w.1 2 0 9 (am_w ((w.1 2 0 9) + 1))) 2 0 9) then 46 else (w.1 25 0 ((am_up w.1 2 0 9 (am_w ((w.1 2 0 9) + 1))) 2 0 9).toNat))))] ((am_up w.1 2 0 9 (am_w ((w.1 2 0 9) + 1))), w.2) bc bs
  refine am_calls (d' := d + 1) (kc := 0) (ks := 0) (as := [.inl (if ((am_up w.1 2 0 9 (am_w ((w.1 2 0 9) + 1))) 2 0 9) < 0 then 46 else (if ((am_up w.1 2 0 9 (am_w ((w.1 2 0 9) + 1))) 2 0 8) ≤ ((am_up w.1 2 0 9 (am_w ((w.1 2 0 9) + 1))) 2 0 9) then 46 else (if 64 ≤ ((am_up w.1 2 0 9 (am_w ((w.1 2 0 9) + 1))) 2 0 9) then 46 else (w.1 25 0 ((am_up w.1 2 0 9 (am_w ((w.1 2 0 9) + 1))) 2 0 9).toNat))))]) dX8_readKin_18 wc_X10_isKin wd_811 wd_812 wd_123 ds_X10_isKin (by decide) (by omega) (Nat.le_of_ble_eq_true rfl) (Nat.zero_le _) (Nat.zero_le _) rfl (sX10_isKin (d := d + 0) (x0 := (if ((am_up w.1 2 0 9 (am_w ((w.1 2 0 9) + 1))) 2 0 9) < 0 then 46 else (if ((am_up w.1 2 0 9 (am_w ((w.1 2 0 9) + 1))) 2 0 8) ≤ ((am_up w.1 2 0 9 (am_w ((w.1 2 0 9) + 1))) 2 0 9) then 46 else (if 64 ≤ ((am_up w.1 2 0 9 (am_w ((w.1 2 0 9) + 1))) 2 0 9) then 46 else (w.1 25 0 ((am_up w.1 2 0 9 (am_w ((w.1 2 0 9) + 1))) 2 0 9).toNat)))))  ?_)
  show am_A (mh_G X) SC (d + 2) mX8_readKin Q 21 [(0, .inr (.inr (some (2, 0)))), (1, .inr (.inr (some (10, j1))))] [.inl (if (¬ (if ((am_up w.1 2 0 9 (am_w ((w.1 2 0 9) + 1))) 2 0 9) < 0 then 46 else (if ((am_up w.1 2 0 9 (am_w ((w.1 2 0 9) + 1))) 2 0 8) ≤ ((am_up w.1 2 0 9 (am_w ((w.1 2 0 9) + 1))) 2 0 9) then 46 else (if 64 ≤ ((am_up w.1 2 0 9 (am_w ((w.1 2 0 9) + 1))) 2 0 9) then 46 else (w.1 25 0 ((am_up w.1 2 0 9 (am_w ((w.1 2 0 9) + 1))) 2 0 9).toNat)))) < 0 ∧ (¬ 11 < (if ((am_up w.1 2 0 9 (am_w ((w.1 2 0 9) + 1))) 2 0 9) < 0 then 46 else (if ((am_up w.1 2 0 9 (am_w ((w.1 2 0 9) + 1))) 2 0 8) ≤ ((am_up w.1 2 0 9 (am_w ((w.1 2 0 9) + 1))) 2 0 9) then 46 else (if 64 ≤ ((am_up w.1 2 0 9 (am_w ((w.1 2 0 9) + 1))) 2 0 9) then 46 else (w.1 25 0 ((am_up w.1 2 0 9 (am_w ((w.1 2 0 9) + 1))) 2 0 9).toNat)))))) then 1 else 0)] ((am_up w.1 2 0 9 (am_w ((w.1 2 0 9) + 1))), w.2) bc bs
  refine am_ifne (tgt := 30) dX8_readKin_21 (by decide) (fun c3 => ?_) (fun c3 => ?_)
  · replace c3 := am_bne1 c3
    replace h := h.1 c3
    refine am_aload_n dX8_readKin_30 (List.Mem.tail _ (List.Mem.head _)) ?_
    refine am_aload_n dX8_readKin_31 (List.Mem.head _) ?_
    refine am_aload_n dX8_readKin_32 (List.Mem.head _) ?_
    refine am_getf (f := 9) (v := .inl ((am_up w.1 2 0 9 (am_w ((w.1 2 0 9) + 1))) 2 0 9)) dX8_readKin_33 hc_1 (by decide) wd_163 (by decide) rfl rfl ?_
    refine am_callv (d' := d + 1) (kc := 0) (ks := 0) (as := [.inl ((am_up w.1 2 0 9 (am_w ((w.1 2 0 9) + 1))) 2 0 9)]) dX8_readKin_36 wc_X8_codeAt wd_791 wd_793 wd_7 wd_113 ds_X8_codeAt (by decide) (by omega) (Nat.le_of_ble_eq_true rfl) (Nat.zero_le _) (Nat.zero_le _) hc_1 (by decide) rfl rfl (sX8_codeAt (d := d + 0) (x1 := ((am_up w.1 2 0 9 (am_w ((w.1 2 0 9) + 1))) 2 0 9)) o1 o2 ?_)
    show am_A (mh_G X) SC (d + 2) mX8_readKin Q 39 [(0, .inr (.inr (some (2, 0)))), (1, .inr (.inr (some (10, j1))))] [.inl (if ((am_up w.1 2 0 9 (am_w ((w.1 2 0 9) + 1))) 2 0 9) < 0 then 46 else (if ((am_up w.1 2 0 9 (am_w ((w.1 2 0 9) + 1))) 2 0 8) ≤ ((am_up w.1 2 0 9 (am_w ((w.1 2 0 9) + 1))) 2 0 9) then 46 else (if 64 ≤ ((am_up w.1 2 0 9 (am_w ((w.1 2 0 9) + 1))) 2 0 9) then 46 else (w.1 25 0 ((am_up w.1 2 0 9 (am_w ((w.1 2 0 9) + 1))) 2 0 9).toNat)))), .inr (.inr (some (10, j1)))] ((am_up w.1 2 0 9 (am_w ((w.1 2 0 9) + 1))), w.2) bc bs
    exact am_callv (d' := d + 1) (kc := 0) (ks := 0) (as := [.inl (if ((am_up w.1 2 0 9 (am_w ((w.1 2 0 9) + 1))) 2 0 9) < 0 then 46 else (if ((am_up w.1 2 0 9 (am_w ((w.1 2 0 9) + 1))) 2 0 8) ≤ ((am_up w.1 2 0 9 (am_w ((w.1 2 0 9) + 1))) 2 0 9) then 46 else (if 64 ≤ ((am_up w.1 2 0 9 (am_w ((w.1 2 0 9) + 1))) 2 0 9) then 46 else (w.1 25 0 ((am_up w.1 2 0 9 (am_w ((w.1 2 0 9) + 1))) 2 0 9).toNat))))]) dX8_readKin_39 wc_X3_addKin wd_814 wd_815 wd_816 wd_116 ds_X3_addKin (by decide) (by omega) (Nat.le_of_ble_eq_true rfl) (Nat.zero_le _) (Nat.zero_le _) hc_4 (by decide) rfl rfl h
  · replace c3 := am_bne2 c3
    replace h := h.2 c3
    refine am_aload_n dX8_readKin_24 (List.Mem.head _) ?_
    refine am_iconst dX8_readKin_25 (by unfold am_rg; omega) ?_
    refine am_callv (d' := d + 1) (kc := 0) (ks := 0) (as := [.inl 2]) dX8_readKin_26 wc_X8_fail wd_787 wd_789 wd_6 wd_113 ds_X8_fail (by decide) (by omega) (Nat.le_of_ble_eq_true rfl) (Nat.zero_le _) (Nat.zero_le _) hc_1 (by decide) rfl rfl (sX8_fail (d := d + 0) (x1 := 2)  ?_)
    show am_A (mh_G X) SC (d + 2) mX8_readKin Q 29 [(0, .inr (.inr (some (2, 0)))), (1, .inr (.inr (some (10, j1))))] [.inl 0] ((am_up (am_up (am_up (am_up w.1 2 0 9 (am_w ((w.1 2 0 9) + 1))) 2 0 4 ((am_up w.1 2 0 9 (am_w ((w.1 2 0 9) + 1))) 2 0 7)) 2 0 5 (am_w (((am_up (am_up w.1 2 0 9 (am_w ((w.1 2 0 9) + 1))) 2 0 4 ((am_up w.1 2 0 9 (am_w ((w.1 2 0 9) + 1))) 2 0 7)) 2 0 9) + 1))) 2 0 6 (2 : Int)), w.2) bc bs
    exact am_ret (r := some (.inl 0)) dX8_readKin_29 (Or.inr (Or.inl ⟨rfl, (Or.inl rfl)⟩)) rfl h
theorem bX8_readKin_42 {SC : Nat → Nat} {X : mh_X} {d : Nat} {Q : Option am_V → am_W → Prop} {bc bs : Nat} {w : am_W} {j1 : Nat} {xs0 : Int}
    (h : ((¬ xs0 = 0 → ((((am_up w.1 2 0 9 (am_w ((w.1 2 0 9) + 1))) 2 0 8) ≤ ((am_up w.1 2 0 9 (am_w ((w.1 2 0 9) + 1))) 2 0 9) → am_A (mh_G X) SC (d + 2) mX8_readKin Q 86 [(0, .inr (.inr (some (2, 0))))] [] ((am_up w.1 2 0 9 (am_w ((w.1 2 0 9) + 1))), w.2) bc bs) ∧ (¬ ((am_up w.1 2 0 9 (am_w ((w.1 2 0 9) + 1))) 2 0 8) ≤ ((am_up w.1 2 0 9 (am_w ((w.1 2 0 9) + 1))) 2 0 9) → ((¬ ((am_up w.1 2 0 9 (am_w ((w.1 2 0 9) + 1))) 2 0 9) < 0 → ¬ ((am_up w.1 2 0 9 (am_w ((w.1 2 0 9) + 1))) 2 0 8) ≤ ((am_up w.1 2 0 9 (am_w ((w.1 2 0 9) + 1))) 2 0 9) → ¬ 64 ≤ ((am_up w.1 2 0 9 (am_w ((w.1 2 0 9) + 1))) 2 0 9) → 0 ≤ ((am_up w.1 2 0 9 (am_w ((w.1 2 0 9) + 1))) 2 0 9)) ∧ ((¬ ((am_up w.1 2 0 9 (am_w ((w.1 2 0 9) + 1))) 2 0 9) < 0 → ¬ ((am_up w.1 2 0 9 (am_w ((w.1 2 0 9) + 1))) 2 0 8) ≤ ((am_up w.1 2 0 9 (am_w ((w.1 2 0 9) + 1))) 2 0 9) → ¬ 64 ≤ ((am_up w.1 2 0 9 (am_w ((w.1 2 0 9) + 1))) 2 0 9) → ((am_up w.1 2 0 9 (am_w ((w.1 2 0 9) + 1))) 2 0 9) < 64) ∧ (((if ((am_up w.1 2 0 9 (am_w ((w.1 2 0 9) + 1))) 2 0 9) < 0 then 46 else (if ((am_up w.1 2 0 9 (am_w ((w.1 2 0 9) + 1))) 2 0 8) ≤ ((am_up w.1 2 0 9 (am_w ((w.1 2 0 9) + 1))) 2 0 9) then 46 else (if 64 ≤ ((am_up w.1 2 0 9 (am_w ((w.1 2 0 9) + 1))) 2 0 9) then 46 else (w.1 25 0 ((am_up w.1 2 0 9 (am_w ((w.1 2 0 9) + 1))) 2 0 9).toNat)))) = 31 → am_A (mh_G X) SC (d + 2) mX8_readKin Q 0 [(0, .inr (.inr (some (2, 0)))), (1, .inr (.inr (some (10, j1))))] [] ((am_up w.1 2 0 9 (am_w ((w.1 2 0 9) + 1))), w.2) bc bs) ∧ (¬ (if ((am_up w.1 2 0 9 (am_w ((w.1 2 0 9) + 1))) 2 0 9) < 0 then 46 else (if ((am_up w.1 2 0 9 (am_w ((w.1 2 0 9) + 1))) 2 0 8) ≤ ((am_up w.1 2 0 9 (am_w ((w.1 2 0 9) + 1))) 2 0 9) then 46 else (if 64 ≤ ((am_up w.1 2 0 9 (am_w ((w.1 2 0 9) + 1))) 2 0 9) then 46 else (w.1 25 0 ((am_up w.1 2 0 9 (am_w ((w.1 2 0 9) + 1))) 2 0 9).toNat)))) = 31 → am_A (mh_G X) SC (d + 2) mX8_readKin Q 86 [(0, .inr (.inr (some (2, 0))))] [] ((am_up w.1 2 0 9 (am_w ((w.1 2 0 9) + 1))), w.2) bc bs))))))) ∧ (xs0 = 0 → Q (some (.inl 0)) ((am_up (am_up (am_up w.1 2 0 4 (w.1 2 0 7)) 2 0 5 (am_w (((am_up w.1 2 0 4 (w.1 2 0 7)) 2 0 9) + 1))) 2 0 6 (6 : Int)), w.2)))) :
    am_A (mh_G X) SC (d + 2) mX8_readKin Q 42 [(0, .inr (.inr (some (2, 0)))), (1, .inr (.inr (some (10, j1))))] [.inl xs0] w bc bs := by
  refine am_ifne (tgt := 52) dX8_readKin_42 (by decide) (fun c1 => ?_) (fun c1 => ?_)
  · replace h := h.1 c1
    refine am_aload_n dX8_readKin_52 (List.Mem.head _) ?_
    refine am_dup dX8_readKin_53 rfl ?_
    refine am_getf (f := 9) (v := .inl (w.1 2 0 9)) dX8_readKin_54 hc_1 (by decide) wd_163 (by decide) rfl rfl ?_
    refine am_iconst dX8_readKin_57 (by unfold am_rg; omega) ?_
    refine am_iadd dX8_readKin_58 ?_
    refine am_putf (f := 9) dX8_readKin_59 hc_1 (by decide) wd_163 rfl (Or.inl rfl) (Or.inl (by decide)) rfl ?_
    refine am_aload_n dX8_readKin_62 (List.Mem.head _) ?_
    refine am_getf (f := 9) (v := .inl ((am_up w.1 2 0 9 (am_w ((w.1 2 0 9) + 1))) 2 0 9)) dX8_readKin_63 hc_1 (by decide) wd_163 (by decide) rfl rfl ?_
    refine am_aload_n dX8_readKin_66 (List.Mem.head _) ?_
    refine am_getf (f := 8) (v := .inl ((am_up w.1 2 0 9 (am_w ((w.1 2 0 9) + 1))) 2 0 8)) dX8_readKin_67 hc_1 (by decide) wd_162 (by decide) rfl rfl ?_
    refine am_icmpge (tgt := 86) dX8_readKin_70 (by decide) (fun c2 => ?_) (fun c2 => ?_)
    · replace h := h.1 c2
      exact am_sub [0] rfl h
    · replace h := h.2 c2
      refine am_aload_n dX8_readKin_73 (List.Mem.head _) ?_
      refine am_aload_n dX8_readKin_74 (List.Mem.head _) ?_
      refine am_getf (f := 9) (v := .inl ((am_up w.1 2 0 9 (am_w ((w.1 2 0 9) + 1))) 2 0 9)) dX8_readKin_75 hc_1 (by decide) wd_163 (by decide) rfl rfl ?_
      have o3 := h.1
      replace h := h.2
      have o4 := h.1
      replace h := h.2
      refine am_callv (d' := d + 1) (kc := 0) (ks := 0) (as := [.inl ((am_up w.1 2 0 9 (am_w ((w.1 2 0 9) + 1))) 2 0 9)]) dX8_readKin_78 wc_X8_codeAt wd_791 wd_793 wd_7 wd_113 ds_X8_codeAt (by decide) (by omega) (Nat.le_of_ble_eq_true rfl) (Nat.zero_le _) (Nat.zero_le _) hc_1 (by decide) rfl rfl (sX8_codeAt (d := d + 0) (x1 := ((am_up w.1 2 0 9 (am_w ((w.1 2 0 9) + 1))) 2 0 9)) o3 o4 ?_)
      show am_A (mh_G X) SC (d + 2) mX8_readKin Q 81 [(0, .inr (.inr (some (2, 0)))), (1, .inr (.inr (some (10, j1))))] [.inl (if ((am_up w.1 2 0 9 (am_w ((w.1 2 0 9) + 1))) 2 0 9) < 0 then 46 else (if ((am_up w.1 2 0 9 (am_w ((w.1 2 0 9) + 1))) 2 0 8) ≤ ((am_up w.1 2 0 9 (am_w ((w.1 2 0 9) + 1))) 2 0 9) then 46 else (if 64 ≤ ((am_up w.1 2 0 9 (am_w ((w.1 2 0 9) + 1))) 2 0 9) then 46 else (w.1 25 0 ((am_up w.1 2 0 9 (am_w ((w.1 2 0 9) + 1))) 2 0 9).toNat))))] ((am_up w.1 2 0 9 (am_w ((w.1 2 0 9) + 1))), w.2) bc bs
      refine am_bipush dX8_readKin_81 (by decide) (by unfold am_rg; omega) ?_
      refine am_icmpeq (tgt := 0) dX8_readKin_83 (by decide) (fun c5 => ?_) (fun c5 => ?_)
      · replace h := h.1 c5
        exact h
      · replace h := h.2 c5
        exact am_sub [0] rfl h
  · replace h := h.2 c1
    refine am_aload_n dX8_readKin_45 (List.Mem.head _) ?_
    refine am_bipush dX8_readKin_46 (by decide) (by unfold am_rg; omega) ?_
    refine am_callv (d' := d + 1) (kc := 0) (ks := 0) (as := [.inl 6]) dX8_readKin_48 wc_X8_fail wd_787 wd_789 wd_6 wd_113 ds_X8_fail (by decide) (by omega) (Nat.le_of_ble_eq_true rfl) (Nat.zero_le _) (Nat.zero_le _) hc_1 (by decide) rfl rfl (sX8_fail (d := d + 0) (x1 := 6)  ?_)
    show am_A (mh_G X) SC (d + 2) mX8_readKin Q 51 [(0, .inr (.inr (some (2, 0)))), (1, .inr (.inr (some (10, j1))))] [.inl 0] ((am_up (am_up (am_up w.1 2 0 4 (w.1 2 0 7)) 2 0 5 (am_w (((am_up w.1 2 0 4 (w.1 2 0 7)) 2 0 9) + 1))) 2 0 6 (6 : Int)), w.2) bc bs
    exact am_ret (r := some (.inl 0)) dX8_readKin_51 (Or.inr (Or.inl ⟨rfl, (Or.inl rfl)⟩)) rfl h
theorem bX8_readKin_86 {SC : Nat → Nat} {X : mh_X} {d : Nat} {Q : Option am_V → am_W → Prop} {bc bs : Nat} {w : am_W} 
    (h : ((¬ (w.1 2 0 9) < 0 → ¬ (w.1 2 0 8) ≤ (w.1 2 0 9) → ¬ 64 ≤ (w.1 2 0 9) → 0 ≤ (w.1 2 0 9)) ∧ ((¬ (w.1 2 0 9) < 0 → ¬ (w.1 2 0 8) ≤ (w.1 2 0 9) → ¬ 64 ≤ (w.1 2 0 9) → (w.1 2 0 9) < 64) ∧ (((if (w.1 2 0 9) < 0 then 46 else (if (w.1 2 0 8) ≤ (w.1 2 0 9) then 46 else (if 64 ≤ (w.1 2 0 9) then 46 else (w.1 25 0 (w.1 2 0 9).toNat)))) = 42 → Q (some (.inl 1)) w) ∧ (¬ (if (w.1 2 0 9) < 0 then 46 else (if (w.1 2 0 8) ≤ (w.1 2 0 9) then 46 else (if 64 ≤ (w.1 2 0 9) then 46 else (w.1 25 0 (w.1 2 0 9).toNat)))) = 42 → Q (some (.inl 0)) ((am_up (am_up (am_up w.1 2 0 4 (w.1 2 0 7)) 2 0 5 (am_w (((am_up w.1 2 0 4 (w.1 2 0 7)) 2 0 9) + 1))) 2 0 6 (2 : Int)), w.2)))))) :
    am_A (mh_G X) SC (d + 2) mX8_readKin Q 86 [(0, .inr (.inr (some (2, 0))))] [] w bc bs := by
  refine am_aload_n dX8_readKin_86 (List.Mem.head _) ?_
  refine am_aload_n dX8_readKin_87 (List.Mem.head _) ?_
  refine am_getf (f := 9) (v := .inl (w.1 2 0 9)) dX8_readKin_88 hc_1 (by decide) wd_163 (by decide) rfl rfl ?_
  have o1 := h.1
  replace h := h.2
  have o2 := h.1
  replace h := h.2
  refine am_callv (d' := d + 1) (kc := 0) (ks := 0) (as := [.inl (w.1 2 0 9)]) dX8_readKin_91 wc_X8_codeAt wd_791 wd_793 wd_7 wd_113 ds_X8_codeAt (by decide) (by omega) (Nat.le_of_ble_eq_true rfl) (Nat.zero_le _) (Nat.zero_le _) hc_1 (by decide) rfl rfl (sX8_codeAt (d := d + 0) (x1 := (w.1 2 0 9)) o1 o2 ?_)
  show am_A (mh_G X) SC (d + 2) mX8_readKin Q 94 [(0, .inr (.inr (some (2, 0))))] [.inl (if (w.1 2 0 9) < 0 then 46 else (if (w.1 2 0 8) ≤ (w.1 2 0 9) then 46 else (if 64 ≤ (w.1 2 0 9) then 46 else (w.1 25 0 (w.1 2 0 9).toNat))))] w bc bs
  refine am_bipush dX8_readKin_94 (by decide) (by unfold am_rg; omega) ?_
  refine am_icmpeq (tgt := 107) dX8_readKin_96 (by decide) (fun c3 => ?_) (fun c3 => ?_)
  · replace h := h.1 c3
    refine am_iconst dX8_readKin_107 (by unfold am_rg; omega) ?_
    refine am_goto (tgt := 112) dX8_readKin_108 (by decide) ?_
    exact am_ret (r := some (.inl 1)) dX8_readKin_112 (Or.inr (Or.inl ⟨rfl, (Or.inr rfl)⟩)) rfl h
  · replace h := h.2 c3
    refine am_aload_n dX8_readKin_99 (List.Mem.head _) ?_
    refine am_iconst dX8_readKin_100 (by unfold am_rg; omega) ?_
    refine am_callv (d' := d + 1) (kc := 0) (ks := 0) (as := [.inl 2]) dX8_readKin_101 wc_X8_fail wd_787 wd_789 wd_6 wd_113 ds_X8_fail (by decide) (by omega) (Nat.le_of_ble_eq_true rfl) (Nat.zero_le _) (Nat.zero_le _) hc_1 (by decide) rfl rfl (sX8_fail (d := d + 0) (x1 := 2)  ?_)
    show am_A (mh_G X) SC (d + 2) mX8_readKin Q 104 [(0, .inr (.inr (some (2, 0))))] [.inl 0] ((am_up (am_up (am_up w.1 2 0 4 (w.1 2 0 7)) 2 0 5 (am_w (((am_up w.1 2 0 4 (w.1 2 0 7)) 2 0 9) + 1))) 2 0 6 (2 : Int)), w.2) bc bs
    refine am_ifeq (tgt := 111) dX8_readKin_104 (by decide) (fun _ => ?_) (fun c => absurd c (by decide))
    refine am_iconst dX8_readKin_111 (by unfold am_rg; omega) ?_
    exact am_ret (r := some (.inl 0)) dX8_readKin_112 (Or.inr (Or.inl ⟨rfl, (Or.inl rfl)⟩)) rfl h
-- MourningHouse$Words.isOption(I)Z
theorem dX10_isOption_0 : decode mX10_isOption.2.1 0 = .ok (.iload_n 0, 1) := by decide +kernel
theorem dX10_isOption_1 : decode mX10_isOption.2.1 1 = .ok (.bipush 25, 2) := by decide +kernel
theorem dX10_isOption_3 : decode mX10_isOption.2.1 3 = .ok (.if_icmp .lt 13, 3) := by decide +kernel
theorem dX10_isOption_6 : decode mX10_isOption.2.1 6 = .ok (.iload_n 0, 1) := by decide +kernel
theorem dX10_isOption_7 : decode mX10_isOption.2.1 7 = .ok (.bipush 28, 2) := by decide +kernel
theorem dX10_isOption_9 : decode mX10_isOption.2.1 9 = .ok (.if_icmp .gt 7, 3) := by decide +kernel
theorem dX10_isOption_12 : decode mX10_isOption.2.1 12 = .ok (.iconst 1, 1) := by decide +kernel
theorem dX10_isOption_13 : decode mX10_isOption.2.1 13 = .ok (.goto 4, 3) := by decide +kernel
theorem dX10_isOption_16 : decode mX10_isOption.2.1 16 = .ok (.iconst 0, 1) := by decide +kernel
theorem dX10_isOption_17 : decode mX10_isOption.2.1 17 = .ok (.ireturn, 1) := by decide +kernel
theorem sX10_isOption {SC : Nat → Nat} {X : mh_X} {d kc ks : Nat} {Q : Option am_V → am_W → Prop} {w : am_W} {x0 : Int}
    (h : Q (some (.inl (if (¬ x0 < 25 ∧ (¬ 28 < x0)) then 1 else 0))) w) : am_M (mh_G X) SC (d + 1) kc ks mX10_isOption [.inl x0] w Q := by
  refine am_M_of (by decide) (Nat.le_of_ble_eq_true rfl) ?_
  show am_A (mh_G X) SC (d + 1) mX10_isOption Q 0 [(0, .inl x0)] [] w kc ks
  refine am_iload_n dX10_isOption_0 (List.Mem.head _) ?_
  refine am_bipush dX10_isOption_1 (by decide) (by unfold am_rg; omega) ?_
  refine am_icmplt (tgt := 16) dX10_isOption_3 (by decide) (fun c1 => ?_) (fun c1 => ?_)
  · refine am_iconst dX10_isOption_16 (by unfold am_rg; omega) ?_
    rw [if_neg (by omega)] at h
    exact am_ret (r := some (.inl 0)) dX10_isOption_17 (Or.inr (Or.inl ⟨rfl, (Or.inl rfl)⟩)) rfl h
  · refine am_iload_n dX10_isOption_6 (List.Mem.head _) ?_
    refine am_bipush dX10_isOption_7 (by decide) (by unfold am_rg; omega) ?_
    refine am_icmpgt (tgt := 16) dX10_isOption_9 (by decide) (fun c2 => ?_) (fun c2 => ?_)
    · refine am_iconst dX10_isOption_16 (by unfold am_rg; omega) ?_
      rw [if_neg (by omega)] at h
      exact am_ret (r := some (.inl 0)) dX10_isOption_17 (Or.inr (Or.inl ⟨rfl, (Or.inl rfl)⟩)) rfl h
    · refine am_iconst dX10_isOption_12 (by unfold am_rg; omega) ?_
      refine am_goto (tgt := 17) dX10_isOption_13 (by decide) ?_
      rw [if_pos (by omega)] at h
      exact am_ret (r := some (.inl 1)) dX10_isOption_17 (Or.inr (Or.inl ⟨rfl, (Or.inr rfl)⟩)) rfl h
-- MourningHouse$Reader.readOptions(LMourningHouse$Law;)Z
theorem dX8_readOptions_0 : decode mX8_readOptions.2.1 0 = .ok (.aload_n 0, 1) := by decide +kernel
theorem dX8_readOptions_1 : decode mX8_readOptions.2.1 1 = .ok (.getfield 39, 3) := by decide +kernel
theorem dX8_readOptions_4 : decode mX8_readOptions.2.1 4 = .ok (.aload_n 0, 1) := by decide +kernel
theorem dX8_readOptions_5 : decode mX8_readOptions.2.1 5 = .ok (.getfield 36, 3) := by decide +kernel
theorem dX8_readOptions_8 : decode mX8_readOptions.2.1 8 = .ok (.if_icmp .ge 95, 3) := by decide +kernel
theorem dX8_readOptions_11 : decode mX8_readOptions.2.1 11 = .ok (.aload_n 0, 1) := by decide +kernel
theorem dX8_readOptions_12 : decode mX8_readOptions.2.1 12 = .ok (.aload_n 0, 1) := by decide +kernel
theorem dX8_readOptions_13 : decode mX8_readOptions.2.1 13 = .ok (.getfield 39, 3) := by decide +kernel
theorem dX8_readOptions_16 : decode mX8_readOptions.2.1 16 = .ok (.invokevirtual 59, 3) := by decide +kernel
theorem dX8_readOptions_19 : decode mX8_readOptions.2.1 19 = .ok (.bipush 44, 2) := by decide +kernel
theorem dX8_readOptions_21 : decode mX8_readOptions.2.1 21 = .ok (.if_icmp .ne 82, 3) := by decide +kernel
theorem dX8_readOptions_24 : decode mX8_readOptions.2.1 24 = .ok (.aload_n 0, 1) := by decide +kernel
theorem dX8_readOptions_25 : decode mX8_readOptions.2.1 25 = .ok (.dup, 1) := by decide +kernel
theorem dX8_readOptions_26 : decode mX8_readOptions.2.1 26 = .ok (.getfield 39, 3) := by decide +kernel
theorem dX8_readOptions_29 : decode mX8_readOptions.2.1 29 = .ok (.iconst 1, 1) := by decide +kernel
theorem dX8_readOptions_30 : decode mX8_readOptions.2.1 30 = .ok (.iadd, 1) := by decide +kernel
theorem dX8_readOptions_31 : decode mX8_readOptions.2.1 31 = .ok (.putfield 39, 3) := by decide +kernel
theorem dX8_readOptions_34 : decode mX8_readOptions.2.1 34 = .ok (.aload_n 0, 1) := by decide +kernel
theorem dX8_readOptions_35 : decode mX8_readOptions.2.1 35 = .ok (.aload_n 0, 1) := by decide +kernel
theorem dX8_readOptions_36 : decode mX8_readOptions.2.1 36 = .ok (.getfield 39, 3) := by decide +kernel
theorem dX8_readOptions_39 : decode mX8_readOptions.2.1 39 = .ok (.invokevirtual 59, 3) := by decide +kernel
theorem dX8_readOptions_42 : decode mX8_readOptions.2.1 42 = .ok (.istore_n 2, 1) := by decide +kernel
theorem dX8_readOptions_43 : decode mX8_readOptions.2.1 43 = .ok (.iload_n 2, 1) := by decide +kernel
theorem dX8_readOptions_44 : decode mX8_readOptions.2.1 44 = .ok (.invokestatic 178, 3) := by decide +kernel
theorem dX8_readOptions_47 : decode mX8_readOptions.2.1 47 = .ok (.ifCond .ne 9, 3) := by decide +kernel
theorem dX8_readOptions_50 : decode mX8_readOptions.2.1 50 = .ok (.aload_n 0, 1) := by decide +kernel
theorem dX8_readOptions_51 : decode mX8_readOptions.2.1 51 = .ok (.iconst 2, 1) := by decide +kernel
theorem dX8_readOptions_52 : decode mX8_readOptions.2.1 52 = .ok (.invokevirtual 55, 3) := by decide +kernel
theorem dX8_readOptions_55 : decode mX8_readOptions.2.1 55 = .ok (.ireturn, 1) := by decide +kernel
theorem dX8_readOptions_56 : decode mX8_readOptions.2.1 56 = .ok (.aload_n 1, 1) := by decide +kernel
theorem dX8_readOptions_57 : decode mX8_readOptions.2.1 57 = .ok (.iload_n 2, 1) := by decide +kernel
theorem dX8_readOptions_58 : decode mX8_readOptions.2.1 58 = .ok (.bipush 25, 2) := by decide +kernel
theorem dX8_readOptions_60 : decode mX8_readOptions.2.1 60 = .ok (.isub, 1) := by decide +kernel
theorem dX8_readOptions_61 : decode mX8_readOptions.2.1 61 = .ok (.invokevirtual 181, 3) := by decide +kernel
theorem dX8_readOptions_64 : decode mX8_readOptions.2.1 64 = .ok (.ifCond .ne 9, 3) := by decide +kernel
theorem dX8_readOptions_67 : decode mX8_readOptions.2.1 67 = .ok (.aload_n 0, 1) := by decide +kernel
theorem dX8_readOptions_68 : decode mX8_readOptions.2.1 68 = .ok (.iconst 5, 1) := by decide +kernel
theorem dX8_readOptions_69 : decode mX8_readOptions.2.1 69 = .ok (.invokevirtual 55, 3) := by decide +kernel
theorem dX8_readOptions_72 : decode mX8_readOptions.2.1 72 = .ok (.ireturn, 1) := by decide +kernel
theorem dX8_readOptions_73 : decode mX8_readOptions.2.1 73 = .ok (.aload_n 0, 1) := by decide +kernel
theorem dX8_readOptions_74 : decode mX8_readOptions.2.1 74 = .ok (.dup, 1) := by decide +kernel
theorem dX8_readOptions_75 : decode mX8_readOptions.2.1 75 = .ok (.getfield 39, 3) := by decide +kernel
theorem dX8_readOptions_78 : decode mX8_readOptions.2.1 78 = .ok (.iconst 1, 1) := by decide +kernel
theorem dX8_readOptions_79 : decode mX8_readOptions.2.1 79 = .ok (.iadd, 1) := by decide +kernel
theorem dX8_readOptions_80 : decode mX8_readOptions.2.1 80 = .ok (.putfield 39, 3) := by decide +kernel
theorem dX8_readOptions_83 : decode mX8_readOptions.2.1 83 = .ok (.iload_n 2, 1) := by decide +kernel
theorem dX8_readOptions_84 : decode mX8_readOptions.2.1 84 = .ok (.bipush 25, 2) := by decide +kernel
theorem dX8_readOptions_86 : decode mX8_readOptions.2.1 86 = .ok (.if_icmp .ne 14, 3) := by decide +kernel
theorem dX8_readOptions_89 : decode mX8_readOptions.2.1 89 = .ok (.aload_n 0, 1) := by decide +kernel
theorem dX8_readOptions_90 : decode mX8_readOptions.2.1 90 = .ok (.bipush 29, 2) := by decide +kernel
theorem dX8_readOptions_92 : decode mX8_readOptions.2.1 92 = .ok (.invokevirtual 129, 3) := by decide +kernel
theorem dX8_readOptions_95 : decode mX8_readOptions.2.1 95 = .ok (.ifCond .ne 5, 3) := by decide +kernel
theorem dX8_readOptions_98 : decode mX8_readOptions.2.1 98 = .ok (.iconst 0, 1) := by decide +kernel
theorem dX8_readOptions_99 : decode mX8_readOptions.2.1 99 = .ok (.ireturn, 1) := by decide +kernel
theorem dX8_readOptions_100 : decode mX8_readOptions.2.1 100 = .ok (.goto (-100), 3) := by decide +kernel
theorem dX8_readOptions_103 : decode mX8_readOptions.2.1 103 = .ok (.aload_n 0, 1) := by decide +kernel
theorem dX8_readOptions_104 : decode mX8_readOptions.2.1 104 = .ok (.bipush 46, 2) := by decide +kernel
theorem dX8_readOptions_106 : decode mX8_readOptions.2.1 106 = .ok (.invokevirtual 129, 3) := by decide +kernel
theorem dX8_readOptions_109 : decode mX8_readOptions.2.1 109 = .ok (.ireturn, 1) := by decide +kernel
theorem bX8_readOptions_0 {SC : Nat → Nat} {X : mh_X} {d : Nat} {Q : Option am_V → am_W → Prop} {bc bs : Nat} {w : am_W} {j1 : Nat}
    (h : (((w.1 2 0 8) ≤ (w.1 2 0 9) → am_A (mh_G X) SC (d + 3) mX8_readOptions Q 103 [(0, .inr (.inr (some (2, 0))))] [] w bc bs) ∧ (¬ (w.1 2 0 8) ≤ (w.1 2 0 9) → ((¬ (w.1 2 0 9) < 0 → ¬ (w.1 2 0 8) ≤ (w.1 2 0 9) → ¬ 64 ≤ (w.1 2 0 9) → 0 ≤ (w.1 2 0 9)) ∧ ((¬ (w.1 2 0 9) < 0 → ¬ (w.1 2 0 8) ≤ (w.1 2 0 9) → ¬ 64 ≤ (w.1 2 0 9) → (w.1 2 0 9) < 64) ∧ ((¬ (if (w.1 2 0 9) < 0 then 46 else (if (w.1 2 0 8) ≤ (w.1 2 0 9) then 46 else (if 64 ≤ (w.1 2 0 9) then 46 else (w.1 25 0 (w.1 2 0 9).toNat)))) = 44 → am_A (mh_G X) SC (d + 3) mX8_readOptions Q 103 [(0, .inr (.inr (some (2, 0))))] [] w bc bs) ∧ ((if (w.1 2 0 9) < 0 then 46 else (if (w.1 2 0 8) ≤ (w.1 2 0 9) then 46 else (if 64 ≤ (w.1 2 0 9) then 46 else (w.1 25 0 (w.1 2 0 9).toNat)))) = 44 → ((¬ ((am_up w.1 2 0 9 (am_w ((w.1 2 0 9) + 1))) 2 0 9) < 0 → ¬ ((am_up w.1 2 0 9 (am_w ((w.1 2 0 9) + 1))) 2 0 8) ≤ ((am_up w.1 2 0 9 (am_w ((w.1 2 0 9) + 1))) 2 0 9) → ¬ 64 ≤ ((am_up w.1 2 0 9 (am_w ((w.1 2 0 9) + 1))) 2 0 9) → 0 ≤ ((am_up w.1 2 0 9 (am_w ((w.1 2 0 9) + 1))) 2 0 9)) ∧ ((¬ ((am_up w.1 2 0 9 (am_w ((w.1 2 0 9) + 1))) 2 0 9) < 0 → ¬ ((am_up w.1 2 0 9 (am_w ((w.1 2 0 9) + 1))) 2 0 8) ≤ ((am_up w.1 2 0 9 (am_w ((w.1 2 0 9) + 1))) 2 0 9) → ¬ 64 ≤ ((am_up w.1 2 0 9 (am_w ((w.1 2 0 9) + 1))) 2 0 9) → ((am_up w.1 2 0 9 (am_w ((w.1 2 0 9) + 1))) 2 0 9) < 64) ∧ (∀ n7 : Int, n7 = (if ((am_up w.1 2 0 9 (am_w ((w.1 2 0 9) + 1))) 2 0 9) < 0 then 46 else (if ((am_up w.1 2 0 9 (am_w ((w.1 2 0 9) + 1))) 2 0 8) ≤ ((am_up w.1 2 0 9 (am_w ((w.1 2 0 9) + 1))) 2 0 9) then 46 else (if 64 ≤ ((am_up w.1 2 0 9 (am_w ((w.1 2 0 9) + 1))) 2 0 9) then 46 else (w.1 25 0 ((am_up w.1 2 0 9 (am_w ((w.1 2 0 9) + 1))) 2 0 9).toNat)))) → (((¬ n7 < 25 ∧ (¬ 28 < n7)) → am_M (mh_G X) SC (d + 2) 0 0 mX3_addOption [.inr (.inr (some (10, j1))), .inl (am_w (n7 - 25))] ((am_up w.1 2 0 9 (am_w ((w.1 2 0 9) + 1))), w.2) (fun r w1 => am_A (mh_G X) SC (d + 3) mX8_readOptions Q 64 [(2, .inl n7), (0, .inr (.inr (some (2, 0)))), (1, .inr (.inr (some (10, j1))))] (r.toList ++ []) w1 bc bs)) ∧ (¬ (¬ n7 < 25 ∧ (¬ 28 < n7)) → Q (some (.inl 0)) ((am_up (am_up (am_up (am_up w.1 2 0 9 (am_w ((w.1 2 0 9) + 1))) 2 0 4 ((am_up w.1 2 0 9 (am_w ((w.1 2 0 9) + 1))) 2 0 7)) 2 0 5 (am_w (((am_up (am_up w.1 2 0 9 (am_w ((w.1 2 0 9) + 1))) 2 0 4 ((am_up w.1 2 0 9 (am_w ((w.1 2 0 9) + 1))) 2 0 7)) 2 0 9) + 1))) 2 0 6 (2 : Int)), w.2))))))))))))) :
    am_A (mh_G X) SC (d + 3) mX8_readOptions Q 0 [(0, .inr (.inr (some (2, 0)))), (1, .inr (.inr (some (10, j1))))] [] w bc bs := by
  refine am_aload_n dX8_readOptions_0 (List.Mem.head _) ?_
  refine am_getf (f := 9) (v := .inl (w.1 2 0 9)) dX8_readOptions_1 hc_1 (by decide) wd_163 (by decide) rfl rfl ?_
  refine am_aload_n dX8_readOptions_4 (List.Mem.head _) ?_
  refine am_getf (f := 8) (v := .inl (w.1 2 0 8)) dX8_readOptions_5 hc_1 (by decide) wd_162 (by decide) rfl rfl ?_
  refine am_icmpge (tgt := 103) dX8_readOptions_8 (by decide) (fun c1 => ?_) (fun c1 => ?_)
  · replace h := h.1 c1
    exact am_sub [0] rfl h
  · replace h := h.2 c1
    refine am_aload_n dX8_readOptions_11 (List.Mem.head _) ?_
    refine am_aload_n dX8_readOptions_12 (List.Mem.head _) ?_
    refine am_getf (f := 9) (v := .inl (w.1 2 0 9)) dX8_readOptions_13 hc_1 (by decide) wd_163 (by decide) rfl rfl ?_
    have o2 := h.1
    replace h := h.2
    have o3 := h.1
    replace h := h.2
    refine am_callv (d' := d + 2) (kc := 0) (ks := 0) (as := [.inl (w.1 2 0 9)]) dX8_readOptions_16 wc_X8_codeAt wd_791 wd_793 wd_7 wd_113 ds_X8_codeAt (by decide) (by omega) (Nat.le_of_ble_eq_true rfl) (Nat.zero_le _) (Nat.zero_le _) hc_1 (by decide) rfl rfl (sX8_codeAt (d := d + 1) (x1 := (w.1 2 0 9)) o2 o3 ?_)
    show am_A (mh_G X) SC (d + 3) mX8_readOptions Q 19 [(0, .inr (.inr (some (2, 0)))), (1, .inr (.inr (some (10, j1))))] [.inl (if (w.1 2 0 9) < 0 then 46 else (if (w.1 2 0 8) ≤ (w.1 2 0 9) then 46 else (if 64 ≤ (w.1 2 0 9) then 46 else (w.1 25 0 (w.1 2 0 9).toNat))))] w bc bs
    refine am_bipush dX8_readOptions_19 (by decide) (by unfold am_rg; omega) ?_
    refine am_icmpne (tgt := 103) dX8_readOptions_21 (by decide) (fun c4 => ?_) (fun c4 => ?_)
    · replace h := h.1 c4
      exact am_sub [0] rfl h
    · replace h := h.2 c4
      refine am_aload_n dX8_readOptions_24 (List.Mem.head _) ?_
      refine am_dup dX8_readOptions_25 rfl ?_
      refine am_getf (f := 9) (v := .inl (w.1 2 0 9)) dX8_readOptions_26 hc_1 (by decide) wd_163 (by decide) rfl rfl ?_
      refine am_iconst dX8_readOptions_29 (by unfold am_rg; omega) ?_
      refine am_iadd dX8_readOptions_30 ?_
      refine am_putf (f := 9) dX8_readOptions_31 hc_1 (by decide) wd_163 rfl (Or.inl rfl) (Or.inl (by decide)) rfl ?_
      refine am_aload_n dX8_readOptions_34 (List.Mem.head _) ?_
      refine am_aload_n dX8_readOptions_35 (List.Mem.head _) ?_
      refine am_getf (f := 9) (v := .inl ((am_up w.1 2 0 9 (am_w ((w.1 2 0 9) + 1))) 2 0 9)) dX8_readOptions_36 hc_1 (by decide) wd_163 (by decide) rfl rfl ?_
      have o5 := h.1
      replace h := h.2
      have o6 := h.1
      replace h := h.2
      refine am_callv (d' := d + 2) (kc := 0) (ks := 0) (as := [.inl ((am_up w.1 2 0 9 (am_w ((w.1 2 0 9) + 1))) 2 0 9)]) dX8_readOptions_39 wc_X8_codeAt wd_791 wd_793 wd_7 wd_113 ds_X8_codeAt (by decide) (by omega) (Nat.le_of_ble_eq_true rfl) (Nat.zero_le _) (Nat.zero_le _) hc_1 (by decide) rfl rfl (sX8_codeAt (d := d + 1) (x1 := ((am_up w.1 2 0 9 (am_w ((w.1 2 0 9) + 1))) 2 0 9)) o5 o6 ?_)
      show am_A (mh_G X) SC (d + 3) mX8_readOptions Q 42 [(0, .inr (.inr (some (2, 0)))), (1, .inr (.inr (some (10, j1))))] [.inl (if ((am_up w.1 2 0 9 (am_w ((w.1 2 0 9) + 1))) 2 0 9) < 0 then 46 else (if ((am_up w.1 2 0 9 (am_w ((w.1 2 0 9) + 1))) 2 0 8) ≤ ((am_up w.1 2 0 9 (am_w ((w.1 2 0 9) + 1))) 2 0 9) then 46 else (if 64 ≤ ((am_up w.1 2 0 9 (am_w ((w.1 2 0 9) + 1))) 2 0 9) then 46 else (w.1 25 0 ((am_up w.1 2 0 9 (am_w ((w.1 2 0 9) + 1))) 2 0 9).toNat))))] ((am_up w.1 2 0 9 (am_w ((w.1 2 0 9) + 1))), w.2) bc bs
      refine am_named (fun n7 en7 => ?_)
      replace h := h n7 en7
      refine am_istore_n (ls' := [(2, .inl n7), (0, .inr (.inr (some (2, 0)))), (1, .inr (.inr (some (10, j1))))]) dX8_readOptions_42 (by decide) rfl ?_
      refine am_iload_n dX8_readOptions_43 (List.Mem.head _) ?_
      refine am_calls (d' := d + 2) (kc := 0) (ks := 0) (as := [.inl n7]) dX8_readOptions_44 wc_X10_isOption wd_860 wd_861 wd_123 ds_X10_isOption (by decide) (by omega) (Nat.le_of_ble_eq_true rfl) (Nat.zero_le _) (Nat.zero_le _) rfl (sX10_isOption (d := d + 1) (x0 := n7)  ?_)
      show am_A (mh_G X) SC (d + 3) mX8_readOptions Q 47 [(2, .inl n7), (0, .inr (.inr (some (2, 0)))), (1, .inr (.inr (some (10, j1))))] [.inl (if (¬ n7 < 25 ∧ (¬ 28 < n7)) then 1 else 0)] ((am_up w.1 2 0 9 (am_w ((w.1 2 0 9) + 1))), w.2) bc bs
      refine am_ifne (tgt := 56) dX8_readOptions_47 (by decide) (fun c8 => ?_) (fun c8 => ?_)
      · replace c8 := am_bne1 c8
        replace h := h.1 c8
        refine am_aload_n dX8_readOptions_56 (List.Mem.tail _ (List.Mem.tail _ (List.Mem.head _))) ?_
        refine am_iload_n dX8_readOptions_57 (List.Mem.head _) ?_
        refine am_bipush dX8_readOptions_58 (by decide) (by unfold am_rg; omega) ?_
        refine am_isub dX8_readOptions_60 ?_
        exact am_callv (d' := d + 2) (kc := 0) (ks := 0) (as := [.inl (am_w (n7 - 25))]) dX8_readOptions_61 wc_X3_addOption wd_863 wd_864 wd_865 wd_116 ds_X3_addOption (by decide) (by omega) (Nat.le_of_ble_eq_true rfl) (Nat.zero_le _) (Nat.zero_le _) hc_4 (by decide) rfl rfl h
      · replace c8 := am_bne2 c8
        replace h := h.2 c8
        refine am_aload_n dX8_readOptions_50 (List.Mem.tail _ (List.Mem.head _)) ?_
        refine am_iconst dX8_readOptions_51 (by unfold am_rg; omega) ?_
        refine am_callv (d' := d + 2) (kc := 0) (ks := 0) (as := [.inl 2]) dX8_readOptions_52 wc_X8_fail wd_787 wd_789 wd_6 wd_113 ds_X8_fail (by decide) (by omega) (Nat.le_of_ble_eq_true rfl) (Nat.zero_le _) (Nat.zero_le _) hc_1 (by decide) rfl rfl (sX8_fail (d := d + 1) (x1 := 2)  ?_)
        show am_A (mh_G X) SC (d + 3) mX8_readOptions Q 55 [(2, .inl n7), (0, .inr (.inr (some (2, 0)))), (1, .inr (.inr (some (10, j1))))] [.inl 0] ((am_up (am_up (am_up (am_up w.1 2 0 9 (am_w ((w.1 2 0 9) + 1))) 2 0 4 ((am_up w.1 2 0 9 (am_w ((w.1 2 0 9) + 1))) 2 0 7)) 2 0 5 (am_w (((am_up (am_up w.1 2 0 9 (am_w ((w.1 2 0 9) + 1))) 2 0 4 ((am_up w.1 2 0 9 (am_w ((w.1 2 0 9) + 1))) 2 0 7)) 2 0 9) + 1))) 2 0 6 (2 : Int)), w.2) bc bs
        exact am_ret (r := some (.inl 0)) dX8_readOptions_55 (Or.inr (Or.inl ⟨rfl, (Or.inl rfl)⟩)) rfl h
theorem bX8_readOptions_103 {SC : Nat → Nat} {X : mh_X} {d : Nat} {Q : Option am_V → am_W → Prop} {bc bs : Nat} {w : am_W} 
    (h : am_M (mh_G X) SC (d + 2) 0 0 mX8_expect [.inr (.inr (some (2, 0))), .inl 46] w (fun r w1 => am_A (mh_G X) SC (d + 3) mX8_readOptions Q 109 [(0, .inr (.inr (some (2, 0))))] (r.toList ++ []) w1 bc bs)) :
    am_A (mh_G X) SC (d + 3) mX8_readOptions Q 103 [(0, .inr (.inr (some (2, 0))))] [] w bc bs := by
  refine am_aload_n dX8_readOptions_103 (List.Mem.head _) ?_
  refine am_bipush dX8_readOptions_104 (by decide) (by unfold am_rg; omega) ?_
  exact am_callv (d' := d + 2) (kc := 0) (ks := 0) (as := [.inl 46]) dX8_readOptions_106 wc_X8_expect wd_867 wd_869 wd_16 wd_113 ds_X8_expect (by decide) (by omega) (Nat.le_of_ble_eq_true rfl) (Nat.zero_le _) (Nat.zero_le _) hc_1 (by decide) rfl rfl h
theorem bX8_readOptions_64 {SC : Nat → Nat} {X : mh_X} {d : Nat} {Q : Option am_V → am_W → Prop} {bc bs : Nat} {w : am_W} {x2 : Int} {j1 : Nat} {xs0 : Int}
    (h : ((¬ xs0 = 0 → ((¬ x2 = 25 → am_A (mh_G X) SC (d + 3) mX8_readOptions Q 100 [(0, .inr (.inr (some (2, 0)))), (1, .inr (.inr (some (10, j1))))] [] ((am_up w.1 2 0 9 (am_w ((w.1 2 0 9) + 1))), w.2) bc bs) ∧ (x2 = 25 → am_M (mh_G X) SC (d + 2) 0 0 mX8_expect [.inr (.inr (some (2, 0))), .inl 29] ((am_up w.1 2 0 9 (am_w ((w.1 2 0 9) + 1))), w.2) (fun r w1 => am_A (mh_G X) SC (d + 3) mX8_readOptions Q 95 [(2, .inl x2), (0, .inr (.inr (some (2, 0)))), (1, .inr (.inr (some (10, j1))))] (r.toList ++ []) w1 bc bs)))) ∧ (xs0 = 0 → Q (some (.inl 0)) ((am_up (am_up (am_up w.1 2 0 4 (w.1 2 0 7)) 2 0 5 (am_w (((am_up w.1 2 0 4 (w.1 2 0 7)) 2 0 9) + 1))) 2 0 6 (5 : Int)), w.2)))) :
    am_A (mh_G X) SC (d + 3) mX8_readOptions Q 64 [(2, .inl x2), (0, .inr (.inr (some (2, 0)))), (1, .inr (.inr (some (10, j1))))] [.inl xs0] w bc bs := by
  refine am_ifne (tgt := 73) dX8_readOptions_64 (by decide) (fun c1 => ?_) (fun c1 => ?_)
  · replace h := h.1 c1
    refine am_aload_n dX8_readOptions_73 (List.Mem.tail _ (List.Mem.head _)) ?_
    refine am_dup dX8_readOptions_74 rfl ?_
    refine am_getf (f := 9) (v := .inl (w.1 2 0 9)) dX8_readOptions_75 hc_1 (by decide) wd_163 (by decide) rfl rfl ?_
    refine am_iconst dX8_readOptions_78 (by unfold am_rg; omega) ?_
    refine am_iadd dX8_readOptions_79 ?_
    refine am_putf (f := 9) dX8_readOptions_80 hc_1 (by decide) wd_163 rfl (Or.inl rfl) (Or.inl (by decide)) rfl ?_
    refine am_iload_n dX8_readOptions_83 (List.Mem.head _) ?_
    refine am_bipush dX8_readOptions_84 (by decide) (by unfold am_rg; omega) ?_
    refine am_icmpne (tgt := 100) dX8_readOptions_86 (by decide) (fun c2 => ?_) (fun c2 => ?_)
    · replace h := h.1 c2
      exact am_sub [1, 2] rfl h
    · replace h := h.2 c2
      refine am_aload_n dX8_readOptions_89 (List.Mem.tail _ (List.Mem.head _)) ?_
      refine am_bipush dX8_readOptions_90 (by decide) (by unfold am_rg; omega) ?_
      exact am_callv (d' := d + 2) (kc := 0) (ks := 0) (as := [.inl 29]) dX8_readOptions_92 wc_X8_expect wd_867 wd_869 wd_16 wd_113 ds_X8_expect (by decide) (by omega) (Nat.le_of_ble_eq_true rfl) (Nat.zero_le _) (Nat.zero_le _) hc_1 (by decide) rfl rfl h
  · replace h := h.2 c1
    refine am_aload_n dX8_readOptions_67 (List.Mem.tail _ (List.Mem.head _)) ?_
    refine am_iconst dX8_readOptions_68 (by unfold am_rg; omega) ?_
    refine am_callv (d' := d + 2) (kc := 0) (ks := 0) (as := [.inl 5]) dX8_readOptions_69 wc_X8_fail wd_787 wd_789 wd_6 wd_113 ds_X8_fail (by decide) (by omega) (Nat.le_of_ble_eq_true rfl) (Nat.zero_le _) (Nat.zero_le _) hc_1 (by decide) rfl rfl (sX8_fail (d := d + 1) (x1 := 5)  ?_)
    show am_A (mh_G X) SC (d + 3) mX8_readOptions Q 72 [(2, .inl x2), (0, .inr (.inr (some (2, 0)))), (1, .inr (.inr (some (10, j1))))] [.inl 0] ((am_up (am_up (am_up w.1 2 0 4 (w.1 2 0 7)) 2 0 5 (am_w (((am_up w.1 2 0 4 (w.1 2 0 7)) 2 0 9) + 1))) 2 0 6 (5 : Int)), w.2) bc bs
    exact am_ret (r := some (.inl 0)) dX8_readOptions_72 (Or.inr (Or.inl ⟨rfl, (Or.inl rfl)⟩)) rfl h
theorem bX8_readOptions_109 {SC : Nat → Nat} {X : mh_X} {d : Nat} {Q : Option am_V → am_W → Prop} {bc bs : Nat} {w : am_W} {xs0 : Int}
    (h : ((xs0 = 0 ∨ xs0 = 1) ∧ Q (some (.inl xs0)) w)) :
    am_A (mh_G X) SC (d + 3) mX8_readOptions Q 109 [(0, .inr (.inr (some (2, 0))))] [.inl xs0] w bc bs := by
  have o1 := h.1
  replace h := h.2
  exact am_ret (r := some (.inl xs0)) dX8_readOptions_109 (Or.inr (Or.inl ⟨rfl, o1⟩)) rfl h
theorem bX8_readOptions_100 {SC : Nat → Nat} {X : mh_X} {d : Nat} {Q : Option am_V → am_W → Prop} {bc bs : Nat} {w : am_W} {j1 : Nat}
    (h : am_A (mh_G X) SC (d + 3) mX8_readOptions Q 0 [(0, .inr (.inr (some (2, 0)))), (1, .inr (.inr (some (10, j1))))] [] w bc bs) :
    am_A (mh_G X) SC (d + 3) mX8_readOptions Q 100 [(0, .inr (.inr (some (2, 0)))), (1, .inr (.inr (some (10, j1))))] [] w bc bs := by
  refine am_goto (tgt := 0) dX8_readOptions_100 (by decide) ?_
  exact h
theorem bX8_readOptions_95 {SC : Nat → Nat} {X : mh_X} {d : Nat} {Q : Option am_V → am_W → Prop} {bc bs : Nat} {w : am_W} {x2 : Int} {j1 : Nat} {xs0 : Int}
    (h : ((¬ xs0 = 0 → am_A (mh_G X) SC (d + 3) mX8_readOptions Q 100 [(0, .inr (.inr (some (2, 0)))), (1, .inr (.inr (some (10, j1))))] [] w bc bs) ∧ (xs0 = 0 → Q (some (.inl 0)) w))) :
    am_A (mh_G X) SC (d + 3) mX8_readOptions Q 95 [(2, .inl x2), (0, .inr (.inr (some (2, 0)))), (1, .inr (.inr (some (10, j1))))] [.inl xs0] w bc bs := by
  refine am_ifne (tgt := 100) dX8_readOptions_95 (by decide) (fun c1 => ?_) (fun c1 => ?_)
  · replace h := h.1 c1
    exact am_sub [1, 2] rfl h
  · replace h := h.2 c1
    refine am_iconst dX8_readOptions_98 (by unfold am_rg; omega) ?_
    exact am_ret (r := some (.inl 0)) dX8_readOptions_99 (Or.inr (Or.inl ⟨rfl, (Or.inl rfl)⟩)) rfl h
-- MourningHouse$Words.isMourning(I)Z
theorem dX10_isMourning_0 : decode mX10_isMourning.2.1 0 = .ok (.iload_n 0, 1) := by decide +kernel
theorem dX10_isMourning_1 : decode mX10_isMourning.2.1 1 = .ok (.bipush 12, 2) := by decide +kernel
theorem dX10_isMourning_3 : decode mX10_isMourning.2.1 3 = .ok (.if_icmp .le 13, 3) := by decide +kernel
theorem dX10_isMourning_6 : decode mX10_isMourning.2.1 6 = .ok (.iload_n 0, 1) := by decide +kernel
theorem dX10_isMourning_7 : decode mX10_isMourning.2.1 7 = .ok (.bipush 16, 2) := by decide +kernel
theorem dX10_isMourning_9 : decode mX10_isMourning.2.1 9 = .ok (.if_icmp .gt 7, 3) := by decide +kernel
theorem dX10_isMourning_12 : decode mX10_isMourning.2.1 12 = .ok (.iconst 1, 1) := by decide +kernel
theorem dX10_isMourning_13 : decode mX10_isMourning.2.1 13 = .ok (.goto 4, 3) := by decide +kernel
theorem dX10_isMourning_16 : decode mX10_isMourning.2.1 16 = .ok (.iconst 0, 1) := by decide +kernel
theorem dX10_isMourning_17 : decode mX10_isMourning.2.1 17 = .ok (.ireturn, 1) := by decide +kernel
theorem sX10_isMourning {SC : Nat → Nat} {X : mh_X} {d kc ks : Nat} {Q : Option am_V → am_W → Prop} {w : am_W} {x0 : Int}
    (h : Q (some (.inl (if (¬ x0 ≤ 12 ∧ (¬ 16 < x0)) then 1 else 0))) w) : am_M (mh_G X) SC (d + 1) kc ks mX10_isMourning [.inl x0] w Q := by
  refine am_M_of (by decide) (Nat.le_of_ble_eq_true rfl) ?_
  show am_A (mh_G X) SC (d + 1) mX10_isMourning Q 0 [(0, .inl x0)] [] w kc ks
  refine am_iload_n dX10_isMourning_0 (List.Mem.head _) ?_
  refine am_bipush dX10_isMourning_1 (by decide) (by unfold am_rg; omega) ?_
  refine am_icmple (tgt := 16) dX10_isMourning_3 (by decide) (fun c1 => ?_) (fun c1 => ?_)
  · refine am_iconst dX10_isMourning_16 (by unfold am_rg; omega) ?_
    rw [if_neg (by omega)] at h
    exact am_ret (r := some (.inl 0)) dX10_isMourning_17 (Or.inr (Or.inl ⟨rfl, (Or.inl rfl)⟩)) rfl h
  · refine am_iload_n dX10_isMourning_6 (List.Mem.head _) ?_
    refine am_bipush dX10_isMourning_7 (by decide) (by unfold am_rg; omega) ?_
    refine am_icmpgt (tgt := 16) dX10_isMourning_9 (by decide) (fun c2 => ?_) (fun c2 => ?_)
    · refine am_iconst dX10_isMourning_16 (by unfold am_rg; omega) ?_
      rw [if_neg (by omega)] at h
      exact am_ret (r := some (.inl 0)) dX10_isMourning_17 (Or.inr (Or.inl ⟨rfl, (Or.inl rfl)⟩)) rfl h
    · refine am_iconst dX10_isMourning_12 (by unfold am_rg; omega) ?_
      refine am_goto (tgt := 17) dX10_isMourning_13 (by decide) ?_
      rw [if_pos (by omega)] at h
      exact am_ret (r := some (.inl 1)) dX10_isMourning_17 (Or.inr (Or.inl ⟨rfl, (Or.inr rfl)⟩)) rfl h
-- MourningHouse$Words.isUnit(I)Z
theorem dX10_isUnit_0 : decode mX10_isUnit.2.1 0 = .ok (.iload_n 0, 1) := by decide +kernel
theorem dX10_isUnit_1 : decode mX10_isUnit.2.1 1 = .ok (.bipush 17, 2) := by decide +kernel
theorem dX10_isUnit_3 : decode mX10_isUnit.2.1 3 = .ok (.if_icmp .lt 13, 3) := by decide +kernel
theorem dX10_isUnit_6 : decode mX10_isUnit.2.1 6 = .ok (.iload_n 0, 1) := by decide +kernel
theorem dX10_isUnit_7 : decode mX10_isUnit.2.1 7 = .ok (.bipush 20, 2) := by decide +kernel
theorem dX10_isUnit_9 : decode mX10_isUnit.2.1 9 = .ok (.if_icmp .gt 7, 3) := by decide +kernel
theorem dX10_isUnit_12 : decode mX10_isUnit.2.1 12 = .ok (.iconst 1, 1) := by decide +kernel
theorem dX10_isUnit_13 : decode mX10_isUnit.2.1 13 = .ok (.goto 4, 3) := by decide +kernel
theorem dX10_isUnit_16 : decode mX10_isUnit.2.1 16 = .ok (.iconst 0, 1) := by decide +kernel
theorem dX10_isUnit_17 : decode mX10_isUnit.2.1 17 = .ok (.ireturn, 1) := by decide +kernel
theorem sX10_isUnit {SC : Nat → Nat} {X : mh_X} {d kc ks : Nat} {Q : Option am_V → am_W → Prop} {w : am_W} {x0 : Int}
    (h : Q (some (.inl (if (¬ x0 < 17 ∧ (¬ 20 < x0)) then 1 else 0))) w) : am_M (mh_G X) SC (d + 1) kc ks mX10_isUnit [.inl x0] w Q := by
  refine am_M_of (by decide) (Nat.le_of_ble_eq_true rfl) ?_
  show am_A (mh_G X) SC (d + 1) mX10_isUnit Q 0 [(0, .inl x0)] [] w kc ks
  refine am_iload_n dX10_isUnit_0 (List.Mem.head _) ?_
  refine am_bipush dX10_isUnit_1 (by decide) (by unfold am_rg; omega) ?_
  refine am_icmplt (tgt := 16) dX10_isUnit_3 (by decide) (fun c1 => ?_) (fun c1 => ?_)
  · refine am_iconst dX10_isUnit_16 (by unfold am_rg; omega) ?_
    rw [if_neg (by omega)] at h
    exact am_ret (r := some (.inl 0)) dX10_isUnit_17 (Or.inr (Or.inl ⟨rfl, (Or.inl rfl)⟩)) rfl h
  · refine am_iload_n dX10_isUnit_6 (List.Mem.head _) ?_
    refine am_bipush dX10_isUnit_7 (by decide) (by unfold am_rg; omega) ?_
    refine am_icmpgt (tgt := 16) dX10_isUnit_9 (by decide) (fun c2 => ?_) (fun c2 => ?_)
    · refine am_iconst dX10_isUnit_16 (by unfold am_rg; omega) ?_
      rw [if_neg (by omega)] at h
      exact am_ret (r := some (.inl 0)) dX10_isUnit_17 (Or.inr (Or.inl ⟨rfl, (Or.inl rfl)⟩)) rfl h
    · refine am_iconst dX10_isUnit_12 (by unfold am_rg; omega) ?_
      refine am_goto (tgt := 17) dX10_isUnit_13 (by decide) ?_
      rw [if_pos (by omega)] at h
      exact am_ret (r := some (.inl 1)) dX10_isUnit_17 (Or.inr (Or.inl ⟨rfl, (Or.inr rfl)⟩)) rfl h
-- MourningHouse$Reader.readPart(LMourningHouse$Law;)Z
theorem dX8_readPart_0 : decode mX8_readPart.2.1 0 = .ok (.aload_n 0, 1) := by decide +kernel
theorem dX8_readPart_1 : decode mX8_readPart.2.1 1 = .ok (.getfield 39, 3) := by decide +kernel
theorem dX8_readPart_4 : decode mX8_readPart.2.1 4 = .ok (.istore_n 2, 1) := by decide +kernel
theorem dX8_readPart_5 : decode mX8_readPart.2.1 5 = .ok (.aload_n 0, 1) := by decide +kernel
theorem dX8_readPart_6 : decode mX8_readPart.2.1 6 = .ok (.iload_n 2, 1) := by decide +kernel
theorem dX8_readPart_7 : decode mX8_readPart.2.1 7 = .ok (.invokevirtual 59, 3) := by decide +kernel
theorem dX8_readPart_10 : decode mX8_readPart.2.1 10 = .ok (.invokestatic 157, 3) := by decide +kernel
theorem dX8_readPart_13 : decode mX8_readPart.2.1 13 = .ok (.ifCond .ne 9, 3) := by decide +kernel
theorem dX8_readPart_16 : decode mX8_readPart.2.1 16 = .ok (.aload_n 0, 1) := by decide +kernel
theorem dX8_readPart_17 : decode mX8_readPart.2.1 17 = .ok (.iconst 2, 1) := by decide +kernel
theorem dX8_readPart_18 : decode mX8_readPart.2.1 18 = .ok (.invokevirtual 55, 3) := by decide +kernel
theorem dX8_readPart_21 : decode mX8_readPart.2.1 21 = .ok (.ireturn, 1) := by decide +kernel
theorem dX8_readPart_22 : decode mX8_readPart.2.1 22 = .ok (.aload_n 1, 1) := by decide +kernel
theorem dX8_readPart_23 : decode mX8_readPart.2.1 23 = .ok (.invokevirtual 160, 3) := by decide +kernel
theorem dX8_readPart_26 : decode mX8_readPart.2.1 26 = .ok (.ifCond .ne 10, 3) := by decide +kernel
theorem dX8_readPart_29 : decode mX8_readPart.2.1 29 = .ok (.aload_n 0, 1) := by decide +kernel
theorem dX8_readPart_30 : decode mX8_readPart.2.1 30 = .ok (.bipush 6, 2) := by decide +kernel
theorem dX8_readPart_32 : decode mX8_readPart.2.1 32 = .ok (.invokevirtual 55, 3) := by decide +kernel
theorem dX8_readPart_35 : decode mX8_readPart.2.1 35 = .ok (.ireturn, 1) := by decide +kernel
theorem dX8_readPart_36 : decode mX8_readPart.2.1 36 = .ok (.aload_n 1, 1) := by decide +kernel
theorem dX8_readPart_37 : decode mX8_readPart.2.1 37 = .ok (.aload_n 0, 1) := by decide +kernel
theorem dX8_readPart_38 : decode mX8_readPart.2.1 38 = .ok (.iload_n 2, 1) := by decide +kernel
theorem dX8_readPart_39 : decode mX8_readPart.2.1 39 = .ok (.invokevirtual 163, 3) := by decide +kernel
theorem dX8_readPart_42 : decode mX8_readPart.2.1 42 = .ok (.invokevirtual 166, 3) := by decide +kernel
theorem dX8_readPart_45 : decode mX8_readPart.2.1 45 = .ok (.ifCond .ne 9, 3) := by decide +kernel
theorem dX8_readPart_48 : decode mX8_readPart.2.1 48 = .ok (.aload_n 0, 1) := by decide +kernel
theorem dX8_readPart_49 : decode mX8_readPart.2.1 49 = .ok (.iconst 4, 1) := by decide +kernel
theorem dX8_readPart_50 : decode mX8_readPart.2.1 50 = .ok (.invokevirtual 55, 3) := by decide +kernel
theorem dX8_readPart_53 : decode mX8_readPart.2.1 53 = .ok (.ireturn, 1) := by decide +kernel
theorem dX8_readPart_54 : decode mX8_readPart.2.1 54 = .ok (.aload_n 0, 1) := by decide +kernel
theorem dX8_readPart_55 : decode mX8_readPart.2.1 55 = .ok (.dup, 1) := by decide +kernel
theorem dX8_readPart_56 : decode mX8_readPart.2.1 56 = .ok (.getfield 39, 3) := by decide +kernel
theorem dX8_readPart_59 : decode mX8_readPart.2.1 59 = .ok (.iconst 1, 1) := by decide +kernel
theorem dX8_readPart_60 : decode mX8_readPart.2.1 60 = .ok (.iadd, 1) := by decide +kernel
theorem dX8_readPart_61 : decode mX8_readPart.2.1 61 = .ok (.putfield 39, 3) := by decide +kernel
theorem dX8_readPart_64 : decode mX8_readPart.2.1 64 = .ok (.aload_n 0, 1) := by decide +kernel
theorem dX8_readPart_65 : decode mX8_readPart.2.1 65 = .ok (.iconst 1, 1) := by decide +kernel
theorem dX8_readPart_66 : decode mX8_readPart.2.1 66 = .ok (.sipush 999, 3) := by decide +kernel
theorem dX8_readPart_69 : decode mX8_readPart.2.1 69 = .ok (.invokevirtual 169, 3) := by decide +kernel
theorem dX8_readPart_72 : decode mX8_readPart.2.1 72 = .ok (.ifCond .ne 5, 3) := by decide +kernel
theorem dX8_readPart_75 : decode mX8_readPart.2.1 75 = .ok (.iconst 0, 1) := by decide +kernel
theorem dX8_readPart_76 : decode mX8_readPart.2.1 76 = .ok (.ireturn, 1) := by decide +kernel
theorem dX8_readPart_77 : decode mX8_readPart.2.1 77 = .ok (.aload_n 0, 1) := by decide +kernel
theorem dX8_readPart_78 : decode mX8_readPart.2.1 78 = .ok (.aload_n 0, 1) := by decide +kernel
theorem dX8_readPart_79 : decode mX8_readPart.2.1 79 = .ok (.getfield 39, 3) := by decide +kernel
theorem dX8_readPart_82 : decode mX8_readPart.2.1 82 = .ok (.invokevirtual 59, 3) := by decide +kernel
theorem dX8_readPart_85 : decode mX8_readPart.2.1 85 = .ok (.invokestatic 172, 3) := by decide +kernel
theorem dX8_readPart_88 : decode mX8_readPart.2.1 88 = .ok (.ifCond .ne 9, 3) := by decide +kernel
theorem dX8_readPart_91 : decode mX8_readPart.2.1 91 = .ok (.aload_n 0, 1) := by decide +kernel
theorem dX8_readPart_92 : decode mX8_readPart.2.1 92 = .ok (.iconst 2, 1) := by decide +kernel
theorem dX8_readPart_93 : decode mX8_readPart.2.1 93 = .ok (.invokevirtual 55, 3) := by decide +kernel
theorem dX8_readPart_96 : decode mX8_readPart.2.1 96 = .ok (.ireturn, 1) := by decide +kernel
theorem dX8_readPart_97 : decode mX8_readPart.2.1 97 = .ok (.aload_n 1, 1) := by decide +kernel
theorem dX8_readPart_98 : decode mX8_readPart.2.1 98 = .ok (.aload_n 0, 1) := by decide +kernel
theorem dX8_readPart_99 : decode mX8_readPart.2.1 99 = .ok (.iload_n 2, 1) := by decide +kernel
theorem dX8_readPart_100 : decode mX8_readPart.2.1 100 = .ok (.invokevirtual 163, 3) := by decide +kernel
theorem dX8_readPart_103 : decode mX8_readPart.2.1 103 = .ok (.aload_n 0, 1) := by decide +kernel
theorem dX8_readPart_104 : decode mX8_readPart.2.1 104 = .ok (.getfield 17, 3) := by decide +kernel
theorem dX8_readPart_107 : decode mX8_readPart.2.1 107 = .ok (.iload_n 2, 1) := by decide +kernel
theorem dX8_readPart_108 : decode mX8_readPart.2.1 108 = .ok (.iconst 1, 1) := by decide +kernel
theorem dX8_readPart_109 : decode mX8_readPart.2.1 109 = .ok (.iadd, 1) := by decide +kernel
theorem dX8_readPart_110 : decode mX8_readPart.2.1 110 = .ok (.iaload, 1) := by decide +kernel
theorem dX8_readPart_111 : decode mX8_readPart.2.1 111 = .ok (.aload_n 0, 1) := by decide +kernel
theorem dX8_readPart_112 : decode mX8_readPart.2.1 112 = .ok (.aload_n 0, 1) := by decide +kernel
theorem dX8_readPart_113 : decode mX8_readPart.2.1 113 = .ok (.getfield 39, 3) := by decide +kernel
theorem dX8_readPart_116 : decode mX8_readPart.2.1 116 = .ok (.invokevirtual 59, 3) := by decide +kernel
theorem dX8_readPart_119 : decode mX8_readPart.2.1 119 = .ok (.invokevirtual 175, 3) := by decide +kernel
theorem dX8_readPart_122 : decode mX8_readPart.2.1 122 = .ok (.aload_n 0, 1) := by decide +kernel
theorem dX8_readPart_123 : decode mX8_readPart.2.1 123 = .ok (.dup, 1) := by decide +kernel
theorem dX8_readPart_124 : decode mX8_readPart.2.1 124 = .ok (.getfield 39, 3) := by decide +kernel
theorem dX8_readPart_127 : decode mX8_readPart.2.1 127 = .ok (.iconst 1, 1) := by decide +kernel
theorem dX8_readPart_128 : decode mX8_readPart.2.1 128 = .ok (.iadd, 1) := by decide +kernel
theorem dX8_readPart_129 : decode mX8_readPart.2.1 129 = .ok (.putfield 39, 3) := by decide +kernel
theorem dX8_readPart_132 : decode mX8_readPart.2.1 132 = .ok (.iconst 1, 1) := by decide +kernel
theorem dX8_readPart_133 : decode mX8_readPart.2.1 133 = .ok (.ireturn, 1) := by decide +kernel
theorem bX8_readPart_0 {SC : Nat → Nat} {X : mh_X} {d : Nat} {Q : Option am_V → am_W → Prop} {bc bs : Nat} {w : am_W} {j1 : Nat}
    (h : ((¬ (w.1 2 0 9) < 0 → ¬ (w.1 2 0 8) ≤ (w.1 2 0 9) → ¬ 64 ≤ (w.1 2 0 9) → 0 ≤ (w.1 2 0 9)) ∧ ((¬ (w.1 2 0 9) < 0 → ¬ (w.1 2 0 8) ≤ (w.1 2 0 9) → ¬ 64 ≤ (w.1 2 0 9) → (w.1 2 0 9) < 64) ∧ (((¬ (if (w.1 2 0 9) < 0 then 46 else (if (w.1 2 0 8) ≤ (w.1 2 0 9) then 46 else (if 64 ≤ (w.1 2 0 9) then 46 else (w.1 25 0 (w.1 2 0 9).toNat)))) ≤ 12 ∧ (¬ 16 < (if (w.1 2 0 9) < 0 then 46 else (if (w.1 2 0 8) ≤ (w.1 2 0 9) then 46 else (if 64 ≤ (w.1 2 0 9) then 46 else (w.1 25 0 (w.1 2 0 9).toNat)))))) → (0 ≤ (am_w ((w.1 10 j1 10) - 1)) ∧ ((am_w ((w.1 10 j1 10) - 1)) < 30 ∧ (((¬ 4 ≤ (w.1 146 j1 (am_w ((w.1 10 j1 10) - 1)).toNat)) → ((¬ (w.1 146 j1 (am_w ((w.1 10 j1 10) - 1)).toNat) = 0 → 0 ≤ (am_w ((am_w ((am_w ((am_w ((w.1 10 j1 10) - 1)) * 4)) + (w.1 146 j1 (am_w ((w.1 10 j1 10) - 1)).toNat))) - 1))) ∧ ((¬ (w.1 146 j1 (am_w ((w.1 10 j1 10) - 1)).toNat) = 0 → (am_w ((am_w ((am_w ((am_w ((w.1 10 j1 10) - 1)) * 4)) + (w.1 146 j1 (am_w ((w.1 10 j1 10) - 1)).toNat))) - 1)) < 120) ∧ ((((w.1 146 j1 (am_w ((w.1 10 j1 10) - 1)).toNat) = 0 ∨ (¬ (w.1 147 j1 (am_w ((am_w ((am_w ((am_w ((w.1 10 j1 10) - 1)) * 4)) + (w.1 146 j1 (am_w ((w.1 10 j1 10) - 1)).toNat))) - 1)).toNat) ≤ (am_w ((if (w.1 2 0 9) < 0 then 46 else (if (w.1 2 0 8) ≤ (w.1 2 0 9) then 46 else (if 64 ≤ (w.1 2 0 9) then 46 else (w.1 25 0 (w.1 2 0 9).toNat)))) - 12)))) → am_M (mh_G X) SC (d + 2) 0 0 mX8_expectNumber [.inr (.inr (some (2, 0))), .inl 1, .inl 999] ((am_up w.1 2 0 9 (am_w ((w.1 2 0 9) + 1))), w.2) (fun r w1 => am_A (mh_G X) SC (d + 3) mX8_readPart Q 72 [(2, .inl (w.1 2 0 9)), (0, .inr (.inr (some (2, 0)))), (1, .inr (.inr (some (10, j1))))] (r.toList ++ []) w1 bc bs)) ∧ (¬ ((w.1 146 j1 (am_w ((w.1 10 j1 10) - 1)).toNat) = 0 ∨ (¬ (w.1 147 j1 (am_w ((am_w ((am_w ((am_w ((w.1 10 j1 10) - 1)) * 4)) + (w.1 146 j1 (am_w ((w.1 10 j1 10) - 1)).toNat))) - 1)).toNat) ≤ (am_w ((if (w.1 2 0 9) < 0 then 46 else (if (w.1 2 0 8) ≤ (w.1 2 0 9) then 46 else (if 64 ≤ (w.1 2 0 9) then 46 else (w.1 25 0 (w.1 2 0 9).toNat)))) - 12)))) → Q (some (.inl 0)) ((am_up (am_up (am_up w.1 2 0 4 (w.1 2 0 7)) 2 0 5 (am_w (((am_up w.1 2 0 4 (w.1 2 0 7)) 2 0 9) + 1))) 2 0 6 (4 : Int)), w.2)))))) ∧ (¬ (¬ 4 ≤ (w.1 146 j1 (am_w ((w.1 10 j1 10) - 1)).toNat)) → Q (some (.inl 0)) ((am_up (am_up (am_up w.1 2 0 4 (w.1 2 0 7)) 2 0 5 (am_w (((am_up w.1 2 0 4 (w.1 2 0 7)) 2 0 9) + 1))) 2 0 6 (6 : Int)), w.2)))))) ∧ (¬ (¬ (if (w.1 2 0 9) < 0 then 46 else (if (w.1 2 0 8) ≤ (w.1 2 0 9) then 46 else (if 64 ≤ (w.1 2 0 9) then 46 else (w.1 25 0 (w.1 2 0 9).toNat)))) ≤ 12 ∧ (¬ 16 < (if (w.1 2 0 9) < 0 then 46 else (if (w.1 2 0 8) ≤ (w.1 2 0 9) then 46 else (if 64 ≤ (w.1 2 0 9) then 46 else (w.1 25 0 (w.1 2 0 9).toNat)))))) → Q (some (.inl 0)) ((am_up (am_up (am_up w.1 2 0 4 (w.1 2 0 7)) 2 0 5 (am_w (((am_up w.1 2 0 4 (w.1 2 0 7)) 2 0 9) + 1))) 2 0 6 (2 : Int)), w.2)))))) :
    am_A (mh_G X) SC (d + 3) mX8_readPart Q 0 [(0, .inr (.inr (some (2, 0)))), (1, .inr (.inr (some (10, j1))))] [] w bc bs := by
  refine am_aload_n dX8_readPart_0 (List.Mem.head _) ?_
  refine am_getf (f := 9) (v := .inl (w.1 2 0 9)) dX8_readPart_1 hc_1 (by decide) wd_163 (by decide) rfl rfl ?_
  refine am_istore_n (ls' := [(2, .inl (w.1 2 0 9)), (0, .inr (.inr (some (2, 0)))), (1, .inr (.inr (some (10, j1))))]) dX8_readPart_4 (by decide) rfl ?_
  refine am_aload_n dX8_readPart_5 (List.Mem.tail _ (List.Mem.head _)) ?_
  refine am_iload_n dX8_readPart_6 (List.Mem.head _) ?_
  have o1 := h.1
  replace h := h.2
  have o2 := h.1
  replace h := h.2
  refine am_callv (d' := d + 2) (kc := 0) (ks := 0) (as := [.inl (w.1 2 0 9)]) dX8_readPart_7 wc_X8_codeAt wd_791 wd_793 wd_7 wd_113 ds_X8_codeAt (by decide) (by omega) (Nat.le_of_ble_eq_true rfl) (Nat.zero_le _) (Nat.zero_le _) hc_1 (by decide) rfl rfl (sX8_codeAt (d := d + 1) (x1 := (w.1 2 0 9)) o1 o2 ?_)
  show am_A (mh_G X) SC (d + 3) mX8_readPart Q 10 [(2, .inl (w.1 2 0 9)), (0, .inr (.inr (some (2, 0)))), (1, .inr (.inr (some (10, j1))))] [.inl (if (w.1 2 0 9) < 0 then 46 else (if (w.1 2 0 8) ≤ (w.1 2 0 9) then 46 else (if 64 ≤ (w.1 2 0 9) then 46 else (w.1 25 0 (w.1 2 0 9).toNat))))] w bc bs
  refine am_calls (d' := d + 2) (kc := 0) (ks := 0) (as := [.inl (if (w.1 2 0 9) < 0 then 46 else (if (w.1 2 0 8) ≤ (w.1 2 0 9) then 46 else (if 64 ≤ (w.1 2 0 9) then 46 else (w.1 25 0 (w.1 2 0 9).toNat))))]) dX8_readPart_10 wc_X10_isMourning wd_826 wd_827 wd_123 ds_X10_isMourning (by decide) (by omega) (Nat.le_of_ble_eq_true rfl) (Nat.zero_le _) (Nat.zero_le _) rfl (sX10_isMourning (d := d + 1) (x0 := (if (w.1 2 0 9) < 0 then 46 else (if (w.1 2 0 8) ≤ (w.1 2 0 9) then 46 else (if 64 ≤ (w.1 2 0 9) then 46 else (w.1 25 0 (w.1 2 0 9).toNat)))))  ?_)
  show am_A (mh_G X) SC (d + 3) mX8_readPart Q 13 [(2, .inl (w.1 2 0 9)), (0, .inr (.inr (some (2, 0)))), (1, .inr (.inr (some (10, j1))))] [.inl (if (¬ (if (w.1 2 0 9) < 0 then 46 else (if (w.1 2 0 8) ≤ (w.1 2 0 9) then 46 else (if 64 ≤ (w.1 2 0 9) then 46 else (w.1 25 0 (w.1 2 0 9).toNat)))) ≤ 12 ∧ (¬ 16 < (if (w.1 2 0 9) < 0 then 46 else (if (w.1 2 0 8) ≤ (w.1 2 0 9) then 46 else (if 64 ≤ (w.1 2 0 9) then 46 else (w.1 25 0 (w.1 2 0 9).toNat)))))) then 1 else 0)] w bc bs
  refine am_ifne (tgt := 22) dX8_readPart_13 (by decide) (fun c3 => ?_) (fun c3 => ?_)
  · replace c3 := am_bne1 c3
    replace h := h.1 c3
    refine am_aload_n dX8_readPart_22 (List.Mem.tail _ (List.Mem.tail _ (List.Mem.head _))) ?_
    have o4 := h.1
    replace h := h.2
    have o5 := h.1
    replace h := h.2
    refine am_callv (d' := d + 2) (kc := 0) (ks := 0) (as := []) dX8_readPart_23 wc_X3_hasRoomForPart wd_829 wd_830 wd_831 wd_116 ds_X3_hasRoomForPart (by decide) (by omega) (Nat.le_of_ble_eq_true rfl) (Nat.zero_le _) (Nat.zero_le _) hc_4 (by decide) rfl rfl (sX3_hasRoomForPart (d := d + 1) (j0 := j1) o4 o5 ?_)
    show am_A (mh_G X) SC (d + 3) mX8_readPart Q 26 [(2, .inl (w.1 2 0 9)), (0, .inr (.inr (some (2, 0)))), (1, .inr (.inr (some (10, j1))))] [.inl (if (¬ 4 ≤ (w.1 146 j1 (am_w ((w.1 10 j1 10) - 1)).toNat)) then 1 else 0)] w bc bs
    refine am_ifne (tgt := 36) dX8_readPart_26 (by decide) (fun c6 => ?_) (fun c6 => ?_)
    · replace c6 := am_bne1 c6
      replace h := h.1 c6
      refine am_aload_n dX8_readPart_36 (List.Mem.tail _ (List.Mem.tail _ (List.Mem.head _))) ?_
      refine am_aload_n dX8_readPart_37 (List.Mem.tail _ (List.Mem.head _)) ?_
      refine am_iload_n dX8_readPart_38 (List.Mem.head _) ?_
      refine am_callv (d' := d + 2) (kc := 0) (ks := 0) (as := [.inl (w.1 2 0 9)]) dX8_readPart_39 wc_X8_depthAt wd_833 wd_835 wd_12 wd_113 ds_X8_depthAt (by decide) (by omega) (Nat.le_of_ble_eq_true rfl) (Nat.zero_le _) (Nat.zero_le _) hc_1 (by decide) rfl rfl (sX8_depthAt (d := d + 0) (x1 := (w.1 2 0 9)) o1 o2 ?_)
      show am_A (mh_G X) SC (d + 3) mX8_readPart Q 42 [(2, .inl (w.1 2 0 9)), (0, .inr (.inr (some (2, 0)))), (1, .inr (.inr (some (10, j1))))] [.inl (am_w ((if (w.1 2 0 9) < 0 then 46 else (if (w.1 2 0 8) ≤ (w.1 2 0 9) then 46 else (if 64 ≤ (w.1 2 0 9) then 46 else (w.1 25 0 (w.1 2 0 9).toNat)))) - 12)), .inr (.inr (some (10, j1)))] w bc bs
      have o7 := h.1
      replace h := h.2
      have o8 := h.1
      replace h := h.2
      refine am_callv (d' := d + 2) (kc := 0) (ks := 0) (as := [.inl (am_w ((if (w.1 2 0 9) < 0 then 46 else (if (w.1 2 0 8) ≤ (w.1 2 0 9) then 46 else (if 64 ≤ (w.1 2 0 9) then 46 else (w.1 25 0 (w.1 2 0 9).toNat)))) - 12))]) dX8_readPart_42 wc_X3_isLighter wd_837 wd_838 wd_839 wd_116 ds_X3_isLighter (by decide) (by omega) (Nat.le_of_ble_eq_true rfl) (Nat.zero_le _) (Nat.zero_le _) hc_4 (by decide) rfl rfl (sX3_isLighter (d := d + 1) (j0 := j1) (x1 := (am_w ((if (w.1 2 0 9) < 0 then 46 else (if (w.1 2 0 8) ≤ (w.1 2 0 9) then 46 else (if 64 ≤ (w.1 2 0 9) then 46 else (w.1 25 0 (w.1 2 0 9).toNat)))) - 12))) o4 o5 o7 o8 ?_)
      show am_A (mh_G X) SC (d + 3) mX8_readPart Q 45 [(2, .inl (w.1 2 0 9)), (0, .inr (.inr (some (2, 0)))), (1, .inr (.inr (some (10, j1))))] [.inl (if ((w.1 146 j1 (am_w ((w.1 10 j1 10) - 1)).toNat) = 0 ∨ (¬ (w.1 147 j1 (am_w ((am_w ((am_w ((am_w ((w.1 10 j1 10) - 1)) * 4)) + (w.1 146 j1 (am_w ((w.1 10 j1 10) - 1)).toNat))) - 1)).toNat) ≤ (am_w ((if (w.1 2 0 9) < 0 then 46 else (if (w.1 2 0 8) ≤ (w.1 2 0 9) then 46 else (if 64 ≤ (w.1 2 0 9) then 46 else (w.1 25 0 (w.1 2 0 9).toNat)))) - 12)))) then 1 else 0)] w bc bs
      refine am_ifne (tgt := 54) dX8_readPart_45 (by decide) (fun c9 => ?_) (fun c9 => ?_)
      · replace c9 := am_bne1 c9
        replace h := h.1 c9
        refine am_aload_n dX8_readPart_54 (List.Mem.tail _ (List.Mem.head _)) ?_
        refine am_dup dX8_readPart_55 rfl ?_
        refine am_getf (f := 9) (v := .inl (w.1 2 0 9)) dX8_readPart_56 hc_1 (by decide) wd_163 (by decide) rfl rfl ?_
        refine am_iconst dX8_readPart_59 (by unfold am_rg; omega) ?_
        refine am_iadd dX8_readPart_60 ?_
        refine am_putf (f := 9) dX8_readPart_61 hc_1 (by decide) wd_163 rfl (Or.inl rfl) (Or.inl (by decide)) rfl ?_
        refine am_aload_n dX8_readPart_64 (List.Mem.tail _ (List.Mem.head _)) ?_
        refine am_iconst dX8_readPart_65 (by unfold am_rg; omega) ?_
        refine am_sipush dX8_readPart_66 (by decide) (by unfold am_rg; omega) ?_
        exact am_callv (d' := d + 2) (kc := 0) (ks := 0) (as := [.inl 1, .inl 999]) dX8_readPart_69 wc_X8_expectNumber wd_841 wd_843 wd_13 wd_113 ds_X8_expectNumber (by decide) (by omega) (Nat.le_of_ble_eq_true rfl) (Nat.zero_le _) (Nat.zero_le _) hc_1 (by decide) rfl rfl h
      · replace c9 := am_bne2 c9
        replace h := h.2 c9
        refine am_aload_n dX8_readPart_48 (List.Mem.tail _ (List.Mem.head _)) ?_
        refine am_iconst dX8_readPart_49 (by unfold am_rg; omega) ?_
        refine am_callv (d' := d + 2) (kc := 0) (ks := 0) (as := [.inl 4]) dX8_readPart_50 wc_X8_fail wd_787 wd_789 wd_6 wd_113 ds_X8_fail (by decide) (by omega) (Nat.le_of_ble_eq_true rfl) (Nat.zero_le _) (Nat.zero_le _) hc_1 (by decide) rfl rfl (sX8_fail (d := d + 1) (x1 := 4)  ?_)
        show am_A (mh_G X) SC (d + 3) mX8_readPart Q 53 [(2, .inl (w.1 2 0 9)), (0, .inr (.inr (some (2, 0)))), (1, .inr (.inr (some (10, j1))))] [.inl 0] ((am_up (am_up (am_up w.1 2 0 4 (w.1 2 0 7)) 2 0 5 (am_w (((am_up w.1 2 0 4 (w.1 2 0 7)) 2 0 9) + 1))) 2 0 6 (4 : Int)), w.2) bc bs
        exact am_ret (r := some (.inl 0)) dX8_readPart_53 (Or.inr (Or.inl ⟨rfl, (Or.inl rfl)⟩)) rfl h
    · replace c6 := am_bne2 c6
      replace h := h.2 c6
      refine am_aload_n dX8_readPart_29 (List.Mem.tail _ (List.Mem.head _)) ?_
      refine am_bipush dX8_readPart_30 (by decide) (by unfold am_rg; omega) ?_
      refine am_callv (d' := d + 2) (kc := 0) (ks := 0) (as := [.inl 6]) dX8_readPart_32 wc_X8_fail wd_787 wd_789 wd_6 wd_113 ds_X8_fail (by decide) (by omega) (Nat.le_of_ble_eq_true rfl) (Nat.zero_le _) (Nat.zero_le _) hc_1 (by decide) rfl rfl (sX8_fail (d := d + 1) (x1 := 6)  ?_)
      show am_A (mh_G X) SC (d + 3) mX8_readPart Q 35 [(2, .inl (w.1 2 0 9)), (0, .inr (.inr (some (2, 0)))), (1, .inr (.inr (some (10, j1))))] [.inl 0] ((am_up (am_up (am_up w.1 2 0 4 (w.1 2 0 7)) 2 0 5 (am_w (((am_up w.1 2 0 4 (w.1 2 0 7)) 2 0 9) + 1))) 2 0 6 (6 : Int)), w.2) bc bs
      exact am_ret (r := some (.inl 0)) dX8_readPart_35 (Or.inr (Or.inl ⟨rfl, (Or.inl rfl)⟩)) rfl h
  · replace c3 := am_bne2 c3
    replace h := h.2 c3
    refine am_aload_n dX8_readPart_16 (List.Mem.tail _ (List.Mem.head _)) ?_
    refine am_iconst dX8_readPart_17 (by unfold am_rg; omega) ?_
    refine am_callv (d' := d + 2) (kc := 0) (ks := 0) (as := [.inl 2]) dX8_readPart_18 wc_X8_fail wd_787 wd_789 wd_6 wd_113 ds_X8_fail (by decide) (by omega) (Nat.le_of_ble_eq_true rfl) (Nat.zero_le _) (Nat.zero_le _) hc_1 (by decide) rfl rfl (sX8_fail (d := d + 1) (x1 := 2)  ?_)
    show am_A (mh_G X) SC (d + 3) mX8_readPart Q 21 [(2, .inl (w.1 2 0 9)), (0, .inr (.inr (some (2, 0)))), (1, .inr (.inr (some (10, j1))))] [.inl 0] ((am_up (am_up (am_up w.1 2 0 4 (w.1 2 0 7)) 2 0 5 (am_w (((am_up w.1 2 0 4 (w.1 2 0 7)) 2 0 9) + 1))) 2 0 6 (2 : Int)), w.2) bc bs
    exact am_ret (r := some (.inl 0)) dX8_readPart_21 (Or.inr (Or.inl ⟨rfl, (Or.inl rfl)⟩)) rfl h
theorem bX8_readPart_72 {SC : Nat → Nat} {X : mh_X} {d : Nat} {Q : Option am_V → am_W → Prop} {bc bs : Nat} {w : am_W} {x2 : Int} {j1 : Nat} {xs0 : Int}
    (h : ((¬ xs0 = 0 → ((¬ (w.1 2 0 9) < 0 → ¬ (w.1 2 0 8) ≤ (w.1 2 0 9) → ¬ 64 ≤ (w.1 2 0 9) → 0 ≤ (w.1 2 0 9)) ∧ ((¬ (w.1 2 0 9) < 0 → ¬ (w.1 2 0 8) ≤ (w.1 2 0 9) → ¬ 64 ≤ (w.1 2 0 9) → (w.1 2 0 9) < 64) ∧ (((¬ (if (w.1 2 0 9) < 0 then 46 else (if (w.1 2 0 8) ≤ (w.1 2 0 9) then 46 else (if 64 ≤ (w.1 2 0 9) then 46 else (w.1 25 0 (w.1 2 0 9).toNat)))) < 17 ∧ (¬ 20 < (if (w.1 2 0 9) < 0 then 46 else (if (w.1 2 0 8) ≤ (w.1 2 0 9) then 46 else (if 64 ≤ (w.1 2 0 9) then 46 else (w.1 25 0 (w.1 2 0 9).toNat)))))) → ((¬ x2 < 0 → ¬ (w.1 2 0 8) ≤ x2 → ¬ 64 ≤ x2 → 0 ≤ x2) ∧ ((¬ x2 < 0 → ¬ (w.1 2 0 8) ≤ x2 → ¬ 64 ≤ x2 → x2 < 64) ∧ (0 ≤ (am_w (x2 + 1)) ∧ ((am_w (x2 + 1)) < 64 ∧ (0 ≤ (am_w ((w.1 10 j1 10) - 1)) ∧ ((am_w ((w.1 10 j1 10) - 1)) < 30 ∧ (0 ≤ (am_w ((am_w ((am_w ((w.1 10 j1 10) - 1)) * 4)) + (w.1 146 j1 (am_w ((w.1 10 j1 10) - 1)).toNat))) ∧ ((am_w ((am_w ((am_w ((w.1 10 j1 10) - 1)) * 4)) + (w.1 146 j1 (am_w ((w.1 10 j1 10) - 1)).toNat))) < 120 ∧ Q (some (.inl 1)) ((am_up (am_up (am_up (am_up (am_up w.1 147 j1 (am_w ((am_w ((am_w ((w.1 10 j1 10) - 1)) * 4)) + (w.1 146 j1 (am_w ((w.1 10 j1 10) - 1)).toNat))).toNat (am_w ((if x2 < 0 then 46 else (if (w.1 2 0 8) ≤ x2 then 46 else (if 64 ≤ x2 then 46 else (w.1 25 0 x2.toNat)))) - 12))) 148 j1 (am_w ((am_w ((am_w ((w.1 10 j1 10) - 1)) * 4)) + (w.1 146 j1 (am_w ((w.1 10 j1 10) - 1)).toNat))).toNat (w.1 26 0 (am_w (x2 + 1)).toNat)) 149 j1 (am_w ((am_w ((am_w ((w.1 10 j1 10) - 1)) * 4)) + (w.1 146 j1 (am_w ((w.1 10 j1 10) - 1)).toNat))).toNat (if (w.1 2 0 9) < 0 then 46 else (if (w.1 2 0 8) ≤ (w.1 2 0 9) then 46 else (if 64 ≤ (w.1 2 0 9) then 46 else (w.1 25 0 (w.1 2 0 9).toNat))))) 146 j1 (am_w ((w.1 10 j1 10) - 1)).toNat (am_w ((w.1 146 j1 (am_w ((w.1 10 j1 10) - 1)).toNat) + 1))) 2 0 9 (am_w ((w.1 2 0 9) + 1))), w.2)))))))))) ∧ (¬ (¬ (if (w.1 2 0 9) < 0 then 46 else (if (w.1 2 0 8) ≤ (w.1 2 0 9) then 46 else (if 64 ≤ (w.1 2 0 9) then 46 else (w.1 25 0 (w.1 2 0 9).toNat)))) < 17 ∧ (¬ 20 < (if (w.1 2 0 9) < 0 then 46 else (if (w.1 2 0 8) ≤ (w.1 2 0 9) then 46 else (if 64 ≤ (w.1 2 0 9) then 46 else (w.1 25 0 (w.1 2 0 9).toNat)))))) → Q (some (.inl 0)) ((am_up (am_up (am_up w.1 2 0 4 (w.1 2 0 7)) 2 0 5 (am_w (((am_up w.1 2 0 4 (w.1 2 0 7)) 2 0 9) + 1))) 2 0 6 (2 : Int)), w.2)))))) ∧ (xs0 = 0 → Q (some (.inl 0)) w))) :
    am_A (mh_G X) SC (d + 3) mX8_readPart Q 72 [(2, .inl x2), (0, .inr (.inr (some (2, 0)))), (1, .inr (.inr (some (10, j1))))] [.inl xs0] w bc bs := by
  refine am_ifne (tgt := 77) dX8_readPart_72 (by decide) (fun c1 => ?_) (fun c1 => ?_)
  · replace h := h.1 c1
    refine am_aload_n dX8_readPart_77 (List.Mem.tail _ (List.Mem.head _)) ?_
    refine am_aload_n dX8_readPart_78 (List.Mem.tail _ (List.Mem.head _)) ?_
    refine am_getf (f := 9) (v := .inl (w.1 2 0 9)) dX8_readPart_79 hc_1 (by decide) wd_163 (by decide) rfl rfl ?_
    have o2 := h.1
    replace h := h.2
    have o3 := h.1
    replace h := h.2
    refine am_callv (d' := d + 2) (kc := 0) (ks := 0) (as := [.inl (w.1 2 0 9)]) dX8_readPart_82 wc_X8_codeAt wd_791 wd_793 wd_7 wd_113 ds_X8_codeAt (by decide) (by omega) (Nat.le_of_ble_eq_true rfl) (Nat.zero_le _) (Nat.zero_le _) hc_1 (by decide) rfl rfl (sX8_codeAt (d := d + 1) (x1 := (w.1 2 0 9)) o2 o3 ?_)
    show am_A (mh_G X) SC (d + 3) mX8_readPart Q 85 [(2, .inl x2), (0, .inr (.inr (some (2, 0)))), (1, .inr (.inr (some (10, j1))))] [.inl (if (w.1 2 0 9) < 0 then 46 else (if (w.1 2 0 8) ≤ (w.1 2 0 9) then 46 else (if 64 ≤ (w.1 2 0 9) then 46 else (w.1 25 0 (w.1 2 0 9).toNat))))] w bc bs
    refine am_calls (d' := d + 2) (kc := 0) (ks := 0) (as := [.inl (if (w.1 2 0 9) < 0 then 46 else (if (w.1 2 0 8) ≤ (w.1 2 0 9) then 46 else (if 64 ≤ (w.1 2 0 9) then 46 else (w.1 25 0 (w.1 2 0 9).toNat))))]) dX8_readPart_85 wc_X10_isUnit wd_849 wd_850 wd_123 ds_X10_isUnit (by decide) (by omega) (Nat.le_of_ble_eq_true rfl) (Nat.zero_le _) (Nat.zero_le _) rfl (sX10_isUnit (d := d + 1) (x0 := (if (w.1 2 0 9) < 0 then 46 else (if (w.1 2 0 8) ≤ (w.1 2 0 9) then 46 else (if 64 ≤ (w.1 2 0 9) then 46 else (w.1 25 0 (w.1 2 0 9).toNat)))))  ?_)
    show am_A (mh_G X) SC (d + 3) mX8_readPart Q 88 [(2, .inl x2), (0, .inr (.inr (some (2, 0)))), (1, .inr (.inr (some (10, j1))))] [.inl (if (¬ (if (w.1 2 0 9) < 0 then 46 else (if (w.1 2 0 8) ≤ (w.1 2 0 9) then 46 else (if 64 ≤ (w.1 2 0 9) then 46 else (w.1 25 0 (w.1 2 0 9).toNat)))) < 17 ∧ (¬ 20 < (if (w.1 2 0 9) < 0 then 46 else (if (w.1 2 0 8) ≤ (w.1 2 0 9) then 46 else (if 64 ≤ (w.1 2 0 9) then 46 else (w.1 25 0 (w.1 2 0 9).toNat)))))) then 1 else 0)] w bc bs
    refine am_ifne (tgt := 97) dX8_readPart_88 (by decide) (fun c4 => ?_) (fun c4 => ?_)
    · replace c4 := am_bne1 c4
      replace h := h.1 c4
      refine am_aload_n dX8_readPart_97 (List.Mem.tail _ (List.Mem.tail _ (List.Mem.head _))) ?_
      refine am_aload_n dX8_readPart_98 (List.Mem.tail _ (List.Mem.head _)) ?_
      refine am_iload_n dX8_readPart_99 (List.Mem.head _) ?_
      have o5 := h.1
      replace h := h.2
      have o6 := h.1
      replace h := h.2
      refine am_callv (d' := d + 2) (kc := 0) (ks := 0) (as := [.inl x2]) dX8_readPart_100 wc_X8_depthAt wd_833 wd_835 wd_12 wd_113 ds_X8_depthAt (by decide) (by omega) (Nat.le_of_ble_eq_true rfl) (Nat.zero_le _) (Nat.zero_le _) hc_1 (by decide) rfl rfl (sX8_depthAt (d := d + 0) (x1 := x2) o5 o6 ?_)
      show am_A (mh_G X) SC (d + 3) mX8_readPart Q 103 [(2, .inl x2), (0, .inr (.inr (some (2, 0)))), (1, .inr (.inr (some (10, j1))))] [.inl (am_w ((if x2 < 0 then 46 else (if (w.1 2 0 8) ≤ x2 then 46 else (if 64 ≤ x2 then 46 else (w.1 25 0 x2.toNat)))) - 12)), .inr (.inr (some (10, j1)))] w bc bs
      refine am_aload_n dX8_readPart_103 (List.Mem.tail _ (List.Mem.head _)) ?_
      refine am_getf (f := 2) (v := .inr (.inr (some (26, 0)))) dX8_readPart_104 hc_1 (by decide) wd_152 (by decide) rfl rfl ?_
      refine am_iload_n dX8_readPart_107 (List.Mem.head _) ?_
      refine am_iconst dX8_readPart_108 (by unfold am_rg; omega) ?_
      refine am_iadd dX8_readPart_109 ?_
      have o7 := h.1
      replace h := h.2
      have o8 := h.1
      replace h := h.2
      refine am_iaload (v := (w.1 26 0 (am_w (x2 + 1)).toNat)) dX8_readPart_110 (by decide) rfl o7 o8 rfl ?_
      refine am_aload_n dX8_readPart_111 (List.Mem.tail _ (List.Mem.head _)) ?_
      refine am_aload_n dX8_readPart_112 (List.Mem.tail _ (List.Mem.head _)) ?_
      refine am_getf (f := 9) (v := .inl (w.1 2 0 9)) dX8_readPart_113 hc_1 (by decide) wd_163 (by decide) rfl rfl ?_
      refine am_callv (d' := d + 2) (kc := 0) (ks := 0) (as := [.inl (w.1 2 0 9)]) dX8_readPart_116 wc_X8_codeAt wd_791 wd_793 wd_7 wd_113 ds_X8_codeAt (by decide) (by omega) (Nat.le_of_ble_eq_true rfl) (Nat.zero_le _) (Nat.zero_le _) hc_1 (by decide) rfl rfl (sX8_codeAt (d := d + 1) (x1 := (w.1 2 0 9)) o2 o3 ?_)
      show am_A (mh_G X) SC (d + 3) mX8_readPart Q 119 [(2, .inl x2), (0, .inr (.inr (some (2, 0)))), (1, .inr (.inr (some (10, j1))))] [.inl (if (w.1 2 0 9) < 0 then 46 else (if (w.1 2 0 8) ≤ (w.1 2 0 9) then 46 else (if 64 ≤ (w.1 2 0 9) then 46 else (w.1 25 0 (w.1 2 0 9).toNat)))), .inl (w.1 26 0 (am_w (x2 + 1)).toNat), .inl (am_w ((if x2 < 0 then 46 else (if (w.1 2 0 8) ≤ x2 then 46 else (if 64 ≤ x2 then 46 else (w.1 25 0 x2.toNat)))) - 12)), .inr (.inr (some (10, j1)))] w bc bs
      have o9 := h.1
      replace h := h.2
      have o10 := h.1
      replace h := h.2
      have o11 := h.1
      replace h := h.2
      have o12 := h.1
      replace h := h.2
      refine am_callv (d' := d + 2) (kc := 0) (ks := 0) (as := [.inl (am_w ((if x2 < 0 then 46 else (if (w.1 2 0 8) ≤ x2 then 46 else (if 64 ≤ x2 then 46 else (w.1 25 0 x2.toNat)))) - 12)), .inl (w.1 26 0 (am_w (x2 + 1)).toNat), .inl (if (w.1 2 0 9) < 0 then 46 else (if (w.1 2 0 8) ≤ (w.1 2 0 9) then 46 else (if 64 ≤ (w.1 2 0 9) then 46 else (w.1 25 0 (w.1 2 0 9).toNat))))]) dX8_readPart_119 wc_X3_addPart wd_852 wd_853 wd_854 wd_116 ds_X3_addPart (by decide) (by omega) (Nat.le_of_ble_eq_true rfl) (Nat.zero_le _) (Nat.zero_le _) hc_4 (by decide) rfl rfl (sX3_addPart (d := d + 1) (j0 := j1) (x1 := (am_w ((if x2 < 0 then 46 else (if (w.1 2 0 8) ≤ x2 then 46 else (if 64 ≤ x2 then 46 else (w.1 25 0 x2.toNat)))) - 12))) (x2 := (w.1 26 0 (am_w (x2 + 1)).toNat)) (x3 := (if (w.1 2 0 9) < 0 then 46 else (if (w.1 2 0 8) ≤ (w.1 2 0 9) then 46 else (if 64 ≤ (w.1 2 0 9) then 46 else (w.1 25 0 (w.1 2 0 9).toNat))))) o9 o10 o11 o12 ?_)
      show am_A (mh_G X) SC (d + 3) mX8_readPart Q 122 [(2, .inl x2), (0, .inr (.inr (some (2, 0)))), (1, .inr (.inr (some (10, j1))))] [] ((am_up (am_up (am_up (am_up w.1 147 j1 (am_w ((am_w ((am_w ((w.1 10 j1 10) - 1)) * 4)) + (w.1 146 j1 (am_w ((w.1 10 j1 10) - 1)).toNat))).toNat (am_w ((if x2 < 0 then 46 else (if (w.1 2 0 8) ≤ x2 then 46 else (if 64 ≤ x2 then 46 else (w.1 25 0 x2.toNat)))) - 12))) 148 j1 (am_w ((am_w ((am_w ((w.1 10 j1 10) - 1)) * 4)) + (w.1 146 j1 (am_w ((w.1 10 j1 10) - 1)).toNat))).toNat (w.1 26 0 (am_w (x2 + 1)).toNat)) 149 j1 (am_w ((am_w ((am_w ((w.1 10 j1 10) - 1)) * 4)) + (w.1 146 j1 (am_w ((w.1 10 j1 10) - 1)).toNat))).toNat (if (w.1 2 0 9) < 0 then 46 else (if (w.1 2 0 8) ≤ (w.1 2 0 9) then 46 else (if 64 ≤ (w.1 2 0 9) then 46 else (w.1 25 0 (w.1 2 0 9).toNat))))) 146 j1 (am_w ((w.1 10 j1 10) - 1)).toNat (am_w ((w.1 146 j1 (am_w ((w.1 10 j1 10) - 1)).toNat) + 1))), w.2) bc bs
      refine am_aload_n dX8_readPart_122 (List.Mem.tail _ (List.Mem.head _)) ?_
      refine am_dup dX8_readPart_123 rfl ?_
      refine am_getf (f := 9) (v := .inl (w.1 2 0 9)) dX8_readPart_124 hc_1 (by decide) wd_163 (by decide) rfl rfl ?_
      refine am_iconst dX8_readPart_127 (by unfold am_rg; omega) ?_
      refine am_iadd dX8_readPart_128 ?_
      refine am_putf (f := 9) dX8_readPart_129 hc_1 (by decide) wd_163 rfl (Or.inl rfl) (Or.inl (by decide)) rfl ?_
      refine am_iconst dX8_readPart_132 (by unfold am_rg; omega) ?_
      exact am_ret (r := some (.inl 1)) dX8_readPart_133 (Or.inr (Or.inl ⟨rfl, (Or.inr rfl)⟩)) rfl h
    · replace c4 := am_bne2 c4
      replace h := h.2 c4
      refine am_aload_n dX8_readPart_91 (List.Mem.tail _ (List.Mem.head _)) ?_
      refine am_iconst dX8_readPart_92 (by unfold am_rg; omega) ?_
      refine am_callv (d' := d + 2) (kc := 0) (ks := 0) (as := [.inl 2]) dX8_readPart_93 wc_X8_fail wd_787 wd_789 wd_6 wd_113 ds_X8_fail (by decide) (by omega) (Nat.le_of_ble_eq_true rfl) (Nat.zero_le _) (Nat.zero_le _) hc_1 (by decide) rfl rfl (sX8_fail (d := d + 1) (x1 := 2)  ?_)
      show am_A (mh_G X) SC (d + 3) mX8_readPart Q 96 [(2, .inl x2), (0, .inr (.inr (some (2, 0)))), (1, .inr (.inr (some (10, j1))))] [.inl 0] ((am_up (am_up (am_up w.1 2 0 4 (w.1 2 0 7)) 2 0 5 (am_w (((am_up w.1 2 0 4 (w.1 2 0 7)) 2 0 9) + 1))) 2 0 6 (2 : Int)), w.2) bc bs
      exact am_ret (r := some (.inl 0)) dX8_readPart_96 (Or.inr (Or.inl ⟨rfl, (Or.inl rfl)⟩)) rfl h
  · replace h := h.2 c1
    refine am_iconst dX8_readPart_75 (by unfold am_rg; omega) ?_
    exact am_ret (r := some (.inl 0)) dX8_readPart_76 (Or.inr (Or.inl ⟨rfl, (Or.inl rfl)⟩)) rfl h
-- MourningHouse$Reader.readParts(LMourningHouse$Law;)Z
theorem dX8_readParts_0 : decode mX8_readParts.2.1 0 = .ok (.aload_n 0, 1) := by decide +kernel
theorem dX8_readParts_1 : decode mX8_readParts.2.1 1 = .ok (.dup, 1) := by decide +kernel
theorem dX8_readParts_2 : decode mX8_readParts.2.1 2 = .ok (.getfield 39, 3) := by decide +kernel
theorem dX8_readParts_5 : decode mX8_readParts.2.1 5 = .ok (.iconst 1, 1) := by decide +kernel
theorem dX8_readParts_6 : decode mX8_readParts.2.1 6 = .ok (.iadd, 1) := by decide +kernel
theorem dX8_readParts_7 : decode mX8_readParts.2.1 7 = .ok (.putfield 39, 3) := by decide +kernel
theorem dX8_readParts_10 : decode mX8_readParts.2.1 10 = .ok (.aload_n 0, 1) := by decide +kernel
theorem dX8_readParts_11 : decode mX8_readParts.2.1 11 = .ok (.aload_n 1, 1) := by decide +kernel
theorem dX8_readParts_12 : decode mX8_readParts.2.1 12 = .ok (.invokevirtual 154, 3) := by decide +kernel
theorem dX8_readParts_15 : decode mX8_readParts.2.1 15 = .ok (.ifCond .ne 5, 3) := by decide +kernel
theorem dX8_readParts_18 : decode mX8_readParts.2.1 18 = .ok (.iconst 0, 1) := by decide +kernel
theorem dX8_readParts_19 : decode mX8_readParts.2.1 19 = .ok (.ireturn, 1) := by decide +kernel
theorem dX8_readParts_20 : decode mX8_readParts.2.1 20 = .ok (.aload_n 0, 1) := by decide +kernel
theorem dX8_readParts_21 : decode mX8_readParts.2.1 21 = .ok (.getfield 39, 3) := by decide +kernel
theorem dX8_readParts_24 : decode mX8_readParts.2.1 24 = .ok (.aload_n 0, 1) := by decide +kernel
theorem dX8_readParts_25 : decode mX8_readParts.2.1 25 = .ok (.getfield 36, 3) := by decide +kernel
theorem dX8_readParts_28 : decode mX8_readParts.2.1 28 = .ok (.if_icmp .ge 16, 3) := by decide +kernel
theorem dX8_readParts_31 : decode mX8_readParts.2.1 31 = .ok (.aload_n 0, 1) := by decide +kernel
theorem dX8_readParts_32 : decode mX8_readParts.2.1 32 = .ok (.aload_n 0, 1) := by decide +kernel
theorem dX8_readParts_33 : decode mX8_readParts.2.1 33 = .ok (.getfield 39, 3) := by decide +kernel
theorem dX8_readParts_36 : decode mX8_readParts.2.1 36 = .ok (.invokevirtual 59, 3) := by decide +kernel
theorem dX8_readParts_39 : decode mX8_readParts.2.1 39 = .ok (.bipush 43, 2) := by decide +kernel
theorem dX8_readParts_41 : decode mX8_readParts.2.1 41 = .ok (.if_icmp .eq (-41), 3) := by decide +kernel
theorem dX8_readParts_44 : decode mX8_readParts.2.1 44 = .ok (.iconst 1, 1) := by decide +kernel
theorem dX8_readParts_45 : decode mX8_readParts.2.1 45 = .ok (.ireturn, 1) := by decide +kernel
theorem bX8_readParts_0 {SC : Nat → Nat} {X : mh_X} {d : Nat} {Q : Option am_V → am_W → Prop} {bc bs : Nat} {w : am_W} {j1 : Nat}
    (h : am_M (mh_G X) SC (d + 3) 0 0 mX8_readPart [.inr (.inr (some (2, 0))), .inr (.inr (some (10, j1)))] ((am_up w.1 2 0 9 (am_w ((w.1 2 0 9) + 1))), w.2) (fun r w1 => am_A (mh_G X) SC (d + 4) mX8_readParts Q 15 [(0, .inr (.inr (some (2, 0)))), (1, .inr (.inr (some (10, j1))))] (r.toList ++ []) w1 bc bs)) :
    am_A (mh_G X) SC (d + 4) mX8_readParts Q 0 [(0, .inr (.inr (some (2, 0)))), (1, .inr (.inr (some (10, j1))))] [] w bc bs := by
  refine am_aload_n dX8_readParts_0 (List.Mem.head _) ?_
  refine am_dup dX8_readParts_1 rfl ?_
  refine am_getf (f := 9) (v := .inl (w.1 2 0 9)) dX8_readParts_2 hc_1 (by decide) wd_163 (by decide) rfl rfl ?_
  refine am_iconst dX8_readParts_5 (by unfold am_rg; omega) ?_
  refine am_iadd dX8_readParts_6 ?_
  refine am_putf (f := 9) dX8_readParts_7 hc_1 (by decide) wd_163 rfl (Or.inl rfl) (Or.inl (by decide)) rfl ?_
  refine am_aload_n dX8_readParts_10 (List.Mem.head _) ?_
  refine am_aload_n dX8_readParts_11 (List.Mem.tail _ (List.Mem.head _)) ?_
  exact am_callv (d' := d + 3) (kc := 0) (ks := 0) (as := [.inr (.inr (some (10, j1)))]) dX8_readParts_12 wc_X8_readPart wd_822 wd_824 wd_11 wd_113 ds_X8_readPart (by decide) (by omega) (Nat.le_of_ble_eq_true rfl) (Nat.zero_le _) (Nat.zero_le _) hc_1 (by decide) rfl rfl h
theorem bX8_readParts_15 {SC : Nat → Nat} {X : mh_X} {d : Nat} {Q : Option am_V → am_W → Prop} {bc bs : Nat} {w : am_W} {j1 : Nat} {xs0 : Int}
    (h : ((¬ xs0 = 0 → (((w.1 2 0 8) ≤ (w.1 2 0 9) → Q (some (.inl 1)) w) ∧ (¬ (w.1 2 0 8) ≤ (w.1 2 0 9) → ((¬ (w.1 2 0 9) < 0 → ¬ (w.1 2 0 8) ≤ (w.1 2 0 9) → ¬ 64 ≤ (w.1 2 0 9) → 0 ≤ (w.1 2 0 9)) ∧ ((¬ (w.1 2 0 9) < 0 → ¬ (w.1 2 0 8) ≤ (w.1 2 0 9) → ¬ 64 ≤ (w.1 2 0 9) → (w.1 2 0 9) < 64) ∧ (((if (w.1 2 0 9) < 0 then 46 else (if (w.1 2 0 8) ≤ (w.1 2 0 9) then 46 else (if 64 ≤ (w.1 2 0 9) then 46 else (w.1 25 0 (w.1 2 0 9).toNat)))) = 43 → am_A (mh_G X) SC (d + 4) mX8_readParts Q 0 [(0, .inr (.inr (some (2, 0)))), (1, .inr (.inr (some (10, j1))))] [] w bc bs) ∧ (¬ (if (w.1 2 0 9) < 0 then 46 else (if (w.1 2 0 8) ≤ (w.1 2 0 9) then 46 else (if 64 ≤ (w.1 2 0 9) then 46 else (w.1 25 0 (w.1 2 0 9).toNat)))) = 43 → Q (some (.inl 1)) w))))))) ∧ (xs0 = 0 → Q (some (.inl 0)) w))) :
    am_A (mh_G X) SC (d + 4) mX8_readParts Q 15 [(0, .inr (.inr (some (2, 0)))), (1, .inr (.inr (some (10, j1))))] [.inl xs0] w bc bs := by
  refine am_ifne (tgt := 20) dX8_readParts_15 (by decide) (fun c1 => ?_) (fun c1 => ?_)
  · replace h := h.1 c1
    refine am_aload_n dX8_readParts_20 (List.Mem.head _) ?_
    refine am_getf (f := 9) (v := .inl (w.1 2 0 9)) dX8_readParts_21 hc_1 (by decide) wd_163 (by decide) rfl rfl ?_
    refine am_aload_n dX8_readParts_24 (List.Mem.head _) ?_
    refine am_getf (f := 8) (v := .inl (w.1 2 0 8)) dX8_readParts_25 hc_1 (by decide) wd_162 (by decide) rfl rfl ?_
    refine am_icmpge (tgt := 44) dX8_readParts_28 (by decide) (fun c2 => ?_) (fun c2 => ?_)
    · replace h := h.1 c2
      refine am_iconst dX8_readParts_44 (by unfold am_rg; omega) ?_
      exact am_ret (r := some (.inl 1)) dX8_readParts_45 (Or.inr (Or.inl ⟨rfl, (Or.inr rfl)⟩)) rfl h
    · replace h := h.2 c2
      refine am_aload_n dX8_readParts_31 (List.Mem.head _) ?_
      refine am_aload_n dX8_readParts_32 (List.Mem.head _) ?_
      refine am_getf (f := 9) (v := .inl (w.1 2 0 9)) dX8_readParts_33 hc_1 (by decide) wd_163 (by decide) rfl rfl ?_
      have o3 := h.1
      replace h := h.2
      have o4 := h.1
      replace h := h.2
      refine am_callv (d' := d + 3) (kc := 0) (ks := 0) (as := [.inl (w.1 2 0 9)]) dX8_readParts_36 wc_X8_codeAt wd_791 wd_793 wd_7 wd_113 ds_X8_codeAt (by decide) (by omega) (Nat.le_of_ble_eq_true rfl) (Nat.zero_le _) (Nat.zero_le _) hc_1 (by decide) rfl rfl (sX8_codeAt (d := d + 2) (x1 := (w.1 2 0 9)) o3 o4 ?_)
      show am_A (mh_G X) SC (d + 4) mX8_readParts Q 39 [(0, .inr (.inr (some (2, 0)))), (1, .inr (.inr (some (10, j1))))] [.inl (if (w.1 2 0 9) < 0 then 46 else (if (w.1 2 0 8) ≤ (w.1 2 0 9) then 46 else (if 64 ≤ (w.1 2 0 9) then 46 else (w.1 25 0 (w.1 2 0 9).toNat))))] w bc bs
      refine am_bipush dX8_readParts_39 (by decide) (by unfold am_rg; omega) ?_
      refine am_icmpeq (tgt := 0) dX8_readParts_41 (by decide) (fun c5 => ?_) (fun c5 => ?_)
      · replace h := h.1 c5
        exact h
      · replace h := h.2 c5
        refine am_iconst dX8_readParts_44 (by unfold am_rg; omega) ?_
        exact am_ret (r := some (.inl 1)) dX8_readParts_45 (Or.inr (Or.inl ⟨rfl, (Or.inr rfl)⟩)) rfl h
  · replace h := h.2 c1
    refine am_iconst dX8_readParts_18 (by unfold am_rg; omega) ?_
    exact am_ret (r := some (.inl 0)) dX8_readParts_19 (Or.inr (Or.inl ⟨rfl, (Or.inl rfl)⟩)) rfl h
-- MourningHouse$Reader.readRule(LMourningHouse$Law;)Z
theorem dX8_readRule_0 : decode mX8_readRule.2.1 0 = .ok (.aload_n 1, 1) := by decide +kernel
theorem dX8_readRule_1 : decode mX8_readRule.2.1 1 = .ok (.invokevirtual 132, 3) := by decide +kernel
theorem dX8_readRule_4 : decode mX8_readRule.2.1 4 = .ok (.ifCond .ne 10, 3) := by decide +kernel
theorem dX8_readRule_7 : decode mX8_readRule.2.1 7 = .ok (.aload_n 0, 1) := by decide +kernel
theorem dX8_readRule_8 : decode mX8_readRule.2.1 8 = .ok (.bipush 6, 2) := by decide +kernel
theorem dX8_readRule_10 : decode mX8_readRule.2.1 10 = .ok (.invokevirtual 55, 3) := by decide +kernel
theorem dX8_readRule_13 : decode mX8_readRule.2.1 13 = .ok (.ireturn, 1) := by decide +kernel
theorem dX8_readRule_14 : decode mX8_readRule.2.1 14 = .ok (.aload_n 1, 1) := by decide +kernel
theorem dX8_readRule_15 : decode mX8_readRule.2.1 15 = .ok (.invokevirtual 136, 3) := by decide +kernel
theorem dX8_readRule_18 : decode mX8_readRule.2.1 18 = .ok (.aload_n 0, 1) := by decide +kernel
theorem dX8_readRule_19 : decode mX8_readRule.2.1 19 = .ok (.aload_n 1, 1) := by decide +kernel
theorem dX8_readRule_20 : decode mX8_readRule.2.1 20 = .ok (.invokevirtual 139, 3) := by decide +kernel
theorem dX8_readRule_23 : decode mX8_readRule.2.1 23 = .ok (.ifCond .eq 23, 3) := by decide +kernel
theorem dX8_readRule_26 : decode mX8_readRule.2.1 26 = .ok (.aload_n 0, 1) := by decide +kernel
theorem dX8_readRule_27 : decode mX8_readRule.2.1 27 = .ok (.aload_n 1, 1) := by decide +kernel
theorem dX8_readRule_28 : decode mX8_readRule.2.1 28 = .ok (.invokevirtual 142, 3) := by decide +kernel
theorem dX8_readRule_31 : decode mX8_readRule.2.1 31 = .ok (.ifCond .eq 15, 3) := by decide +kernel
theorem dX8_readRule_34 : decode mX8_readRule.2.1 34 = .ok (.aload_n 0, 1) := by decide +kernel
theorem dX8_readRule_35 : decode mX8_readRule.2.1 35 = .ok (.aload_n 1, 1) := by decide +kernel
theorem dX8_readRule_36 : decode mX8_readRule.2.1 36 = .ok (.invokevirtual 145, 3) := by decide +kernel
theorem dX8_readRule_39 : decode mX8_readRule.2.1 39 = .ok (.ifCond .eq 7, 3) := by decide +kernel
theorem dX8_readRule_42 : decode mX8_readRule.2.1 42 = .ok (.iconst 1, 1) := by decide +kernel
theorem dX8_readRule_43 : decode mX8_readRule.2.1 43 = .ok (.goto 4, 3) := by decide +kernel
theorem dX8_readRule_46 : decode mX8_readRule.2.1 46 = .ok (.iconst 0, 1) := by decide +kernel
theorem dX8_readRule_47 : decode mX8_readRule.2.1 47 = .ok (.ireturn, 1) := by decide +kernel
theorem bX8_readRule_0 {SC : Nat → Nat} {X : mh_X} {d : Nat} {Q : Option am_V → am_W → Prop} {bc bs : Nat} {w : am_W} {j1 : Nat}
    (h : (((¬ 30 ≤ (w.1 10 j1 10)) → (0 ≤ (w.1 10 j1 10) ∧ ((w.1 10 j1 10) < 30 ∧ am_M (mh_G X) SC (d + 4) 0 0 mX8_readKin [.inr (.inr (some (2, 0))), .inr (.inr (some (10, j1)))] ((am_up (am_up (am_up (am_up w.1 144 j1 (w.1 10 j1 10).toNat 0) 146 j1 (w.1 10 j1 10).toNat 0) 150 j1 (w.1 10 j1 10).toNat 0) 10 j1 10 (am_w ((w.1 10 j1 10) + 1))), w.2) (fun r w1 => am_A (mh_G X) SC (d + 5) mX8_readRule Q 23 [(0, .inr (.inr (some (2, 0)))), (1, .inr (.inr (some (10, j1))))] (r.toList ++ []) w1 bc bs)))) ∧ (¬ (¬ 30 ≤ (w.1 10 j1 10)) → Q (some (.inl 0)) ((am_up (am_up (am_up w.1 2 0 4 (w.1 2 0 7)) 2 0 5 (am_w (((am_up w.1 2 0 4 (w.1 2 0 7)) 2 0 9) + 1))) 2 0 6 (6 : Int)), w.2)))) :
    am_A (mh_G X) SC (d + 5) mX8_readRule Q 0 [(0, .inr (.inr (some (2, 0)))), (1, .inr (.inr (some (10, j1))))] [] w bc bs := by
  refine am_aload_n dX8_readRule_0 (List.Mem.tail _ (List.Mem.head _)) ?_
  refine am_callv (d' := d + 4) (kc := 0) (ks := 0) (as := []) dX8_readRule_1 wc_X3_hasRoomForRule wd_799 wd_800 wd_801 wd_116 ds_X3_hasRoomForRule (by decide) (by omega) (Nat.le_of_ble_eq_true rfl) (Nat.zero_le _) (Nat.zero_le _) hc_4 (by decide) rfl rfl (sX3_hasRoomForRule (d := d + 3) (j0 := j1)  ?_)
  show am_A (mh_G X) SC (d + 5) mX8_readRule Q 4 [(0, .inr (.inr (some (2, 0)))), (1, .inr (.inr (some (10, j1))))] [.inl (if (¬ 30 ≤ (w.1 10 j1 10)) then 1 else 0)] w bc bs
  refine am_ifne (tgt := 14) dX8_readRule_4 (by decide) (fun c1 => ?_) (fun c1 => ?_)
  · replace c1 := am_bne1 c1
    replace h := h.1 c1
    refine am_aload_n dX8_readRule_14 (List.Mem.tail _ (List.Mem.head _)) ?_
    have o2 := h.1
    replace h := h.2
    have o3 := h.1
    replace h := h.2
    refine am_callv (d' := d + 4) (kc := 0) (ks := 0) (as := []) dX8_readRule_15 wc_X3_openRule wd_803 wd_804 wd_805 wd_116 ds_X3_openRule (by decide) (by omega) (Nat.le_of_ble_eq_true rfl) (Nat.zero_le _) (Nat.zero_le _) hc_4 (by decide) rfl rfl (sX3_openRule (d := d + 3) (j0 := j1) o2 o3 ?_)
    show am_A (mh_G X) SC (d + 5) mX8_readRule Q 18 [(0, .inr (.inr (some (2, 0)))), (1, .inr (.inr (some (10, j1))))] [] ((am_up (am_up (am_up (am_up w.1 144 j1 (w.1 10 j1 10).toNat 0) 146 j1 (w.1 10 j1 10).toNat 0) 150 j1 (w.1 10 j1 10).toNat 0) 10 j1 10 (am_w ((w.1 10 j1 10) + 1))), w.2) bc bs
    refine am_aload_n dX8_readRule_18 (List.Mem.head _) ?_
    refine am_aload_n dX8_readRule_19 (List.Mem.tail _ (List.Mem.head _)) ?_
    exact am_callv (d' := d + 4) (kc := 0) (ks := 0) (as := [.inr (.inr (some (10, j1)))]) dX8_readRule_20 wc_X8_readKin wd_807 wd_809 wd_9 wd_113 ds_X8_readKin (by decide) (by omega) (Nat.le_of_ble_eq_true rfl) (Nat.zero_le _) (Nat.zero_le _) hc_1 (by decide) rfl rfl h
  · replace c1 := am_bne2 c1
    replace h := h.2 c1
    refine am_aload_n dX8_readRule_7 (List.Mem.head _) ?_
    refine am_bipush dX8_readRule_8 (by decide) (by unfold am_rg; omega) ?_
    refine am_callv (d' := d + 4) (kc := 0) (ks := 0) (as := [.inl 6]) dX8_readRule_10 wc_X8_fail wd_787 wd_789 wd_6 wd_113 ds_X8_fail (by decide) (by omega) (Nat.le_of_ble_eq_true rfl) (Nat.zero_le _) (Nat.zero_le _) hc_1 (by decide) rfl rfl (sX8_fail (d := d + 3) (x1 := 6)  ?_)
    show am_A (mh_G X) SC (d + 5) mX8_readRule Q 13 [(0, .inr (.inr (some (2, 0)))), (1, .inr (.inr (some (10, j1))))] [.inl 0] ((am_up (am_up (am_up w.1 2 0 4 (w.1 2 0 7)) 2 0 5 (am_w (((am_up w.1 2 0 4 (w.1 2 0 7)) 2 0 9) + 1))) 2 0 6 (6 : Int)), w.2) bc bs
    exact am_ret (r := some (.inl 0)) dX8_readRule_13 (Or.inr (Or.inl ⟨rfl, (Or.inl rfl)⟩)) rfl h
theorem bX8_readRule_23 {SC : Nat → Nat} {X : mh_X} {d : Nat} {Q : Option am_V → am_W → Prop} {bc bs : Nat} {w : am_W} {j1 : Nat} {xs0 : Int}
    (h : ((xs0 = 0 → Q (some (.inl 0)) w) ∧ (¬ xs0 = 0 → am_M (mh_G X) SC (d + 4) 0 0 mX8_readParts [.inr (.inr (some (2, 0))), .inr (.inr (some (10, j1)))] w (fun r w1 => am_A (mh_G X) SC (d + 5) mX8_readRule Q 31 [(0, .inr (.inr (some (2, 0)))), (1, .inr (.inr (some (10, j1))))] (r.toList ++ []) w1 bc bs)))) :
    am_A (mh_G X) SC (d + 5) mX8_readRule Q 23 [(0, .inr (.inr (some (2, 0)))), (1, .inr (.inr (some (10, j1))))] [.inl xs0] w bc bs := by
  refine am_ifeq (tgt := 46) dX8_readRule_23 (by decide) (fun c1 => ?_) (fun c1 => ?_)
  · replace h := h.1 c1
    refine am_iconst dX8_readRule_46 (by unfold am_rg; omega) ?_
    exact am_ret (r := some (.inl 0)) dX8_readRule_47 (Or.inr (Or.inl ⟨rfl, (Or.inl rfl)⟩)) rfl h
  · replace h := h.2 c1
    refine am_aload_n dX8_readRule_26 (List.Mem.head _) ?_
    refine am_aload_n dX8_readRule_27 (List.Mem.tail _ (List.Mem.head _)) ?_
    exact am_callv (d' := d + 4) (kc := 0) (ks := 0) (as := [.inr (.inr (some (10, j1)))]) dX8_readRule_28 wc_X8_readParts wd_818 wd_820 wd_10 wd_113 ds_X8_readParts (by decide) (by omega) (Nat.le_of_ble_eq_true rfl) (Nat.zero_le _) (Nat.zero_le _) hc_1 (by decide) rfl rfl h
theorem bX8_readRule_31 {SC : Nat → Nat} {X : mh_X} {d : Nat} {Q : Option am_V → am_W → Prop} {bc bs : Nat} {w : am_W} {j1 : Nat} {xs0 : Int}
    (h : ((xs0 = 0 → Q (some (.inl 0)) w) ∧ (¬ xs0 = 0 → am_M (mh_G X) SC (d + 4) 0 0 mX8_readOptions [.inr (.inr (some (2, 0))), .inr (.inr (some (10, j1)))] w (fun r w1 => am_A (mh_G X) SC (d + 5) mX8_readRule Q 39 [(0, .inr (.inr (some (2, 0)))), (1, .inr (.inr (some (10, j1))))] (r.toList ++ []) w1 bc bs)))) :
    am_A (mh_G X) SC (d + 5) mX8_readRule Q 31 [(0, .inr (.inr (some (2, 0)))), (1, .inr (.inr (some (10, j1))))] [.inl xs0] w bc bs := by
  refine am_ifeq (tgt := 46) dX8_readRule_31 (by decide) (fun c1 => ?_) (fun c1 => ?_)
  · replace h := h.1 c1
    refine am_iconst dX8_readRule_46 (by unfold am_rg; omega) ?_
    exact am_ret (r := some (.inl 0)) dX8_readRule_47 (Or.inr (Or.inl ⟨rfl, (Or.inl rfl)⟩)) rfl h
  · replace h := h.2 c1
    refine am_aload_n dX8_readRule_34 (List.Mem.head _) ?_
    refine am_aload_n dX8_readRule_35 (List.Mem.tail _ (List.Mem.head _)) ?_
    exact am_callv (d' := d + 4) (kc := 0) (ks := 0) (as := [.inr (.inr (some (10, j1)))]) dX8_readRule_36 wc_X8_readOptions wd_856 wd_858 wd_15 wd_113 ds_X8_readOptions (by decide) (by omega) (Nat.le_of_ble_eq_true rfl) (Nat.zero_le _) (Nat.zero_le _) hc_1 (by decide) rfl rfl h
theorem bX8_readRule_39 {SC : Nat → Nat} {X : mh_X} {d : Nat} {Q : Option am_V → am_W → Prop} {bc bs : Nat} {w : am_W} {j1 : Nat} {xs0 : Int}
    (h : ((xs0 = 0 → Q (some (.inl 0)) w) ∧ (¬ xs0 = 0 → Q (some (.inl 1)) w))) :
    am_A (mh_G X) SC (d + 5) mX8_readRule Q 39 [(0, .inr (.inr (some (2, 0)))), (1, .inr (.inr (some (10, j1))))] [.inl xs0] w bc bs := by
  refine am_ifeq (tgt := 46) dX8_readRule_39 (by decide) (fun c1 => ?_) (fun c1 => ?_)
  · replace h := h.1 c1
    refine am_iconst dX8_readRule_46 (by unfold am_rg; omega) ?_
    exact am_ret (r := some (.inl 0)) dX8_readRule_47 (Or.inr (Or.inl ⟨rfl, (Or.inl rfl)⟩)) rfl h
  · replace h := h.2 c1
    refine am_iconst dX8_readRule_42 (by unfold am_rg; omega) ?_
    refine am_goto (tgt := 47) dX8_readRule_43 (by decide) ?_
    exact am_ret (r := some (.inl 1)) dX8_readRule_47 (Or.inr (Or.inl ⟨rfl, (Or.inr rfl)⟩)) rfl h
-- MourningHouse$Reader.readUnder(LMourningHouse$Law;)Z
theorem dX8_readUnder_0 : decode mX8_readUnder.2.1 0 = .ok (.aload_n 0, 1) := by decide +kernel
theorem dX8_readUnder_1 : decode mX8_readUnder.2.1 1 = .ok (.iconst 1, 1) := by decide +kernel
theorem dX8_readUnder_2 : decode mX8_readUnder.2.1 2 = .ok (.putfield 39, 3) := by decide +kernel
theorem dX8_readUnder_5 : decode mX8_readUnder.2.1 5 = .ok (.aload_n 0, 1) := by decide +kernel
theorem dX8_readUnder_6 : decode mX8_readUnder.2.1 6 = .ok (.iconst 1, 1) := by decide +kernel
theorem dX8_readUnder_7 : decode mX8_readUnder.2.1 7 = .ok (.bipush 30, 2) := by decide +kernel
theorem dX8_readUnder_9 : decode mX8_readUnder.2.1 9 = .ok (.invokevirtual 169, 3) := by decide +kernel
theorem dX8_readUnder_12 : decode mX8_readUnder.2.1 12 = .ok (.ifCond .eq 19, 3) := by decide +kernel
theorem dX8_readUnder_15 : decode mX8_readUnder.2.1 15 = .ok (.aload_n 0, 1) := by decide +kernel
theorem dX8_readUnder_16 : decode mX8_readUnder.2.1 16 = .ok (.bipush 35, 2) := by decide +kernel
theorem dX8_readUnder_18 : decode mX8_readUnder.2.1 18 = .ok (.invokevirtual 129, 3) := by decide +kernel
theorem dX8_readUnder_21 : decode mX8_readUnder.2.1 21 = .ok (.ifCond .eq 10, 3) := by decide +kernel
theorem dX8_readUnder_24 : decode mX8_readUnder.2.1 24 = .ok (.aload_n 0, 1) := by decide +kernel
theorem dX8_readUnder_25 : decode mX8_readUnder.2.1 25 = .ok (.invokevirtual 187, 3) := by decide +kernel
theorem dX8_readUnder_28 : decode mX8_readUnder.2.1 28 = .ok (.ifCond .ne 5, 3) := by decide +kernel
theorem dX8_readUnder_31 : decode mX8_readUnder.2.1 31 = .ok (.iconst 0, 1) := by decide +kernel
theorem dX8_readUnder_32 : decode mX8_readUnder.2.1 32 = .ok (.ireturn, 1) := by decide +kernel
theorem dX8_readUnder_33 : decode mX8_readUnder.2.1 33 = .ok (.aload_n 1, 1) := by decide +kernel
theorem dX8_readUnder_34 : decode mX8_readUnder.2.1 34 = .ok (.aload_n 0, 1) := by decide +kernel
theorem dX8_readUnder_35 : decode mX8_readUnder.2.1 35 = .ok (.getfield 17, 3) := by decide +kernel
theorem dX8_readUnder_38 : decode mX8_readUnder.2.1 38 = .ok (.iconst 1, 1) := by decide +kernel
theorem dX8_readUnder_39 : decode mX8_readUnder.2.1 39 = .ok (.iaload, 1) := by decide +kernel
theorem dX8_readUnder_40 : decode mX8_readUnder.2.1 40 = .ok (.putfield 211, 3) := by decide +kernel
theorem dX8_readUnder_43 : decode mX8_readUnder.2.1 43 = .ok (.aload_n 1, 1) := by decide +kernel
theorem dX8_readUnder_44 : decode mX8_readUnder.2.1 44 = .ok (.aload_n 0, 1) := by decide +kernel
theorem dX8_readUnder_45 : decode mX8_readUnder.2.1 45 = .ok (.iconst 3, 1) := by decide +kernel
theorem dX8_readUnder_46 : decode mX8_readUnder.2.1 46 = .ok (.invokevirtual 163, 3) := by decide +kernel
theorem dX8_readUnder_49 : decode mX8_readUnder.2.1 49 = .ok (.putfield 214, 3) := by decide +kernel
theorem dX8_readUnder_52 : decode mX8_readUnder.2.1 52 = .ok (.iconst 1, 1) := by decide +kernel
theorem dX8_readUnder_53 : decode mX8_readUnder.2.1 53 = .ok (.ireturn, 1) := by decide +kernel
theorem bX8_readUnder_0 {SC : Nat → Nat} {X : mh_X} {d : Nat} {Q : Option am_V → am_W → Prop} {bc bs : Nat} {w : am_W} {j1 : Nat}
    (h : am_M (mh_G X) SC (d + 3) 0 0 mX8_expectNumber [.inr (.inr (some (2, 0))), .inl 1, .inl 30] ((am_up w.1 2 0 9 1), w.2) (fun r w1 => am_A (mh_G X) SC (d + 4) mX8_readUnder Q 12 [(0, .inr (.inr (some (2, 0)))), (1, .inr (.inr (some (10, j1))))] (r.toList ++ []) w1 bc bs)) :
    am_A (mh_G X) SC (d + 4) mX8_readUnder Q 0 [(0, .inr (.inr (some (2, 0)))), (1, .inr (.inr (some (10, j1))))] [] w bc bs := by
  refine am_aload_n dX8_readUnder_0 (List.Mem.head _) ?_
  refine am_iconst dX8_readUnder_1 (by unfold am_rg; omega) ?_
  refine am_putf (f := 9) dX8_readUnder_2 hc_1 (by decide) wd_163 rfl (Or.inl rfl) (Or.inl (by decide)) rfl ?_
  refine am_aload_n dX8_readUnder_5 (List.Mem.head _) ?_
  refine am_iconst dX8_readUnder_6 (by unfold am_rg; omega) ?_
  refine am_bipush dX8_readUnder_7 (by decide) (by unfold am_rg; omega) ?_
  exact am_callv (d' := d + 3) (kc := 0) (ks := 0) (as := [.inl 1, .inl 30]) dX8_readUnder_9 wc_X8_expectNumber wd_841 wd_843 wd_13 wd_113 ds_X8_expectNumber (by decide) (by omega) (Nat.le_of_ble_eq_true rfl) (Nat.zero_le _) (Nat.zero_le _) hc_1 (by decide) rfl rfl h
theorem bX8_readUnder_12 {SC : Nat → Nat} {X : mh_X} {d : Nat} {Q : Option am_V → am_W → Prop} {bc bs : Nat} {w : am_W} {j1 : Nat} {xs0 : Int}
    (h : ((xs0 = 0 → Q (some (.inl 0)) w) ∧ (¬ xs0 = 0 → am_M (mh_G X) SC (d + 3) 0 0 mX8_expect [.inr (.inr (some (2, 0))), .inl 35] w (fun r w1 => am_A (mh_G X) SC (d + 4) mX8_readUnder Q 21 [(0, .inr (.inr (some (2, 0)))), (1, .inr (.inr (some (10, j1))))] (r.toList ++ []) w1 bc bs)))) :
    am_A (mh_G X) SC (d + 4) mX8_readUnder Q 12 [(0, .inr (.inr (some (2, 0)))), (1, .inr (.inr (some (10, j1))))] [.inl xs0] w bc bs := by
  refine am_ifeq (tgt := 31) dX8_readUnder_12 (by decide) (fun c1 => ?_) (fun c1 => ?_)
  · replace h := h.1 c1
    refine am_iconst dX8_readUnder_31 (by unfold am_rg; omega) ?_
    exact am_ret (r := some (.inl 0)) dX8_readUnder_32 (Or.inr (Or.inl ⟨rfl, (Or.inl rfl)⟩)) rfl h
  · replace h := h.2 c1
    refine am_aload_n dX8_readUnder_15 (List.Mem.head _) ?_
    refine am_bipush dX8_readUnder_16 (by decide) (by unfold am_rg; omega) ?_
    exact am_callv (d' := d + 3) (kc := 0) (ks := 0) (as := [.inl 35]) dX8_readUnder_18 wc_X8_expect wd_867 wd_869 wd_16 wd_113 ds_X8_expect (by decide) (by omega) (Nat.le_of_ble_eq_true rfl) (Nat.zero_le _) (Nat.zero_le _) hc_1 (by decide) rfl rfl h
theorem bX8_readUnder_21 {SC : Nat → Nat} {X : mh_X} {d : Nat} {Q : Option am_V → am_W → Prop} {bc bs : Nat} {w : am_W} {j1 : Nat} {xs0 : Int}
    (h : ((xs0 = 0 → Q (some (.inl 0)) w) ∧ (¬ xs0 = 0 → am_M (mh_G X) SC (d + 3) 0 0 mX8_expectStuff [.inr (.inr (some (2, 0)))] w (fun r w1 => am_A (mh_G X) SC (d + 4) mX8_readUnder Q 28 [(0, .inr (.inr (some (2, 0)))), (1, .inr (.inr (some (10, j1))))] (r.toList ++ []) w1 bc bs)))) :
    am_A (mh_G X) SC (d + 4) mX8_readUnder Q 21 [(0, .inr (.inr (some (2, 0)))), (1, .inr (.inr (some (10, j1))))] [.inl xs0] w bc bs := by
  refine am_ifeq (tgt := 31) dX8_readUnder_21 (by decide) (fun c1 => ?_) (fun c1 => ?_)
  · replace h := h.1 c1
    refine am_iconst dX8_readUnder_31 (by unfold am_rg; omega) ?_
    exact am_ret (r := some (.inl 0)) dX8_readUnder_32 (Or.inr (Or.inl ⟨rfl, (Or.inl rfl)⟩)) rfl h
  · replace h := h.2 c1
    refine am_aload_n dX8_readUnder_24 (List.Mem.head _) ?_
    exact am_callv (d' := d + 3) (kc := 0) (ks := 0) (as := []) dX8_readUnder_25 wc_X8_expectStuff wd_878 wd_880 wd_18 wd_113 ds_X8_expectStuff (by decide) (by omega) (Nat.le_of_ble_eq_true rfl) (Nat.zero_le _) (Nat.zero_le _) hc_1 (by decide) rfl rfl h
theorem bX8_readUnder_28 {SC : Nat → Nat} {X : mh_X} {d : Nat} {Q : Option am_V → am_W → Prop} {bc bs : Nat} {w : am_W} {j1 : Nat} {xs0 : Int}
    (h : ((¬ xs0 = 0 → ((¬ (3 : Int) < 0 → ¬ (w.1 2 0 8) ≤ (3 : Int) → ¬ 64 ≤ (3 : Int) → 0 ≤ (3 : Int)) ∧ ((¬ (3 : Int) < 0 → ¬ (w.1 2 0 8) ≤ (3 : Int) → ¬ 64 ≤ (3 : Int) → (3 : Int) < 64) ∧ Q (some (.inl 1)) ((am_up (am_up w.1 10 j1 14 (w.1 26 0 1)) 10 j1 15 (am_w ((if (3 : Int) < 0 then 46 else (if (w.1 2 0 8) ≤ (3 : Int) then 46 else (if 64 ≤ (3 : Int) then 46 else (w.1 25 0 3)))) - 12))), w.2)))) ∧ (xs0 = 0 → Q (some (.inl 0)) w))) :
    am_A (mh_G X) SC (d + 4) mX8_readUnder Q 28 [(0, .inr (.inr (some (2, 0)))), (1, .inr (.inr (some (10, j1))))] [.inl xs0] w bc bs := by
  refine am_ifne (tgt := 33) dX8_readUnder_28 (by decide) (fun c1 => ?_) (fun c1 => ?_)
  · replace h := h.1 c1
    refine am_aload_n dX8_readUnder_33 (List.Mem.tail _ (List.Mem.head _)) ?_
    refine am_aload_n dX8_readUnder_34 (List.Mem.head _) ?_
    refine am_getf (f := 2) (v := .inr (.inr (some (26, 0)))) dX8_readUnder_35 hc_1 (by decide) wd_152 (by decide) rfl rfl ?_
    refine am_iconst dX8_readUnder_38 (by unfold am_rg; omega) ?_
    refine am_iaload (v := (w.1 26 0 1)) dX8_readUnder_39 (by decide) rfl (by decide) (show (1 : Int) < (64 : Nat) by decide) rfl ?_
    refine am_putf (f := 14) dX8_readUnder_40 hc_4 (by decide) wd_239 rfl (Or.inl rfl) (Or.inl (by decide)) rfl ?_
    refine am_aload_n dX8_readUnder_43 (List.Mem.tail _ (List.Mem.head _)) ?_
    refine am_aload_n dX8_readUnder_44 (List.Mem.head _) ?_
    refine am_iconst dX8_readUnder_45 (by unfold am_rg; omega) ?_
    have o2 := h.1
    replace h := h.2
    have o3 := h.1
    replace h := h.2
    refine am_callv (d' := d + 3) (kc := 0) (ks := 0) (as := [.inl 3]) dX8_readUnder_46 wc_X8_depthAt wd_833 wd_835 wd_12 wd_113 ds_X8_depthAt (by decide) (by omega) (Nat.le_of_ble_eq_true rfl) (Nat.zero_le _) (Nat.zero_le _) hc_1 (by decide) rfl rfl (sX8_depthAt (d := d + 1) (x1 := 3) o2 o3 ?_)
    show am_A (mh_G X) SC (d + 4) mX8_readUnder Q 49 [(0, .inr (.inr (some (2, 0)))), (1, .inr (.inr (some (10, j1))))] [.inl (am_w ((if (3 : Int) < 0 then 46 else (if (w.1 2 0 8) ≤ (3 : Int) then 46 else (if 64 ≤ (3 : Int) then 46 else (w.1 25 0 3)))) - 12)), .inr (.inr (some (10, j1)))] ((am_up w.1 10 j1 14 (w.1 26 0 1)), w.2) bc bs
    refine am_putf (f := 15) dX8_readUnder_49 hc_4 (by decide) wd_242 rfl (Or.inl rfl) (Or.inl (by decide)) rfl ?_
    refine am_iconst dX8_readUnder_52 (by unfold am_rg; omega) ?_
    exact am_ret (r := some (.inl 1)) dX8_readUnder_53 (Or.inr (Or.inl ⟨rfl, (Or.inr rfl)⟩)) rfl h
  · replace h := h.2 c1
    refine am_iconst dX8_readUnder_31 (by unfold am_rg; omega) ?_
    exact am_ret (r := some (.inl 0)) dX8_readUnder_32 (Or.inr (Or.inl ⟨rfl, (Or.inl rfl)⟩)) rfl h
-- MourningHouse$Reader.readWedding(LMourningHouse$Law;)Z
theorem dX8_readWedding_0 : decode mX8_readWedding.2.1 0 = .ok (.aload_n 0, 1) := by decide +kernel
theorem dX8_readWedding_1 : decode mX8_readWedding.2.1 1 = .ok (.iconst 1, 1) := by decide +kernel
theorem dX8_readWedding_2 : decode mX8_readWedding.2.1 2 = .ok (.putfield 39, 3) := by decide +kernel
theorem dX8_readWedding_5 : decode mX8_readWedding.2.1 5 = .ok (.aload_n 0, 1) := by decide +kernel
theorem dX8_readWedding_6 : decode mX8_readWedding.2.1 6 = .ok (.bipush 39, 2) := by decide +kernel
theorem dX8_readWedding_8 : decode mX8_readWedding.2.1 8 = .ok (.invokevirtual 129, 3) := by decide +kernel
theorem dX8_readWedding_11 : decode mX8_readWedding.2.1 11 = .ok (.ifCond .eq 10, 3) := by decide +kernel
theorem dX8_readWedding_14 : decode mX8_readWedding.2.1 14 = .ok (.aload_n 0, 1) := by decide +kernel
theorem dX8_readWedding_15 : decode mX8_readWedding.2.1 15 = .ok (.invokevirtual 187, 3) := by decide +kernel
theorem dX8_readWedding_18 : decode mX8_readWedding.2.1 18 = .ok (.ifCond .ne 5, 3) := by decide +kernel
theorem dX8_readWedding_21 : decode mX8_readWedding.2.1 21 = .ok (.iconst 0, 1) := by decide +kernel
theorem dX8_readWedding_22 : decode mX8_readWedding.2.1 22 = .ok (.ireturn, 1) := by decide +kernel
theorem dX8_readWedding_23 : decode mX8_readWedding.2.1 23 = .ok (.aload_n 1, 1) := by decide +kernel
theorem dX8_readWedding_24 : decode mX8_readWedding.2.1 24 = .ok (.aload_n 0, 1) := by decide +kernel
theorem dX8_readWedding_25 : decode mX8_readWedding.2.1 25 = .ok (.iconst 2, 1) := by decide +kernel
theorem dX8_readWedding_26 : decode mX8_readWedding.2.1 26 = .ok (.invokevirtual 163, 3) := by decide +kernel
theorem dX8_readWedding_29 : decode mX8_readWedding.2.1 29 = .ok (.putfield 217, 3) := by decide +kernel
theorem dX8_readWedding_32 : decode mX8_readWedding.2.1 32 = .ok (.iconst 1, 1) := by decide +kernel
theorem dX8_readWedding_33 : decode mX8_readWedding.2.1 33 = .ok (.ireturn, 1) := by decide +kernel
theorem bX8_readWedding_0 {SC : Nat → Nat} {X : mh_X} {d : Nat} {Q : Option am_V → am_W → Prop} {bc bs : Nat} {w : am_W} {j1 : Nat}
    (h : am_M (mh_G X) SC (d + 3) 0 0 mX8_expect [.inr (.inr (some (2, 0))), .inl 39] ((am_up w.1 2 0 9 1), w.2) (fun r w1 => am_A (mh_G X) SC (d + 4) mX8_readWedding Q 11 [(0, .inr (.inr (some (2, 0)))), (1, .inr (.inr (some (10, j1))))] (r.toList ++ []) w1 bc bs)) :
    am_A (mh_G X) SC (d + 4) mX8_readWedding Q 0 [(0, .inr (.inr (some (2, 0)))), (1, .inr (.inr (some (10, j1))))] [] w bc bs := by
  refine am_aload_n dX8_readWedding_0 (List.Mem.head _) ?_
  refine am_iconst dX8_readWedding_1 (by unfold am_rg; omega) ?_
  refine am_putf (f := 9) dX8_readWedding_2 hc_1 (by decide) wd_163 rfl (Or.inl rfl) (Or.inl (by decide)) rfl ?_
  refine am_aload_n dX8_readWedding_5 (List.Mem.head _) ?_
  refine am_bipush dX8_readWedding_6 (by decide) (by unfold am_rg; omega) ?_
  exact am_callv (d' := d + 3) (kc := 0) (ks := 0) (as := [.inl 39]) dX8_readWedding_8 wc_X8_expect wd_867 wd_869 wd_16 wd_113 ds_X8_expect (by decide) (by omega) (Nat.le_of_ble_eq_true rfl) (Nat.zero_le _) (Nat.zero_le _) hc_1 (by decide) rfl rfl h
theorem bX8_readWedding_11 {SC : Nat → Nat} {X : mh_X} {d : Nat} {Q : Option am_V → am_W → Prop} {bc bs : Nat} {w : am_W} {j1 : Nat} {xs0 : Int}
    (h : ((xs0 = 0 → Q (some (.inl 0)) w) ∧ (¬ xs0 = 0 → am_M (mh_G X) SC (d + 3) 0 0 mX8_expectStuff [.inr (.inr (some (2, 0)))] w (fun r w1 => am_A (mh_G X) SC (d + 4) mX8_readWedding Q 18 [(0, .inr (.inr (some (2, 0)))), (1, .inr (.inr (some (10, j1))))] (r.toList ++ []) w1 bc bs)))) :
    am_A (mh_G X) SC (d + 4) mX8_readWedding Q 11 [(0, .inr (.inr (some (2, 0)))), (1, .inr (.inr (some (10, j1))))] [.inl xs0] w bc bs := by
  refine am_ifeq (tgt := 21) dX8_readWedding_11 (by decide) (fun c1 => ?_) (fun c1 => ?_)
  · replace h := h.1 c1
    refine am_iconst dX8_readWedding_21 (by unfold am_rg; omega) ?_
    exact am_ret (r := some (.inl 0)) dX8_readWedding_22 (Or.inr (Or.inl ⟨rfl, (Or.inl rfl)⟩)) rfl h
  · replace h := h.2 c1
    refine am_aload_n dX8_readWedding_14 (List.Mem.head _) ?_
    exact am_callv (d' := d + 3) (kc := 0) (ks := 0) (as := []) dX8_readWedding_15 wc_X8_expectStuff wd_878 wd_880 wd_18 wd_113 ds_X8_expectStuff (by decide) (by omega) (Nat.le_of_ble_eq_true rfl) (Nat.zero_le _) (Nat.zero_le _) hc_1 (by decide) rfl rfl h
theorem bX8_readWedding_18 {SC : Nat → Nat} {X : mh_X} {d : Nat} {Q : Option am_V → am_W → Prop} {bc bs : Nat} {w : am_W} {j1 : Nat} {xs0 : Int}
    (h : ((¬ xs0 = 0 → ((¬ (2 : Int) < 0 → ¬ (w.1 2 0 8) ≤ (2 : Int) → ¬ 64 ≤ (2 : Int) → 0 ≤ (2 : Int)) ∧ ((¬ (2 : Int) < 0 → ¬ (w.1 2 0 8) ≤ (2 : Int) → ¬ 64 ≤ (2 : Int) → (2 : Int) < 64) ∧ Q (some (.inl 1)) ((am_up w.1 10 j1 16 (am_w ((if (2 : Int) < 0 then 46 else (if (w.1 2 0 8) ≤ (2 : Int) then 46 else (if 64 ≤ (2 : Int) then 46 else (w.1 25 0 2)))) - 12))), w.2)))) ∧ (xs0 = 0 → Q (some (.inl 0)) w))) :
    am_A (mh_G X) SC (d + 4) mX8_readWedding Q 18 [(0, .inr (.inr (some (2, 0)))), (1, .inr (.inr (some (10, j1))))] [.inl xs0] w bc bs := by
  refine am_ifne (tgt := 23) dX8_readWedding_18 (by decide) (fun c1 => ?_) (fun c1 => ?_)
  · replace h := h.1 c1
    refine am_aload_n dX8_readWedding_23 (List.Mem.tail _ (List.Mem.head _)) ?_
    refine am_aload_n dX8_readWedding_24 (List.Mem.head _) ?_
    refine am_iconst dX8_readWedding_25 (by unfold am_rg; omega) ?_
    have o2 := h.1
    replace h := h.2
    have o3 := h.1
    replace h := h.2
    refine am_callv (d' := d + 3) (kc := 0) (ks := 0) (as := [.inl 2]) dX8_readWedding_26 wc_X8_depthAt wd_833 wd_835 wd_12 wd_113 ds_X8_depthAt (by decide) (by omega) (Nat.le_of_ble_eq_true rfl) (Nat.zero_le _) (Nat.zero_le _) hc_1 (by decide) rfl rfl (sX8_depthAt (d := d + 1) (x1 := 2) o2 o3 ?_)
    show am_A (mh_G X) SC (d + 4) mX8_readWedding Q 29 [(0, .inr (.inr (some (2, 0)))), (1, .inr (.inr (some (10, j1))))] [.inl (am_w ((if (2 : Int) < 0 then 46 else (if (w.1 2 0 8) ≤ (2 : Int) then 46 else (if 64 ≤ (2 : Int) then 46 else (w.1 25 0 2)))) - 12)), .inr (.inr (some (10, j1)))] w bc bs
    refine am_putf (f := 16) dX8_readWedding_29 hc_4 (by decide) wd_245 rfl (Or.inl rfl) (Or.inl (by decide)) rfl ?_
    refine am_iconst dX8_readWedding_32 (by unfold am_rg; omega) ?_
    exact am_ret (r := some (.inl 1)) dX8_readWedding_33 (Or.inr (Or.inl ⟨rfl, (Or.inr rfl)⟩)) rfl h
  · replace h := h.2 c1
    refine am_iconst dX8_readWedding_21 (by unfold am_rg; omega) ?_
    exact am_ret (r := some (.inl 0)) dX8_readWedding_22 (Or.inr (Or.inl ⟨rfl, (Or.inl rfl)⟩)) rfl h
-- MourningHouse$Reader.readLine(LMourningHouse$Law;II)Z
theorem dX8_readLine_0 : decode mX8_readLine.2.1 0 = .ok (.aload_n 0, 1) := by decide +kernel
theorem dX8_readLine_1 : decode mX8_readLine.2.1 1 = .ok (.iconst 0, 1) := by decide +kernel
theorem dX8_readLine_2 : decode mX8_readLine.2.1 2 = .ok (.putfield 39, 3) := by decide +kernel
theorem dX8_readLine_5 : decode mX8_readLine.2.1 5 = .ok (.aload_n 0, 1) := by decide +kernel
theorem dX8_readLine_6 : decode mX8_readLine.2.1 6 = .ok (.iload_n 2, 1) := by decide +kernel
theorem dX8_readLine_7 : decode mX8_readLine.2.1 7 = .ok (.iload_n 3, 1) := by decide +kernel
theorem dX8_readLine_8 : decode mX8_readLine.2.1 8 = .ok (.invokevirtual 51, 3) := by decide +kernel
theorem dX8_readLine_11 : decode mX8_readLine.2.1 11 = .ok (.ifCond .ne 17, 3) := by decide +kernel
theorem dX8_readLine_14 : decode mX8_readLine.2.1 14 = .ok (.aload_n 0, 1) := by decide +kernel
theorem dX8_readLine_15 : decode mX8_readLine.2.1 15 = .ok (.aload_n 0, 1) := by decide +kernel
theorem dX8_readLine_16 : decode mX8_readLine.2.1 16 = .ok (.getfield 36, 3) := by decide +kernel
theorem dX8_readLine_19 : decode mX8_readLine.2.1 19 = .ok (.putfield 39, 3) := by decide +kernel
theorem dX8_readLine_22 : decode mX8_readLine.2.1 22 = .ok (.aload_n 0, 1) := by decide +kernel
theorem dX8_readLine_23 : decode mX8_readLine.2.1 23 = .ok (.iconst 1, 1) := by decide +kernel
theorem dX8_readLine_24 : decode mX8_readLine.2.1 24 = .ok (.invokevirtual 55, 3) := by decide +kernel
theorem dX8_readLine_27 : decode mX8_readLine.2.1 27 = .ok (.ireturn, 1) := by decide +kernel
theorem dX8_readLine_28 : decode mX8_readLine.2.1 28 = .ok (.aload_n 0, 1) := by decide +kernel
theorem dX8_readLine_29 : decode mX8_readLine.2.1 29 = .ok (.iconst 0, 1) := by decide +kernel
theorem dX8_readLine_30 : decode mX8_readLine.2.1 30 = .ok (.invokevirtual 59, 3) := by decide +kernel
theorem dX8_readLine_33 : decode mX8_readLine.2.1 33 = .ok (.tableswitch 121 30 46 #[85, 121, 91, 121, 97, 121, 103, 109, 115, 121, 121, 121, 121, 121, 121, 121, 83], 83) := by decide +kernel
theorem dX8_readLine_116 : decode mX8_readLine.2.1 116 = .ok (.iconst 1, 1) := by decide +kernel
theorem dX8_readLine_117 : decode mX8_readLine.2.1 117 = .ok (.ireturn, 1) := by decide +kernel
theorem dX8_readLine_118 : decode mX8_readLine.2.1 118 = .ok (.aload_n 0, 1) := by decide +kernel
theorem dX8_readLine_119 : decode mX8_readLine.2.1 119 = .ok (.aload_n 1, 1) := by decide +kernel
theorem dX8_readLine_120 : decode mX8_readLine.2.1 120 = .ok (.invokevirtual 63, 3) := by decide +kernel
theorem dX8_readLine_123 : decode mX8_readLine.2.1 123 = .ok (.ireturn, 1) := by decide +kernel
theorem dX8_readLine_124 : decode mX8_readLine.2.1 124 = .ok (.aload_n 0, 1) := by decide +kernel
theorem dX8_readLine_125 : decode mX8_readLine.2.1 125 = .ok (.aload_n 1, 1) := by decide +kernel
theorem dX8_readLine_126 : decode mX8_readLine.2.1 126 = .ok (.invokevirtual 67, 3) := by decide +kernel
theorem dX8_readLine_129 : decode mX8_readLine.2.1 129 = .ok (.ireturn, 1) := by decide +kernel
theorem dX8_readLine_130 : decode mX8_readLine.2.1 130 = .ok (.aload_n 0, 1) := by decide +kernel
theorem dX8_readLine_131 : decode mX8_readLine.2.1 131 = .ok (.aload_n 1, 1) := by decide +kernel
theorem dX8_readLine_132 : decode mX8_readLine.2.1 132 = .ok (.invokevirtual 70, 3) := by decide +kernel
theorem dX8_readLine_135 : decode mX8_readLine.2.1 135 = .ok (.ireturn, 1) := by decide +kernel
theorem dX8_readLine_136 : decode mX8_readLine.2.1 136 = .ok (.aload_n 0, 1) := by decide +kernel
theorem dX8_readLine_137 : decode mX8_readLine.2.1 137 = .ok (.aload_n 1, 1) := by decide +kernel
theorem dX8_readLine_138 : decode mX8_readLine.2.1 138 = .ok (.invokevirtual 73, 3) := by decide +kernel
theorem dX8_readLine_141 : decode mX8_readLine.2.1 141 = .ok (.ireturn, 1) := by decide +kernel
theorem dX8_readLine_142 : decode mX8_readLine.2.1 142 = .ok (.aload_n 0, 1) := by decide +kernel
theorem dX8_readLine_143 : decode mX8_readLine.2.1 143 = .ok (.aload_n 1, 1) := by decide +kernel
theorem dX8_readLine_144 : decode mX8_readLine.2.1 144 = .ok (.invokevirtual 76, 3) := by decide +kernel
theorem dX8_readLine_147 : decode mX8_readLine.2.1 147 = .ok (.ireturn, 1) := by decide +kernel
theorem dX8_readLine_148 : decode mX8_readLine.2.1 148 = .ok (.aload_n 0, 1) := by decide +kernel
theorem dX8_readLine_149 : decode mX8_readLine.2.1 149 = .ok (.aload_n 1, 1) := by decide +kernel
theorem dX8_readLine_150 : decode mX8_readLine.2.1 150 = .ok (.invokevirtual 79, 3) := by decide +kernel
theorem dX8_readLine_153 : decode mX8_readLine.2.1 153 = .ok (.ireturn, 1) := by decide +kernel
theorem dX8_readLine_154 : decode mX8_readLine.2.1 154 = .ok (.aload_n 0, 1) := by decide +kernel
theorem dX8_readLine_155 : decode mX8_readLine.2.1 155 = .ok (.iconst 2, 1) := by decide +kernel
theorem dX8_readLine_156 : decode mX8_readLine.2.1 156 = .ok (.invokevirtual 55, 3) := by decide +kernel
theorem dX8_readLine_159 : decode mX8_readLine.2.1 159 = .ok (.ireturn, 1) := by decide +kernel
theorem bX8_readLine_0 {SC : Nat → Nat} {X : mh_X} {d : Nat} {Q : Option am_V → am_W → Prop} {bc bs : Nat} {w : am_W} {j1 : Nat} {x2 : Int} {x3 : Int}
    (h : am_M (mh_G X) SC (d + 9) 0 0 mX8_findTokens [.inr (.inr (some (2, 0))), .inl x2, .inl x3] ((am_up w.1 2 0 9 0), w.2) (fun r w1 => am_A (mh_G X) SC (d + 10) mX8_readLine Q 11 [(0, .inr (.inr (some (2, 0)))), (1, .inr (.inr (some (10, j1)))), (2, .inl x2), (3, .inl x3)] (r.toList ++ []) w1 bc bs)) :
    am_A (mh_G X) SC (d + 10) mX8_readLine Q 0 [(0, .inr (.inr (some (2, 0)))), (1, .inr (.inr (some (10, j1)))), (2, .inl x2), (3, .inl x3)] [] w bc bs := by
  refine am_aload_n dX8_readLine_0 (List.Mem.head _) ?_
  refine am_iconst dX8_readLine_1 (by unfold am_rg; omega) ?_
  refine am_putf (f := 9) dX8_readLine_2 hc_1 (by decide) wd_163 rfl (Or.inl rfl) (Or.inl (by decide)) rfl ?_
  refine am_aload_n dX8_readLine_5 (List.Mem.head _) ?_
  refine am_iload_n dX8_readLine_6 (List.Mem.tail _ (List.Mem.tail _ (List.Mem.head _))) ?_
  refine am_iload_n dX8_readLine_7 (List.Mem.tail _ (List.Mem.tail _ (List.Mem.tail _ (List.Mem.head _)))) ?_
  exact am_callv (d' := d + 9) (kc := 0) (ks := 0) (as := [.inl x2, .inl x3]) dX8_readLine_8 wc_X8_findTokens wd_645 wd_647 wd_1 wd_113 ds_X8_findTokens (by decide) (by omega) (Nat.le_of_ble_eq_true rfl) (Nat.zero_le _) (Nat.zero_le _) hc_1 (by decide) rfl rfl h
theorem bX8_readLine_11 {SC : Nat → Nat} {X : mh_X} {d : Nat} {Q : Option am_V → am_W → Prop} {bc bs : Nat} {w : am_W} {j1 : Nat} {x2 : Int} {x3 : Int} {xs0 : Int}
    (h : ((¬ xs0 = 0 → ((¬ (0 : Int) < 0 → ¬ (w.1 2 0 8) ≤ (0 : Int) → ¬ 64 ≤ (0 : Int) → 0 ≤ (0 : Int)) ∧ ((¬ (0 : Int) < 0 → ¬ (w.1 2 0 8) ≤ (0 : Int) → ¬ 64 ≤ (0 : Int) → (0 : Int) < 64) ∧ ((((if (0 : Int) < 0 then 46 else (if (w.1 2 0 8) ≤ (0 : Int) then 46 else (if 64 ≤ (0 : Int) then 46 else (w.1 25 0 0)))) < 30 ∨ 46 < (if (0 : Int) < 0 then 46 else (if (w.1 2 0 8) ≤ (0 : Int) then 46 else (if 64 ≤ (0 : Int) then 46 else (w.1 25 0 0))))) → Q (some (.inl 0)) ((am_up (am_up (am_up w.1 2 0 4 (w.1 2 0 7)) 2 0 5 (am_w (((am_up w.1 2 0 4 (w.1 2 0 7)) 2 0 9) + 1))) 2 0 6 (2 : Int)), w.2)) ∧ ((if (0 : Int) < 0 then 46 else (if (w.1 2 0 8) ≤ (0 : Int) then 46 else (if 64 ≤ (0 : Int) then 46 else (w.1 25 0 0)))) = 30 → am_M (mh_G X) SC (d + 9) 0 0 mX8_readRule [.inr (.inr (some (2, 0))), .inr (.inr (some (10, j1)))] w (fun r w1 => am_A (mh_G X) SC (d + 10) mX8_readLine Q 123 [(0, .inr (.inr (some (2, 0)))), (1, .inr (.inr (some (10, j1)))), (2, .inl x2), (3, .inl x3)] (r.toList ++ []) w1 bc bs)) ∧ ((if (0 : Int) < 0 then 46 else (if (w.1 2 0 8) ≤ (0 : Int) then 46 else (if 64 ≤ (0 : Int) then 46 else (w.1 25 0 0)))) = 31 → Q (some (.inl 0)) ((am_up (am_up (am_up w.1 2 0 4 (w.1 2 0 7)) 2 0 5 (am_w (((am_up w.1 2 0 4 (w.1 2 0 7)) 2 0 9) + 1))) 2 0 6 (2 : Int)), w.2)) ∧ ((if (0 : Int) < 0 then 46 else (if (w.1 2 0 8) ≤ (0 : Int) then 46 else (if 64 ≤ (0 : Int) then 46 else (w.1 25 0 0)))) = 32 → am_M (mh_G X) SC (d + 9) 0 0 mX8_readMay [.inr (.inr (some (2, 0))), .inr (.inr (some (10, j1)))] w (fun r w1 => am_A (mh_G X) SC (d + 10) mX8_readLine Q 129 [(0, .inr (.inr (some (2, 0)))), (1, .inr (.inr (some (10, j1)))), (2, .inl x2), (3, .inl x3)] (r.toList ++ []) w1 bc bs)) ∧ ((if (0 : Int) < 0 then 46 else (if (w.1 2 0 8) ≤ (0 : Int) then 46 else (if 64 ≤ (0 : Int) then 46 else (w.1 25 0 0)))) = 33 → Q (some (.inl 0)) ((am_up (am_up (am_up w.1 2 0 4 (w.1 2 0 7)) 2 0 5 (am_w (((am_up w.1 2 0 4 (w.1 2 0 7)) 2 0 9) + 1))) 2 0 6 (2 : Int)), w.2)) ∧ ((if (0 : Int) < 0 then 46 else (if (w.1 2 0 8) ≤ (0 : Int) then 46 else (if 64 ≤ (0 : Int) then 46 else (w.1 25 0 0)))) = 34 → am_M (mh_G X) SC (d + 9) 0 0 mX8_readFeast [.inr (.inr (some (2, 0))), .inr (.inr (some (10, j1)))] w (fun r w1 => am_A (mh_G X) SC (d + 10) mX8_readLine Q 135 [(0, .inr (.inr (some (2, 0)))), (1, .inr (.inr (some (10, j1)))), (2, .inl x2), (3, .inl x3)] (r.toList ++ []) w1 bc bs)) ∧ ((if (0 : Int) < 0 then 46 else (if (w.1 2 0 8) ≤ (0 : Int) then 46 else (if 64 ≤ (0 : Int) then 46 else (w.1 25 0 0)))) = 35 → Q (some (.inl 0)) ((am_up (am_up (am_up w.1 2 0 4 (w.1 2 0 7)) 2 0 5 (am_w (((am_up w.1 2 0 4 (w.1 2 0 7)) 2 0 9) + 1))) 2 0 6 (2 : Int)), w.2)) ∧ ((if (0 : Int) < 0 then 46 else (if (w.1 2 0 8) ≤ (0 : Int) then 46 else (if 64 ≤ (0 : Int) then 46 else (w.1 25 0 0)))) = 36 → am_M (mh_G X) SC (d + 9) 0 0 mX8_readHeir [.inr (.inr (some (2, 0))), .inr (.inr (some (10, j1)))] w (fun r w1 => am_A (mh_G X) SC (d + 10) mX8_readLine Q 141 [(0, .inr (.inr (some (2, 0)))), (1, .inr (.inr (some (10, j1)))), (2, .inl x2), (3, .inl x3)] (r.toList ++ []) w1 bc bs)) ∧ ((if (0 : Int) < 0 then 46 else (if (w.1 2 0 8) ≤ (0 : Int) then 46 else (if 64 ≤ (0 : Int) then 46 else (w.1 25 0 0)))) = 37 → am_M (mh_G X) SC (d + 9) 0 0 mX8_readUnder [.inr (.inr (some (2, 0))), .inr (.inr (some (10, j1)))] w (fun r w1 => am_A (mh_G X) SC (d + 10) mX8_readLine Q 147 [(0, .inr (.inr (some (2, 0)))), (1, .inr (.inr (some (10, j1)))), (2, .inl x2), (3, .inl x3)] (r.toList ++ []) w1 bc bs)) ∧ ((if (0 : Int) < 0 then 46 else (if (w.1 2 0 8) ≤ (0 : Int) then 46 else (if 64 ≤ (0 : Int) then 46 else (w.1 25 0 0)))) = 38 → am_M (mh_G X) SC (d + 9) 0 0 mX8_readWedding [.inr (.inr (some (2, 0))), .inr (.inr (some (10, j1)))] w (fun r w1 => am_A (mh_G X) SC (d + 10) mX8_readLine Q 153 [(0, .inr (.inr (some (2, 0)))), (1, .inr (.inr (some (10, j1)))), (2, .inl x2), (3, .inl x3)] (r.toList ++ []) w1 bc bs)) ∧ ((if (0 : Int) < 0 then 46 else (if (w.1 2 0 8) ≤ (0 : Int) then 46 else (if 64 ≤ (0 : Int) then 46 else (w.1 25 0 0)))) = 39 → Q (some (.inl 0)) ((am_up (am_up (am_up w.1 2 0 4 (w.1 2 0 7)) 2 0 5 (am_w (((am_up w.1 2 0 4 (w.1 2 0 7)) 2 0 9) + 1))) 2 0 6 (2 : Int)), w.2)) ∧ ((if (0 : Int) < 0 then 46 else (if (w.1 2 0 8) ≤ (0 : Int) then 46 else (if 64 ≤ (0 : Int) then 46 else (w.1 25 0 0)))) = 40 → Q (some (.inl 0)) ((am_up (am_up (am_up w.1 2 0 4 (w.1 2 0 7)) 2 0 5 (am_w (((am_up w.1 2 0 4 (w.1 2 0 7)) 2 0 9) + 1))) 2 0 6 (2 : Int)), w.2)) ∧ ((if (0 : Int) < 0 then 46 else (if (w.1 2 0 8) ≤ (0 : Int) then 46 else (if 64 ≤ (0 : Int) then 46 else (w.1 25 0 0)))) = 41 → Q (some (.inl 0)) ((am_up (am_up (am_up w.1 2 0 4 (w.1 2 0 7)) 2 0 5 (am_w (((am_up w.1 2 0 4 (w.1 2 0 7)) 2 0 9) + 1))) 2 0 6 (2 : Int)), w.2)) ∧ ((if (0 : Int) < 0 then 46 else (if (w.1 2 0 8) ≤ (0 : Int) then 46 else (if 64 ≤ (0 : Int) then 46 else (w.1 25 0 0)))) = 42 → Q (some (.inl 0)) ((am_up (am_up (am_up w.1 2 0 4 (w.1 2 0 7)) 2 0 5 (am_w (((am_up w.1 2 0 4 (w.1 2 0 7)) 2 0 9) + 1))) 2 0 6 (2 : Int)), w.2)) ∧ ((if (0 : Int) < 0 then 46 else (if (w.1 2 0 8) ≤ (0 : Int) then 46 else (if 64 ≤ (0 : Int) then 46 else (w.1 25 0 0)))) = 43 → Q (some (.inl 0)) ((am_up (am_up (am_up w.1 2 0 4 (w.1 2 0 7)) 2 0 5 (am_w (((am_up w.1 2 0 4 (w.1 2 0 7)) 2 0 9) + 1))) 2 0 6 (2 : Int)), w.2)) ∧ ((if (0 : Int) < 0 then 46 else (if (w.1 2 0 8) ≤ (0 : Int) then 46 else (if 64 ≤ (0 : Int) then 46 else (w.1 25 0 0)))) = 44 → Q (some (.inl 0)) ((am_up (am_up (am_up w.1 2 0 4 (w.1 2 0 7)) 2 0 5 (am_w (((am_up w.1 2 0 4 (w.1 2 0 7)) 2 0 9) + 1))) 2 0 6 (2 : Int)), w.2)) ∧ ((if (0 : Int) < 0 then 46 else (if (w.1 2 0 8) ≤ (0 : Int) then 46 else (if 64 ≤ (0 : Int) then 46 else (w.1 25 0 0)))) = 45 → Q (some (.inl 0)) ((am_up (am_up (am_up w.1 2 0 4 (w.1 2 0 7)) 2 0 5 (am_w (((am_up w.1 2 0 4 (w.1 2 0 7)) 2 0 9) + 1))) 2 0 6 (2 : Int)), w.2)) ∧ ((if (0 : Int) < 0 then 46 else (if (w.1 2 0 8) ≤ (0 : Int) then 46 else (if 64 ≤ (0 : Int) then 46 else (w.1 25 0 0)))) = 46 → Q (some (.inl 1)) w))))) ∧ (xs0 = 0 → Q (some (.inl 0)) ((am_up (am_up (am_up (am_up w.1 2 0 9 (w.1 2 0 8)) 2 0 4 ((am_up w.1 2 0 9 (w.1 2 0 8)) 2 0 7)) 2 0 5 (am_w (((am_up (am_up w.1 2 0 9 (w.1 2 0 8)) 2 0 4 ((am_up w.1 2 0 9 (w.1 2 0 8)) 2 0 7)) 2 0 9) + 1))) 2 0 6 (1 : Int)), w.2)))) :
    am_A (mh_G X) SC (d + 10) mX8_readLine Q 11 [(0, .inr (.inr (some (2, 0)))), (1, .inr (.inr (some (10, j1)))), (2, .inl x2), (3, .inl x3)] [.inl xs0] w bc bs := by
  refine am_ifne (tgt := 28) dX8_readLine_11 (by decide) (fun c1 => ?_) (fun c1 => ?_)
  · replace h := h.1 c1
    refine am_aload_n dX8_readLine_28 (List.Mem.head _) ?_
    refine am_iconst dX8_readLine_29 (by unfold am_rg; omega) ?_
    have o2 := h.1
    replace h := h.2
    have o3 := h.1
    replace h := h.2
    refine am_callv (d' := d + 9) (kc := 0) (ks := 0) (as := [.inl 0]) dX8_readLine_30 wc_X8_codeAt wd_791 wd_793 wd_7 wd_113 ds_X8_codeAt (by decide) (by omega) (Nat.le_of_ble_eq_true rfl) (Nat.zero_le _) (Nat.zero_le _) hc_1 (by decide) rfl rfl (sX8_codeAt (d := d + 8) (x1 := 0) o2 o3 ?_)
    show am_A (mh_G X) SC (d + 10) mX8_readLine Q 33 [(0, .inr (.inr (some (2, 0)))), (1, .inr (.inr (some (10, j1)))), (2, .inl x2), (3, .inl x3)] [.inl (if (0 : Int) < 0 then 46 else (if (w.1 2 0 8) ≤ (0 : Int) then 46 else (if 64 ≤ (0 : Int) then 46 else (w.1 25 0 0))))] w bc bs
    by_cases c4 : ((if (0 : Int) < 0 then 46 else (if (w.1 2 0 8) ≤ (0 : Int) then 46 else (if 64 ≤ (0 : Int) then 46 else (w.1 25 0 0)))) < 30 ∨ 46 < (if (0 : Int) < 0 then 46 else (if (w.1 2 0 8) ≤ (0 : Int) then 46 else (if 64 ≤ (0 : Int) then 46 else (w.1 25 0 0)))))
    · replace h := h.1 c4
      refine am_tswOut (tgt := 154) dX8_readLine_33 c4 (by decide) ?_
      refine am_aload_n dX8_readLine_154 (List.Mem.head _) ?_
      refine am_iconst dX8_readLine_155 (by unfold am_rg; omega) ?_
      refine am_callv (d' := d + 9) (kc := 0) (ks := 0) (as := [.inl 2]) dX8_readLine_156 wc_X8_fail wd_787 wd_789 wd_6 wd_113 ds_X8_fail (by decide) (by omega) (Nat.le_of_ble_eq_true rfl) (Nat.zero_le _) (Nat.zero_le _) hc_1 (by decide) rfl rfl (sX8_fail (d := d + 8) (x1 := 2)  ?_)
      show am_A (mh_G X) SC (d + 10) mX8_readLine Q 159 [(0, .inr (.inr (some (2, 0)))), (1, .inr (.inr (some (10, j1)))), (2, .inl x2), (3, .inl x3)] [.inl 0] ((am_up (am_up (am_up w.1 2 0 4 (w.1 2 0 7)) 2 0 5 (am_w (((am_up w.1 2 0 4 (w.1 2 0 7)) 2 0 9) + 1))) 2 0 6 (2 : Int)), w.2) bc bs
      exact am_ret (r := some (.inl 0)) dX8_readLine_159 (Or.inr (Or.inl ⟨rfl, (Or.inl rfl)⟩)) rfl h
    · rcases (show (if (0 : Int) < 0 then 46 else (if (w.1 2 0 8) ≤ (0 : Int) then 46 else (if 64 ≤ (0 : Int) then 46 else (w.1 25 0 0)))) = 30 ∨ (if (0 : Int) < 0 then 46 else (if (w.1 2 0 8) ≤ (0 : Int) then 46 else (if 64 ≤ (0 : Int) then 46 else (w.1 25 0 0)))) = 31 ∨ (if (0 : Int) < 0 then 46 else (if (w.1 2 0 8) ≤ (0 : Int) then 46 else (if 64 ≤ (0 : Int) then 46 else (w.1 25 0 0)))) = 32 ∨ (if (0 : Int) < 0 then 46 else (if (w.1 2 0 8) ≤ (0 : Int) then 46 else (if 64 ≤ (0 : Int) then 46 else (w.1 25 0 0)))) = 33 ∨ (if (0 : Int) < 0 then 46 else (if (w.1 2 0 8) ≤ (0 : Int) then 46 else (if 64 ≤ (0 : Int) then 46 else (w.1 25 0 0)))) = 34 ∨ (if (0 : Int) < 0 then 46 else (if (w.1 2 0 8) ≤ (0 : Int) then 46 else (if 64 ≤ (0 : Int) then 46 else (w.1 25 0 0)))) = 35 ∨ (if (0 : Int) < 0 then 46 else (if (w.1 2 0 8) ≤ (0 : Int) then 46 else (if 64 ≤ (0 : Int) then 46 else (w.1 25 0 0)))) = 36 ∨ (if (0 : Int) < 0 then 46 else (if (w.1 2 0 8) ≤ (0 : Int) then 46 else (if 64 ≤ (0 : Int) then 46 else (w.1 25 0 0)))) = 37 ∨ (if (0 : Int) < 0 then 46 else (if (w.1 2 0 8) ≤ (0 : Int) then 46 else (if 64 ≤ (0 : Int) then 46 else (w.1 25 0 0)))) = 38 ∨ (if (0 : Int) < 0 then 46 else (if (w.1 2 0 8) ≤ (0 : Int) then 46 else (if 64 ≤ (0 : Int) then 46 else (w.1 25 0 0)))) = 39 ∨ (if (0 : Int) < 0 then 46 else (if (w.1 2 0 8) ≤ (0 : Int) then 46 else (if 64 ≤ (0 : Int) then 46 else (w.1 25 0 0)))) = 40 ∨ (if (0 : Int) < 0 then 46 else (if (w.1 2 0 8) ≤ (0 : Int) then 46 else (if 64 ≤ (0 : Int) then 46 else (w.1 25 0 0)))) = 41 ∨ (if (0 : Int) < 0 then 46 else (if (w.1 2 0 8) ≤ (0 : Int) then 46 else (if 64 ≤ (0 : Int) then 46 else (w.1 25 0 0)))) = 42 ∨ (if (0 : Int) < 0 then 46 else (if (w.1 2 0 8) ≤ (0 : Int) then 46 else (if 64 ≤ (0 : Int) then 46 else (w.1 25 0 0)))) = 43 ∨ (if (0 : Int) < 0 then 46 else (if (w.1 2 0 8) ≤ (0 : Int) then 46 else (if 64 ≤ (0 : Int) then 46 else (w.1 25 0 0)))) = 44 ∨ (if (0 : Int) < 0 then 46 else (if (w.1 2 0 8) ≤ (0 : Int) then 46 else (if 64 ≤ (0 : Int) then 46 else (w.1 25 0 0)))) = 45 ∨ (if (0 : Int) < 0 then 46 else (if (w.1 2 0 8) ≤ (0 : Int) then 46 else (if 64 ≤ (0 : Int) then 46 else (w.1 25 0 0)))) = 46 by omega) with c4 | c4 | c4 | c4 | c4 | c4 | c4 | c4 | c4 | c4 | c4 | c4 | c4 | c4 | c4 | c4 | c4
      · replace h := h.2.1 c4
        refine am_tswIn (off := 85) (tgt := 118) dX8_readLine_33 (by omega) (by omega) (by rw [c4]; decide) (by decide) ?_
        refine am_aload_n dX8_readLine_118 (List.Mem.head _) ?_
        refine am_aload_n dX8_readLine_119 (List.Mem.tail _ (List.Mem.head _)) ?_
        exact am_callv (d' := d + 9) (kc := 0) (ks := 0) (as := [.inr (.inr (some (10, j1)))]) dX8_readLine_120 wc_X8_readRule wd_795 wd_797 wd_8 wd_113 ds_X8_readRule (by decide) (by omega) (Nat.le_of_ble_eq_true rfl) (Nat.zero_le _) (Nat.zero_le _) hc_1 (by decide) rfl rfl h
      · replace h := h.2.2.1 c4
        refine am_tswIn (off := 121) (tgt := 154) dX8_readLine_33 (by omega) (by omega) (by rw [c4]; decide) (by decide) ?_
        refine am_aload_n dX8_readLine_154 (List.Mem.head _) ?_
        refine am_iconst dX8_readLine_155 (by unfold am_rg; omega) ?_
        refine am_callv (d' := d + 9) (kc := 0) (ks := 0) (as := [.inl 2]) dX8_readLine_156 wc_X8_fail wd_787 wd_789 wd_6 wd_113 ds_X8_fail (by decide) (by omega) (Nat.le_of_ble_eq_true rfl) (Nat.zero_le _) (Nat.zero_le _) hc_1 (by decide) rfl rfl (sX8_fail (d := d + 8) (x1 := 2)  ?_)
        show am_A (mh_G X) SC (d + 10) mX8_readLine Q 159 [(0, .inr (.inr (some (2, 0)))), (1, .inr (.inr (some (10, j1)))), (2, .inl x2), (3, .inl x3)] [.inl 0] ((am_up (am_up (am_up w.1 2 0 4 (w.1 2 0 7)) 2 0 5 (am_w (((am_up w.1 2 0 4 (w.1 2 0 7)) 2 0 9) + 1))) 2 0 6 (2 : Int)), w.2) bc bs
        exact am_ret (r := some (.inl 0)) dX8_readLine_159 (Or.inr (Or.inl ⟨rfl, (Or.inl rfl)⟩)) rfl h
      · replace h := h.2.2.2.1 c4
        refine am_tswIn (off := 91) (tgt := 124) dX8_readLine_33 (by omega) (by omega) (by rw [c4]; decide) (by decide) ?_
        refine am_aload_n dX8_readLine_124 (List.Mem.head _) ?_
        refine am_aload_n dX8_readLine_125 (List.Mem.tail _ (List.Mem.head _)) ?_
        exact am_callv (d' := d + 9) (kc := 0) (ks := 0) (as := [.inr (.inr (some (10, j1)))]) dX8_readLine_126 wc_X8_readMay wd_871 wd_873 wd_17 wd_113 ds_X8_readMay (by decide) (by omega) (Nat.le_of_ble_eq_true rfl) (Nat.zero_le _) (Nat.zero_le _) hc_1 (by decide) rfl rfl h
      · replace h := h.2.2.2.2.1 c4
        refine am_tswIn (off := 121) (tgt := 154) dX8_readLine_33 (by omega) (by omega) (by rw [c4]; decide) (by decide) ?_
        refine am_aload_n dX8_readLine_154 (List.Mem.head _) ?_
        refine am_iconst dX8_readLine_155 (by unfold am_rg; omega) ?_
        refine am_callv (d' := d + 9) (kc := 0) (ks := 0) (as := [.inl 2]) dX8_readLine_156 wc_X8_fail wd_787 wd_789 wd_6 wd_113 ds_X8_fail (by decide) (by omega) (Nat.le_of_ble_eq_true rfl) (Nat.zero_le _) (Nat.zero_le _) hc_1 (by decide) rfl rfl (sX8_fail (d := d + 8) (x1 := 2)  ?_)
        show am_A (mh_G X) SC (d + 10) mX8_readLine Q 159 [(0, .inr (.inr (some (2, 0)))), (1, .inr (.inr (some (10, j1)))), (2, .inl x2), (3, .inl x3)] [.inl 0] ((am_up (am_up (am_up w.1 2 0 4 (w.1 2 0 7)) 2 0 5 (am_w (((am_up w.1 2 0 4 (w.1 2 0 7)) 2 0 9) + 1))) 2 0 6 (2 : Int)), w.2) bc bs
        exact am_ret (r := some (.inl 0)) dX8_readLine_159 (Or.inr (Or.inl ⟨rfl, (Or.inl rfl)⟩)) rfl h
      · replace h := h.2.2.2.2.2.1 c4
        refine am_tswIn (off := 97) (tgt := 130) dX8_readLine_33 (by omega) (by omega) (by rw [c4]; decide) (by decide) ?_
        refine am_aload_n dX8_readLine_130 (List.Mem.head _) ?_
        refine am_aload_n dX8_readLine_131 (List.Mem.tail _ (List.Mem.head _)) ?_
        exact am_callv (d' := d + 9) (kc := 0) (ks := 0) (as := [.inr (.inr (some (10, j1)))]) dX8_readLine_132 wc_X8_readFeast wd_885 wd_887 wd_19 wd_113 ds_X8_readFeast (by decide) (by omega) (Nat.le_of_ble_eq_true rfl) (Nat.zero_le _) (Nat.zero_le _) hc_1 (by decide) rfl rfl h
      · replace h := h.2.2.2.2.2.2.1 c4
        refine am_tswIn (off := 121) (tgt := 154) dX8_readLine_33 (by omega) (by omega) (by rw [c4]; decide) (by decide) ?_
        refine am_aload_n dX8_readLine_154 (List.Mem.head _) ?_
        refine am_iconst dX8_readLine_155 (by unfold am_rg; omega) ?_
        refine am_callv (d' := d + 9) (kc := 0) (ks := 0) (as := [.inl 2]) dX8_readLine_156 wc_X8_fail wd_787 wd_789 wd_6 wd_113 ds_X8_fail (by decide) (by omega) (Nat.le_of_ble_eq_true rfl) (Nat.zero_le _) (Nat.zero_le _) hc_1 (by decide) rfl rfl (sX8_fail (d := d + 8) (x1 := 2)  ?_)
        show am_A (mh_G X) SC (d + 10) mX8_readLine Q 159 [(0, .inr (.inr (some (2, 0)))), (1, .inr (.inr (some (10, j1)))), (2, .inl x2), (3, .inl x3)] [.inl 0] ((am_up (am_up (am_up w.1 2 0 4 (w.1 2 0 7)) 2 0 5 (am_w (((am_up w.1 2 0 4 (w.1 2 0 7)) 2 0 9) + 1))) 2 0 6 (2 : Int)), w.2) bc bs
        exact am_ret (r := some (.inl 0)) dX8_readLine_159 (Or.inr (Or.inl ⟨rfl, (Or.inl rfl)⟩)) rfl h
      · replace h := h.2.2.2.2.2.2.2.1 c4
        refine am_tswIn (off := 103) (tgt := 136) dX8_readLine_33 (by omega) (by omega) (by rw [c4]; decide) (by decide) ?_
        refine am_aload_n dX8_readLine_136 (List.Mem.head _) ?_
        refine am_aload_n dX8_readLine_137 (List.Mem.tail _ (List.Mem.head _)) ?_
        exact am_callv (d' := d + 9) (kc := 0) (ks := 0) (as := [.inr (.inr (some (10, j1)))]) dX8_readLine_138 wc_X8_readHeir wd_900 wd_902 wd_20 wd_113 ds_X8_readHeir (by decide) (by omega) (Nat.le_of_ble_eq_true rfl) (Nat.zero_le _) (Nat.zero_le _) hc_1 (by decide) rfl rfl h
      · replace h := h.2.2.2.2.2.2.2.2.1 c4
        refine am_tswIn (off := 109) (tgt := 142) dX8_readLine_33 (by omega) (by omega) (by rw [c4]; decide) (by decide) ?_
        refine am_aload_n dX8_readLine_142 (List.Mem.head _) ?_
        refine am_aload_n dX8_readLine_143 (List.Mem.tail _ (List.Mem.head _)) ?_
        exact am_callv (d' := d + 9) (kc := 0) (ks := 0) (as := [.inr (.inr (some (10, j1)))]) dX8_readLine_144 wc_X8_readUnder wd_904 wd_906 wd_21 wd_113 ds_X8_readUnder (by decide) (by omega) (Nat.le_of_ble_eq_true rfl) (Nat.zero_le _) (Nat.zero_le _) hc_1 (by decide) rfl rfl h
      · replace h := h.2.2.2.2.2.2.2.2.2.1 c4
        refine am_tswIn (off := 115) (tgt := 148) dX8_readLine_33 (by omega) (by omega) (by rw [c4]; decide) (by decide) ?_
        refine am_aload_n dX8_readLine_148 (List.Mem.head _) ?_
        refine am_aload_n dX8_readLine_149 (List.Mem.tail _ (List.Mem.head _)) ?_
        exact am_callv (d' := d + 9) (kc := 0) (ks := 0) (as := [.inr (.inr (some (10, j1)))]) dX8_readLine_150 wc_X8_readWedding wd_908 wd_910 wd_22 wd_113 ds_X8_readWedding (by decide) (by omega) (Nat.le_of_ble_eq_true rfl) (Nat.zero_le _) (Nat.zero_le _) hc_1 (by decide) rfl rfl h
      · replace h := h.2.2.2.2.2.2.2.2.2.2.1 c4
        refine am_tswIn (off := 121) (tgt := 154) dX8_readLine_33 (by omega) (by omega) (by rw [c4]; decide) (by decide) ?_
        refine am_aload_n dX8_readLine_154 (List.Mem.head _) ?_
        refine am_iconst dX8_readLine_155 (by unfold am_rg; omega) ?_
        refine am_callv (d' := d + 9) (kc := 0) (ks := 0) (as := [.inl 2]) dX8_readLine_156 wc_X8_fail wd_787 wd_789 wd_6 wd_113 ds_X8_fail (by decide) (by omega) (Nat.le_of_ble_eq_true rfl) (Nat.zero_le _) (Nat.zero_le _) hc_1 (by decide) rfl rfl (sX8_fail (d := d + 8) (x1 := 2)  ?_)
        show am_A (mh_G X) SC (d + 10) mX8_readLine Q 159 [(0, .inr (.inr (some (2, 0)))), (1, .inr (.inr (some (10, j1)))), (2, .inl x2), (3, .inl x3)] [.inl 0] ((am_up (am_up (am_up w.1 2 0 4 (w.1 2 0 7)) 2 0 5 (am_w (((am_up w.1 2 0 4 (w.1 2 0 7)) 2 0 9) + 1))) 2 0 6 (2 : Int)), w.2) bc bs
        exact am_ret (r := some (.inl 0)) dX8_readLine_159 (Or.inr (Or.inl ⟨rfl, (Or.inl rfl)⟩)) rfl h
      · replace h := h.2.2.2.2.2.2.2.2.2.2.2.1 c4
        refine am_tswIn (off := 121) (tgt := 154) dX8_readLine_33 (by omega) (by omega) (by rw [c4]; decide) (by decide) ?_
        refine am_aload_n dX8_readLine_154 (List.Mem.head _) ?_
        refine am_iconst dX8_readLine_155 (by unfold am_rg; omega) ?_
        refine am_callv (d' := d + 9) (kc := 0) (ks := 0) (as := [.inl 2]) dX8_readLine_156 wc_X8_fail wd_787 wd_789 wd_6 wd_113 ds_X8_fail (by decide) (by omega) (Nat.le_of_ble_eq_true rfl) (Nat.zero_le _) (Nat.zero_le _) hc_1 (by decide) rfl rfl (sX8_fail (d := d + 8) (x1 := 2)  ?_)
        show am_A (mh_G X) SC (d + 10) mX8_readLine Q 159 [(0, .inr (.inr (some (2, 0)))), (1, .inr (.inr (some (10, j1)))), (2, .inl x2), (3, .inl x3)] [.inl 0] ((am_up (am_up (am_up w.1 2 0 4 (w.1 2 0 7)) 2 0 5 (am_w (((am_up w.1 2 0 4 (w.1 2 0 7)) 2 0 9) + 1))) 2 0 6 (2 : Int)), w.2) bc bs
        exact am_ret (r := some (.inl 0)) dX8_readLine_159 (Or.inr (Or.inl ⟨rfl, (Or.inl rfl)⟩)) rfl h
      · replace h := h.2.2.2.2.2.2.2.2.2.2.2.2.1 c4
        refine am_tswIn (off := 121) (tgt := 154) dX8_readLine_33 (by omega) (by omega) (by rw [c4]; decide) (by decide) ?_
        refine am_aload_n dX8_readLine_154 (List.Mem.head _) ?_
        refine am_iconst dX8_readLine_155 (by unfold am_rg; omega) ?_
        refine am_callv (d' := d + 9) (kc := 0) (ks := 0) (as := [.inl 2]) dX8_readLine_156 wc_X8_fail wd_787 wd_789 wd_6 wd_113 ds_X8_fail (by decide) (by omega) (Nat.le_of_ble_eq_true rfl) (Nat.zero_le _) (Nat.zero_le _) hc_1 (by decide) rfl rfl (sX8_fail (d := d + 8) (x1 := 2)  ?_)
        show am_A (mh_G X) SC (d + 10) mX8_readLine Q 159 [(0, .inr (.inr (some (2, 0)))), (1, .inr (.inr (some (10, j1)))), (2, .inl x2), (3, .inl x3)] [.inl 0] ((am_up (am_up (am_up w.1 2 0 4 (w.1 2 0 7)) 2 0 5 (am_w (((am_up w.1 2 0 4 (w.1 2 0 7)) 2 0 9) + 1))) 2 0 6 (2 : Int)), w.2) bc bs
        exact am_ret (r := some (.inl 0)) dX8_readLine_159 (Or.inr (Or.inl ⟨rfl, (Or.inl rfl)⟩)) rfl h
      · replace h := h.2.2.2.2.2.2.2.2.2.2.2.2.2.1 c4
        refine am_tswIn (off := 121) (tgt := 154) dX8_readLine_33 (by omega) (by omega) (by rw [c4]; decide) (by decide) ?_
        refine am_aload_n dX8_readLine_154 (List.Mem.head _) ?_
        refine am_iconst dX8_readLine_155 (by unfold am_rg; omega) ?_
        refine am_callv (d' := d + 9) (kc := 0) (ks := 0) (as := [.inl 2]) dX8_readLine_156 wc_X8_fail wd_787 wd_789 wd_6 wd_113 ds_X8_fail (by decide) (by omega) (Nat.le_of_ble_eq_true rfl) (Nat.zero_le _) (Nat.zero_le _) hc_1 (by decide) rfl rfl (sX8_fail (d := d + 8) (x1 := 2)  ?_)
        show am_A (mh_G X) SC (d + 10) mX8_readLine Q 159 [(0, .inr (.inr (some (2, 0)))), (1, .inr (.inr (some (10, j1)))), (2, .inl x2), (3, .inl x3)] [.inl 0] ((am_up (am_up (am_up w.1 2 0 4 (w.1 2 0 7)) 2 0 5 (am_w (((am_up w.1 2 0 4 (w.1 2 0 7)) 2 0 9) + 1))) 2 0 6 (2 : Int)), w.2) bc bs
        exact am_ret (r := some (.inl 0)) dX8_readLine_159 (Or.inr (Or.inl ⟨rfl, (Or.inl rfl)⟩)) rfl h
      · replace h := h.2.2.2.2.2.2.2.2.2.2.2.2.2.2.1 c4
        refine am_tswIn (off := 121) (tgt := 154) dX8_readLine_33 (by omega) (by omega) (by rw [c4]; decide) (by decide) ?_
        refine am_aload_n dX8_readLine_154 (List.Mem.head _) ?_
        refine am_iconst dX8_readLine_155 (by unfold am_rg; omega) ?_
        refine am_callv (d' := d + 9) (kc := 0) (ks := 0) (as := [.inl 2]) dX8_readLine_156 wc_X8_fail wd_787 wd_789 wd_6 wd_113 ds_X8_fail (by decide) (by omega) (Nat.le_of_ble_eq_true rfl) (Nat.zero_le _) (Nat.zero_le _) hc_1 (by decide) rfl rfl (sX8_fail (d := d + 8) (x1 := 2)  ?_)
        show am_A (mh_G X) SC (d + 10) mX8_readLine Q 159 [(0, .inr (.inr (some (2, 0)))), (1, .inr (.inr (some (10, j1)))), (2, .inl x2), (3, .inl x3)] [.inl 0] ((am_up (am_up (am_up w.1 2 0 4 (w.1 2 0 7)) 2 0 5 (am_w (((am_up w.1 2 0 4 (w.1 2 0 7)) 2 0 9) + 1))) 2 0 6 (2 : Int)), w.2) bc bs
        exact am_ret (r := some (.inl 0)) dX8_readLine_159 (Or.inr (Or.inl ⟨rfl, (Or.inl rfl)⟩)) rfl h
      · replace h := h.2.2.2.2.2.2.2.2.2.2.2.2.2.2.2.1 c4
        refine am_tswIn (off := 121) (tgt := 154) dX8_readLine_33 (by omega) (by omega) (by rw [c4]; decide) (by decide) ?_
        refine am_aload_n dX8_readLine_154 (List.Mem.head _) ?_
        refine am_iconst dX8_readLine_155 (by unfold am_rg; omega) ?_
        refine am_callv (d' := d + 9) (kc := 0) (ks := 0) (as := [.inl 2]) dX8_readLine_156 wc_X8_fail wd_787 wd_789 wd_6 wd_113 ds_X8_fail (by decide) (by omega) (Nat.le_of_ble_eq_true rfl) (Nat.zero_le _) (Nat.zero_le _) hc_1 (by decide) rfl rfl (sX8_fail (d := d + 8) (x1 := 2)  ?_)
        show am_A (mh_G X) SC (d + 10) mX8_readLine Q 159 [(0, .inr (.inr (some (2, 0)))), (1, .inr (.inr (some (10, j1)))), (2, .inl x2), (3, .inl x3)] [.inl 0] ((am_up (am_up (am_up w.1 2 0 4 (w.1 2 0 7)) 2 0 5 (am_w (((am_up w.1 2 0 4 (w.1 2 0 7)) 2 0 9) + 1))) 2 0 6 (2 : Int)), w.2) bc bs
        exact am_ret (r := some (.inl 0)) dX8_readLine_159 (Or.inr (Or.inl ⟨rfl, (Or.inl rfl)⟩)) rfl h
      · replace h := h.2.2.2.2.2.2.2.2.2.2.2.2.2.2.2.2.1 c4
        refine am_tswIn (off := 121) (tgt := 154) dX8_readLine_33 (by omega) (by omega) (by rw [c4]; decide) (by decide) ?_
        refine am_aload_n dX8_readLine_154 (List.Mem.head _) ?_
        refine am_iconst dX8_readLine_155 (by unfold am_rg; omega) ?_
        refine am_callv (d' := d + 9) (kc := 0) (ks := 0) (as := [.inl 2]) dX8_readLine_156 wc_X8_fail wd_787 wd_789 wd_6 wd_113 ds_X8_fail (by decide) (by omega) (Nat.le_of_ble_eq_true rfl) (Nat.zero_le _) (Nat.zero_le _) hc_1 (by decide) rfl rfl (sX8_fail (d := d + 8) (x1 := 2)  ?_)
        show am_A (mh_G X) SC (d + 10) mX8_readLine Q 159 [(0, .inr (.inr (some (2, 0)))), (1, .inr (.inr (some (10, j1)))), (2, .inl x2), (3, .inl x3)] [.inl 0] ((am_up (am_up (am_up w.1 2 0 4 (w.1 2 0 7)) 2 0 5 (am_w (((am_up w.1 2 0 4 (w.1 2 0 7)) 2 0 9) + 1))) 2 0 6 (2 : Int)), w.2) bc bs
        exact am_ret (r := some (.inl 0)) dX8_readLine_159 (Or.inr (Or.inl ⟨rfl, (Or.inl rfl)⟩)) rfl h
      · replace h := h.2.2.2.2.2.2.2.2.2.2.2.2.2.2.2.2.2 c4
        refine am_tswIn (off := 83) (tgt := 116) dX8_readLine_33 (by omega) (by omega) (by rw [c4]; decide) (by decide) ?_
        refine am_iconst dX8_readLine_116 (by unfold am_rg; omega) ?_
        exact am_ret (r := some (.inl 1)) dX8_readLine_117 (Or.inr (Or.inl ⟨rfl, (Or.inr rfl)⟩)) rfl h
  · replace h := h.2 c1
    refine am_aload_n dX8_readLine_14 (List.Mem.head _) ?_
    refine am_aload_n dX8_readLine_15 (List.Mem.head _) ?_
    refine am_getf (f := 8) (v := .inl (w.1 2 0 8)) dX8_readLine_16 hc_1 (by decide) wd_162 (by decide) rfl rfl ?_
    refine am_putf (f := 9) dX8_readLine_19 hc_1 (by decide) wd_163 rfl (Or.inl rfl) (Or.inl (by decide)) rfl ?_
    refine am_aload_n dX8_readLine_22 (List.Mem.head _) ?_
    refine am_iconst dX8_readLine_23 (by unfold am_rg; omega) ?_
    refine am_callv (d' := d + 9) (kc := 0) (ks := 0) (as := [.inl 1]) dX8_readLine_24 wc_X8_fail wd_787 wd_789 wd_6 wd_113 ds_X8_fail (by decide) (by omega) (Nat.le_of_ble_eq_true rfl) (Nat.zero_le _) (Nat.zero_le _) hc_1 (by decide) rfl rfl (sX8_fail (d := d + 8) (x1 := 1)  ?_)
    show am_A (mh_G X) SC (d + 10) mX8_readLine Q 27 [(0, .inr (.inr (some (2, 0)))), (1, .inr (.inr (some (10, j1)))), (2, .inl x2), (3, .inl x3)] [.inl 0] ((am_up (am_up (am_up (am_up w.1 2 0 9 (w.1 2 0 8)) 2 0 4 ((am_up w.1 2 0 9 (w.1 2 0 8)) 2 0 7)) 2 0 5 (am_w (((am_up (am_up w.1 2 0 9 (w.1 2 0 8)) 2 0 4 ((am_up w.1 2 0 9 (w.1 2 0 8)) 2 0 7)) 2 0 9) + 1))) 2 0 6 (1 : Int)), w.2) bc bs
    exact am_ret (r := some (.inl 0)) dX8_readLine_27 (Or.inr (Or.inl ⟨rfl, (Or.inl rfl)⟩)) rfl h
theorem bX8_readLine_123 {SC : Nat → Nat} {X : mh_X} {d : Nat} {Q : Option am_V → am_W → Prop} {bc bs : Nat} {w : am_W} {j1 : Nat} {x2 : Int} {x3 : Int} {xs0 : Int}
    (h : ((xs0 = 0 ∨ xs0 = 1) ∧ Q (some (.inl xs0)) w)) :
    am_A (mh_G X) SC (d + 10) mX8_readLine Q 123 [(0, .inr (.inr (some (2, 0)))), (1, .inr (.inr (some (10, j1)))), (2, .inl x2), (3, .inl x3)] [.inl xs0] w bc bs := by
  have o1 := h.1
  replace h := h.2
  exact am_ret (r := some (.inl xs0)) dX8_readLine_123 (Or.inr (Or.inl ⟨rfl, o1⟩)) rfl h
theorem bX8_readLine_129 {SC : Nat → Nat} {X : mh_X} {d : Nat} {Q : Option am_V → am_W → Prop} {bc bs : Nat} {w : am_W} {j1 : Nat} {x2 : Int} {x3 : Int} {xs0 : Int}
    (h : ((xs0 = 0 ∨ xs0 = 1) ∧ Q (some (.inl xs0)) w)) :
    am_A (mh_G X) SC (d + 10) mX8_readLine Q 129 [(0, .inr (.inr (some (2, 0)))), (1, .inr (.inr (some (10, j1)))), (2, .inl x2), (3, .inl x3)] [.inl xs0] w bc bs := by
  have o1 := h.1
  replace h := h.2
  exact am_ret (r := some (.inl xs0)) dX8_readLine_129 (Or.inr (Or.inl ⟨rfl, o1⟩)) rfl h
theorem bX8_readLine_135 {SC : Nat → Nat} {X : mh_X} {d : Nat} {Q : Option am_V → am_W → Prop} {bc bs : Nat} {w : am_W} {j1 : Nat} {x2 : Int} {x3 : Int} {xs0 : Int}
    (h : ((xs0 = 0 ∨ xs0 = 1) ∧ Q (some (.inl xs0)) w)) :
    am_A (mh_G X) SC (d + 10) mX8_readLine Q 135 [(0, .inr (.inr (some (2, 0)))), (1, .inr (.inr (some (10, j1)))), (2, .inl x2), (3, .inl x3)] [.inl xs0] w bc bs := by
  have o1 := h.1
  replace h := h.2
  exact am_ret (r := some (.inl xs0)) dX8_readLine_135 (Or.inr (Or.inl ⟨rfl, o1⟩)) rfl h
theorem bX8_readLine_141 {SC : Nat → Nat} {X : mh_X} {d : Nat} {Q : Option am_V → am_W → Prop} {bc bs : Nat} {w : am_W} {j1 : Nat} {x2 : Int} {x3 : Int} {xs0 : Int}
    (h : ((xs0 = 0 ∨ xs0 = 1) ∧ Q (some (.inl xs0)) w)) :
    am_A (mh_G X) SC (d + 10) mX8_readLine Q 141 [(0, .inr (.inr (some (2, 0)))), (1, .inr (.inr (some (10, j1)))), (2, .inl x2), (3, .inl x3)] [.inl xs0] w bc bs := by
  have o1 := h.1
  replace h := h.2
  exact am_ret (r := some (.inl xs0)) dX8_readLine_141 (Or.inr (Or.inl ⟨rfl, o1⟩)) rfl h
theorem bX8_readLine_147 {SC : Nat → Nat} {X : mh_X} {d : Nat} {Q : Option am_V → am_W → Prop} {bc bs : Nat} {w : am_W} {j1 : Nat} {x2 : Int} {x3 : Int} {xs0 : Int}
    (h : ((xs0 = 0 ∨ xs0 = 1) ∧ Q (some (.inl xs0)) w)) :
    am_A (mh_G X) SC (d + 10) mX8_readLine Q 147 [(0, .inr (.inr (some (2, 0)))), (1, .inr (.inr (some (10, j1)))), (2, .inl x2), (3, .inl x3)] [.inl xs0] w bc bs := by
  have o1 := h.1
  replace h := h.2
  exact am_ret (r := some (.inl xs0)) dX8_readLine_147 (Or.inr (Or.inl ⟨rfl, o1⟩)) rfl h
theorem bX8_readLine_153 {SC : Nat → Nat} {X : mh_X} {d : Nat} {Q : Option am_V → am_W → Prop} {bc bs : Nat} {w : am_W} {j1 : Nat} {x2 : Int} {x3 : Int} {xs0 : Int}
    (h : ((xs0 = 0 ∨ xs0 = 1) ∧ Q (some (.inl xs0)) w)) :
    am_A (mh_G X) SC (d + 10) mX8_readLine Q 153 [(0, .inr (.inr (some (2, 0)))), (1, .inr (.inr (some (10, j1)))), (2, .inl x2), (3, .inl x3)] [.inl xs0] w bc bs := by
  have o1 := h.1
  replace h := h.2
  exact am_ret (r := some (.inl xs0)) dX8_readLine_153 (Or.inr (Or.inl ⟨rfl, o1⟩)) rfl h
-- MourningHouse$Reader.readInto(LMourningHouse$Law;)Z
theorem dX8_readInto_0 : decode mX8_readInto.2.1 0 = .ok (.aload_n 0, 1) := by decide +kernel
theorem dX8_readInto_1 : decode mX8_readInto.2.1 1 = .ok (.iconst 0, 1) := by decide +kernel
theorem dX8_readInto_2 : decode mX8_readInto.2.1 2 = .ok (.putfield 24, 3) := by decide +kernel
theorem dX8_readInto_5 : decode mX8_readInto.2.1 5 = .ok (.aload_n 0, 1) := by decide +kernel
theorem dX8_readInto_6 : decode mX8_readInto.2.1 6 = .ok (.iconst 0, 1) := by decide +kernel
theorem dX8_readInto_7 : decode mX8_readInto.2.1 7 = .ok (.putfield 27, 3) := by decide +kernel
theorem dX8_readInto_10 : decode mX8_readInto.2.1 10 = .ok (.aload_n 0, 1) := by decide +kernel
theorem dX8_readInto_11 : decode mX8_readInto.2.1 11 = .ok (.iconst 0, 1) := by decide +kernel
theorem dX8_readInto_12 : decode mX8_readInto.2.1 12 = .ok (.putfield 30, 3) := by decide +kernel
theorem dX8_readInto_15 : decode mX8_readInto.2.1 15 = .ok (.aload_n 1, 1) := by decide +kernel
theorem dX8_readInto_16 : decode mX8_readInto.2.1 16 = .ok (.invokevirtual 42, 3) := by decide +kernel
theorem dX8_readInto_19 : decode mX8_readInto.2.1 19 = .ok (.aload_n 0, 1) := by decide +kernel
theorem dX8_readInto_20 : decode mX8_readInto.2.1 20 = .ok (.iconst 0, 1) := by decide +kernel
theorem dX8_readInto_21 : decode mX8_readInto.2.1 21 = .ok (.putfield 33, 3) := by decide +kernel
theorem dX8_readInto_24 : decode mX8_readInto.2.1 24 = .ok (.iconst 0, 1) := by decide +kernel
theorem dX8_readInto_25 : decode mX8_readInto.2.1 25 = .ok (.istore_n 2, 1) := by decide +kernel
theorem dX8_readInto_26 : decode mX8_readInto.2.1 26 = .ok (.iconst 0, 1) := by decide +kernel
theorem dX8_readInto_27 : decode mX8_readInto.2.1 27 = .ok (.istore_n 3, 1) := by decide +kernel
theorem dX8_readInto_28 : decode mX8_readInto.2.1 28 = .ok (.iload_n 3, 1) := by decide +kernel
theorem dX8_readInto_29 : decode mX8_readInto.2.1 29 = .ok (.aload_n 0, 1) := by decide +kernel
theorem dX8_readInto_30 : decode mX8_readInto.2.1 30 = .ok (.getfield 20, 3) := by decide +kernel
theorem dX8_readInto_33 : decode mX8_readInto.2.1 33 = .ok (.if_icmp .gt 54, 3) := by decide +kernel
theorem dX8_readInto_36 : decode mX8_readInto.2.1 36 = .ok (.iload_n 3, 1) := by decide +kernel
theorem dX8_readInto_37 : decode mX8_readInto.2.1 37 = .ok (.aload_n 0, 1) := by decide +kernel
theorem dX8_readInto_38 : decode mX8_readInto.2.1 38 = .ok (.getfield 20, 3) := by decide +kernel
theorem dX8_readInto_41 : decode mX8_readInto.2.1 41 = .ok (.if_icmp .eq 14, 3) := by decide +kernel
theorem dX8_readInto_44 : decode mX8_readInto.2.1 44 = .ok (.aload_n 0, 1) := by decide +kernel
theorem dX8_readInto_45 : decode mX8_readInto.2.1 45 = .ok (.getfield 9, 3) := by decide +kernel
theorem dX8_readInto_48 : decode mX8_readInto.2.1 48 = .ok (.iload_n 3, 1) := by decide +kernel
theorem dX8_readInto_49 : decode mX8_readInto.2.1 49 = .ok (.caload, 1) := by decide +kernel
theorem dX8_readInto_50 : decode mX8_readInto.2.1 50 = .ok (.bipush 10, 2) := by decide +kernel
theorem dX8_readInto_52 : decode mX8_readInto.2.1 52 = .ok (.if_icmp .ne 29, 3) := by decide +kernel
theorem dX8_readInto_55 : decode mX8_readInto.2.1 55 = .ok (.aload_n 0, 1) := by decide +kernel
theorem dX8_readInto_56 : decode mX8_readInto.2.1 56 = .ok (.dup, 1) := by decide +kernel
theorem dX8_readInto_57 : decode mX8_readInto.2.1 57 = .ok (.getfield 33, 3) := by decide +kernel
theorem dX8_readInto_60 : decode mX8_readInto.2.1 60 = .ok (.iconst 1, 1) := by decide +kernel
theorem dX8_readInto_61 : decode mX8_readInto.2.1 61 = .ok (.iadd, 1) := by decide +kernel
theorem dX8_readInto_62 : decode mX8_readInto.2.1 62 = .ok (.putfield 33, 3) := by decide +kernel
theorem dX8_readInto_65 : decode mX8_readInto.2.1 65 = .ok (.aload_n 0, 1) := by decide +kernel
theorem dX8_readInto_66 : decode mX8_readInto.2.1 66 = .ok (.aload_n 1, 1) := by decide +kernel
theorem dX8_readInto_67 : decode mX8_readInto.2.1 67 = .ok (.iload_n 2, 1) := by decide +kernel
theorem dX8_readInto_68 : decode mX8_readInto.2.1 68 = .ok (.iload_n 3, 1) := by decide +kernel
theorem dX8_readInto_69 : decode mX8_readInto.2.1 69 = .ok (.invokevirtual 47, 3) := by decide +kernel
theorem dX8_readInto_72 : decode mX8_readInto.2.1 72 = .ok (.ifCond .ne 5, 3) := by decide +kernel
theorem dX8_readInto_75 : decode mX8_readInto.2.1 75 = .ok (.iconst 0, 1) := by decide +kernel
theorem dX8_readInto_76 : decode mX8_readInto.2.1 76 = .ok (.ireturn, 1) := by decide +kernel
theorem dX8_readInto_77 : decode mX8_readInto.2.1 77 = .ok (.iload_n 3, 1) := by decide +kernel
theorem dX8_readInto_78 : decode mX8_readInto.2.1 78 = .ok (.iconst 1, 1) := by decide +kernel
theorem dX8_readInto_79 : decode mX8_readInto.2.1 79 = .ok (.iadd, 1) := by decide +kernel
theorem dX8_readInto_80 : decode mX8_readInto.2.1 80 = .ok (.istore_n 2, 1) := by decide +kernel
theorem dX8_readInto_81 : decode mX8_readInto.2.1 81 = .ok (.iinc 3 1, 3) := by decide +kernel
theorem dX8_readInto_84 : decode mX8_readInto.2.1 84 = .ok (.goto (-56), 3) := by decide +kernel
theorem dX8_readInto_87 : decode mX8_readInto.2.1 87 = .ok (.iconst 1, 1) := by decide +kernel
theorem dX8_readInto_88 : decode mX8_readInto.2.1 88 = .ok (.ireturn, 1) := by decide +kernel
theorem bX8_readInto_0 {SC : Nat → Nat} {X : mh_X} {d : Nat} {Q : Option am_V → am_W → Prop} {bc bs : Nat} {w : am_W} {j1 : Nat}
    (h : am_M (mh_G X) SC (d + 10) 0 0 mX3_clear [.inr (.inr (some (10, j1)))] ((am_up (am_up (am_up w.1 2 0 4 0) 2 0 5 0) 2 0 6 0), w.2) (fun r w1 => am_A (mh_G X) SC (d + 11) mX8_readInto Q 19 [(0, .inr (.inr (some (2, 0)))), (1, .inr (.inr (some (10, j1))))] (r.toList ++ []) w1 bc bs)) :
    am_A (mh_G X) SC (d + 11) mX8_readInto Q 0 [(0, .inr (.inr (some (2, 0)))), (1, .inr (.inr (some (10, j1))))] [] w bc bs := by
  refine am_aload_n dX8_readInto_0 (List.Mem.head _) ?_
  refine am_iconst dX8_readInto_1 (by unfold am_rg; omega) ?_
  refine am_putf (f := 4) dX8_readInto_2 hc_1 (by decide) wd_155 rfl (Or.inl rfl) (Or.inl (by decide)) rfl ?_
  refine am_aload_n dX8_readInto_5 (List.Mem.head _) ?_
  refine am_iconst dX8_readInto_6 (by unfold am_rg; omega) ?_
  refine am_putf (f := 5) dX8_readInto_7 hc_1 (by decide) wd_157 rfl (Or.inl rfl) (Or.inl (by decide)) rfl ?_
  refine am_aload_n dX8_readInto_10 (List.Mem.head _) ?_
  refine am_iconst dX8_readInto_11 (by unfold am_rg; omega) ?_
  refine am_putf (f := 6) dX8_readInto_12 hc_1 (by decide) wd_159 rfl (Or.inl rfl) (Or.inl (by decide)) rfl ?_
  refine am_aload_n dX8_readInto_15 (List.Mem.tail _ (List.Mem.head _)) ?_
  exact am_callv (d' := d + 10) (kc := 0) (ks := 0) (as := []) dX8_readInto_16 wc_X3_clear wd_637 wd_638 wd_639 wd_116 ds_X3_clear (by decide) (by omega) (Nat.le_of_ble_eq_true rfl) (Nat.zero_le _) (Nat.zero_le _) hc_4 (by decide) rfl rfl h
theorem bX8_readInto_19 {SC : Nat → Nat} {X : mh_X} {d : Nat} {Q : Option am_V → am_W → Prop} {bc bs : Nat} {w : am_W} {j1 : Nat}
    (h : am_A (mh_G X) SC (d + 11) mX8_readInto Q 28 [(0, .inr (.inr (some (2, 0)))), (1, .inr (.inr (some (10, j1)))), (2, .inl 0), (3, .inl 0)] [] ((am_up w.1 2 0 7 0), w.2) bc bs) :
    am_A (mh_G X) SC (d + 11) mX8_readInto Q 19 [(0, .inr (.inr (some (2, 0)))), (1, .inr (.inr (some (10, j1))))] [] w bc bs := by
  refine am_aload_n dX8_readInto_19 (List.Mem.head _) ?_
  refine am_iconst dX8_readInto_20 (by unfold am_rg; omega) ?_
  refine am_putf (f := 7) dX8_readInto_21 hc_1 (by decide) wd_161 rfl (Or.inl rfl) (Or.inl (by decide)) rfl ?_
  refine am_iconst dX8_readInto_24 (by unfold am_rg; omega) ?_
  refine am_istore_n (ls' := [(2, .inl 0), (0, .inr (.inr (some (2, 0)))), (1, .inr (.inr (some (10, j1))))]) dX8_readInto_25 (by decide) rfl ?_
  refine am_iconst dX8_readInto_26 (by unfold am_rg; omega) ?_
  refine am_istore_n (ls' := [(3, .inl 0), (2, .inl 0), (0, .inr (.inr (some (2, 0)))), (1, .inr (.inr (some (10, j1))))]) dX8_readInto_27 (by decide) rfl ?_
  exact am_sub [2, 3, 1, 0] rfl h
theorem bX8_readInto_28 {SC : Nat → Nat} {X : mh_X} {d : Nat} {Q : Option am_V → am_W → Prop} {bc bs : Nat} {w : am_W} {j1 : Nat} {x2 : Int} {x3 : Int}
    (h : (((w.1 2 0 3) < x3 → Q (some (.inl 1)) w) ∧ (¬ (w.1 2 0 3) < x3 → ((x3 = (w.1 2 0 3) → am_A (mh_G X) SC (d + 11) mX8_readInto Q 55 [(0, .inr (.inr (some (2, 0)))), (1, .inr (.inr (some (10, j1)))), (2, .inl x2), (3, .inl x3)] [] w bc bs) ∧ (¬ x3 = (w.1 2 0 3) → (0 ≤ x3 ∧ (x3 < 3000 ∧ ((¬ (w.1 24 0 x3.toNat) = 10 → am_A (mh_G X) SC (d + 11) mX8_readInto Q 81 [(0, .inr (.inr (some (2, 0)))), (1, .inr (.inr (some (10, j1)))), (2, .inl x2), (3, .inl x3)] [] w bc bs) ∧ ((w.1 24 0 x3.toNat) = 10 → am_A (mh_G X) SC (d + 11) mX8_readInto Q 55 [(0, .inr (.inr (some (2, 0)))), (1, .inr (.inr (some (10, j1)))), (2, .inl x2), (3, .inl x3)] [] w bc bs))))))))) :
    am_A (mh_G X) SC (d + 11) mX8_readInto Q 28 [(0, .inr (.inr (some (2, 0)))), (1, .inr (.inr (some (10, j1)))), (2, .inl x2), (3, .inl x3)] [] w bc bs := by
  refine am_iload_n dX8_readInto_28 (List.Mem.tail _ (List.Mem.tail _ (List.Mem.tail _ (List.Mem.head _)))) ?_
  refine am_aload_n dX8_readInto_29 (List.Mem.head _) ?_
  refine am_getf (f := 3) (v := .inl (w.1 2 0 3)) dX8_readInto_30 hc_1 (by decide) wd_153 (by decide) rfl rfl ?_
  refine am_icmpgt (tgt := 87) dX8_readInto_33 (by decide) (fun c1 => ?_) (fun c1 => ?_)
  · replace h := h.1 c1
    refine am_iconst dX8_readInto_87 (by unfold am_rg; omega) ?_
    exact am_ret (r := some (.inl 1)) dX8_readInto_88 (Or.inr (Or.inl ⟨rfl, (Or.inr rfl)⟩)) rfl h
  · replace h := h.2 c1
    refine am_iload_n dX8_readInto_36 (List.Mem.tail _ (List.Mem.tail _ (List.Mem.tail _ (List.Mem.head _)))) ?_
    refine am_aload_n dX8_readInto_37 (List.Mem.head _) ?_
    refine am_getf (f := 3) (v := .inl (w.1 2 0 3)) dX8_readInto_38 hc_1 (by decide) wd_153 (by decide) rfl rfl ?_
    refine am_icmpeq (tgt := 55) dX8_readInto_41 (by decide) (fun c2 => ?_) (fun c2 => ?_)
    · replace h := h.1 c2
      exact h
    · replace h := h.2 c2
      refine am_aload_n dX8_readInto_44 (List.Mem.head _) ?_
      refine am_getf (f := 0) (v := .inr (.inr (some (24, 0)))) dX8_readInto_45 hc_1 (by decide) wd_150 (by decide) rfl rfl ?_
      refine am_iload_n dX8_readInto_48 (List.Mem.tail _ (List.Mem.tail _ (List.Mem.tail _ (List.Mem.head _)))) ?_
      have o3 := h.1
      replace h := h.2
      have o4 := h.1
      replace h := h.2
      refine am_caload (v := (w.1 24 0 x3.toNat)) dX8_readInto_49 (by decide) rfl o3 o4 rfl ?_
      refine am_bipush dX8_readInto_50 (by decide) (by unfold am_rg; omega) ?_
      refine am_icmpne (tgt := 81) dX8_readInto_52 (by decide) (fun c5 => ?_) (fun c5 => ?_)
      · replace h := h.1 c5
        exact h
      · replace h := h.2 c5
        exact h
theorem bX8_readInto_55 {SC : Nat → Nat} {X : mh_X} {d : Nat} {Q : Option am_V → am_W → Prop} {bc bs : Nat} {w : am_W} {j1 : Nat} {x2 : Int} {x3 : Int}
    (h : am_M (mh_G X) SC (d + 10) 0 0 mX8_readLine [.inr (.inr (some (2, 0))), .inr (.inr (some (10, j1))), .inl x2, .inl x3] ((am_up w.1 2 0 7 (am_w ((w.1 2 0 7) + 1))), w.2) (fun r w1 => am_A (mh_G X) SC (d + 11) mX8_readInto Q 72 [(0, .inr (.inr (some (2, 0)))), (1, .inr (.inr (some (10, j1)))), (2, .inl x2), (3, .inl x3)] (r.toList ++ []) w1 bc bs)) :
    am_A (mh_G X) SC (d + 11) mX8_readInto Q 55 [(0, .inr (.inr (some (2, 0)))), (1, .inr (.inr (some (10, j1)))), (2, .inl x2), (3, .inl x3)] [] w bc bs := by
  refine am_aload_n dX8_readInto_55 (List.Mem.head _) ?_
  refine am_dup dX8_readInto_56 rfl ?_
  refine am_getf (f := 7) (v := .inl (w.1 2 0 7)) dX8_readInto_57 hc_1 (by decide) wd_161 (by decide) rfl rfl ?_
  refine am_iconst dX8_readInto_60 (by unfold am_rg; omega) ?_
  refine am_iadd dX8_readInto_61 ?_
  refine am_putf (f := 7) dX8_readInto_62 hc_1 (by decide) wd_161 rfl (Or.inl rfl) (Or.inl (by decide)) rfl ?_
  refine am_aload_n dX8_readInto_65 (List.Mem.head _) ?_
  refine am_aload_n dX8_readInto_66 (List.Mem.tail _ (List.Mem.head _)) ?_
  refine am_iload_n dX8_readInto_67 (List.Mem.tail _ (List.Mem.tail _ (List.Mem.head _))) ?_
  refine am_iload_n dX8_readInto_68 (List.Mem.tail _ (List.Mem.tail _ (List.Mem.tail _ (List.Mem.head _)))) ?_
  exact am_callv (d' := d + 10) (kc := 0) (ks := 0) (as := [.inr (.inr (some (10, j1))), .inl x2, .inl x3]) dX8_readInto_69 wc_X8_readLine wd_641 wd_643 wd_0 wd_113 ds_X8_readLine (by decide) (by omega) (Nat.le_of_ble_eq_true rfl) (Nat.zero_le _) (Nat.zero_le _) hc_1 (by decide) rfl rfl h
theorem bX8_readInto_81 {SC : Nat → Nat} {X : mh_X} {d : Nat} {Q : Option am_V → am_W → Prop} {bc bs : Nat} {w : am_W} {j1 : Nat} {x2 : Int} {x3 : Int}
    (h : am_A (mh_G X) SC (d + 11) mX8_readInto Q 28 [(0, .inr (.inr (some (2, 0)))), (1, .inr (.inr (some (10, j1)))), (2, .inl x2), (3, .inl (am_w (x3 + 1)))] [] w bc bs) :
    am_A (mh_G X) SC (d + 11) mX8_readInto Q 81 [(0, .inr (.inr (some (2, 0)))), (1, .inr (.inr (some (10, j1)))), (2, .inl x2), (3, .inl x3)] [] w bc bs := by
  refine am_iinc (ls' := [(3, .inl (am_w (x3 + 1))), (0, .inr (.inr (some (2, 0)))), (1, .inr (.inr (some (10, j1)))), (2, .inl x2)]) dX8_readInto_81 (List.Mem.tail _ (List.Mem.tail _ (List.Mem.tail _ (List.Mem.head _)))) (by decide) rfl ?_
  refine am_goto (tgt := 28) dX8_readInto_84 (by decide) ?_
  exact am_sub [1, 2, 3, 0] rfl h
theorem bX8_readInto_72 {SC : Nat → Nat} {X : mh_X} {d : Nat} {Q : Option am_V → am_W → Prop} {bc bs : Nat} {w : am_W} {j1 : Nat} {x2 : Int} {x3 : Int} {xs0 : Int}
    (h : ((¬ xs0 = 0 → am_A (mh_G X) SC (d + 11) mX8_readInto Q 81 [(0, .inr (.inr (some (2, 0)))), (1, .inr (.inr (some (10, j1)))), (2, .inl (am_w (x3 + 1))), (3, .inl x3)] [] w bc bs) ∧ (xs0 = 0 → Q (some (.inl 0)) w))) :
    am_A (mh_G X) SC (d + 11) mX8_readInto Q 72 [(0, .inr (.inr (some (2, 0)))), (1, .inr (.inr (some (10, j1)))), (2, .inl x2), (3, .inl x3)] [.inl xs0] w bc bs := by
  refine am_ifne (tgt := 77) dX8_readInto_72 (by decide) (fun c1 => ?_) (fun c1 => ?_)
  · replace h := h.1 c1
    refine am_iload_n dX8_readInto_77 (List.Mem.tail _ (List.Mem.tail _ (List.Mem.tail _ (List.Mem.head _)))) ?_
    refine am_iconst dX8_readInto_78 (by unfold am_rg; omega) ?_
    refine am_iadd dX8_readInto_79 ?_
    refine am_istore_n (ls' := [(2, .inl (am_w (x3 + 1))), (0, .inr (.inr (some (2, 0)))), (1, .inr (.inr (some (10, j1)))), (3, .inl x3)]) dX8_readInto_80 (by decide) rfl ?_
    exact am_sub [1, 2, 0, 3] rfl h
  · replace h := h.2 c1
    refine am_iconst dX8_readInto_75 (by unfold am_rg; omega) ?_
    exact am_ret (r := some (.inl 0)) dX8_readInto_76 (Or.inr (Or.inl ⟨rfl, (Or.inl rfl)⟩)) rfl h
-- MourningHouse$Wardrobe.has(I)Z
theorem dX9_has_0 : decode mX9_has.2.1 0 = .ok (.iload_n 1, 1) := by decide +kernel
theorem dX9_has_1 : decode mX9_has.2.1 1 = .ok (.ifCond .lt 15, 3) := by decide +kernel
theorem dX9_has_4 : decode mX9_has.2.1 4 = .ok (.iload_n 1, 1) := by decide +kernel
theorem dX9_has_5 : decode mX9_has.2.1 5 = .ok (.aload_n 0, 1) := by decide +kernel
theorem dX9_has_6 : decode mX9_has.2.1 6 = .ok (.getfield 37, 3) := by decide +kernel
theorem dX9_has_9 : decode mX9_has.2.1 9 = .ok (.if_icmp .ge 7, 3) := by decide +kernel
theorem dX9_has_12 : decode mX9_has.2.1 12 = .ok (.iconst 1, 1) := by decide +kernel
theorem dX9_has_13 : decode mX9_has.2.1 13 = .ok (.goto 4, 3) := by decide +kernel
theorem dX9_has_16 : decode mX9_has.2.1 16 = .ok (.iconst 0, 1) := by decide +kernel
theorem dX9_has_17 : decode mX9_has.2.1 17 = .ok (.ireturn, 1) := by decide +kernel
theorem sX9_has {SC : Nat → Nat} {X : mh_X} {d kc ks : Nat} {Q : Option am_V → am_W → Prop} {w : am_W} {x1 : Int}
    (h : Q (some (.inl (if (¬ x1 < 0 ∧ (¬ (w.1 7 0 8) ≤ x1)) then 1 else 0))) w) : am_M (mh_G X) SC (d + 1) kc ks mX9_has [.inr (.inr (some (7, 0))), .inl x1] w Q := by
  refine am_M_of (by decide) (Nat.le_of_ble_eq_true rfl) ?_
  show am_A (mh_G X) SC (d + 1) mX9_has Q 0 [(0, .inr (.inr (some (7, 0)))), (1, .inl x1)] [] w kc ks
  refine am_iload_n dX9_has_0 (List.Mem.tail _ (List.Mem.head _)) ?_
  refine am_iflt (tgt := 16) dX9_has_1 (by decide) (fun c1 => ?_) (fun c1 => ?_)
  · refine am_iconst dX9_has_16 (by unfold am_rg; omega) ?_
    rw [if_neg (by omega)] at h
    exact am_ret (r := some (.inl 0)) dX9_has_17 (Or.inr (Or.inl ⟨rfl, (Or.inl rfl)⟩)) rfl h
  · refine am_iload_n dX9_has_4 (List.Mem.tail _ (List.Mem.head _)) ?_
    refine am_aload_n dX9_has_5 (List.Mem.head _) ?_
    refine am_getf (f := 8) (v := .inl (w.1 7 0 8)) dX9_has_6 hc_8 (by decide) wd_488 (by decide) rfl rfl ?_
    refine am_icmpge (tgt := 16) dX9_has_9 (by decide) (fun c2 => ?_) (fun c2 => ?_)
    · refine am_iconst dX9_has_16 (by unfold am_rg; omega) ?_
      rw [if_neg (by omega)] at h
      exact am_ret (r := some (.inl 0)) dX9_has_17 (Or.inr (Or.inl ⟨rfl, (Or.inl rfl)⟩)) rfl h
    · refine am_iconst dX9_has_12 (by unfold am_rg; omega) ?_
      refine am_goto (tgt := 17) dX9_has_13 (by decide) ?_
      rw [if_pos (by omega)] at h
      exact am_ret (r := some (.inl 1)) dX9_has_17 (Or.inr (Or.inl ⟨rfl, (Or.inr rfl)⟩)) rfl h
-- MourningHouse$Wardrobe.canBe(II)Z
theorem dX9_canBe_0 : decode mX9_canBe.2.1 0 = .ok (.iload_n 0, 1) := by decide +kernel
theorem dX9_canBe_1 : decode mX9_canBe.2.1 1 = .ok (.ifCond .lt 21, 3) := by decide +kernel
theorem dX9_canBe_4 : decode mX9_canBe.2.1 4 = .ok (.iload_n 0, 1) := by decide +kernel
theorem dX9_canBe_5 : decode mX9_canBe.2.1 5 = .ok (.iconst 4, 1) := by decide +kernel
theorem dX9_canBe_6 : decode mX9_canBe.2.1 6 = .ok (.if_icmp .gt 16, 3) := by decide +kernel
theorem dX9_canBe_9 : decode mX9_canBe.2.1 9 = .ok (.iload_n 1, 1) := by decide +kernel
theorem dX9_canBe_10 : decode mX9_canBe.2.1 10 = .ok (.ifCond .lt 12, 3) := by decide +kernel
theorem dX9_canBe_13 : decode mX9_canBe.2.1 13 = .ok (.iload_n 1, 1) := by decide +kernel
theorem dX9_canBe_14 : decode mX9_canBe.2.1 14 = .ok (.iconst 4, 1) := by decide +kernel
theorem dX9_canBe_15 : decode mX9_canBe.2.1 15 = .ok (.if_icmp .gt 7, 3) := by decide +kernel
theorem dX9_canBe_18 : decode mX9_canBe.2.1 18 = .ok (.iconst 1, 1) := by decide +kernel
theorem dX9_canBe_19 : decode mX9_canBe.2.1 19 = .ok (.goto 4, 3) := by decide +kernel
theorem dX9_canBe_22 : decode mX9_canBe.2.1 22 = .ok (.iconst 0, 1) := by decide +kernel
theorem dX9_canBe_23 : decode mX9_canBe.2.1 23 = .ok (.ireturn, 1) := by decide +kernel
theorem sX9_canBe {SC : Nat → Nat} {X : mh_X} {d kc ks : Nat} {Q : Option am_V → am_W → Prop} {w : am_W} {x0 : Int} {x1 : Int}
    (h : Q (some (.inl (if (¬ x0 < 0 ∧ (¬ 4 < x0 ∧ (¬ x1 < 0 ∧ (¬ 4 < x1)))) then 1 else 0))) w) : am_M (mh_G X) SC (d + 1) kc ks mX9_canBe [.inl x0, .inl x1] w Q := by
  refine am_M_of (by decide) (Nat.le_of_ble_eq_true rfl) ?_
  show am_A (mh_G X) SC (d + 1) mX9_canBe Q 0 [(0, .inl x0), (1, .inl x1)] [] w kc ks
  refine am_iload_n dX9_canBe_0 (List.Mem.head _) ?_
  refine am_iflt (tgt := 22) dX9_canBe_1 (by decide) (fun c1 => ?_) (fun c1 => ?_)
  · refine am_iconst dX9_canBe_22 (by unfold am_rg; omega) ?_
    rw [if_neg (by omega)] at h
    exact am_ret (r := some (.inl 0)) dX9_canBe_23 (Or.inr (Or.inl ⟨rfl, (Or.inl rfl)⟩)) rfl h
  · refine am_iload_n dX9_canBe_4 (List.Mem.head _) ?_
    refine am_iconst dX9_canBe_5 (by unfold am_rg; omega) ?_
    refine am_icmpgt (tgt := 22) dX9_canBe_6 (by decide) (fun c2 => ?_) (fun c2 => ?_)
    · refine am_iconst dX9_canBe_22 (by unfold am_rg; omega) ?_
      rw [if_neg (by omega)] at h
      exact am_ret (r := some (.inl 0)) dX9_canBe_23 (Or.inr (Or.inl ⟨rfl, (Or.inl rfl)⟩)) rfl h
    · refine am_iload_n dX9_canBe_9 (List.Mem.tail _ (List.Mem.head _)) ?_
      refine am_iflt (tgt := 22) dX9_canBe_10 (by decide) (fun c3 => ?_) (fun c3 => ?_)
      · refine am_iconst dX9_canBe_22 (by unfold am_rg; omega) ?_
        rw [if_neg (by omega)] at h
        exact am_ret (r := some (.inl 0)) dX9_canBe_23 (Or.inr (Or.inl ⟨rfl, (Or.inl rfl)⟩)) rfl h
      · refine am_iload_n dX9_canBe_13 (List.Mem.tail _ (List.Mem.head _)) ?_
        refine am_iconst dX9_canBe_14 (by unfold am_rg; omega) ?_
        refine am_icmpgt (tgt := 22) dX9_canBe_15 (by decide) (fun c4 => ?_) (fun c4 => ?_)
        · refine am_iconst dX9_canBe_22 (by unfold am_rg; omega) ?_
          rw [if_neg (by omega)] at h
          exact am_ret (r := some (.inl 0)) dX9_canBe_23 (Or.inr (Or.inl ⟨rfl, (Or.inl rfl)⟩)) rfl h
        · refine am_iconst dX9_canBe_18 (by unfold am_rg; omega) ?_
          refine am_goto (tgt := 23) dX9_canBe_19 (by decide) ?_
          rw [if_pos (by omega)] at h
          exact am_ret (r := some (.inl 1)) dX9_canBe_23 (Or.inr (Or.inl ⟨rfl, (Or.inr rfl)⟩)) rfl h
-- MourningHouse$Wardrobe.canHang(II)Z
theorem dX9_canHang_0 : decode mX9_canHang.2.1 0 = .ok (.iload_n 1, 1) := by decide +kernel
theorem dX9_canHang_1 : decode mX9_canHang.2.1 1 = .ok (.iload_n 2, 1) := by decide +kernel
theorem dX9_canHang_2 : decode mX9_canHang.2.1 2 = .ok (.invokestatic 50, 3) := by decide +kernel
theorem dX9_canHang_5 : decode mX9_canHang.2.1 5 = .ok (.ifCond .eq 21, 3) := by decide +kernel
theorem dX9_canHang_8 : decode mX9_canHang.2.1 8 = .ok (.aload_n 0, 1) := by decide +kernel
theorem dX9_canHang_9 : decode mX9_canHang.2.1 9 = .ok (.getfield 37, 3) := by decide +kernel
theorem dX9_canHang_12 : decode mX9_canHang.2.1 12 = .ok (.aload_n 0, 1) := by decide +kernel
theorem dX9_canHang_13 : decode mX9_canHang.2.1 13 = .ok (.getfield 47, 3) := by decide +kernel
theorem dX9_canHang_16 : decode mX9_canHang.2.1 16 = .ok (.iadd, 1) := by decide +kernel
theorem dX9_canHang_17 : decode mX9_canHang.2.1 17 = .ok (.bipush 40, 2) := by decide +kernel
theorem dX9_canHang_19 : decode mX9_canHang.2.1 19 = .ok (.if_icmp .ge 7, 3) := by decide +kernel
theorem dX9_canHang_22 : decode mX9_canHang.2.1 22 = .ok (.iconst 1, 1) := by decide +kernel
theorem dX9_canHang_23 : decode mX9_canHang.2.1 23 = .ok (.goto 4, 3) := by decide +kernel
theorem dX9_canHang_26 : decode mX9_canHang.2.1 26 = .ok (.iconst 0, 1) := by decide +kernel
theorem dX9_canHang_27 : decode mX9_canHang.2.1 27 = .ok (.ireturn, 1) := by decide +kernel
theorem sX9_canHang {SC : Nat → Nat} {X : mh_X} {d kc ks : Nat} {Q : Option am_V → am_W → Prop} {w : am_W} {x1 : Int} {x2 : Int}
    (h : Q (some (.inl (if ((¬ x1 < 0 ∧ (¬ 4 < x1 ∧ (¬ x2 < 0 ∧ (¬ 4 < x2)))) ∧ (¬ 40 ≤ (am_w ((w.1 7 0 8) + (w.1 7 0 11))))) then 1 else 0))) w) : am_M (mh_G X) SC (d + 2) kc ks mX9_canHang [.inr (.inr (some (7, 0))), .inl x1, .inl x2] w Q := by
  refine am_M_of (by decide) (Nat.le_of_ble_eq_true rfl) ?_
  show am_A (mh_G X) SC (d + 2) mX9_canHang Q 0 [(0, .inr (.inr (some (7, 0)))), (1, .inl x1), (2, .inl x2)] [] w kc ks
  refine am_iload_n dX9_canHang_0 (List.Mem.tail _ (List.Mem.head _)) ?_
  refine am_iload_n dX9_canHang_1 (List.Mem.tail _ (List.Mem.tail _ (List.Mem.head _))) ?_
  refine am_calls (d' := d + 1) (kc := 0) (ks := 0) (as := [.inl x1, .inl x2]) dX9_canHang_2 wc_X9_canBe wd_1353 wd_1354 wd_120 ds_X9_canBe (by decide) (by omega) (Nat.le_of_ble_eq_true rfl) (Nat.zero_le _) (Nat.zero_le _) rfl (sX9_canBe (d := d + 0) (x0 := x1) (x1 := x2)  ?_)
  show am_A (mh_G X) SC (d + 2) mX9_canHang Q 5 [(0, .inr (.inr (some (7, 0)))), (1, .inl x1), (2, .inl x2)] [.inl (if (¬ x1 < 0 ∧ (¬ 4 < x1 ∧ (¬ x2 < 0 ∧ (¬ 4 < x2)))) then 1 else 0)] w kc ks
  refine am_ifeq (tgt := 26) dX9_canHang_5 (by decide) (fun c1 => ?_) (fun c1 => ?_)
  · replace c1 := am_beq1 c1
    refine am_iconst dX9_canHang_26 (by unfold am_rg; omega) ?_
    rw [if_neg (by omega)] at h
    exact am_ret (r := some (.inl 0)) dX9_canHang_27 (Or.inr (Or.inl ⟨rfl, (Or.inl rfl)⟩)) rfl h
  · replace c1 := am_beq2 c1
    refine am_aload_n dX9_canHang_8 (List.Mem.head _) ?_
    refine am_getf (f := 8) (v := .inl (w.1 7 0 8)) dX9_canHang_9 hc_8 (by decide) wd_488 (by decide) rfl rfl ?_
    refine am_aload_n dX9_canHang_12 (List.Mem.head _) ?_
    refine am_getf (f := 11) (v := .inl (w.1 7 0 11)) dX9_canHang_13 hc_8 (by decide) wd_496 (by decide) rfl rfl ?_
    refine am_iadd dX9_canHang_16 ?_
    refine am_bipush dX9_canHang_17 (by decide) (by unfold am_rg; omega) ?_
    refine am_icmpge (tgt := 26) dX9_canHang_19 (by decide) (fun c2 => ?_) (fun c2 => ?_)
    · refine am_iconst dX9_canHang_26 (by unfold am_rg; omega) ?_
      rw [if_neg (by omega)] at h
      exact am_ret (r := some (.inl 0)) dX9_canHang_27 (Or.inr (Or.inl ⟨rfl, (Or.inl rfl)⟩)) rfl h
    · refine am_iconst dX9_canHang_22 (by unfold am_rg; omega) ?_
      refine am_goto (tgt := 27) dX9_canHang_23 (by decide) ?_
      rw [if_pos (by omega)] at h
      exact am_ret (r := some (.inl 1)) dX9_canHang_27 (Or.inr (Or.inl ⟨rfl, (Or.inr rfl)⟩)) rfl h
-- MourningHouse$Wardrobe.hang(II)I
theorem dX9_hang_0 : decode mX9_hang.2.1 0 = .ok (.aload_n 0, 1) := by decide +kernel
theorem dX9_hang_1 : decode mX9_hang.2.1 1 = .ok (.getfield 11, 3) := by decide +kernel
theorem dX9_hang_4 : decode mX9_hang.2.1 4 = .ok (.aload_n 0, 1) := by decide +kernel
theorem dX9_hang_5 : decode mX9_hang.2.1 5 = .ok (.getfield 37, 3) := by decide +kernel
theorem dX9_hang_8 : decode mX9_hang.2.1 8 = .ok (.iload_n 1, 1) := by decide +kernel
theorem dX9_hang_9 : decode mX9_hang.2.1 9 = .ok (.iastore, 1) := by decide +kernel
theorem dX9_hang_10 : decode mX9_hang.2.1 10 = .ok (.aload_n 0, 1) := by decide +kernel
theorem dX9_hang_11 : decode mX9_hang.2.1 11 = .ok (.getfield 15, 3) := by decide +kernel
theorem dX9_hang_14 : decode mX9_hang.2.1 14 = .ok (.aload_n 0, 1) := by decide +kernel
theorem dX9_hang_15 : decode mX9_hang.2.1 15 = .ok (.getfield 37, 3) := by decide +kernel
theorem dX9_hang_18 : decode mX9_hang.2.1 18 = .ok (.iload_n 2, 1) := by decide +kernel
theorem dX9_hang_19 : decode mX9_hang.2.1 19 = .ok (.iastore, 1) := by decide +kernel
theorem dX9_hang_20 : decode mX9_hang.2.1 20 = .ok (.aload_n 0, 1) := by decide +kernel
theorem dX9_hang_21 : decode mX9_hang.2.1 21 = .ok (.getfield 18, 3) := by decide +kernel
theorem dX9_hang_24 : decode mX9_hang.2.1 24 = .ok (.aload_n 0, 1) := by decide +kernel
theorem dX9_hang_25 : decode mX9_hang.2.1 25 = .ok (.getfield 37, 3) := by decide +kernel
theorem dX9_hang_28 : decode mX9_hang.2.1 28 = .ok (.iconst 0, 1) := by decide +kernel
theorem dX9_hang_29 : decode mX9_hang.2.1 29 = .ok (.bastore, 1) := by decide +kernel
theorem dX9_hang_30 : decode mX9_hang.2.1 30 = .ok (.aload_n 0, 1) := by decide +kernel
theorem dX9_hang_31 : decode mX9_hang.2.1 31 = .ok (.dup, 1) := by decide +kernel
theorem dX9_hang_32 : decode mX9_hang.2.1 32 = .ok (.getfield 37, 3) := by decide +kernel
theorem dX9_hang_35 : decode mX9_hang.2.1 35 = .ok (.iconst 1, 1) := by decide +kernel
theorem dX9_hang_36 : decode mX9_hang.2.1 36 = .ok (.iadd, 1) := by decide +kernel
theorem dX9_hang_37 : decode mX9_hang.2.1 37 = .ok (.putfield 37, 3) := by decide +kernel
theorem dX9_hang_40 : decode mX9_hang.2.1 40 = .ok (.aload_n 0, 1) := by decide +kernel
theorem dX9_hang_41 : decode mX9_hang.2.1 41 = .ok (.getfield 37, 3) := by decide +kernel
theorem dX9_hang_44 : decode mX9_hang.2.1 44 = .ok (.iconst 1, 1) := by decide +kernel
theorem dX9_hang_45 : decode mX9_hang.2.1 45 = .ok (.isub, 1) := by decide +kernel
theorem dX9_hang_46 : decode mX9_hang.2.1 46 = .ok (.ireturn, 1) := by decide +kernel
theorem sX9_hang {SC : Nat → Nat} {X : mh_X} {d kc ks : Nat} {Q : Option am_V → am_W → Prop} {w : am_W} {x1 : Int} {x2 : Int} (Ho1 : 0 ≤ (w.1 7 0 8)) (Ho2 : (w.1 7 0 8) < 40)
    (h : Q (some (.inl (am_w (((am_up w.1 7 0 8 (am_w ((w.1 7 0 8) + 1))) 7 0 8) - 1)))) ((am_up (am_up (am_up (am_up w.1 50 0 (w.1 7 0 8).toNat x1) 51 0 (w.1 7 0 8).toNat x2) 52 0 (w.1 7 0 8).toNat 0) 7 0 8 (am_w ((w.1 7 0 8) + 1))), w.2)) : am_M (mh_G X) SC (d + 1) kc ks mX9_hang [.inr (.inr (some (7, 0))), .inl x1, .inl x2] w Q := by
  refine am_M_of (by decide) (Nat.le_of_ble_eq_true rfl) ?_
  show am_A (mh_G X) SC (d + 1) mX9_hang Q 0 [(0, .inr (.inr (some (7, 0)))), (1, .inl x1), (2, .inl x2)] [] w kc ks
  refine am_aload_n dX9_hang_0 (List.Mem.head _) ?_
  refine am_getf (f := 0) (v := .inr (.inr (some (50, 0)))) dX9_hang_1 hc_8 (by decide) wd_475 (by decide) rfl rfl ?_
  refine am_aload_n dX9_hang_4 (List.Mem.head _) ?_
  refine am_getf (f := 8) (v := .inl (w.1 7 0 8)) dX9_hang_5 hc_8 (by decide) wd_488 (by decide) rfl rfl ?_
  refine am_iload_n dX9_hang_8 (List.Mem.tail _ (List.Mem.head _)) ?_
  have o1 := Ho1
  have o2 := Ho2
  refine am_iastore dX9_hang_9 (Or.inl (by decide)) rfl o1 o2 ?_
  refine am_aload_n dX9_hang_10 (List.Mem.head _) ?_
  refine am_getf (f := 1) (v := .inr (.inr (some (51, 0)))) dX9_hang_11 hc_8 (by decide) wd_477 (by decide) rfl rfl ?_
  refine am_aload_n dX9_hang_14 (List.Mem.head _) ?_
  refine am_getf (f := 8) (v := .inl (w.1 7 0 8)) dX9_hang_15 hc_8 (by decide) wd_488 (by decide) rfl rfl ?_
  refine am_iload_n dX9_hang_18 (List.Mem.tail _ (List.Mem.tail _ (List.Mem.head _))) ?_
  refine am_iastore dX9_hang_19 (Or.inl (by decide)) rfl o1 o2 ?_
  refine am_aload_n dX9_hang_20 (List.Mem.head _) ?_
  refine am_getf (f := 2) (v := .inr (.inr (some (52, 0)))) dX9_hang_21 hc_8 (by decide) wd_479 (by decide) rfl rfl ?_
  refine am_aload_n dX9_hang_24 (List.Mem.head _) ?_
  refine am_getf (f := 8) (v := .inl (w.1 7 0 8)) dX9_hang_25 hc_8 (by decide) wd_488 (by decide) rfl rfl ?_
  refine am_iconst dX9_hang_28 (by unfold am_rg; omega) ?_
  refine am_zastore (by decide) dX9_hang_29 (Or.inl (by decide)) rfl o1 o2 ?_
  refine am_aload_n dX9_hang_30 (List.Mem.head _) ?_
  refine am_dup dX9_hang_31 rfl ?_
  refine am_getf (f := 8) (v := .inl (w.1 7 0 8)) dX9_hang_32 hc_8 (by decide) wd_488 (by decide) rfl rfl ?_
  refine am_iconst dX9_hang_35 (by unfold am_rg; omega) ?_
  refine am_iadd dX9_hang_36 ?_
  refine am_putf (f := 8) dX9_hang_37 hc_8 (by decide) wd_488 rfl (Or.inl rfl) (Or.inl (by decide)) rfl ?_
  refine am_aload_n dX9_hang_40 (List.Mem.head _) ?_
  refine am_getf (f := 8) (v := .inl ((am_up w.1 7 0 8 (am_w ((w.1 7 0 8) + 1))) 7 0 8)) dX9_hang_41 hc_8 (by decide) wd_488 (by decide) rfl rfl ?_
  refine am_iconst dX9_hang_44 (by unfold am_rg; omega) ?_
  refine am_isub dX9_hang_45 ?_
  exact am_ret (r := some (.inl (am_w (((am_up w.1 7 0 8 (am_w ((w.1 7 0 8) + 1))) 7 0 8) - 1)))) dX9_hang_46 (Or.inl rfl) rfl h
-- MourningHouse$Wardrobe.canStore(II)Z
theorem dX9_canStore_0 : decode mX9_canStore.2.1 0 = .ok (.iconst 0, 1) := by decide +kernel
theorem dX9_canStore_1 : decode mX9_canStore.2.1 1 = .ok (.iload_n 1, 1) := by decide +kernel
theorem dX9_canStore_2 : decode mX9_canStore.2.1 2 = .ok (.invokestatic 50, 3) := by decide +kernel
theorem dX9_canStore_5 : decode mX9_canStore.2.1 5 = .ok (.ifCond .eq 32, 3) := by decide +kernel
theorem dX9_canStore_8 : decode mX9_canStore.2.1 8 = .ok (.iload_n 2, 1) := by decide +kernel
theorem dX9_canStore_9 : decode mX9_canStore.2.1 9 = .ok (.iconst 1, 1) := by decide +kernel
theorem dX9_canStore_10 : decode mX9_canStore.2.1 10 = .ok (.if_icmp .lt 27, 3) := by decide +kernel
theorem dX9_canStore_13 : decode mX9_canStore.2.1 13 = .ok (.iload_n 2, 1) := by decide +kernel
theorem dX9_canStore_14 : decode mX9_canStore.2.1 14 = .ok (.bipush 99, 2) := by decide +kernel
theorem dX9_canStore_16 : decode mX9_canStore.2.1 16 = .ok (.if_icmp .gt 21, 3) := by decide +kernel
theorem dX9_canStore_19 : decode mX9_canStore.2.1 19 = .ok (.aload_n 0, 1) := by decide +kernel
theorem dX9_canStore_20 : decode mX9_canStore.2.1 20 = .ok (.getfield 22, 3) := by decide +kernel
theorem dX9_canStore_23 : decode mX9_canStore.2.1 23 = .ok (.iload_n 1, 1) := by decide +kernel
theorem dX9_canStore_24 : decode mX9_canStore.2.1 24 = .ok (.iaload, 1) := by decide +kernel
theorem dX9_canStore_25 : decode mX9_canStore.2.1 25 = .ok (.iload_n 2, 1) := by decide +kernel
theorem dX9_canStore_26 : decode mX9_canStore.2.1 26 = .ok (.iadd, 1) := by decide +kernel
theorem dX9_canStore_27 : decode mX9_canStore.2.1 27 = .ok (.sipush 999, 3) := by decide +kernel
theorem dX9_canStore_30 : decode mX9_canStore.2.1 30 = .ok (.if_icmp .gt 7, 3) := by decide +kernel
theorem dX9_canStore_33 : decode mX9_canStore.2.1 33 = .ok (.iconst 1, 1) := by decide +kernel
theorem dX9_canStore_34 : decode mX9_canStore.2.1 34 = .ok (.goto 4, 3) := by decide +kernel
theorem dX9_canStore_37 : decode mX9_canStore.2.1 37 = .ok (.iconst 0, 1) := by decide +kernel
theorem dX9_canStore_38 : decode mX9_canStore.2.1 38 = .ok (.ireturn, 1) := by decide +kernel
theorem sX9_canStore {SC : Nat → Nat} {X : mh_X} {d kc ks : Nat} {Q : Option am_V → am_W → Prop} {w : am_W} {x1 : Int} {x2 : Int} (Ho4 : (¬ (0 : Int) < 0 ∧ (¬ 4 < (0 : Int) ∧ (¬ x1 < 0 ∧ (¬ 4 < x1)))) → ¬ x2 < 1 → ¬ 99 < x2 → 0 ≤ x1) (Ho5 : (¬ (0 : Int) < 0 ∧ (¬ 4 < (0 : Int) ∧ (¬ x1 < 0 ∧ (¬ 4 < x1)))) → ¬ x2 < 1 → ¬ 99 < x2 → x1 < 5)
    (h : Q (some (.inl (if ((¬ (0 : Int) < 0 ∧ (¬ 4 < (0 : Int) ∧ (¬ x1 < 0 ∧ (¬ 4 < x1)))) ∧ (¬ x2 < 1 ∧ (¬ 99 < x2 ∧ (¬ 999 < (am_w ((w.1 53 0 x1.toNat) + x2)))))) then 1 else 0))) w) : am_M (mh_G X) SC (d + 2) kc ks mX9_canStore [.inr (.inr (some (7, 0))), .inl x1, .inl x2] w Q := by
  refine am_M_of (by decide) (Nat.le_of_ble_eq_true rfl) ?_
  show am_A (mh_G X) SC (d + 2) mX9_canStore Q 0 [(0, .inr (.inr (some (7, 0)))), (1, .inl x1), (2, .inl x2)] [] w kc ks
  refine am_iconst dX9_canStore_0 (by unfold am_rg; omega) ?_
  refine am_iload_n dX9_canStore_1 (List.Mem.tail _ (List.Mem.head _)) ?_
  refine am_calls (d' := d + 1) (kc := 0) (ks := 0) (as := [.inl 0, .inl x1]) dX9_canStore_2 wc_X9_canBe wd_1353 wd_1354 wd_120 ds_X9_canBe (by decide) (by omega) (Nat.le_of_ble_eq_true rfl) (Nat.zero_le _) (Nat.zero_le _) rfl (sX9_canBe (d := d + 0) (x0 := 0) (x1 := x1)  ?_)
  show am_A (mh_G X) SC (d + 2) mX9_canStore Q 5 [(0, .inr (.inr (some (7, 0)))), (1, .inl x1), (2, .inl x2)] [.inl (if (¬ (0 : Int) < 0 ∧ (¬ 4 < (0 : Int) ∧ (¬ x1 < 0 ∧ (¬ 4 < x1)))) then 1 else 0)] w kc ks
  refine am_ifeq (tgt := 37) dX9_canStore_5 (by decide) (fun c1 => ?_) (fun c1 => ?_)
  · replace c1 := am_beq1 c1
    refine am_iconst dX9_canStore_37 (by unfold am_rg; omega) ?_
    rw [if_neg (by omega)] at h
    exact am_ret (r := some (.inl 0)) dX9_canStore_38 (Or.inr (Or.inl ⟨rfl, (Or.inl rfl)⟩)) rfl h
  · replace c1 := am_beq2 c1
    refine am_iload_n dX9_canStore_8 (List.Mem.tail _ (List.Mem.tail _ (List.Mem.head _))) ?_
    refine am_iconst dX9_canStore_9 (by unfold am_rg; omega) ?_
    refine am_icmplt (tgt := 37) dX9_canStore_10 (by decide) (fun c2 => ?_) (fun c2 => ?_)
    · refine am_iconst dX9_canStore_37 (by unfold am_rg; omega) ?_
      rw [if_neg (by omega)] at h
      exact am_ret (r := some (.inl 0)) dX9_canStore_38 (Or.inr (Or.inl ⟨rfl, (Or.inl rfl)⟩)) rfl h
    · refine am_iload_n dX9_canStore_13 (List.Mem.tail _ (List.Mem.tail _ (List.Mem.head _))) ?_
      refine am_bipush dX9_canStore_14 (by decide) (by unfold am_rg; omega) ?_
      refine am_icmpgt (tgt := 37) dX9_canStore_16 (by decide) (fun c3 => ?_) (fun c3 => ?_)
      · refine am_iconst dX9_canStore_37 (by unfold am_rg; omega) ?_
        rw [if_neg (by omega)] at h
        exact am_ret (r := some (.inl 0)) dX9_canStore_38 (Or.inr (Or.inl ⟨rfl, (Or.inl rfl)⟩)) rfl h
      · refine am_aload_n dX9_canStore_19 (List.Mem.head _) ?_
        refine am_getf (f := 3) (v := .inr (.inr (some (53, 0)))) dX9_canStore_20 hc_8 (by decide) wd_481 (by decide) rfl rfl ?_
        refine am_iload_n dX9_canStore_23 (List.Mem.tail _ (List.Mem.head _)) ?_
        have o4 := Ho4 c1 c2 c3
        have o5 := Ho5 c1 c2 c3
        refine am_iaload (v := (w.1 53 0 x1.toNat)) dX9_canStore_24 (by decide) rfl o4 o5 rfl ?_
        refine am_iload_n dX9_canStore_25 (List.Mem.tail _ (List.Mem.tail _ (List.Mem.head _))) ?_
        refine am_iadd dX9_canStore_26 ?_
        refine am_sipush dX9_canStore_27 (by decide) (by unfold am_rg; omega) ?_
        refine am_icmpgt (tgt := 37) dX9_canStore_30 (by decide) (fun c6 => ?_) (fun c6 => ?_)
        · refine am_iconst dX9_canStore_37 (by unfold am_rg; omega) ?_
          rw [if_neg (by omega)] at h
          exact am_ret (r := some (.inl 0)) dX9_canStore_38 (Or.inr (Or.inl ⟨rfl, (Or.inl rfl)⟩)) rfl h
        · refine am_iconst dX9_canStore_33 (by unfold am_rg; omega) ?_
          refine am_goto (tgt := 38) dX9_canStore_34 (by decide) ?_
          rw [if_pos (by omega)] at h
          exact am_ret (r := some (.inl 1)) dX9_canStore_38 (Or.inr (Or.inl ⟨rfl, (Or.inr rfl)⟩)) rfl h
-- MourningHouse$Wardrobe.store(II)I
theorem dX9_store_0 : decode mX9_store.2.1 0 = .ok (.aload_n 0, 1) := by decide +kernel
theorem dX9_store_1 : decode mX9_store.2.1 1 = .ok (.getfield 22, 3) := by decide +kernel
theorem dX9_store_4 : decode mX9_store.2.1 4 = .ok (.iload_n 1, 1) := by decide +kernel
theorem dX9_store_5 : decode mX9_store.2.1 5 = .ok (.dup2, 1) := by decide +kernel
theorem dX9_store_6 : decode mX9_store.2.1 6 = .ok (.iaload, 1) := by decide +kernel
theorem dX9_store_7 : decode mX9_store.2.1 7 = .ok (.iload_n 2, 1) := by decide +kernel
theorem dX9_store_8 : decode mX9_store.2.1 8 = .ok (.iadd, 1) := by decide +kernel
theorem dX9_store_9 : decode mX9_store.2.1 9 = .ok (.iastore, 1) := by decide +kernel
theorem dX9_store_10 : decode mX9_store.2.1 10 = .ok (.aload_n 0, 1) := by decide +kernel
theorem dX9_store_11 : decode mX9_store.2.1 11 = .ok (.getfield 22, 3) := by decide +kernel
theorem dX9_store_14 : decode mX9_store.2.1 14 = .ok (.iload_n 1, 1) := by decide +kernel
theorem dX9_store_15 : decode mX9_store.2.1 15 = .ok (.iaload, 1) := by decide +kernel
theorem dX9_store_16 : decode mX9_store.2.1 16 = .ok (.ireturn, 1) := by decide +kernel
theorem sX9_store {SC : Nat → Nat} {X : mh_X} {d kc ks : Nat} {Q : Option am_V → am_W → Prop} {w : am_W} {x1 : Int} {x2 : Int} (Ho1 : 0 ≤ x1) (Ho2 : x1 < 5)
    (h : Q (some (.inl ((am_up w.1 53 0 x1.toNat (am_w ((w.1 53 0 x1.toNat) + x2))) 53 0 x1.toNat))) ((am_up w.1 53 0 x1.toNat (am_w ((w.1 53 0 x1.toNat) + x2))), w.2)) : am_M (mh_G X) SC (d + 1) kc ks mX9_store [.inr (.inr (some (7, 0))), .inl x1, .inl x2] w Q := by
  refine am_M_of (by decide) (Nat.le_of_ble_eq_true rfl) ?_
  show am_A (mh_G X) SC (d + 1) mX9_store Q 0 [(0, .inr (.inr (some (7, 0)))), (1, .inl x1), (2, .inl x2)] [] w kc ks
  refine am_aload_n dX9_store_0 (List.Mem.head _) ?_
  refine am_getf (f := 3) (v := .inr (.inr (some (53, 0)))) dX9_store_1 hc_8 (by decide) wd_481 (by decide) rfl rfl ?_
  refine am_iload_n dX9_store_4 (List.Mem.tail _ (List.Mem.head _)) ?_
  refine am_dup2 dX9_store_5 rfl rfl ?_
  have o1 := Ho1
  have o2 := Ho2
  refine am_iaload (v := (w.1 53 0 x1.toNat)) dX9_store_6 (by decide) rfl o1 o2 rfl ?_
  refine am_iload_n dX9_store_7 (List.Mem.tail _ (List.Mem.tail _ (List.Mem.head _))) ?_
  refine am_iadd dX9_store_8 ?_
  refine am_iastore dX9_store_9 (Or.inl (by decide)) rfl o1 o2 ?_
  refine am_aload_n dX9_store_10 (List.Mem.head _) ?_
  refine am_getf (f := 3) (v := .inr (.inr (some (53, 0)))) dX9_store_11 hc_8 (by decide) wd_481 (by decide) rfl rfl ?_
  refine am_iload_n dX9_store_14 (List.Mem.tail _ (List.Mem.head _)) ?_
  refine am_iaload (v := ((am_up w.1 53 0 x1.toNat (am_w ((w.1 53 0 x1.toNat) + x2))) 53 0 x1.toNat)) dX9_store_15 (by decide) rfl o1 o2 rfl ?_
  exact am_ret (r := some (.inl ((am_up w.1 53 0 x1.toNat (am_w ((w.1 53 0 x1.toNat) + x2))) 53 0 x1.toNat))) dX9_store_16 (Or.inl rfl) rfl h
-- MourningHouse$Wardrobe.clothsOf(I)I
theorem dX9_clothsOf_0 : decode mX9_clothsOf.2.1 0 = .ok (.iload_n 1, 1) := by decide +kernel
theorem dX9_clothsOf_1 : decode mX9_clothsOf.2.1 1 = .ok (.ifCond .lt 17, 3) := by decide +kernel
theorem dX9_clothsOf_4 : decode mX9_clothsOf.2.1 4 = .ok (.iload_n 1, 1) := by decide +kernel
theorem dX9_clothsOf_5 : decode mX9_clothsOf.2.1 5 = .ok (.iconst 4, 1) := by decide +kernel
theorem dX9_clothsOf_6 : decode mX9_clothsOf.2.1 6 = .ok (.if_icmp .gt 12, 3) := by decide +kernel
theorem dX9_clothsOf_9 : decode mX9_clothsOf.2.1 9 = .ok (.aload_n 0, 1) := by decide +kernel
theorem dX9_clothsOf_10 : decode mX9_clothsOf.2.1 10 = .ok (.getfield 22, 3) := by decide +kernel
theorem dX9_clothsOf_13 : decode mX9_clothsOf.2.1 13 = .ok (.iload_n 1, 1) := by decide +kernel
theorem dX9_clothsOf_14 : decode mX9_clothsOf.2.1 14 = .ok (.iaload, 1) := by decide +kernel
theorem dX9_clothsOf_15 : decode mX9_clothsOf.2.1 15 = .ok (.goto 4, 3) := by decide +kernel
theorem dX9_clothsOf_18 : decode mX9_clothsOf.2.1 18 = .ok (.iconst (-1), 1) := by decide +kernel
theorem dX9_clothsOf_19 : decode mX9_clothsOf.2.1 19 = .ok (.ireturn, 1) := by decide +kernel
theorem sX9_clothsOf {SC : Nat → Nat} {X : mh_X} {d kc ks : Nat} {Q : Option am_V → am_W → Prop} {w : am_W} {x1 : Int} (Ho3 : ¬ x1 < 0 → ¬ 4 < x1 → 0 ≤ x1) (Ho4 : ¬ x1 < 0 → ¬ 4 < x1 → x1 < 5)
    (h : Q (some (.inl (if x1 < 0 then (-1) else (if 4 < x1 then (-1) else (w.1 53 0 x1.toNat))))) w) : am_M (mh_G X) SC (d + 1) kc ks mX9_clothsOf [.inr (.inr (some (7, 0))), .inl x1] w Q := by
  refine am_M_of (by decide) (Nat.le_of_ble_eq_true rfl) ?_
  show am_A (mh_G X) SC (d + 1) mX9_clothsOf Q 0 [(0, .inr (.inr (some (7, 0)))), (1, .inl x1)] [] w kc ks
  refine am_iload_n dX9_clothsOf_0 (List.Mem.tail _ (List.Mem.head _)) ?_
  refine am_iflt (tgt := 18) dX9_clothsOf_1 (by decide) (fun c1 => ?_) (fun c1 => ?_)
  · refine am_iconst dX9_clothsOf_18 (by unfold am_rg; omega) ?_
    rw [show ((if x1 < 0 then (-1) else (if 4 < x1 then (-1) else (w.1 53 0 x1.toNat))) : Int) = (-1) from if_pos c1] at h
    exact am_ret (r := some (.inl (-1))) dX9_clothsOf_19 (Or.inl rfl) rfl h
  · refine am_iload_n dX9_clothsOf_4 (List.Mem.tail _ (List.Mem.head _)) ?_
    refine am_iconst dX9_clothsOf_5 (by unfold am_rg; omega) ?_
    refine am_icmpgt (tgt := 18) dX9_clothsOf_6 (by decide) (fun c2 => ?_) (fun c2 => ?_)
    · refine am_iconst dX9_clothsOf_18 (by unfold am_rg; omega) ?_
      rw [show ((if x1 < 0 then (-1) else (if 4 < x1 then (-1) else (w.1 53 0 x1.toNat))) : Int) = (-1) from (if_neg c1).trans (if_pos c2)] at h
      exact am_ret (r := some (.inl (-1))) dX9_clothsOf_19 (Or.inl rfl) rfl h
    · refine am_aload_n dX9_clothsOf_9 (List.Mem.head _) ?_
      refine am_getf (f := 3) (v := .inr (.inr (some (53, 0)))) dX9_clothsOf_10 hc_8 (by decide) wd_481 (by decide) rfl rfl ?_
      refine am_iload_n dX9_clothsOf_13 (List.Mem.tail _ (List.Mem.head _)) ?_
      have o3 := Ho3 c1 c2
      have o4 := Ho4 c1 c2
      refine am_iaload (v := (w.1 53 0 x1.toNat)) dX9_clothsOf_14 (by decide) rfl o3 o4 rfl ?_
      refine am_goto (tgt := 19) dX9_clothsOf_15 (by decide) ?_
      rw [show ((if x1 < 0 then (-1) else (if 4 < x1 then (-1) else (w.1 53 0 x1.toNat))) : Int) = (w.1 53 0 x1.toNat) from (if_neg c1).trans (if_neg c2)] at h
      exact am_ret (r := some (.inl (w.1 53 0 x1.toNat))) dX9_clothsOf_19 (Or.inl rfl) rfl h
-- MourningHouse$Wardrobe.canDye(II)Z
theorem dX9_canDye_0 : decode mX9_canDye.2.1 0 = .ok (.aload_n 0, 1) := by decide +kernel
theorem dX9_canDye_1 : decode mX9_canDye.2.1 1 = .ok (.iload_n 1, 1) := by decide +kernel
theorem dX9_canDye_2 : decode mX9_canDye.2.1 2 = .ok (.invokevirtual 54, 3) := by decide +kernel
theorem dX9_canDye_5 : decode mX9_canDye.2.1 5 = .ok (.ifCond .eq 40, 3) := by decide +kernel
theorem dX9_canDye_8 : decode mX9_canDye.2.1 8 = .ok (.aload_n 0, 1) := by decide +kernel
theorem dX9_canDye_9 : decode mX9_canDye.2.1 9 = .ok (.getfield 18, 3) := by decide +kernel
theorem dX9_canDye_12 : decode mX9_canDye.2.1 12 = .ok (.iload_n 1, 1) := by decide +kernel
theorem dX9_canDye_13 : decode mX9_canDye.2.1 13 = .ok (.baload, 1) := by decide +kernel
theorem dX9_canDye_14 : decode mX9_canDye.2.1 14 = .ok (.ifCond .ne 31, 3) := by decide +kernel
theorem dX9_canDye_17 : decode mX9_canDye.2.1 17 = .ok (.iload_n 2, 1) := by decide +kernel
theorem dX9_canDye_18 : decode mX9_canDye.2.1 18 = .ok (.iconst 4, 1) := by decide +kernel
theorem dX9_canDye_19 : decode mX9_canDye.2.1 19 = .ok (.if_icmp .gt 26, 3) := by decide +kernel
theorem dX9_canDye_22 : decode mX9_canDye.2.1 22 = .ok (.iload_n 2, 1) := by decide +kernel
theorem dX9_canDye_23 : decode mX9_canDye.2.1 23 = .ok (.aload_n 0, 1) := by decide +kernel
theorem dX9_canDye_24 : decode mX9_canDye.2.1 24 = .ok (.getfield 15, 3) := by decide +kernel
theorem dX9_canDye_27 : decode mX9_canDye.2.1 27 = .ok (.iload_n 1, 1) := by decide +kernel
theorem dX9_canDye_28 : decode mX9_canDye.2.1 28 = .ok (.iaload, 1) := by decide +kernel
theorem dX9_canDye_29 : decode mX9_canDye.2.1 29 = .ok (.if_icmp .le 16, 3) := by decide +kernel
theorem dX9_canDye_32 : decode mX9_canDye.2.1 32 = .ok (.aload_n 0, 1) := by decide +kernel
theorem dX9_canDye_33 : decode mX9_canDye.2.1 33 = .ok (.getfield 41, 3) := by decide +kernel
theorem dX9_canDye_36 : decode mX9_canDye.2.1 36 = .ok (.bipush 20, 2) := by decide +kernel
theorem dX9_canDye_38 : decode mX9_canDye.2.1 38 = .ok (.if_icmp .ge 7, 3) := by decide +kernel
theorem dX9_canDye_41 : decode mX9_canDye.2.1 41 = .ok (.iconst 1, 1) := by decide +kernel
theorem dX9_canDye_42 : decode mX9_canDye.2.1 42 = .ok (.goto 4, 3) := by decide +kernel
theorem dX9_canDye_45 : decode mX9_canDye.2.1 45 = .ok (.iconst 0, 1) := by decide +kernel
theorem dX9_canDye_46 : decode mX9_canDye.2.1 46 = .ok (.ireturn, 1) := by decide +kernel
theorem sX9_canDye {SC : Nat → Nat} {X : mh_X} {d kc ks : Nat} {Q : Option am_V → am_W → Prop} {w : am_W} {x1 : Int} {x2 : Int} (Ho2 : (¬ x1 < 0 ∧ (¬ (w.1 7 0 8) ≤ x1)) → 0 ≤ x1) (Ho3 : (¬ x1 < 0 ∧ (¬ (w.1 7 0 8) ≤ x1)) → x1 < 40)
    (h : Q (some (.inl (if ((¬ x1 < 0 ∧ (¬ (w.1 7 0 8) ≤ x1)) ∧ ((w.1 52 0 x1.toNat) = 0 ∧ (¬ 4 < x2 ∧ (¬ x2 ≤ (w.1 51 0 x1.toNat) ∧ (¬ 20 ≤ (w.1 7 0 9)))))) then 1 else 0))) w) : am_M (mh_G X) SC (d + 2) kc ks mX9_canDye [.inr (.inr (some (7, 0))), .inl x1, .inl x2] w Q := by
  refine am_M_of (by decide) (Nat.le_of_ble_eq_true rfl) ?_
  show am_A (mh_G X) SC (d + 2) mX9_canDye Q 0 [(0, .inr (.inr (some (7, 0)))), (1, .inl x1), (2, .inl x2)] [] w kc ks
  refine am_aload_n dX9_canDye_0 (List.Mem.head _) ?_
  refine am_iload_n dX9_canDye_1 (List.Mem.tail _ (List.Mem.head _)) ?_
  refine am_callv (d' := d + 1) (kc := 0) (ks := 0) (as := [.inl x1]) dX9_canDye_2 wc_X9_has wd_1057 wd_1058 wd_1059 wd_120 ds_X9_has (by decide) (by omega) (Nat.le_of_ble_eq_true rfl) (Nat.zero_le _) (Nat.zero_le _) hc_8 (by decide) rfl rfl (sX9_has (d := d + 0) (x1 := x1)  ?_)
  show am_A (mh_G X) SC (d + 2) mX9_canDye Q 5 [(0, .inr (.inr (some (7, 0)))), (1, .inl x1), (2, .inl x2)] [.inl (if (¬ x1 < 0 ∧ (¬ (w.1 7 0 8) ≤ x1)) then 1 else 0)] w kc ks
  refine am_ifeq (tgt := 45) dX9_canDye_5 (by decide) (fun c1 => ?_) (fun c1 => ?_)
  · replace c1 := am_beq1 c1
    refine am_iconst dX9_canDye_45 (by unfold am_rg; omega) ?_
    rw [if_neg (by omega)] at h
    exact am_ret (r := some (.inl 0)) dX9_canDye_46 (Or.inr (Or.inl ⟨rfl, (Or.inl rfl)⟩)) rfl h
  · replace c1 := am_beq2 c1
    refine am_aload_n dX9_canDye_8 (List.Mem.head _) ?_
    refine am_getf (f := 2) (v := .inr (.inr (some (52, 0)))) dX9_canDye_9 hc_8 (by decide) wd_479 (by decide) rfl rfl ?_
    refine am_iload_n dX9_canDye_12 (List.Mem.tail _ (List.Mem.head _)) ?_
    have o2 := Ho2 c1
    have o3 := Ho3 c1
    refine am_zaload (v := (w.1 52 0 x1.toNat)) dX9_canDye_13 (by decide) rfl o2 o3 rfl ?_
    refine am_ifne (tgt := 45) dX9_canDye_14 (by decide) (fun c4 => ?_) (fun c4 => ?_)
    · refine am_iconst dX9_canDye_45 (by unfold am_rg; omega) ?_
      rw [if_neg (by omega)] at h
      exact am_ret (r := some (.inl 0)) dX9_canDye_46 (Or.inr (Or.inl ⟨rfl, (Or.inl rfl)⟩)) rfl h
    · refine am_iload_n dX9_canDye_17 (List.Mem.tail _ (List.Mem.tail _ (List.Mem.head _))) ?_
      refine am_iconst dX9_canDye_18 (by unfold am_rg; omega) ?_
      refine am_icmpgt (tgt := 45) dX9_canDye_19 (by decide) (fun c5 => ?_) (fun c5 => ?_)
      · refine am_iconst dX9_canDye_45 (by unfold am_rg; omega) ?_
        rw [if_neg (by omega)] at h
        exact am_ret (r := some (.inl 0)) dX9_canDye_46 (Or.inr (Or.inl ⟨rfl, (Or.inl rfl)⟩)) rfl h
      · refine am_iload_n dX9_canDye_22 (List.Mem.tail _ (List.Mem.tail _ (List.Mem.head _))) ?_
        refine am_aload_n dX9_canDye_23 (List.Mem.head _) ?_
        refine am_getf (f := 1) (v := .inr (.inr (some (51, 0)))) dX9_canDye_24 hc_8 (by decide) wd_477 (by decide) rfl rfl ?_
        refine am_iload_n dX9_canDye_27 (List.Mem.tail _ (List.Mem.head _)) ?_
        refine am_iaload (v := (w.1 51 0 x1.toNat)) dX9_canDye_28 (by decide) rfl o2 o3 rfl ?_
        refine am_icmple (tgt := 45) dX9_canDye_29 (by decide) (fun c6 => ?_) (fun c6 => ?_)
        · refine am_iconst dX9_canDye_45 (by unfold am_rg; omega) ?_
          rw [if_neg (by omega)] at h
          exact am_ret (r := some (.inl 0)) dX9_canDye_46 (Or.inr (Or.inl ⟨rfl, (Or.inl rfl)⟩)) rfl h
        · refine am_aload_n dX9_canDye_32 (List.Mem.head _) ?_
          refine am_getf (f := 9) (v := .inl (w.1 7 0 9)) dX9_canDye_33 hc_8 (by decide) wd_490 (by decide) rfl rfl ?_
          refine am_bipush dX9_canDye_36 (by decide) (by unfold am_rg; omega) ?_
          refine am_icmpge (tgt := 45) dX9_canDye_38 (by decide) (fun c7 => ?_) (fun c7 => ?_)
          · refine am_iconst dX9_canDye_45 (by unfold am_rg; omega) ?_
            rw [if_neg (by omega)] at h
            exact am_ret (r := some (.inl 0)) dX9_canDye_46 (Or.inr (Or.inl ⟨rfl, (Or.inl rfl)⟩)) rfl h
          · refine am_iconst dX9_canDye_41 (by unfold am_rg; omega) ?_
            refine am_goto (tgt := 46) dX9_canDye_42 (by decide) ?_
            rw [if_pos (by omega)] at h
            exact am_ret (r := some (.inl 1)) dX9_canDye_46 (Or.inr (Or.inl ⟨rfl, (Or.inr rfl)⟩)) rfl h
-- MourningHouse$Wardrobe.addTask(IIII)V
theorem dX9_addTask_0 : decode mX9_addTask.2.1 0 = .ok (.aload_n 0, 1) := by decide +kernel
theorem dX9_addTask_1 : decode mX9_addTask.2.1 1 = .ok (.getfield 25, 3) := by decide +kernel
theorem dX9_addTask_4 : decode mX9_addTask.2.1 4 = .ok (.aload_n 0, 1) := by decide +kernel
theorem dX9_addTask_5 : decode mX9_addTask.2.1 5 = .ok (.getfield 41, 3) := by decide +kernel
theorem dX9_addTask_8 : decode mX9_addTask.2.1 8 = .ok (.iload_n 1, 1) := by decide +kernel
theorem dX9_addTask_9 : decode mX9_addTask.2.1 9 = .ok (.iastore, 1) := by decide +kernel
theorem dX9_addTask_10 : decode mX9_addTask.2.1 10 = .ok (.aload_n 0, 1) := by decide +kernel
theorem dX9_addTask_11 : decode mX9_addTask.2.1 11 = .ok (.getfield 28, 3) := by decide +kernel
theorem dX9_addTask_14 : decode mX9_addTask.2.1 14 = .ok (.aload_n 0, 1) := by decide +kernel
theorem dX9_addTask_15 : decode mX9_addTask.2.1 15 = .ok (.getfield 41, 3) := by decide +kernel
theorem dX9_addTask_18 : decode mX9_addTask.2.1 18 = .ok (.iload_n 2, 1) := by decide +kernel
theorem dX9_addTask_19 : decode mX9_addTask.2.1 19 = .ok (.iastore, 1) := by decide +kernel
theorem dX9_addTask_20 : decode mX9_addTask.2.1 20 = .ok (.aload_n 0, 1) := by decide +kernel
theorem dX9_addTask_21 : decode mX9_addTask.2.1 21 = .ok (.getfield 31, 3) := by decide +kernel
theorem dX9_addTask_24 : decode mX9_addTask.2.1 24 = .ok (.aload_n 0, 1) := by decide +kernel
theorem dX9_addTask_25 : decode mX9_addTask.2.1 25 = .ok (.getfield 41, 3) := by decide +kernel
theorem dX9_addTask_28 : decode mX9_addTask.2.1 28 = .ok (.iload_n 3, 1) := by decide +kernel
theorem dX9_addTask_29 : decode mX9_addTask.2.1 29 = .ok (.iastore, 1) := by decide +kernel
theorem dX9_addTask_30 : decode mX9_addTask.2.1 30 = .ok (.aload_n 0, 1) := by decide +kernel
theorem dX9_addTask_31 : decode mX9_addTask.2.1 31 = .ok (.getfield 34, 3) := by decide +kernel
theorem dX9_addTask_34 : decode mX9_addTask.2.1 34 = .ok (.aload_n 0, 1) := by decide +kernel
theorem dX9_addTask_35 : decode mX9_addTask.2.1 35 = .ok (.getfield 41, 3) := by decide +kernel
theorem dX9_addTask_38 : decode mX9_addTask.2.1 38 = .ok (.iload 4, 2) := by decide +kernel
theorem dX9_addTask_40 : decode mX9_addTask.2.1 40 = .ok (.iastore, 1) := by decide +kernel
theorem dX9_addTask_41 : decode mX9_addTask.2.1 41 = .ok (.aload_n 0, 1) := by decide +kernel
theorem dX9_addTask_42 : decode mX9_addTask.2.1 42 = .ok (.dup, 1) := by decide +kernel
theorem dX9_addTask_43 : decode mX9_addTask.2.1 43 = .ok (.getfield 41, 3) := by decide +kernel
theorem dX9_addTask_46 : decode mX9_addTask.2.1 46 = .ok (.iconst 1, 1) := by decide +kernel
theorem dX9_addTask_47 : decode mX9_addTask.2.1 47 = .ok (.iadd, 1) := by decide +kernel
theorem dX9_addTask_48 : decode mX9_addTask.2.1 48 = .ok (.putfield 41, 3) := by decide +kernel
theorem dX9_addTask_51 : decode mX9_addTask.2.1 51 = .ok (.return_, 1) := by decide +kernel
theorem sX9_addTask {SC : Nat → Nat} {X : mh_X} {d kc ks : Nat} {Q : Option am_V → am_W → Prop} {w : am_W} {x1 : Int} {x2 : Int} {x3 : Int} {x4 : Int} (Ho1 : 0 ≤ (w.1 7 0 9)) (Ho2 : (w.1 7 0 9) < 20)
    (h : Q none ((am_up (am_up (am_up (am_up (am_up w.1 54 0 (w.1 7 0 9).toNat x1) 55 0 (w.1 7 0 9).toNat x2) 56 0 (w.1 7 0 9).toNat x3) 57 0 (w.1 7 0 9).toNat x4) 7 0 9 (am_w ((w.1 7 0 9) + 1))), w.2)) : am_M (mh_G X) SC (d + 1) kc ks mX9_addTask [.inr (.inr (some (7, 0))), .inl x1, .inl x2, .inl x3, .inl x4] w Q := by
  refine am_M_of (by decide) (Nat.le_of_ble_eq_true rfl) ?_
  show am_A (mh_G X) SC (d + 1) mX9_addTask Q 0 [(0, .inr (.inr (some (7, 0)))), (1, .inl x1), (2, .inl x2), (3, .inl x3), (4, .inl x4)] [] w kc ks
  refine am_aload_n dX9_addTask_0 (List.Mem.head _) ?_
  refine am_getf (f := 4) (v := .inr (.inr (some (54, 0)))) dX9_addTask_1 hc_8 (by decide) wd_483 (by decide) rfl rfl ?_
  refine am_aload_n dX9_addTask_4 (List.Mem.head _) ?_
  refine am_getf (f := 9) (v := .inl (w.1 7 0 9)) dX9_addTask_5 hc_8 (by decide) wd_490 (by decide) rfl rfl ?_
  refine am_iload_n dX9_addTask_8 (List.Mem.tail _ (List.Mem.head _)) ?_
  have o1 := Ho1
  have o2 := Ho2
  refine am_iastore dX9_addTask_9 (Or.inl (by decide)) rfl o1 o2 ?_
  refine am_aload_n dX9_addTask_10 (List.Mem.head _) ?_
  refine am_getf (f := 5) (v := .inr (.inr (some (55, 0)))) dX9_addTask_11 hc_8 (by decide) wd_484 (by decide) rfl rfl ?_
  refine am_aload_n dX9_addTask_14 (List.Mem.head _) ?_
  refine am_getf (f := 9) (v := .inl (w.1 7 0 9)) dX9_addTask_15 hc_8 (by decide) wd_490 (by decide) rfl rfl ?_
  refine am_iload_n dX9_addTask_18 (List.Mem.tail _ (List.Mem.tail _ (List.Mem.head _))) ?_
  refine am_iastore dX9_addTask_19 (Or.inl (by decide)) rfl o1 o2 ?_
  refine am_aload_n dX9_addTask_20 (List.Mem.head _) ?_
  refine am_getf (f := 6) (v := .inr (.inr (some (56, 0)))) dX9_addTask_21 hc_8 (by decide) wd_485 (by decide) rfl rfl ?_
  refine am_aload_n dX9_addTask_24 (List.Mem.head _) ?_
  refine am_getf (f := 9) (v := .inl (w.1 7 0 9)) dX9_addTask_25 hc_8 (by decide) wd_490 (by decide) rfl rfl ?_
  refine am_iload_n dX9_addTask_28 (List.Mem.tail _ (List.Mem.tail _ (List.Mem.tail _ (List.Mem.head _)))) ?_
  refine am_iastore dX9_addTask_29 (Or.inl (by decide)) rfl o1 o2 ?_
  refine am_aload_n dX9_addTask_30 (List.Mem.head _) ?_
  refine am_getf (f := 7) (v := .inr (.inr (some (57, 0)))) dX9_addTask_31 hc_8 (by decide) wd_486 (by decide) rfl rfl ?_
  refine am_aload_n dX9_addTask_34 (List.Mem.head _) ?_
  refine am_getf (f := 9) (v := .inl (w.1 7 0 9)) dX9_addTask_35 hc_8 (by decide) wd_490 (by decide) rfl rfl ?_
  refine am_iload dX9_addTask_38 (List.Mem.tail _ (List.Mem.tail _ (List.Mem.tail _ (List.Mem.tail _ (List.Mem.head _))))) ?_
  refine am_iastore dX9_addTask_40 (Or.inl (by decide)) rfl o1 o2 ?_
  refine am_aload_n dX9_addTask_41 (List.Mem.head _) ?_
  refine am_dup dX9_addTask_42 rfl ?_
  refine am_getf (f := 9) (v := .inl (w.1 7 0 9)) dX9_addTask_43 hc_8 (by decide) wd_490 (by decide) rfl rfl ?_
  refine am_iconst dX9_addTask_46 (by unfold am_rg; omega) ?_
  refine am_iadd dX9_addTask_47 ?_
  refine am_putf (f := 9) dX9_addTask_48 hc_8 (by decide) wd_490 rfl (Or.inl rfl) (Or.inl (by decide)) rfl ?_
  exact am_ret (r := none) dX9_addTask_51 rfl rfl h
-- MourningHouse$Wardrobe.startDye(II)I
theorem dX9_startDye_0 : decode mX9_startDye.2.1 0 = .ok (.aload_n 0, 1) := by decide +kernel
theorem dX9_startDye_1 : decode mX9_startDye.2.1 1 = .ok (.getfield 18, 3) := by decide +kernel
theorem dX9_startDye_4 : decode mX9_startDye.2.1 4 = .ok (.iload_n 1, 1) := by decide +kernel
theorem dX9_startDye_5 : decode mX9_startDye.2.1 5 = .ok (.iconst 1, 1) := by decide +kernel
theorem dX9_startDye_6 : decode mX9_startDye.2.1 6 = .ok (.bastore, 1) := by decide +kernel
theorem dX9_startDye_7 : decode mX9_startDye.2.1 7 = .ok (.aload_n 0, 1) := by decide +kernel
theorem dX9_startDye_8 : decode mX9_startDye.2.1 8 = .ok (.iload_n 1, 1) := by decide +kernel
theorem dX9_startDye_9 : decode mX9_startDye.2.1 9 = .ok (.aload_n 0, 1) := by decide +kernel
theorem dX9_startDye_10 : decode mX9_startDye.2.1 10 = .ok (.getfield 11, 3) := by decide +kernel
theorem dX9_startDye_13 : decode mX9_startDye.2.1 13 = .ok (.iload_n 1, 1) := by decide +kernel
theorem dX9_startDye_14 : decode mX9_startDye.2.1 14 = .ok (.iaload, 1) := by decide +kernel
theorem dX9_startDye_15 : decode mX9_startDye.2.1 15 = .ok (.iload_n 2, 1) := by decide +kernel
theorem dX9_startDye_16 : decode mX9_startDye.2.1 16 = .ok (.iconst 2, 1) := by decide +kernel
theorem dX9_startDye_17 : decode mX9_startDye.2.1 17 = .ok (.invokevirtual 58, 3) := by decide +kernel
theorem dX9_startDye_20 : decode mX9_startDye.2.1 20 = .ok (.aload_n 0, 1) := by decide +kernel
theorem dX9_startDye_21 : decode mX9_startDye.2.1 21 = .ok (.getfield 41, 3) := by decide +kernel
theorem dX9_startDye_24 : decode mX9_startDye.2.1 24 = .ok (.ireturn, 1) := by decide +kernel
theorem sX9_startDye {SC : Nat → Nat} {X : mh_X} {d kc ks : Nat} {Q : Option am_V → am_W → Prop} {w : am_W} {x1 : Int} {x2 : Int} (Ho1 : 0 ≤ x1) (Ho2 : x1 < 40) (Ho3 : 0 ≤ (w.1 7 0 9)) (Ho4 : (w.1 7 0 9) < 20)
    (h : Q (some (.inl ((am_up w.1 7 0 9 (am_w ((w.1 7 0 9) + 1))) 7 0 9))) ((am_up (am_up (am_up (am_up (am_up (am_up w.1 52 0 x1.toNat 1) 54 0 (w.1 7 0 9).toNat x1) 55 0 (w.1 7 0 9).toNat (w.1 50 0 x1.toNat)) 56 0 (w.1 7 0 9).toNat x2) 57 0 (w.1 7 0 9).toNat (2 : Int)) 7 0 9 (am_w ((w.1 7 0 9) + 1))), w.2)) : am_M (mh_G X) SC (d + 2) kc ks mX9_startDye [.inr (.inr (some (7, 0))), .inl x1, .inl x2] w Q := by
  refine am_M_of (by decide) (Nat.le_of_ble_eq_true rfl) ?_
  show am_A (mh_G X) SC (d + 2) mX9_startDye Q 0 [(0, .inr (.inr (some (7, 0)))), (1, .inl x1), (2, .inl x2)] [] w kc ks
  refine am_aload_n dX9_startDye_0 (List.Mem.head _) ?_
  refine am_getf (f := 2) (v := .inr (.inr (some (52, 0)))) dX9_startDye_1 hc_8 (by decide) wd_479 (by decide) rfl rfl ?_
  refine am_iload_n dX9_startDye_4 (List.Mem.tail _ (List.Mem.head _)) ?_
  refine am_iconst dX9_startDye_5 (by unfold am_rg; omega) ?_
  have o1 := Ho1
  have o2 := Ho2
  refine am_zastore (by decide) dX9_startDye_6 (Or.inl (by decide)) rfl o1 o2 ?_
  refine am_aload_n dX9_startDye_7 (List.Mem.head _) ?_
  refine am_iload_n dX9_startDye_8 (List.Mem.tail _ (List.Mem.head _)) ?_
  refine am_aload_n dX9_startDye_9 (List.Mem.head _) ?_
  refine am_getf (f := 0) (v := .inr (.inr (some (50, 0)))) dX9_startDye_10 hc_8 (by decide) wd_475 (by decide) rfl rfl ?_
  refine am_iload_n dX9_startDye_13 (List.Mem.tail _ (List.Mem.head _)) ?_
  refine am_iaload (v := (w.1 50 0 x1.toNat)) dX9_startDye_14 (by decide) rfl o1 o2 rfl ?_
  refine am_iload_n dX9_startDye_15 (List.Mem.tail _ (List.Mem.tail _ (List.Mem.head _))) ?_
  refine am_iconst dX9_startDye_16 (by unfold am_rg; omega) ?_
  have o3 := Ho3
  have o4 := Ho4
  refine am_callv (d' := d + 1) (kc := 0) (ks := 0) (as := [.inl x1, .inl (w.1 50 0 x1.toNat), .inl x2, .inl 2]) dX9_startDye_17 wc_X9_addTask wd_1385 wd_1387 wd_42 wd_120 ds_X9_addTask (by decide) (by omega) (Nat.le_of_ble_eq_true rfl) (Nat.zero_le _) (Nat.zero_le _) hc_8 (by decide) rfl rfl (sX9_addTask (d := d + 0) (x1 := x1) (x2 := (w.1 50 0 x1.toNat)) (x3 := x2) (x4 := 2) o3 o4 ?_)
  show am_A (mh_G X) SC (d + 2) mX9_startDye Q 20 [(0, .inr (.inr (some (7, 0)))), (1, .inl x1), (2, .inl x2)] [] ((am_up (am_up (am_up (am_up (am_up (am_up w.1 52 0 x1.toNat 1) 54 0 (w.1 7 0 9).toNat x1) 55 0 (w.1 7 0 9).toNat (w.1 50 0 x1.toNat)) 56 0 (w.1 7 0 9).toNat x2) 57 0 (w.1 7 0 9).toNat (2 : Int)) 7 0 9 (am_w ((w.1 7 0 9) + 1))), w.2) kc ks
  refine am_aload_n dX9_startDye_20 (List.Mem.head _) ?_
  refine am_getf (f := 9) (v := .inl ((am_up w.1 7 0 9 (am_w ((w.1 7 0 9) + 1))) 7 0 9)) dX9_startDye_21 hc_8 (by decide) wd_490 (by decide) rfl rfl ?_
  exact am_ret (r := some (.inl ((am_up w.1 7 0 9 (am_w ((w.1 7 0 9) + 1))) 7 0 9))) dX9_startDye_24 (Or.inl rfl) rfl h
-- MourningHouse$Wardrobe.canMake(II)Z
theorem dX9_canMake_0 : decode mX9_canMake.2.1 0 = .ok (.aload_n 0, 1) := by decide +kernel
theorem dX9_canMake_1 : decode mX9_canMake.2.1 1 = .ok (.iload_n 1, 1) := by decide +kernel
theorem dX9_canMake_2 : decode mX9_canMake.2.1 2 = .ok (.iload_n 2, 1) := by decide +kernel
theorem dX9_canMake_3 : decode mX9_canMake.2.1 3 = .ok (.invokevirtual 62, 3) := by decide +kernel
theorem dX9_canMake_6 : decode mX9_canMake.2.1 6 = .ok (.ifCond .eq 25, 3) := by decide +kernel
theorem dX9_canMake_9 : decode mX9_canMake.2.1 9 = .ok (.aload_n 0, 1) := by decide +kernel
theorem dX9_canMake_10 : decode mX9_canMake.2.1 10 = .ok (.getfield 22, 3) := by decide +kernel
theorem dX9_canMake_13 : decode mX9_canMake.2.1 13 = .ok (.iload_n 2, 1) := by decide +kernel
theorem dX9_canMake_14 : decode mX9_canMake.2.1 14 = .ok (.iaload, 1) := by decide +kernel
theorem dX9_canMake_15 : decode mX9_canMake.2.1 15 = .ok (.ifCond .le 16, 3) := by decide +kernel
theorem dX9_canMake_18 : decode mX9_canMake.2.1 18 = .ok (.aload_n 0, 1) := by decide +kernel
theorem dX9_canMake_19 : decode mX9_canMake.2.1 19 = .ok (.getfield 41, 3) := by decide +kernel
theorem dX9_canMake_22 : decode mX9_canMake.2.1 22 = .ok (.bipush 20, 2) := by decide +kernel
theorem dX9_canMake_24 : decode mX9_canMake.2.1 24 = .ok (.if_icmp .ge 7, 3) := by decide +kernel
theorem dX9_canMake_27 : decode mX9_canMake.2.1 27 = .ok (.iconst 1, 1) := by decide +kernel
theorem dX9_canMake_28 : decode mX9_canMake.2.1 28 = .ok (.goto 4, 3) := by decide +kernel
theorem dX9_canMake_31 : decode mX9_canMake.2.1 31 = .ok (.iconst 0, 1) := by decide +kernel
theorem dX9_canMake_32 : decode mX9_canMake.2.1 32 = .ok (.ireturn, 1) := by decide +kernel
theorem sX9_canMake {SC : Nat → Nat} {X : mh_X} {d kc ks : Nat} {Q : Option am_V → am_W → Prop} {w : am_W} {x1 : Int} {x2 : Int} (Ho2 : ((¬ x1 < 0 ∧ (¬ 4 < x1 ∧ (¬ x2 < 0 ∧ (¬ 4 < x2)))) ∧ (¬ 40 ≤ (am_w ((w.1 7 0 8) + (w.1 7 0 11))))) → 0 ≤ x2) (Ho3 : ((¬ x1 < 0 ∧ (¬ 4 < x1 ∧ (¬ x2 < 0 ∧ (¬ 4 < x2)))) ∧ (¬ 40 ≤ (am_w ((w.1 7 0 8) + (w.1 7 0 11))))) → x2 < 5)
    (h : Q (some (.inl (if (((¬ x1 < 0 ∧ (¬ 4 < x1 ∧ (¬ x2 < 0 ∧ (¬ 4 < x2)))) ∧ (¬ 40 ≤ (am_w ((w.1 7 0 8) + (w.1 7 0 11))))) ∧ (¬ (w.1 53 0 x2.toNat) ≤ 0 ∧ (¬ 20 ≤ (w.1 7 0 9)))) then 1 else 0))) w) : am_M (mh_G X) SC (d + 3) kc ks mX9_canMake [.inr (.inr (some (7, 0))), .inl x1, .inl x2] w Q := by
  refine am_M_of (by decide) (Nat.le_of_ble_eq_true rfl) ?_
  show am_A (mh_G X) SC (d + 3) mX9_canMake Q 0 [(0, .inr (.inr (some (7, 0)))), (1, .inl x1), (2, .inl x2)] [] w kc ks
  refine am_aload_n dX9_canMake_0 (List.Mem.head _) ?_
  refine am_iload_n dX9_canMake_1 (List.Mem.tail _ (List.Mem.head _)) ?_
  refine am_iload_n dX9_canMake_2 (List.Mem.tail _ (List.Mem.tail _ (List.Mem.head _))) ?_
  refine am_callv (d' := d + 2) (kc := 0) (ks := 0) (as := [.inl x1, .inl x2]) dX9_canMake_3 wc_X9_canHang wd_1397 wd_1350 wd_1351 wd_120 ds_X9_canHang (by decide) (by omega) (Nat.le_of_ble_eq_true rfl) (Nat.zero_le _) (Nat.zero_le _) hc_8 (by decide) rfl rfl (sX9_canHang (d := d + 0) (x1 := x1) (x2 := x2)  ?_)
  show am_A (mh_G X) SC (d + 3) mX9_canMake Q 6 [(0, .inr (.inr (some (7, 0)))), (1, .inl x1), (2, .inl x2)] [.inl (if ((¬ x1 < 0 ∧ (¬ 4 < x1 ∧ (¬ x2 < 0 ∧ (¬ 4 < x2)))) ∧ (¬ 40 ≤ (am_w ((w.1 7 0 8) + (w.1 7 0 11))))) then 1 else 0)] w kc ks
  refine am_ifeq (tgt := 31) dX9_canMake_6 (by decide) (fun c1 => ?_) (fun c1 => ?_)
  · replace c1 := am_beq1 c1
    refine am_iconst dX9_canMake_31 (by unfold am_rg; omega) ?_
    rw [if_neg (by omega)] at h
    exact am_ret (r := some (.inl 0)) dX9_canMake_32 (Or.inr (Or.inl ⟨rfl, (Or.inl rfl)⟩)) rfl h
  · replace c1 := am_beq2 c1
    refine am_aload_n dX9_canMake_9 (List.Mem.head _) ?_
    refine am_getf (f := 3) (v := .inr (.inr (some (53, 0)))) dX9_canMake_10 hc_8 (by decide) wd_481 (by decide) rfl rfl ?_
    refine am_iload_n dX9_canMake_13 (List.Mem.tail _ (List.Mem.tail _ (List.Mem.head _))) ?_
    have o2 := Ho2 c1
    have o3 := Ho3 c1
    refine am_iaload (v := (w.1 53 0 x2.toNat)) dX9_canMake_14 (by decide) rfl o2 o3 rfl ?_
    refine am_ifle (tgt := 31) dX9_canMake_15 (by decide) (fun c4 => ?_) (fun c4 => ?_)
    · refine am_iconst dX9_canMake_31 (by unfold am_rg; omega) ?_
      rw [if_neg (by omega)] at h
      exact am_ret (r := some (.inl 0)) dX9_canMake_32 (Or.inr (Or.inl ⟨rfl, (Or.inl rfl)⟩)) rfl h
    · refine am_aload_n dX9_canMake_18 (List.Mem.head _) ?_
      refine am_getf (f := 9) (v := .inl (w.1 7 0 9)) dX9_canMake_19 hc_8 (by decide) wd_490 (by decide) rfl rfl ?_
      refine am_bipush dX9_canMake_22 (by decide) (by unfold am_rg; omega) ?_
      refine am_icmpge (tgt := 31) dX9_canMake_24 (by decide) (fun c5 => ?_) (fun c5 => ?_)
      · refine am_iconst dX9_canMake_31 (by unfold am_rg; omega) ?_
        rw [if_neg (by omega)] at h
        exact am_ret (r := some (.inl 0)) dX9_canMake_32 (Or.inr (Or.inl ⟨rfl, (Or.inl rfl)⟩)) rfl h
      · refine am_iconst dX9_canMake_27 (by unfold am_rg; omega) ?_
        refine am_goto (tgt := 32) dX9_canMake_28 (by decide) ?_
        rw [if_pos (by omega)] at h
        exact am_ret (r := some (.inl 1)) dX9_canMake_32 (Or.inr (Or.inl ⟨rfl, (Or.inr rfl)⟩)) rfl h
-- MourningHouse$Wardrobe.startMake(II)I
theorem dX9_startMake_0 : decode mX9_startMake.2.1 0 = .ok (.aload_n 0, 1) := by decide +kernel
theorem dX9_startMake_1 : decode mX9_startMake.2.1 1 = .ok (.getfield 22, 3) := by decide +kernel
theorem dX9_startMake_4 : decode mX9_startMake.2.1 4 = .ok (.iload_n 2, 1) := by decide +kernel
theorem dX9_startMake_5 : decode mX9_startMake.2.1 5 = .ok (.dup2, 1) := by decide +kernel
theorem dX9_startMake_6 : decode mX9_startMake.2.1 6 = .ok (.iaload, 1) := by decide +kernel
theorem dX9_startMake_7 : decode mX9_startMake.2.1 7 = .ok (.iconst 1, 1) := by decide +kernel
theorem dX9_startMake_8 : decode mX9_startMake.2.1 8 = .ok (.isub, 1) := by decide +kernel
theorem dX9_startMake_9 : decode mX9_startMake.2.1 9 = .ok (.iastore, 1) := by decide +kernel
theorem dX9_startMake_10 : decode mX9_startMake.2.1 10 = .ok (.aload_n 0, 1) := by decide +kernel
theorem dX9_startMake_11 : decode mX9_startMake.2.1 11 = .ok (.dup, 1) := by decide +kernel
theorem dX9_startMake_12 : decode mX9_startMake.2.1 12 = .ok (.getfield 47, 3) := by decide +kernel
theorem dX9_startMake_15 : decode mX9_startMake.2.1 15 = .ok (.iconst 1, 1) := by decide +kernel
theorem dX9_startMake_16 : decode mX9_startMake.2.1 16 = .ok (.iadd, 1) := by decide +kernel
theorem dX9_startMake_17 : decode mX9_startMake.2.1 17 = .ok (.putfield 47, 3) := by decide +kernel
theorem dX9_startMake_20 : decode mX9_startMake.2.1 20 = .ok (.aload_n 0, 1) := by decide +kernel
theorem dX9_startMake_21 : decode mX9_startMake.2.1 21 = .ok (.iconst (-1), 1) := by decide +kernel
theorem dX9_startMake_22 : decode mX9_startMake.2.1 22 = .ok (.iload_n 1, 1) := by decide +kernel
theorem dX9_startMake_23 : decode mX9_startMake.2.1 23 = .ok (.iload_n 2, 1) := by decide +kernel
theorem dX9_startMake_24 : decode mX9_startMake.2.1 24 = .ok (.iconst 3, 1) := by decide +kernel
theorem dX9_startMake_25 : decode mX9_startMake.2.1 25 = .ok (.invokevirtual 58, 3) := by decide +kernel
theorem dX9_startMake_28 : decode mX9_startMake.2.1 28 = .ok (.aload_n 0, 1) := by decide +kernel
theorem dX9_startMake_29 : decode mX9_startMake.2.1 29 = .ok (.getfield 41, 3) := by decide +kernel
theorem dX9_startMake_32 : decode mX9_startMake.2.1 32 = .ok (.ireturn, 1) := by decide +kernel
theorem sX9_startMake {SC : Nat → Nat} {X : mh_X} {d kc ks : Nat} {Q : Option am_V → am_W → Prop} {w : am_W} {x1 : Int} {x2 : Int} (Ho1 : 0 ≤ x2) (Ho2 : x2 < 5) (Ho3 : 0 ≤ ((am_up w.1 7 0 11 (am_w ((w.1 7 0 11) + 1))) 7 0 9)) (Ho4 : ((am_up w.1 7 0 11 (am_w ((w.1 7 0 11) + 1))) 7 0 9) < 20)
    (h : Q (some (.inl ((am_up (am_up w.1 7 0 11 (am_w ((w.1 7 0 11) + 1))) 7 0 9 (am_w (((am_up w.1 7 0 11 (am_w ((w.1 7 0 11) + 1))) 7 0 9) + 1))) 7 0 9))) ((am_up (am_up (am_up (am_up (am_up (am_up (am_up w.1 53 0 x2.toNat (am_w ((w.1 53 0 x2.toNat) - 1))) 7 0 11 (am_w ((w.1 7 0 11) + 1))) 54 0 ((am_up w.1 7 0 11 (am_w ((w.1 7 0 11) + 1))) 7 0 9).toNat ((-1) : Int)) 55 0 ((am_up w.1 7 0 11 (am_w ((w.1 7 0 11) + 1))) 7 0 9).toNat x1) 56 0 ((am_up w.1 7 0 11 (am_w ((w.1 7 0 11) + 1))) 7 0 9).toNat x2) 57 0 ((am_up w.1 7 0 11 (am_w ((w.1 7 0 11) + 1))) 7 0 9).toNat (3 : Int)) 7 0 9 (am_w (((am_up w.1 7 0 11 (am_w ((w.1 7 0 11) + 1))) 7 0 9) + 1))), w.2)) : am_M (mh_G X) SC (d + 2) kc ks mX9_startMake [.inr (.inr (some (7, 0))), .inl x1, .inl x2] w Q := by
  refine am_M_of (by decide) (Nat.le_of_ble_eq_true rfl) ?_
  show am_A (mh_G X) SC (d + 2) mX9_startMake Q 0 [(0, .inr (.inr (some (7, 0)))), (1, .inl x1), (2, .inl x2)] [] w kc ks
  refine am_aload_n dX9_startMake_0 (List.Mem.head _) ?_
  refine am_getf (f := 3) (v := .inr (.inr (some (53, 0)))) dX9_startMake_1 hc_8 (by decide) wd_481 (by decide) rfl rfl ?_
  refine am_iload_n dX9_startMake_4 (List.Mem.tail _ (List.Mem.tail _ (List.Mem.head _))) ?_
  refine am_dup2 dX9_startMake_5 rfl rfl ?_
  have o1 := Ho1
  have o2 := Ho2
  refine am_iaload (v := (w.1 53 0 x2.toNat)) dX9_startMake_6 (by decide) rfl o1 o2 rfl ?_
  refine am_iconst dX9_startMake_7 (by unfold am_rg; omega) ?_
  refine am_isub dX9_startMake_8 ?_
  refine am_iastore dX9_startMake_9 (Or.inl (by decide)) rfl o1 o2 ?_
  refine am_aload_n dX9_startMake_10 (List.Mem.head _) ?_
  refine am_dup dX9_startMake_11 rfl ?_
  refine am_getf (f := 11) (v := .inl (w.1 7 0 11)) dX9_startMake_12 hc_8 (by decide) wd_496 (by decide) rfl rfl ?_
  refine am_iconst dX9_startMake_15 (by unfold am_rg; omega) ?_
  refine am_iadd dX9_startMake_16 ?_
  refine am_putf (f := 11) dX9_startMake_17 hc_8 (by decide) wd_496 rfl (Or.inl rfl) (Or.inl (by decide)) rfl ?_
  refine am_aload_n dX9_startMake_20 (List.Mem.head _) ?_
  refine am_iconst dX9_startMake_21 (by unfold am_rg; omega) ?_
  refine am_iload_n dX9_startMake_22 (List.Mem.tail _ (List.Mem.head _)) ?_
  refine am_iload_n dX9_startMake_23 (List.Mem.tail _ (List.Mem.tail _ (List.Mem.head _))) ?_
  refine am_iconst dX9_startMake_24 (by unfold am_rg; omega) ?_
  have o3 := Ho3
  have o4 := Ho4
  refine am_callv (d' := d + 1) (kc := 0) (ks := 0) (as := [.inl (-1), .inl x1, .inl x2, .inl 3]) dX9_startMake_25 wc_X9_addTask wd_1385 wd_1387 wd_42 wd_120 ds_X9_addTask (by decide) (by omega) (Nat.le_of_ble_eq_true rfl) (Nat.zero_le _) (Nat.zero_le _) hc_8 (by decide) rfl rfl (sX9_addTask (d := d + 0) (x1 := (-1)) (x2 := x1) (x3 := x2) (x4 := 3) o3 o4 ?_)
  show am_A (mh_G X) SC (d + 2) mX9_startMake Q 28 [(0, .inr (.inr (some (7, 0)))), (1, .inl x1), (2, .inl x2)] [] ((am_up (am_up (am_up (am_up (am_up (am_up (am_up w.1 53 0 x2.toNat (am_w ((w.1 53 0 x2.toNat) - 1))) 7 0 11 (am_w ((w.1 7 0 11) + 1))) 54 0 ((am_up w.1 7 0 11 (am_w ((w.1 7 0 11) + 1))) 7 0 9).toNat ((-1) : Int)) 55 0 ((am_up w.1 7 0 11 (am_w ((w.1 7 0 11) + 1))) 7 0 9).toNat x1) 56 0 ((am_up w.1 7 0 11 (am_w ((w.1 7 0 11) + 1))) 7 0 9).toNat x2) 57 0 ((am_up w.1 7 0 11 (am_w ((w.1 7 0 11) + 1))) 7 0 9).toNat (3 : Int)) 7 0 9 (am_w (((am_up w.1 7 0 11 (am_w ((w.1 7 0 11) + 1))) 7 0 9) + 1))), w.2) kc ks
  refine am_aload_n dX9_startMake_28 (List.Mem.head _) ?_
  refine am_getf (f := 9) (v := .inl ((am_up (am_up w.1 7 0 11 (am_w ((w.1 7 0 11) + 1))) 7 0 9 (am_w (((am_up w.1 7 0 11 (am_w ((w.1 7 0 11) + 1))) 7 0 9) + 1))) 7 0 9)) dX9_startMake_29 hc_8 (by decide) wd_490 (by decide) rfl rfl ?_
  exact am_ret (r := some (.inl ((am_up (am_up w.1 7 0 11 (am_w ((w.1 7 0 11) + 1))) 7 0 9 (am_w (((am_up w.1 7 0 11 (am_w ((w.1 7 0 11) + 1))) 7 0 9) + 1))) 7 0 9))) dX9_startMake_32 (Or.inl rfl) rfl h
-- MourningHouse$Wardrobe.bring(I)V
theorem dX9_bring_0 : decode mX9_bring.2.1 0 = .ok (.aload_n 0, 1) := by decide +kernel
theorem dX9_bring_1 : decode mX9_bring.2.1 1 = .ok (.getfield 25, 3) := by decide +kernel
theorem dX9_bring_4 : decode mX9_bring.2.1 4 = .ok (.iload_n 1, 1) := by decide +kernel
theorem dX9_bring_5 : decode mX9_bring.2.1 5 = .ok (.iaload, 1) := by decide +kernel
theorem dX9_bring_6 : decode mX9_bring.2.1 6 = .ok (.istore_n 2, 1) := by decide +kernel
theorem dX9_bring_7 : decode mX9_bring.2.1 7 = .ok (.aload_n 0, 1) := by decide +kernel
theorem dX9_bring_8 : decode mX9_bring.2.1 8 = .ok (.iload_n 2, 1) := by decide +kernel
theorem dX9_bring_9 : decode mX9_bring.2.1 9 = .ok (.invokevirtual 54, 3) := by decide +kernel
theorem dX9_bring_12 : decode mX9_bring.2.1 12 = .ok (.ifCond .eq 25, 3) := by decide +kernel
theorem dX9_bring_15 : decode mX9_bring.2.1 15 = .ok (.aload_n 0, 1) := by decide +kernel
theorem dX9_bring_16 : decode mX9_bring.2.1 16 = .ok (.getfield 15, 3) := by decide +kernel
theorem dX9_bring_19 : decode mX9_bring.2.1 19 = .ok (.iload_n 2, 1) := by decide +kernel
theorem dX9_bring_20 : decode mX9_bring.2.1 20 = .ok (.aload_n 0, 1) := by decide +kernel
theorem dX9_bring_21 : decode mX9_bring.2.1 21 = .ok (.getfield 31, 3) := by decide +kernel
theorem dX9_bring_24 : decode mX9_bring.2.1 24 = .ok (.iload_n 1, 1) := by decide +kernel
theorem dX9_bring_25 : decode mX9_bring.2.1 25 = .ok (.iaload, 1) := by decide +kernel
theorem dX9_bring_26 : decode mX9_bring.2.1 26 = .ok (.iastore, 1) := by decide +kernel
theorem dX9_bring_27 : decode mX9_bring.2.1 27 = .ok (.aload_n 0, 1) := by decide +kernel
theorem dX9_bring_28 : decode mX9_bring.2.1 28 = .ok (.getfield 18, 3) := by decide +kernel
theorem dX9_bring_31 : decode mX9_bring.2.1 31 = .ok (.iload_n 2, 1) := by decide +kernel
theorem dX9_bring_32 : decode mX9_bring.2.1 32 = .ok (.iconst 0, 1) := by decide +kernel
theorem dX9_bring_33 : decode mX9_bring.2.1 33 = .ok (.bastore, 1) := by decide +kernel
theorem dX9_bring_34 : decode mX9_bring.2.1 34 = .ok (.goto 39, 3) := by decide +kernel
theorem dX9_bring_37 : decode mX9_bring.2.1 37 = .ok (.aload_n 0, 1) := by decide +kernel
theorem dX9_bring_38 : decode mX9_bring.2.1 38 = .ok (.getfield 37, 3) := by decide +kernel
theorem dX9_bring_41 : decode mX9_bring.2.1 41 = .ok (.bipush 40, 2) := by decide +kernel
theorem dX9_bring_43 : decode mX9_bring.2.1 43 = .ok (.if_icmp .ge 30, 3) := by decide +kernel
theorem dX9_bring_46 : decode mX9_bring.2.1 46 = .ok (.aload_n 0, 1) := by decide +kernel
theorem dX9_bring_47 : decode mX9_bring.2.1 47 = .ok (.dup, 1) := by decide +kernel
theorem dX9_bring_48 : decode mX9_bring.2.1 48 = .ok (.getfield 47, 3) := by decide +kernel
theorem dX9_bring_51 : decode mX9_bring.2.1 51 = .ok (.iconst 1, 1) := by decide +kernel
theorem dX9_bring_52 : decode mX9_bring.2.1 52 = .ok (.isub, 1) := by decide +kernel
theorem dX9_bring_53 : decode mX9_bring.2.1 53 = .ok (.putfield 47, 3) := by decide +kernel
theorem dX9_bring_56 : decode mX9_bring.2.1 56 = .ok (.aload_n 0, 1) := by decide +kernel
theorem dX9_bring_57 : decode mX9_bring.2.1 57 = .ok (.aload_n 0, 1) := by decide +kernel
theorem dX9_bring_58 : decode mX9_bring.2.1 58 = .ok (.getfield 28, 3) := by decide +kernel
theorem dX9_bring_61 : decode mX9_bring.2.1 61 = .ok (.iload_n 1, 1) := by decide +kernel
theorem dX9_bring_62 : decode mX9_bring.2.1 62 = .ok (.iaload, 1) := by decide +kernel
theorem dX9_bring_63 : decode mX9_bring.2.1 63 = .ok (.aload_n 0, 1) := by decide +kernel
theorem dX9_bring_64 : decode mX9_bring.2.1 64 = .ok (.getfield 31, 3) := by decide +kernel
theorem dX9_bring_67 : decode mX9_bring.2.1 67 = .ok (.iload_n 1, 1) := by decide +kernel
theorem dX9_bring_68 : decode mX9_bring.2.1 68 = .ok (.iaload, 1) := by decide +kernel
theorem dX9_bring_69 : decode mX9_bring.2.1 69 = .ok (.invokevirtual 72, 3) := by decide +kernel
theorem dX9_bring_72 : decode mX9_bring.2.1 72 = .ok (.pop, 1) := by decide +kernel
theorem dX9_bring_73 : decode mX9_bring.2.1 73 = .ok (.return_, 1) := by decide +kernel
theorem bX9_bring_0 {SC : Nat → Nat} {X : mh_X} {d : Nat} {Q : Option am_V → am_W → Prop} {bc bs : Nat} {w : am_W} {x1 : Int}
    (h : (0 ≤ x1 ∧ (x1 < 20 ∧ ((¬ (¬ (w.1 54 0 x1.toNat) < 0 ∧ (¬ (w.1 7 0 8) ≤ (w.1 54 0 x1.toNat))) → ((40 ≤ (w.1 7 0 8) → Q none w) ∧ (¬ 40 ≤ (w.1 7 0 8) → (0 ≤ ((am_up w.1 7 0 11 (am_w ((w.1 7 0 11) - 1))) 7 0 8) ∧ (((am_up w.1 7 0 11 (am_w ((w.1 7 0 11) - 1))) 7 0 8) < 40 ∧ Q none ((am_up (am_up (am_up (am_up (am_up w.1 7 0 11 (am_w ((w.1 7 0 11) - 1))) 50 0 ((am_up w.1 7 0 11 (am_w ((w.1 7 0 11) - 1))) 7 0 8).toNat (w.1 55 0 x1.toNat)) 51 0 ((am_up w.1 7 0 11 (am_w ((w.1 7 0 11) - 1))) 7 0 8).toNat (w.1 56 0 x1.toNat)) 52 0 ((am_up w.1 7 0 11 (am_w ((w.1 7 0 11) - 1))) 7 0 8).toNat 0) 7 0 8 (am_w (((am_up w.1 7 0 11 (am_w ((w.1 7 0 11) - 1))) 7 0 8) + 1))), w.2)))))) ∧ ((¬ (w.1 54 0 x1.toNat) < 0 ∧ (¬ (w.1 7 0 8) ≤ (w.1 54 0 x1.toNat))) → (0 ≤ (w.1 54 0 x1.toNat) ∧ ((w.1 54 0 x1.toNat) < 40 ∧ Q none ((am_up (am_up w.1 51 0 (w.1 54 0 x1.toNat).toNat (w.1 56 0 x1.toNat)) 52 0 (w.1 54 0 x1.toNat).toNat 0), w.2)))))))) :
    am_A (mh_G X) SC (d + 2) mX9_bring Q 0 [(0, .inr (.inr (some (7, 0)))), (1, .inl x1)] [] w bc bs := by
  refine am_aload_n dX9_bring_0 (List.Mem.head _) ?_
  refine am_getf (f := 4) (v := .inr (.inr (some (54, 0)))) dX9_bring_1 hc_8 (by decide) wd_483 (by decide) rfl rfl ?_
  refine am_iload_n dX9_bring_4 (List.Mem.tail _ (List.Mem.head _)) ?_
  have o1 := h.1
  replace h := h.2
  have o2 := h.1
  replace h := h.2
  refine am_iaload (v := (w.1 54 0 x1.toNat)) dX9_bring_5 (by decide) rfl o1 o2 rfl ?_
  refine am_istore_n (ls' := [(2, .inl (w.1 54 0 x1.toNat)), (0, .inr (.inr (some (7, 0)))), (1, .inl x1)]) dX9_bring_6 (by decide) rfl ?_
  refine am_aload_n dX9_bring_7 (List.Mem.tail _ (List.Mem.head _)) ?_
  refine am_iload_n dX9_bring_8 (List.Mem.head _) ?_
  refine am_callv (d' := d + 1) (kc := 0) (ks := 0) (as := [.inl (w.1 54 0 x1.toNat)]) dX9_bring_9 wc_X9_has wd_1057 wd_1058 wd_1059 wd_120 ds_X9_has (by decide) (by omega) (Nat.le_of_ble_eq_true rfl) (Nat.zero_le _) (Nat.zero_le _) hc_8 (by decide) rfl rfl (sX9_has (d := d + 0) (x1 := (w.1 54 0 x1.toNat))  ?_)
  show am_A (mh_G X) SC (d + 2) mX9_bring Q 12 [(2, .inl (w.1 54 0 x1.toNat)), (0, .inr (.inr (some (7, 0)))), (1, .inl x1)] [.inl (if (¬ (w.1 54 0 x1.toNat) < 0 ∧ (¬ (w.1 7 0 8) ≤ (w.1 54 0 x1.toNat))) then 1 else 0)] w bc bs
  refine am_ifeq (tgt := 37) dX9_bring_12 (by decide) (fun c3 => ?_) (fun c3 => ?_)
  · replace c3 := am_beq1 c3
    replace h := h.1 c3
    refine am_aload_n dX9_bring_37 (List.Mem.tail _ (List.Mem.head _)) ?_
    refine am_getf (f := 8) (v := .inl (w.1 7 0 8)) dX9_bring_38 hc_8 (by decide) wd_488 (by decide) rfl rfl ?_
    refine am_bipush dX9_bring_41 (by decide) (by unfold am_rg; omega) ?_
    refine am_icmpge (tgt := 73) dX9_bring_43 (by decide) (fun c4 => ?_) (fun c4 => ?_)
    · replace h := h.1 c4
      exact am_ret (r := none) dX9_bring_73 rfl rfl h
    · replace h := h.2 c4
      refine am_aload_n dX9_bring_46 (List.Mem.tail _ (List.Mem.head _)) ?_
      refine am_dup dX9_bring_47 rfl ?_
      refine am_getf (f := 11) (v := .inl (w.1 7 0 11)) dX9_bring_48 hc_8 (by decide) wd_496 (by decide) rfl rfl ?_
      refine am_iconst dX9_bring_51 (by unfold am_rg; omega) ?_
      refine am_isub dX9_bring_52 ?_
      refine am_putf (f := 11) dX9_bring_53 hc_8 (by decide) wd_496 rfl (Or.inl rfl) (Or.inl (by decide)) rfl ?_
      refine am_aload_n dX9_bring_56 (List.Mem.tail _ (List.Mem.head _)) ?_
      refine am_aload_n dX9_bring_57 (List.Mem.tail _ (List.Mem.head _)) ?_
      refine am_getf (f := 5) (v := .inr (.inr (some (55, 0)))) dX9_bring_58 hc_8 (by decide) wd_484 (by decide) rfl rfl ?_
      refine am_iload_n dX9_bring_61 (List.Mem.tail _ (List.Mem.tail _ (List.Mem.head _))) ?_
      refine am_iaload (v := (w.1 55 0 x1.toNat)) dX9_bring_62 (by decide) rfl o1 o2 rfl ?_
      refine am_aload_n dX9_bring_63 (List.Mem.tail _ (List.Mem.head _)) ?_
      refine am_getf (f := 6) (v := .inr (.inr (some (56, 0)))) dX9_bring_64 hc_8 (by decide) wd_485 (by decide) rfl rfl ?_
      refine am_iload_n dX9_bring_67 (List.Mem.tail _ (List.Mem.tail _ (List.Mem.head _))) ?_
      refine am_iaload (v := (w.1 56 0 x1.toNat)) dX9_bring_68 (by decide) rfl o1 o2 rfl ?_
      have o5 := h.1
      replace h := h.2
      have o6 := h.1
      replace h := h.2
      refine am_callv (d' := d + 1) (kc := 0) (ks := 0) (as := [.inl (w.1 55 0 x1.toNat), .inl (w.1 56 0 x1.toNat)]) dX9_bring_69 wc_X9_hang wd_1061 wd_1062 wd_1063 wd_120 ds_X9_hang (by decide) (by omega) (Nat.le_of_ble_eq_true rfl) (Nat.zero_le _) (Nat.zero_le _) hc_8 (by decide) rfl rfl (sX9_hang (d := d + 0) (x1 := (w.1 55 0 x1.toNat)) (x2 := (w.1 56 0 x1.toNat)) o5 o6 ?_)
      show am_A (mh_G X) SC (d + 2) mX9_bring Q 72 [(2, .inl (w.1 54 0 x1.toNat)), (0, .inr (.inr (some (7, 0)))), (1, .inl x1)] [.inl (am_w (((am_up (am_up w.1 7 0 11 (am_w ((w.1 7 0 11) - 1))) 7 0 8 (am_w (((am_up w.1 7 0 11 (am_w ((w.1 7 0 11) - 1))) 7 0 8) + 1))) 7 0 8) - 1))] ((am_up (am_up (am_up (am_up (am_up w.1 7 0 11 (am_w ((w.1 7 0 11) - 1))) 50 0 ((am_up w.1 7 0 11 (am_w ((w.1 7 0 11) - 1))) 7 0 8).toNat (w.1 55 0 x1.toNat)) 51 0 ((am_up w.1 7 0 11 (am_w ((w.1 7 0 11) - 1))) 7 0 8).toNat (w.1 56 0 x1.toNat)) 52 0 ((am_up w.1 7 0 11 (am_w ((w.1 7 0 11) - 1))) 7 0 8).toNat 0) 7 0 8 (am_w (((am_up w.1 7 0 11 (am_w ((w.1 7 0 11) - 1))) 7 0 8) + 1))), w.2) bc bs
      refine am_pop dX9_bring_72 rfl ?_
      exact am_ret (r := none) dX9_bring_73 rfl rfl h
  · replace c3 := am_beq2 c3
    replace h := h.2 c3
    refine am_aload_n dX9_bring_15 (List.Mem.tail _ (List.Mem.head _)) ?_
    refine am_getf (f := 1) (v := .inr (.inr (some (51, 0)))) dX9_bring_16 hc_8 (by decide) wd_477 (by decide) rfl rfl ?_
    refine am_iload_n dX9_bring_19 (List.Mem.head _) ?_
    refine am_aload_n dX9_bring_20 (List.Mem.tail _ (List.Mem.head _)) ?_
    refine am_getf (f := 6) (v := .inr (.inr (some (56, 0)))) dX9_bring_21 hc_8 (by decide) wd_485 (by decide) rfl rfl ?_
    refine am_iload_n dX9_bring_24 (List.Mem.tail _ (List.Mem.tail _ (List.Mem.head _))) ?_
    refine am_iaload (v := (w.1 56 0 x1.toNat)) dX9_bring_25 (by decide) rfl o1 o2 rfl ?_
    have o7 := h.1
    replace h := h.2
    have o8 := h.1
    replace h := h.2
    refine am_iastore dX9_bring_26 (Or.inl (by decide)) rfl o7 o8 ?_
    refine am_aload_n dX9_bring_27 (List.Mem.tail _ (List.Mem.head _)) ?_
    refine am_getf (f := 2) (v := .inr (.inr (some (52, 0)))) dX9_bring_28 hc_8 (by decide) wd_479 (by decide) rfl rfl ?_
    refine am_iload_n dX9_bring_31 (List.Mem.head _) ?_
    refine am_iconst dX9_bring_32 (by unfold am_rg; omega) ?_
    refine am_zastore (by decide) dX9_bring_33 (Or.inl (by decide)) rfl o7 o8 ?_
    refine am_goto (tgt := 73) dX9_bring_34 (by decide) ?_
    exact am_ret (r := none) dX9_bring_73 rfl rfl h
-- MourningHouse$Wardrobe.clearDone()V
theorem dX9_clearDone_0 : decode mX9_clearDone.2.1 0 = .ok (.iconst 0, 1) := by decide +kernel
theorem dX9_clearDone_1 : decode mX9_clearDone.2.1 1 = .ok (.istore_n 1, 1) := by decide +kernel
theorem dX9_clearDone_2 : decode mX9_clearDone.2.1 2 = .ok (.iconst 0, 1) := by decide +kernel
theorem dX9_clearDone_3 : decode mX9_clearDone.2.1 3 = .ok (.istore_n 2, 1) := by decide +kernel
theorem dX9_clearDone_4 : decode mX9_clearDone.2.1 4 = .ok (.iload_n 2, 1) := by decide +kernel
theorem dX9_clearDone_5 : decode mX9_clearDone.2.1 5 = .ok (.aload_n 0, 1) := by decide +kernel
theorem dX9_clearDone_6 : decode mX9_clearDone.2.1 6 = .ok (.getfield 41, 3) := by decide +kernel
theorem dX9_clearDone_9 : decode mX9_clearDone.2.1 9 = .ok (.if_icmp .ge 77, 3) := by decide +kernel
theorem dX9_clearDone_12 : decode mX9_clearDone.2.1 12 = .ok (.aload_n 0, 1) := by decide +kernel
theorem dX9_clearDone_13 : decode mX9_clearDone.2.1 13 = .ok (.getfield 34, 3) := by decide +kernel
theorem dX9_clearDone_16 : decode mX9_clearDone.2.1 16 = .ok (.iload_n 2, 1) := by decide +kernel
theorem dX9_clearDone_17 : decode mX9_clearDone.2.1 17 = .ok (.iaload, 1) := by decide +kernel
theorem dX9_clearDone_18 : decode mX9_clearDone.2.1 18 = .ok (.ifCond .gt 11, 3) := by decide +kernel
theorem dX9_clearDone_21 : decode mX9_clearDone.2.1 21 = .ok (.aload_n 0, 1) := by decide +kernel
theorem dX9_clearDone_22 : decode mX9_clearDone.2.1 22 = .ok (.iload_n 2, 1) := by decide +kernel
theorem dX9_clearDone_23 : decode mX9_clearDone.2.1 23 = .ok (.invokevirtual 68, 3) := by decide +kernel
theorem dX9_clearDone_26 : decode mX9_clearDone.2.1 26 = .ok (.goto 54, 3) := by decide +kernel
theorem dX9_clearDone_29 : decode mX9_clearDone.2.1 29 = .ok (.aload_n 0, 1) := by decide +kernel
theorem dX9_clearDone_30 : decode mX9_clearDone.2.1 30 = .ok (.getfield 25, 3) := by decide +kernel
theorem dX9_clearDone_33 : decode mX9_clearDone.2.1 33 = .ok (.iload_n 1, 1) := by decide +kernel
theorem dX9_clearDone_34 : decode mX9_clearDone.2.1 34 = .ok (.aload_n 0, 1) := by decide +kernel
theorem dX9_clearDone_35 : decode mX9_clearDone.2.1 35 = .ok (.getfield 25, 3) := by decide +kernel
theorem dX9_clearDone_38 : decode mX9_clearDone.2.1 38 = .ok (.iload_n 2, 1) := by decide +kernel
theorem dX9_clearDone_39 : decode mX9_clearDone.2.1 39 = .ok (.iaload, 1) := by decide +kernel
theorem dX9_clearDone_40 : decode mX9_clearDone.2.1 40 = .ok (.iastore, 1) := by decide +kernel
theorem dX9_clearDone_41 : decode mX9_clearDone.2.1 41 = .ok (.aload_n 0, 1) := by decide +kernel
theorem dX9_clearDone_42 : decode mX9_clearDone.2.1 42 = .ok (.getfield 28, 3) := by decide +kernel
theorem dX9_clearDone_45 : decode mX9_clearDone.2.1 45 = .ok (.iload_n 1, 1) := by decide +kernel
theorem dX9_clearDone_46 : decode mX9_clearDone.2.1 46 = .ok (.aload_n 0, 1) := by decide +kernel
theorem dX9_clearDone_47 : decode mX9_clearDone.2.1 47 = .ok (.getfield 28, 3) := by decide +kernel
theorem dX9_clearDone_50 : decode mX9_clearDone.2.1 50 = .ok (.iload_n 2, 1) := by decide +kernel
theorem dX9_clearDone_51 : decode mX9_clearDone.2.1 51 = .ok (.iaload, 1) := by decide +kernel
theorem dX9_clearDone_52 : decode mX9_clearDone.2.1 52 = .ok (.iastore, 1) := by decide +kernel
theorem dX9_clearDone_53 : decode mX9_clearDone.2.1 53 = .ok (.aload_n 0, 1) := by decide +kernel
theorem dX9_clearDone_54 : decode mX9_clearDone.2.1 54 = .ok (.getfield 31, 3) := by decide +kernel
theorem dX9_clearDone_57 : decode mX9_clearDone.2.1 57 = .ok (.iload_n 1, 1) := by decide +kernel
theorem dX9_clearDone_58 : decode mX9_clearDone.2.1 58 = .ok (.aload_n 0, 1) := by decide +kernel
theorem dX9_clearDone_59 : decode mX9_clearDone.2.1 59 = .ok (.getfield 31, 3) := by decide +kernel
theorem dX9_clearDone_62 : decode mX9_clearDone.2.1 62 = .ok (.iload_n 2, 1) := by decide +kernel
theorem dX9_clearDone_63 : decode mX9_clearDone.2.1 63 = .ok (.iaload, 1) := by decide +kernel
theorem dX9_clearDone_64 : decode mX9_clearDone.2.1 64 = .ok (.iastore, 1) := by decide +kernel
theorem dX9_clearDone_65 : decode mX9_clearDone.2.1 65 = .ok (.aload_n 0, 1) := by decide +kernel
theorem dX9_clearDone_66 : decode mX9_clearDone.2.1 66 = .ok (.getfield 34, 3) := by decide +kernel
theorem dX9_clearDone_69 : decode mX9_clearDone.2.1 69 = .ok (.iload_n 1, 1) := by decide +kernel
theorem dX9_clearDone_70 : decode mX9_clearDone.2.1 70 = .ok (.aload_n 0, 1) := by decide +kernel
theorem dX9_clearDone_71 : decode mX9_clearDone.2.1 71 = .ok (.getfield 34, 3) := by decide +kernel
theorem dX9_clearDone_74 : decode mX9_clearDone.2.1 74 = .ok (.iload_n 2, 1) := by decide +kernel
theorem dX9_clearDone_75 : decode mX9_clearDone.2.1 75 = .ok (.iaload, 1) := by decide +kernel
theorem dX9_clearDone_76 : decode mX9_clearDone.2.1 76 = .ok (.iastore, 1) := by decide +kernel
theorem dX9_clearDone_77 : decode mX9_clearDone.2.1 77 = .ok (.iinc 1 1, 3) := by decide +kernel
theorem dX9_clearDone_80 : decode mX9_clearDone.2.1 80 = .ok (.iinc 2 1, 3) := by decide +kernel
theorem dX9_clearDone_83 : decode mX9_clearDone.2.1 83 = .ok (.goto (-79), 3) := by decide +kernel
theorem dX9_clearDone_86 : decode mX9_clearDone.2.1 86 = .ok (.aload_n 0, 1) := by decide +kernel
theorem dX9_clearDone_87 : decode mX9_clearDone.2.1 87 = .ok (.iload_n 1, 1) := by decide +kernel
theorem dX9_clearDone_88 : decode mX9_clearDone.2.1 88 = .ok (.putfield 41, 3) := by decide +kernel
theorem dX9_clearDone_91 : decode mX9_clearDone.2.1 91 = .ok (.return_, 1) := by decide +kernel
theorem bX9_clearDone_0 {SC : Nat → Nat} {X : mh_X} {d : Nat} {Q : Option am_V → am_W → Prop} {bc bs : Nat} {w : am_W} 
    (h : am_A (mh_G X) SC (d + 3) mX9_clearDone Q 4 [(0, .inr (.inr (some (7, 0)))), (1, .inl 0), (2, .inl 0)] [] w bc bs) :
    am_A (mh_G X) SC (d + 3) mX9_clearDone Q 0 [(0, .inr (.inr (some (7, 0))))] [] w bc bs := by
  refine am_iconst dX9_clearDone_0 (by unfold am_rg; omega) ?_
  refine am_istore_n (ls' := [(1, .inl 0), (0, .inr (.inr (some (7, 0))))]) dX9_clearDone_1 (by decide) rfl ?_
  refine am_iconst dX9_clearDone_2 (by unfold am_rg; omega) ?_
  refine am_istore_n (ls' := [(2, .inl 0), (1, .inl 0), (0, .inr (.inr (some (7, 0))))]) dX9_clearDone_3 (by decide) rfl ?_
  exact am_sub [2, 1, 0] rfl h
theorem bX9_clearDone_4 {SC : Nat → Nat} {X : mh_X} {d : Nat} {Q : Option am_V → am_W → Prop} {bc bs : Nat} {w : am_W} {x1 : Int} {x2 : Int}
    (h : (((w.1 7 0 9) ≤ x2 → Q none ((am_up w.1 7 0 9 x1), w.2)) ∧ (¬ (w.1 7 0 9) ≤ x2 → (0 ≤ x2 ∧ (x2 < 20 ∧ ((0 < (w.1 57 0 x2.toNat) → (0 ≤ x1 ∧ (x1 < 20 ∧ am_A (mh_G X) SC (d + 3) mX9_clearDone Q 80 [(0, .inr (.inr (some (7, 0)))), (1, .inl (am_w (x1 + 1))), (2, .inl x2)] [] ((am_up (am_up (am_up (am_up w.1 54 0 x1.toNat (w.1 54 0 x2.toNat)) 55 0 x1.toNat (w.1 55 0 x2.toNat)) 56 0 x1.toNat (w.1 56 0 x2.toNat)) 57 0 x1.toNat (w.1 57 0 x2.toNat)), w.2) bc bs))) ∧ (¬ 0 < (w.1 57 0 x2.toNat) → am_M (mh_G X) SC (d + 2) 0 0 mX9_bring [.inr (.inr (some (7, 0))), .inl x2] w (fun r w1 => am_A (mh_G X) SC (d + 3) mX9_clearDone Q 26 [(0, .inr (.inr (some (7, 0)))), (1, .inl x1), (2, .inl x2)] (r.toList ++ []) w1 bc bs)))))))) :
    am_A (mh_G X) SC (d + 3) mX9_clearDone Q 4 [(0, .inr (.inr (some (7, 0)))), (1, .inl x1), (2, .inl x2)] [] w bc bs := by
  refine am_iload_n dX9_clearDone_4 (List.Mem.tail _ (List.Mem.tail _ (List.Mem.head _))) ?_
  refine am_aload_n dX9_clearDone_5 (List.Mem.head _) ?_
  refine am_getf (f := 9) (v := .inl (w.1 7 0 9)) dX9_clearDone_6 hc_8 (by decide) wd_490 (by decide) rfl rfl ?_
  refine am_icmpge (tgt := 86) dX9_clearDone_9 (by decide) (fun c1 => ?_) (fun c1 => ?_)
  · replace h := h.1 c1
    refine am_aload_n dX9_clearDone_86 (List.Mem.head _) ?_
    refine am_iload_n dX9_clearDone_87 (List.Mem.tail _ (List.Mem.head _)) ?_
    refine am_putf (f := 9) dX9_clearDone_88 hc_8 (by decide) wd_490 rfl (Or.inl rfl) (Or.inl (by decide)) rfl ?_
    exact am_ret (r := none) dX9_clearDone_91 rfl rfl h
  · replace h := h.2 c1
    refine am_aload_n dX9_clearDone_12 (List.Mem.head _) ?_
    refine am_getf (f := 7) (v := .inr (.inr (some (57, 0)))) dX9_clearDone_13 hc_8 (by decide) wd_486 (by decide) rfl rfl ?_
    refine am_iload_n dX9_clearDone_16 (List.Mem.tail _ (List.Mem.tail _ (List.Mem.head _))) ?_
    have o2 := h.1
    replace h := h.2
    have o3 := h.1
    replace h := h.2
    refine am_iaload (v := (w.1 57 0 x2.toNat)) dX9_clearDone_17 (by decide) rfl o2 o3 rfl ?_
    refine am_ifgt (tgt := 29) dX9_clearDone_18 (by decide) (fun c4 => ?_) (fun c4 => ?_)
    · replace h := h.1 c4
      refine am_aload_n dX9_clearDone_29 (List.Mem.head _) ?_
      refine am_getf (f := 4) (v := .inr (.inr (some (54, 0)))) dX9_clearDone_30 hc_8 (by decide) wd_483 (by decide) rfl rfl ?_
      refine am_iload_n dX9_clearDone_33 (List.Mem.tail _ (List.Mem.head _)) ?_
      refine am_aload_n dX9_clearDone_34 (List.Mem.head _) ?_
      refine am_getf (f := 4) (v := .inr (.inr (some (54, 0)))) dX9_clearDone_35 hc_8 (by decide) wd_483 (by decide) rfl rfl ?_
      refine am_iload_n dX9_clearDone_38 (List.Mem.tail _ (List.Mem.tail _ (List.Mem.head _))) ?_
      refine am_iaload (v := (w.1 54 0 x2.toNat)) dX9_clearDone_39 (by decide) rfl o2 o3 rfl ?_
      have o5 := h.1
      replace h := h.2
      have o6 := h.1
      replace h := h.2
      refine am_iastore dX9_clearDone_40 (Or.inl (by decide)) rfl o5 o6 ?_
      refine am_aload_n dX9_clearDone_41 (List.Mem.head _) ?_
      refine am_getf (f := 5) (v := .inr (.inr (some (55, 0)))) dX9_clearDone_42 hc_8 (by decide) wd_484 (by decide) rfl rfl ?_
      refine am_iload_n dX9_clearDone_45 (List.Mem.tail _ (List.Mem.head _)) ?_
      refine am_aload_n dX9_clearDone_46 (List.Mem.head _) ?_
      refine am_getf (f := 5) (v := .inr (.inr (some (55, 0)))) dX9_clearDone_47 hc_8 (by decide) wd_484 (by decide) rfl rfl ?_
      refine am_iload_n dX9_clearDone_50 (List.Mem.tail _ (List.Mem.tail _ (List.Mem.head _))) ?_
      refine am_iaload (v := (w.1 55 0 x2.toNat)) dX9_clearDone_51 (by decide) rfl o2 o3 rfl ?_
      refine am_iastore dX9_clearDone_52 (Or.inl (by decide)) rfl o5 o6 ?_
      refine am_aload_n dX9_clearDone_53 (List.Mem.head _) ?_
      refine am_getf (f := 6) (v := .inr (.inr (some (56, 0)))) dX9_clearDone_54 hc_8 (by decide) wd_485 (by decide) rfl rfl ?_
      refine am_iload_n dX9_clearDone_57 (List.Mem.tail _ (List.Mem.head _)) ?_
      refine am_aload_n dX9_clearDone_58 (List.Mem.head _) ?_
      refine am_getf (f := 6) (v := .inr (.inr (some (56, 0)))) dX9_clearDone_59 hc_8 (by decide) wd_485 (by decide) rfl rfl ?_
      refine am_iload_n dX9_clearDone_62 (List.Mem.tail _ (List.Mem.tail _ (List.Mem.head _))) ?_
      refine am_iaload (v := (w.1 56 0 x2.toNat)) dX9_clearDone_63 (by decide) rfl o2 o3 rfl ?_
      refine am_iastore dX9_clearDone_64 (Or.inl (by decide)) rfl o5 o6 ?_
      refine am_aload_n dX9_clearDone_65 (List.Mem.head _) ?_
      refine am_getf (f := 7) (v := .inr (.inr (some (57, 0)))) dX9_clearDone_66 hc_8 (by decide) wd_486 (by decide) rfl rfl ?_
      refine am_iload_n dX9_clearDone_69 (List.Mem.tail _ (List.Mem.head _)) ?_
      refine am_aload_n dX9_clearDone_70 (List.Mem.head _) ?_
      refine am_getf (f := 7) (v := .inr (.inr (some (57, 0)))) dX9_clearDone_71 hc_8 (by decide) wd_486 (by decide) rfl rfl ?_
      refine am_iload_n dX9_clearDone_74 (List.Mem.tail _ (List.Mem.tail _ (List.Mem.head _))) ?_
      refine am_iaload (v := (w.1 57 0 x2.toNat)) dX9_clearDone_75 (by decide) rfl o2 o3 rfl ?_
      refine am_iastore dX9_clearDone_76 (Or.inl (by decide)) rfl o5 o6 ?_
      refine am_iinc (ls' := [(1, .inl (am_w (x1 + 1))), (0, .inr (.inr (some (7, 0)))), (2, .inl x2)]) dX9_clearDone_77 (List.Mem.tail _ (List.Mem.head _)) (by decide) rfl ?_
      exact am_sub [1, 0, 2] rfl h
    · replace h := h.2 c4
      refine am_aload_n dX9_clearDone_21 (List.Mem.head _) ?_
      refine am_iload_n dX9_clearDone_22 (List.Mem.tail _ (List.Mem.tail _ (List.Mem.head _))) ?_
      exact am_callv (d' := d + 2) (kc := 0) (ks := 0) (as := [.inl x2]) dX9_clearDone_23 wc_X9_bring wd_1053 wd_1055 wd_27 wd_120 ds_X9_bring (by decide) (by omega) (Nat.le_of_ble_eq_true rfl) (Nat.zero_le _) (Nat.zero_le _) hc_8 (by decide) rfl rfl h
theorem bX9_clearDone_80 {SC : Nat → Nat} {X : mh_X} {d : Nat} {Q : Option am_V → am_W → Prop} {bc bs : Nat} {w : am_W} {x1 : Int} {x2 : Int}
    (h : am_A (mh_G X) SC (d + 3) mX9_clearDone Q 4 [(0, .inr (.inr (some (7, 0)))), (1, .inl x1), (2, .inl (am_w (x2 + 1)))] [] w bc bs) :
    am_A (mh_G X) SC (d + 3) mX9_clearDone Q 80 [(0, .inr (.inr (some (7, 0)))), (1, .inl x1), (2, .inl x2)] [] w bc bs := by
  refine am_iinc (ls' := [(2, .inl (am_w (x2 + 1))), (0, .inr (.inr (some (7, 0)))), (1, .inl x1)]) dX9_clearDone_80 (List.Mem.tail _ (List.Mem.tail _ (List.Mem.head _))) (by decide) rfl ?_
  refine am_goto (tgt := 4) dX9_clearDone_83 (by decide) ?_
  exact am_sub [1, 2, 0] rfl h
theorem bX9_clearDone_26 {SC : Nat → Nat} {X : mh_X} {d : Nat} {Q : Option am_V → am_W → Prop} {bc bs : Nat} {w : am_W} {x1 : Int} {x2 : Int}
    (h : am_A (mh_G X) SC (d + 3) mX9_clearDone Q 80 [(0, .inr (.inr (some (7, 0)))), (1, .inl x1), (2, .inl x2)] [] w bc bs) :
    am_A (mh_G X) SC (d + 3) mX9_clearDone Q 26 [(0, .inr (.inr (some (7, 0)))), (1, .inl x1), (2, .inl x2)] [] w bc bs := by
  refine am_goto (tgt := 80) dX9_clearDone_26 (by decide) ?_
  exact h
-- MourningHouse$Wardrobe.work(I)V
theorem dX9_work_0 : decode mX9_work.2.1 0 = .ok (.iconst 0, 1) := by decide +kernel
theorem dX9_work_1 : decode mX9_work.2.1 1 = .ok (.istore_n 2, 1) := by decide +kernel
theorem dX9_work_2 : decode mX9_work.2.1 2 = .ok (.iload_n 2, 1) := by decide +kernel
theorem dX9_work_3 : decode mX9_work.2.1 3 = .ok (.iload_n 1, 1) := by decide +kernel
theorem dX9_work_4 : decode mX9_work.2.1 4 = .ok (.if_icmp .ge 61, 3) := by decide +kernel
theorem dX9_work_7 : decode mX9_work.2.1 7 = .ok (.aload_n 0, 1) := by decide +kernel
theorem dX9_work_8 : decode mX9_work.2.1 8 = .ok (.getfield 41, 3) := by decide +kernel
theorem dX9_work_11 : decode mX9_work.2.1 11 = .ok (.ifCond .le 54, 3) := by decide +kernel
theorem dX9_work_14 : decode mX9_work.2.1 14 = .ok (.aload_n 0, 1) := by decide +kernel
theorem dX9_work_15 : decode mX9_work.2.1 15 = .ok (.getfield 44, 3) := by decide +kernel
theorem dX9_work_18 : decode mX9_work.2.1 18 = .ok (.ifCond .le 47, 3) := by decide +kernel
theorem dX9_work_21 : decode mX9_work.2.1 21 = .ok (.iconst 0, 1) := by decide +kernel
theorem dX9_work_22 : decode mX9_work.2.1 22 = .ok (.istore_n 3, 1) := by decide +kernel
theorem dX9_work_23 : decode mX9_work.2.1 23 = .ok (.iload_n 3, 1) := by decide +kernel
theorem dX9_work_24 : decode mX9_work.2.1 24 = .ok (.aload_n 0, 1) := by decide +kernel
theorem dX9_work_25 : decode mX9_work.2.1 25 = .ok (.getfield 41, 3) := by decide +kernel
theorem dX9_work_28 : decode mX9_work.2.1 28 = .ok (.if_icmp .ge 27, 3) := by decide +kernel
theorem dX9_work_31 : decode mX9_work.2.1 31 = .ok (.iload_n 3, 1) := by decide +kernel
theorem dX9_work_32 : decode mX9_work.2.1 32 = .ok (.aload_n 0, 1) := by decide +kernel
theorem dX9_work_33 : decode mX9_work.2.1 33 = .ok (.getfield 44, 3) := by decide +kernel
theorem dX9_work_36 : decode mX9_work.2.1 36 = .ok (.if_icmp .ge 19, 3) := by decide +kernel
theorem dX9_work_39 : decode mX9_work.2.1 39 = .ok (.aload_n 0, 1) := by decide +kernel
theorem dX9_work_40 : decode mX9_work.2.1 40 = .ok (.getfield 34, 3) := by decide +kernel
theorem dX9_work_43 : decode mX9_work.2.1 43 = .ok (.iload_n 3, 1) := by decide +kernel
theorem dX9_work_44 : decode mX9_work.2.1 44 = .ok (.dup2, 1) := by decide +kernel
theorem dX9_work_45 : decode mX9_work.2.1 45 = .ok (.iaload, 1) := by decide +kernel
theorem dX9_work_46 : decode mX9_work.2.1 46 = .ok (.iconst 1, 1) := by decide +kernel
theorem dX9_work_47 : decode mX9_work.2.1 47 = .ok (.isub, 1) := by decide +kernel
theorem dX9_work_48 : decode mX9_work.2.1 48 = .ok (.iastore, 1) := by decide +kernel
theorem dX9_work_49 : decode mX9_work.2.1 49 = .ok (.iinc 3 1, 3) := by decide +kernel
theorem dX9_work_52 : decode mX9_work.2.1 52 = .ok (.goto (-29), 3) := by decide +kernel
theorem dX9_work_55 : decode mX9_work.2.1 55 = .ok (.aload_n 0, 1) := by decide +kernel
theorem dX9_work_56 : decode mX9_work.2.1 56 = .ok (.invokevirtual 65, 3) := by decide +kernel
theorem dX9_work_59 : decode mX9_work.2.1 59 = .ok (.iinc 2 1, 3) := by decide +kernel
theorem dX9_work_62 : decode mX9_work.2.1 62 = .ok (.goto (-60), 3) := by decide +kernel
theorem dX9_work_65 : decode mX9_work.2.1 65 = .ok (.return_, 1) := by decide +kernel
theorem bX9_work_0 {SC : Nat → Nat} {X : mh_X} {d : Nat} {Q : Option am_V → am_W → Prop} {bc bs : Nat} {w : am_W} {x1 : Int}
    (h : am_A (mh_G X) SC (d + 4) mX9_work Q 2 [(0, .inr (.inr (some (7, 0)))), (1, .inl x1), (2, .inl 0)] [] w bc bs) :
    am_A (mh_G X) SC (d + 4) mX9_work Q 0 [(0, .inr (.inr (some (7, 0)))), (1, .inl x1)] [] w bc bs := by
  refine am_iconst dX9_work_0 (by unfold am_rg; omega) ?_
  refine am_istore_n (ls' := [(2, .inl 0), (0, .inr (.inr (some (7, 0)))), (1, .inl x1)]) dX9_work_1 (by decide) rfl ?_
  exact am_sub [1, 2, 0] rfl h
theorem bX9_work_2 {SC : Nat → Nat} {X : mh_X} {d : Nat} {Q : Option am_V → am_W → Prop} {bc bs : Nat} {w : am_W} {x1 : Int} {x2 : Int}
    (h : ((x1 ≤ x2 → Q none w) ∧ (¬ x1 ≤ x2 → (((w.1 7 0 9) ≤ 0 → Q none w) ∧ (¬ (w.1 7 0 9) ≤ 0 → (((w.1 7 0 10) ≤ 0 → Q none w) ∧ (¬ (w.1 7 0 10) ≤ 0 → am_A (mh_G X) SC (d + 4) mX9_work Q 23 [(0, .inr (.inr (some (7, 0)))), (1, .inl x1), (2, .inl x2), (3, .inl 0)] [] w bc bs))))))) :
    am_A (mh_G X) SC (d + 4) mX9_work Q 2 [(0, .inr (.inr (some (7, 0)))), (1, .inl x1), (2, .inl x2)] [] w bc bs := by
  refine am_iload_n dX9_work_2 (List.Mem.tail _ (List.Mem.tail _ (List.Mem.head _))) ?_
  refine am_iload_n dX9_work_3 (List.Mem.tail _ (List.Mem.head _)) ?_
  refine am_icmpge (tgt := 65) dX9_work_4 (by decide) (fun c1 => ?_) (fun c1 => ?_)
  · replace h := h.1 c1
    exact am_ret (r := none) dX9_work_65 rfl rfl h
  · replace h := h.2 c1
    refine am_aload_n dX9_work_7 (List.Mem.head _) ?_
    refine am_getf (f := 9) (v := .inl (w.1 7 0 9)) dX9_work_8 hc_8 (by decide) wd_490 (by decide) rfl rfl ?_
    refine am_ifle (tgt := 65) dX9_work_11 (by decide) (fun c2 => ?_) (fun c2 => ?_)
    · replace h := h.1 c2
      exact am_ret (r := none) dX9_work_65 rfl rfl h
    · replace h := h.2 c2
      refine am_aload_n dX9_work_14 (List.Mem.head _) ?_
      refine am_getf (f := 10) (v := .inl (w.1 7 0 10)) dX9_work_15 hc_8 (by decide) wd_493 (by decide) rfl rfl ?_
      refine am_ifle (tgt := 65) dX9_work_18 (by decide) (fun c3 => ?_) (fun c3 => ?_)
      · replace h := h.1 c3
        exact am_ret (r := none) dX9_work_65 rfl rfl h
      · replace h := h.2 c3
        refine am_iconst dX9_work_21 (by unfold am_rg; omega) ?_
        refine am_istore_n (ls' := [(3, .inl 0), (0, .inr (.inr (some (7, 0)))), (1, .inl x1), (2, .inl x2)]) dX9_work_22 (by decide) rfl ?_
        exact am_sub [1, 2, 3, 0] rfl h
theorem bX9_work_23 {SC : Nat → Nat} {X : mh_X} {d : Nat} {Q : Option am_V → am_W → Prop} {bc bs : Nat} {w : am_W} {x1 : Int} {x2 : Int} {x3 : Int}
    (h : (((w.1 7 0 9) ≤ x3 → am_A (mh_G X) SC (d + 4) mX9_work Q 55 [(0, .inr (.inr (some (7, 0)))), (1, .inl x1), (2, .inl x2)] [] w bc bs) ∧ (¬ (w.1 7 0 9) ≤ x3 → (((w.1 7 0 10) ≤ x3 → am_A (mh_G X) SC (d + 4) mX9_work Q 55 [(0, .inr (.inr (some (7, 0)))), (1, .inl x1), (2, .inl x2)] [] w bc bs) ∧ (¬ (w.1 7 0 10) ≤ x3 → (0 ≤ x3 ∧ (x3 < 20 ∧ am_A (mh_G X) SC (d + 4) mX9_work Q 23 [(0, .inr (.inr (some (7, 0)))), (1, .inl x1), (2, .inl x2), (3, .inl (am_w (x3 + 1)))] [] ((am_up w.1 57 0 x3.toNat (am_w ((w.1 57 0 x3.toNat) - 1))), w.2) bc bs))))))) :
    am_A (mh_G X) SC (d + 4) mX9_work Q 23 [(0, .inr (.inr (some (7, 0)))), (1, .inl x1), (2, .inl x2), (3, .inl x3)] [] w bc bs := by
  refine am_iload_n dX9_work_23 (List.Mem.tail _ (List.Mem.tail _ (List.Mem.tail _ (List.Mem.head _)))) ?_
  refine am_aload_n dX9_work_24 (List.Mem.head _) ?_
  refine am_getf (f := 9) (v := .inl (w.1 7 0 9)) dX9_work_25 hc_8 (by decide) wd_490 (by decide) rfl rfl ?_
  refine am_icmpge (tgt := 55) dX9_work_28 (by decide) (fun c1 => ?_) (fun c1 => ?_)
  · replace h := h.1 c1
    exact am_sub [0, 1, 2] rfl h
  · replace h := h.2 c1
    refine am_iload_n dX9_work_31 (List.Mem.tail _ (List.Mem.tail _ (List.Mem.tail _ (List.Mem.head _)))) ?_
    refine am_aload_n dX9_work_32 (List.Mem.head _) ?_
    refine am_getf (f := 10) (v := .inl (w.1 7 0 10)) dX9_work_33 hc_8 (by decide) wd_493 (by decide) rfl rfl ?_
    refine am_icmpge (tgt := 55) dX9_work_36 (by decide) (fun c2 => ?_) (fun c2 => ?_)
    · replace h := h.1 c2
      exact am_sub [0, 1, 2] rfl h
    · replace h := h.2 c2
      refine am_aload_n dX9_work_39 (List.Mem.head _) ?_
      refine am_getf (f := 7) (v := .inr (.inr (some (57, 0)))) dX9_work_40 hc_8 (by decide) wd_486 (by decide) rfl rfl ?_
      refine am_iload_n dX9_work_43 (List.Mem.tail _ (List.Mem.tail _ (List.Mem.tail _ (List.Mem.head _)))) ?_
      refine am_dup2 dX9_work_44 rfl rfl ?_
      have o3 := h.1
      replace h := h.2
      have o4 := h.1
      replace h := h.2
      refine am_iaload (v := (w.1 57 0 x3.toNat)) dX9_work_45 (by decide) rfl o3 o4 rfl ?_
      refine am_iconst dX9_work_46 (by unfold am_rg; omega) ?_
      refine am_isub dX9_work_47 ?_
      refine am_iastore dX9_work_48 (Or.inl (by decide)) rfl o3 o4 ?_
      refine am_iinc (ls' := [(3, .inl (am_w (x3 + 1))), (0, .inr (.inr (some (7, 0)))), (1, .inl x1), (2, .inl x2)]) dX9_work_49 (List.Mem.tail _ (List.Mem.tail _ (List.Mem.tail _ (List.Mem.head _)))) (by decide) rfl ?_
      refine am_goto (tgt := 23) dX9_work_52 (by decide) ?_
      exact am_sub [1, 2, 3, 0] rfl h
theorem bX9_work_55 {SC : Nat → Nat} {X : mh_X} {d : Nat} {Q : Option am_V → am_W → Prop} {bc bs : Nat} {w : am_W} {x1 : Int} {x2 : Int}
    (h : am_M (mh_G X) SC (d + 3) 0 0 mX9_clearDone [.inr (.inr (some (7, 0)))] w (fun r w1 => am_A (mh_G X) SC (d + 4) mX9_work Q 59 [(0, .inr (.inr (some (7, 0)))), (1, .inl x1), (2, .inl x2)] (r.toList ++ []) w1 bc bs)) :
    am_A (mh_G X) SC (d + 4) mX9_work Q 55 [(0, .inr (.inr (some (7, 0)))), (1, .inl x1), (2, .inl x2)] [] w bc bs := by
  refine am_aload_n dX9_work_55 (List.Mem.head _) ?_
  exact am_callv (d' := d + 3) (kc := 0) (ks := 0) (as := []) dX9_work_56 wc_X9_clearDone wd_1049 wd_1051 wd_26 wd_120 ds_X9_clearDone (by decide) (by omega) (Nat.le_of_ble_eq_true rfl) (Nat.zero_le _) (Nat.zero_le _) hc_8 (by decide) rfl rfl h
theorem bX9_work_59 {SC : Nat → Nat} {X : mh_X} {d : Nat} {Q : Option am_V → am_W → Prop} {bc bs : Nat} {w : am_W} {x1 : Int} {x2 : Int}
    (h : am_A (mh_G X) SC (d + 4) mX9_work Q 2 [(0, .inr (.inr (some (7, 0)))), (1, .inl x1), (2, .inl (am_w (x2 + 1)))] [] w bc bs) :
    am_A (mh_G X) SC (d + 4) mX9_work Q 59 [(0, .inr (.inr (some (7, 0)))), (1, .inl x1), (2, .inl x2)] [] w bc bs := by
  refine am_iinc (ls' := [(2, .inl (am_w (x2 + 1))), (0, .inr (.inr (some (7, 0)))), (1, .inl x1)]) dX9_work_59 (List.Mem.tail _ (List.Mem.tail _ (List.Mem.head _))) (by decide) rfl ?_
  refine am_goto (tgt := 2) dX9_work_62 (by decide) ?_
  exact am_sub [1, 2, 0] rfl h
-- MourningHouse.feed(IIIII)I
theorem dX11_feed_0 : decode mX11_feed.2.1 0 = .ok (.aload_n 0, 1) := by decide +kernel
theorem dX11_feed_1 : decode mX11_feed.2.1 1 = .ok (.getfield 10, 3) := by decide +kernel
theorem dX11_feed_4 : decode mX11_feed.2.1 4 = .ok (.invokevirtual 82, 3) := by decide +kernel
theorem dX11_feed_7 : decode mX11_feed.2.1 7 = .ok (.ifCond .ne 5, 3) := by decide +kernel
theorem dX11_feed_10 : decode mX11_feed.2.1 10 = .ok (.iconst (-1), 1) := by decide +kernel
theorem dX11_feed_11 : decode mX11_feed.2.1 11 = .ok (.ireturn, 1) := by decide +kernel
theorem dX11_feed_12 : decode mX11_feed.2.1 12 = .ok (.aload_n 0, 1) := by decide +kernel
theorem dX11_feed_13 : decode mX11_feed.2.1 13 = .ok (.getfield 10, 3) := by decide +kernel
theorem dX11_feed_16 : decode mX11_feed.2.1 16 = .ok (.iload_n 1, 1) := by decide +kernel
theorem dX11_feed_17 : decode mX11_feed.2.1 17 = .ok (.invokevirtual 86, 3) := by decide +kernel
theorem dX11_feed_20 : decode mX11_feed.2.1 20 = .ok (.aload_n 0, 1) := by decide +kernel
theorem dX11_feed_21 : decode mX11_feed.2.1 21 = .ok (.getfield 10, 3) := by decide +kernel
theorem dX11_feed_24 : decode mX11_feed.2.1 24 = .ok (.iload_n 2, 1) := by decide +kernel
theorem dX11_feed_25 : decode mX11_feed.2.1 25 = .ok (.invokevirtual 86, 3) := by decide +kernel
theorem dX11_feed_28 : decode mX11_feed.2.1 28 = .ok (.aload_n 0, 1) := by decide +kernel
theorem dX11_feed_29 : decode mX11_feed.2.1 29 = .ok (.getfield 10, 3) := by decide +kernel
theorem dX11_feed_32 : decode mX11_feed.2.1 32 = .ok (.iload_n 3, 1) := by decide +kernel
theorem dX11_feed_33 : decode mX11_feed.2.1 33 = .ok (.invokevirtual 86, 3) := by decide +kernel
theorem dX11_feed_36 : decode mX11_feed.2.1 36 = .ok (.aload_n 0, 1) := by decide +kernel
theorem dX11_feed_37 : decode mX11_feed.2.1 37 = .ok (.getfield 10, 3) := by decide +kernel
theorem dX11_feed_40 : decode mX11_feed.2.1 40 = .ok (.iload 4, 2) := by decide +kernel
theorem dX11_feed_42 : decode mX11_feed.2.1 42 = .ok (.invokevirtual 86, 3) := by decide +kernel
theorem dX11_feed_45 : decode mX11_feed.2.1 45 = .ok (.aload_n 0, 1) := by decide +kernel
theorem dX11_feed_46 : decode mX11_feed.2.1 46 = .ok (.getfield 10, 3) := by decide +kernel
theorem dX11_feed_49 : decode mX11_feed.2.1 49 = .ok (.iload 5, 2) := by decide +kernel
theorem dX11_feed_51 : decode mX11_feed.2.1 51 = .ok (.invokevirtual 86, 3) := by decide +kernel
theorem dX11_feed_54 : decode mX11_feed.2.1 54 = .ok (.aload_n 0, 1) := by decide +kernel
theorem dX11_feed_55 : decode mX11_feed.2.1 55 = .ok (.getfield 10, 3) := by decide +kernel
theorem dX11_feed_58 : decode mX11_feed.2.1 58 = .ok (.getfield 90, 3) := by decide +kernel
theorem dX11_feed_61 : decode mX11_feed.2.1 61 = .ok (.ireturn, 1) := by decide +kernel
theorem bX11_feed_0 {SC : Nat → Nat} {X : mh_X} {d : Nat} {Q : Option am_V → am_W → Prop} {bc bs : Nat} {w : am_W} {x1 : Int} {x2 : Int} {x3 : Int} {x4 : Int} {x5 : Int}
    (h : (((¬ 2980 < (w.1 2 0 3)) → am_M (mh_G X) SC (d + 1) 0 0 mX8_append [.inr (.inr (some (2, 0))), .inl x1] w (fun r w1 => am_A (mh_G X) SC (d + 2) mX11_feed Q 20 [(0, .inr (.inr (some (1, 0)))), (1, .inl x1), (2, .inl x2), (3, .inl x3), (4, .inl x4), (5, .inl x5)] (r.toList ++ []) w1 bc bs)) ∧ (¬ (¬ 2980 < (w.1 2 0 3)) → Q (some (.inl (-1))) w))) :
    am_A (mh_G X) SC (d + 2) mX11_feed Q 0 [(0, .inr (.inr (some (1, 0)))), (1, .inl x1), (2, .inl x2), (3, .inl x3), (4, .inl x4), (5, .inl x5)] [] w bc bs := by
  refine am_aload_n dX11_feed_0 (List.Mem.head _) ?_
  refine am_getf (f := 0) (v := .inr (.inr (some (2, 0)))) dX11_feed_1 hc_0 (by decide) wd_569 (by decide) rfl rfl ?_
  refine am_callv (d' := d + 1) (kc := 0) (ks := 0) (as := []) dX11_feed_4 wc_X8_hasRoom wd_613 wd_614 wd_615 wd_113 ds_X8_hasRoom (by decide) (by omega) (Nat.le_of_ble_eq_true rfl) (Nat.zero_le _) (Nat.zero_le _) hc_1 (by decide) rfl rfl (sX8_hasRoom (d := d + 0)   ?_)
  show am_A (mh_G X) SC (d + 2) mX11_feed Q 7 [(0, .inr (.inr (some (1, 0)))), (1, .inl x1), (2, .inl x2), (3, .inl x3), (4, .inl x4), (5, .inl x5)] [.inl (if (¬ 2980 < (w.1 2 0 3)) then 1 else 0)] w bc bs
  refine am_ifne (tgt := 12) dX11_feed_7 (by decide) (fun c1 => ?_) (fun c1 => ?_)
  · replace c1 := am_bne1 c1
    replace h := h.1 c1
    refine am_aload_n dX11_feed_12 (List.Mem.head _) ?_
    refine am_getf (f := 0) (v := .inr (.inr (some (2, 0)))) dX11_feed_13 hc_0 (by decide) wd_569 (by decide) rfl rfl ?_
    refine am_iload_n dX11_feed_16 (List.Mem.tail _ (List.Mem.head _)) ?_
    exact am_callv (d' := d + 1) (kc := 0) (ks := 0) (as := [.inl x1]) dX11_feed_17 wc_X8_append wd_617 wd_618 wd_619 wd_113 ds_X8_append (by decide) (by omega) (Nat.le_of_ble_eq_true rfl) (Nat.zero_le _) (Nat.zero_le _) hc_1 (by decide) rfl rfl h
  · replace c1 := am_bne2 c1
    replace h := h.2 c1
    refine am_iconst dX11_feed_10 (by unfold am_rg; omega) ?_
    exact am_ret (r := some (.inl (-1))) dX11_feed_11 (Or.inl rfl) rfl h
theorem bX11_feed_20 {SC : Nat → Nat} {X : mh_X} {d : Nat} {Q : Option am_V → am_W → Prop} {bc bs : Nat} {w : am_W} {x1 : Int} {x2 : Int} {x3 : Int} {x4 : Int} {x5 : Int}
    (h : am_M (mh_G X) SC (d + 1) 0 0 mX8_append [.inr (.inr (some (2, 0))), .inl x2] w (fun r w1 => am_A (mh_G X) SC (d + 2) mX11_feed Q 28 [(0, .inr (.inr (some (1, 0)))), (1, .inl x1), (2, .inl x2), (3, .inl x3), (4, .inl x4), (5, .inl x5)] (r.toList ++ []) w1 bc bs)) :
    am_A (mh_G X) SC (d + 2) mX11_feed Q 20 [(0, .inr (.inr (some (1, 0)))), (1, .inl x1), (2, .inl x2), (3, .inl x3), (4, .inl x4), (5, .inl x5)] [] w bc bs := by
  refine am_aload_n dX11_feed_20 (List.Mem.head _) ?_
  refine am_getf (f := 0) (v := .inr (.inr (some (2, 0)))) dX11_feed_21 hc_0 (by decide) wd_569 (by decide) rfl rfl ?_
  refine am_iload_n dX11_feed_24 (List.Mem.tail _ (List.Mem.tail _ (List.Mem.head _))) ?_
  exact am_callv (d' := d + 1) (kc := 0) (ks := 0) (as := [.inl x2]) dX11_feed_25 wc_X8_append wd_617 wd_618 wd_619 wd_113 ds_X8_append (by decide) (by omega) (Nat.le_of_ble_eq_true rfl) (Nat.zero_le _) (Nat.zero_le _) hc_1 (by decide) rfl rfl h
theorem bX11_feed_28 {SC : Nat → Nat} {X : mh_X} {d : Nat} {Q : Option am_V → am_W → Prop} {bc bs : Nat} {w : am_W} {x1 : Int} {x2 : Int} {x3 : Int} {x4 : Int} {x5 : Int}
    (h : am_M (mh_G X) SC (d + 1) 0 0 mX8_append [.inr (.inr (some (2, 0))), .inl x3] w (fun r w1 => am_A (mh_G X) SC (d + 2) mX11_feed Q 36 [(0, .inr (.inr (some (1, 0)))), (1, .inl x1), (2, .inl x2), (3, .inl x3), (4, .inl x4), (5, .inl x5)] (r.toList ++ []) w1 bc bs)) :
    am_A (mh_G X) SC (d + 2) mX11_feed Q 28 [(0, .inr (.inr (some (1, 0)))), (1, .inl x1), (2, .inl x2), (3, .inl x3), (4, .inl x4), (5, .inl x5)] [] w bc bs := by
  refine am_aload_n dX11_feed_28 (List.Mem.head _) ?_
  refine am_getf (f := 0) (v := .inr (.inr (some (2, 0)))) dX11_feed_29 hc_0 (by decide) wd_569 (by decide) rfl rfl ?_
  refine am_iload_n dX11_feed_32 (List.Mem.tail _ (List.Mem.tail _ (List.Mem.tail _ (List.Mem.head _)))) ?_
  exact am_callv (d' := d + 1) (kc := 0) (ks := 0) (as := [.inl x3]) dX11_feed_33 wc_X8_append wd_617 wd_618 wd_619 wd_113 ds_X8_append (by decide) (by omega) (Nat.le_of_ble_eq_true rfl) (Nat.zero_le _) (Nat.zero_le _) hc_1 (by decide) rfl rfl h
theorem bX11_feed_36 {SC : Nat → Nat} {X : mh_X} {d : Nat} {Q : Option am_V → am_W → Prop} {bc bs : Nat} {w : am_W} {x1 : Int} {x2 : Int} {x3 : Int} {x4 : Int} {x5 : Int}
    (h : am_M (mh_G X) SC (d + 1) 0 0 mX8_append [.inr (.inr (some (2, 0))), .inl x4] w (fun r w1 => am_A (mh_G X) SC (d + 2) mX11_feed Q 45 [(0, .inr (.inr (some (1, 0)))), (1, .inl x1), (2, .inl x2), (3, .inl x3), (4, .inl x4), (5, .inl x5)] (r.toList ++ []) w1 bc bs)) :
    am_A (mh_G X) SC (d + 2) mX11_feed Q 36 [(0, .inr (.inr (some (1, 0)))), (1, .inl x1), (2, .inl x2), (3, .inl x3), (4, .inl x4), (5, .inl x5)] [] w bc bs := by
  refine am_aload_n dX11_feed_36 (List.Mem.head _) ?_
  refine am_getf (f := 0) (v := .inr (.inr (some (2, 0)))) dX11_feed_37 hc_0 (by decide) wd_569 (by decide) rfl rfl ?_
  refine am_iload dX11_feed_40 (List.Mem.tail _ (List.Mem.tail _ (List.Mem.tail _ (List.Mem.tail _ (List.Mem.head _))))) ?_
  exact am_callv (d' := d + 1) (kc := 0) (ks := 0) (as := [.inl x4]) dX11_feed_42 wc_X8_append wd_617 wd_618 wd_619 wd_113 ds_X8_append (by decide) (by omega) (Nat.le_of_ble_eq_true rfl) (Nat.zero_le _) (Nat.zero_le _) hc_1 (by decide) rfl rfl h
theorem bX11_feed_45 {SC : Nat → Nat} {X : mh_X} {d : Nat} {Q : Option am_V → am_W → Prop} {bc bs : Nat} {w : am_W} {x1 : Int} {x2 : Int} {x3 : Int} {x4 : Int} {x5 : Int}
    (h : am_M (mh_G X) SC (d + 1) 0 0 mX8_append [.inr (.inr (some (2, 0))), .inl x5] w (fun r w1 => am_A (mh_G X) SC (d + 2) mX11_feed Q 54 [(0, .inr (.inr (some (1, 0)))), (1, .inl x1), (2, .inl x2), (3, .inl x3), (4, .inl x4), (5, .inl x5)] (r.toList ++ []) w1 bc bs)) :
    am_A (mh_G X) SC (d + 2) mX11_feed Q 45 [(0, .inr (.inr (some (1, 0)))), (1, .inl x1), (2, .inl x2), (3, .inl x3), (4, .inl x4), (5, .inl x5)] [] w bc bs := by
  refine am_aload_n dX11_feed_45 (List.Mem.head _) ?_
  refine am_getf (f := 0) (v := .inr (.inr (some (2, 0)))) dX11_feed_46 hc_0 (by decide) wd_569 (by decide) rfl rfl ?_
  refine am_iload dX11_feed_49 (List.Mem.tail _ (List.Mem.tail _ (List.Mem.tail _ (List.Mem.tail _ (List.Mem.tail _ (List.Mem.head _)))))) ?_
  exact am_callv (d' := d + 1) (kc := 0) (ks := 0) (as := [.inl x5]) dX11_feed_51 wc_X8_append wd_617 wd_618 wd_619 wd_113 ds_X8_append (by decide) (by omega) (Nat.le_of_ble_eq_true rfl) (Nat.zero_le _) (Nat.zero_le _) hc_1 (by decide) rfl rfl h
theorem bX11_feed_54 {SC : Nat → Nat} {X : mh_X} {d : Nat} {Q : Option am_V → am_W → Prop} {bc bs : Nat} {w : am_W} {x1 : Int} {x2 : Int} {x3 : Int} {x4 : Int} {x5 : Int}
    (h : Q (some (.inl (w.1 2 0 3))) w) :
    am_A (mh_G X) SC (d + 2) mX11_feed Q 54 [(0, .inr (.inr (some (1, 0)))), (1, .inl x1), (2, .inl x2), (3, .inl x3), (4, .inl x4), (5, .inl x5)] [] w bc bs := by
  refine am_aload_n dX11_feed_54 (List.Mem.head _) ?_
  refine am_getf (f := 0) (v := .inr (.inr (some (2, 0)))) dX11_feed_55 hc_0 (by decide) wd_569 (by decide) rfl rfl ?_
  refine am_getf (f := 3) (v := .inl (w.1 2 0 3)) dX11_feed_58 hc_1 (by decide) wd_154 (by decide) rfl rfl ?_
  exact am_ret (r := some (.inl (w.1 2 0 3))) dX11_feed_61 (Or.inl rfl) rfl h
