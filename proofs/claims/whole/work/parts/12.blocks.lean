-- MourningHouse$Calendar.has(I)Z
theorem dX0_has_0 : decode mX0_has.2.1 0 = .ok (.iload_n 0, 1) := by decide +kernel
theorem dX0_has_1 : decode mX0_has.2.1 1 = .ok (.ldc 9, 2) := by decide +kernel
theorem dX0_has_3 : decode mX0_has.2.1 3 = .ok (.if_icmp .lt 13, 3) := by decide +kernel
theorem dX0_has_6 : decode mX0_has.2.1 6 = .ok (.iload_n 0, 1) := by decide +kernel
theorem dX0_has_7 : decode mX0_has.2.1 7 = .ok (.ldc 10, 2) := by decide +kernel
theorem dX0_has_9 : decode mX0_has.2.1 9 = .ok (.if_icmp .gt 7, 3) := by decide +kernel
theorem dX0_has_12 : decode mX0_has.2.1 12 = .ok (.iconst 1, 1) := by decide +kernel
theorem dX0_has_13 : decode mX0_has.2.1 13 = .ok (.goto 4, 3) := by decide +kernel
theorem dX0_has_16 : decode mX0_has.2.1 16 = .ok (.iconst 0, 1) := by decide +kernel
theorem dX0_has_17 : decode mX0_has.2.1 17 = .ok (.ireturn, 1) := by decide +kernel
theorem sX0_has {SC : Nat → Nat} {X : mh_X} {d kc ks : Nat} {Q : Option am_V → am_W → Prop} {w : am_W} {x0 : Int}
    (h : Q (some (.inl (if (¬ x0 < (-36524) ∧ (¬ 73047 < x0)) then 1 else 0))) w) : am_M (mh_G X) SC (d + 1) kc ks mX0_has [.inl x0] w Q := by
  refine am_M_of (by decide) (Nat.le_of_ble_eq_true rfl) ?_
  show am_A (mh_G X) SC (d + 1) mX0_has Q 0 [(0, .inl x0)] [] w kc ks
  refine am_iload_n dX0_has_0 (List.Mem.head _) ?_
  refine am_ldcV (n := (-36524)) dX0_has_1 (by decide) wd_1007 (by unfold am_rg; omega) ?_
  refine am_icmplt (tgt := 16) dX0_has_3 (by decide) (fun c1 => ?_) (fun c1 => ?_)
  · refine am_iconst dX0_has_16 (by unfold am_rg; omega) ?_
    rw [if_neg (by omega)] at h
    exact am_ret (r := some (.inl 0)) dX0_has_17 (Or.inr (Or.inl ⟨rfl, (Or.inl rfl)⟩)) rfl h
  · refine am_iload_n dX0_has_6 (List.Mem.head _) ?_
    refine am_ldcV (n := 73047) dX0_has_7 (by decide) wd_1008 (by unfold am_rg; omega) ?_
    refine am_icmpgt (tgt := 16) dX0_has_9 (by decide) (fun c2 => ?_) (fun c2 => ?_)
    · refine am_iconst dX0_has_16 (by unfold am_rg; omega) ?_
      rw [if_neg (by omega)] at h
      exact am_ret (r := some (.inl 0)) dX0_has_17 (Or.inr (Or.inl ⟨rfl, (Or.inl rfl)⟩)) rfl h
    · refine am_iconst dX0_has_12 (by unfold am_rg; omega) ?_
      refine am_goto (tgt := 17) dX0_has_13 (by decide) ?_
      rw [if_pos (by omega)] at h
      exact am_ret (r := some (.inl 1)) dX0_has_17 (Or.inr (Or.inl ⟨rfl, (Or.inr rfl)⟩)) rfl h
-- MourningHouse$Calendar.lengthOf(II)I
theorem dX0_lengthOf_0 : decode mX0_lengthOf.2.1 0 = .ok (.iload_n 1, 1) := by decide +kernel
theorem dX0_lengthOf_1 : decode mX0_lengthOf.2.1 1 = .ok (.tableswitch 87 2 11 #[55, 87, 84, 87, 84, 87, 87, 84, 87, 84], 55) := by decide +kernel
theorem dX0_lengthOf_56 : decode mX0_lengthOf.2.1 56 = .ok (.iload_n 0, 1) := by decide +kernel
theorem dX0_lengthOf_57 : decode mX0_lengthOf.2.1 57 = .ok (.iconst 4, 1) := by decide +kernel
theorem dX0_lengthOf_58 : decode mX0_lengthOf.2.1 58 = .ok (.irem, 1) := by decide +kernel
theorem dX0_lengthOf_59 : decode mX0_lengthOf.2.1 59 = .ok (.ifCond .ne 23, 3) := by decide +kernel
theorem dX0_lengthOf_62 : decode mX0_lengthOf.2.1 62 = .ok (.iload_n 0, 1) := by decide +kernel
theorem dX0_lengthOf_63 : decode mX0_lengthOf.2.1 63 = .ok (.bipush 100, 2) := by decide +kernel
theorem dX0_lengthOf_65 : decode mX0_lengthOf.2.1 65 = .ok (.irem, 1) := by decide +kernel
theorem dX0_lengthOf_66 : decode mX0_lengthOf.2.1 66 = .ok (.ifCond .ne 11, 3) := by decide +kernel
theorem dX0_lengthOf_69 : decode mX0_lengthOf.2.1 69 = .ok (.iload_n 0, 1) := by decide +kernel
theorem dX0_lengthOf_70 : decode mX0_lengthOf.2.1 70 = .ok (.sipush 400, 3) := by decide +kernel
theorem dX0_lengthOf_73 : decode mX0_lengthOf.2.1 73 = .ok (.irem, 1) := by decide +kernel
theorem dX0_lengthOf_74 : decode mX0_lengthOf.2.1 74 = .ok (.ifCond .ne 8, 3) := by decide +kernel
theorem dX0_lengthOf_77 : decode mX0_lengthOf.2.1 77 = .ok (.bipush 29, 2) := by decide +kernel
theorem dX0_lengthOf_79 : decode mX0_lengthOf.2.1 79 = .ok (.goto 5, 3) := by decide +kernel
theorem dX0_lengthOf_82 : decode mX0_lengthOf.2.1 82 = .ok (.bipush 28, 2) := by decide +kernel
theorem dX0_lengthOf_84 : decode mX0_lengthOf.2.1 84 = .ok (.ireturn, 1) := by decide +kernel
theorem dX0_lengthOf_85 : decode mX0_lengthOf.2.1 85 = .ok (.bipush 30, 2) := by decide +kernel
theorem dX0_lengthOf_87 : decode mX0_lengthOf.2.1 87 = .ok (.ireturn, 1) := by decide +kernel
theorem dX0_lengthOf_88 : decode mX0_lengthOf.2.1 88 = .ok (.bipush 31, 2) := by decide +kernel
theorem dX0_lengthOf_90 : decode mX0_lengthOf.2.1 90 = .ok (.ireturn, 1) := by decide +kernel
theorem sX0_lengthOf {SC : Nat → Nat} {X : mh_X} {d kc ks : Nat} {Q : Option am_V → am_W → Prop} {w : am_W} {x0 : Int} {x1 : Int}
    (h : Q (some (.inl (if x1 = 11 then 30 else (if x1 = 10 then 31 else (if x1 = 9 then 30 else (if x1 = 8 then 31 else (if x1 = 7 then 31 else (if x1 = 6 then 30 else (if x1 = 5 then 31 else (if x1 = 4 then 30 else (if x1 = 3 then 31 else (if x1 = 2 then (if (am_w (Int.tmod x0 4)) = 0 then (if (am_w (Int.tmod x0 100)) = 0 then (if (am_w (Int.tmod x0 400)) = 0 then 29 else 28) else 29) else 28) else 31)))))))))))) w) : am_M (mh_G X) SC (d + 1) kc ks mX0_lengthOf [.inl x0, .inl x1] w Q := by
  refine am_M_of (by decide) (Nat.le_of_ble_eq_true rfl) ?_
  show am_A (mh_G X) SC (d + 1) mX0_lengthOf Q 0 [(0, .inl x0), (1, .inl x1)] [] w kc ks
  refine am_iload_n dX0_lengthOf_0 (List.Mem.tail _ (List.Mem.head _)) ?_
  by_cases c1 : (x1 < 2 ∨ 11 < x1)
  · refine am_tswOut (tgt := 88) dX0_lengthOf_1 c1 (by decide) ?_
    refine am_bipush dX0_lengthOf_88 (by decide) (by unfold am_rg; omega) ?_
    rw [show ((if x1 = 11 then 30 else (if x1 = 10 then 31 else (if x1 = 9 then 30 else (if x1 = 8 then 31 else (if x1 = 7 then 31 else (if x1 = 6 then 30 else (if x1 = 5 then 31 else (if x1 = 4 then 30 else (if x1 = 3 then 31 else (if x1 = 2 then (if (am_w (Int.tmod x0 4)) = 0 then (if (am_w (Int.tmod x0 100)) = 0 then (if (am_w (Int.tmod x0 400)) = 0 then 29 else 28) else 29) else 28) else 31)))))))))) : Int) = 31 from (if_neg (show ¬ x1 = 11 by omega)).trans ((if_neg (show ¬ x1 = 10 by omega)).trans ((if_neg (show ¬ x1 = 9 by omega)).trans ((if_neg (show ¬ x1 = 8 by omega)).trans ((if_neg (show ¬ x1 = 7 by omega)).trans ((if_neg (show ¬ x1 = 6 by omega)).trans ((if_neg (show ¬ x1 = 5 by omega)).trans ((if_neg (show ¬ x1 = 4 by omega)).trans ((if_neg (show ¬ x1 = 3 by omega)).trans (if_neg (show ¬ x1 = 2 by omega))))))))))] at h
    exact am_ret (r := some (.inl 31)) dX0_lengthOf_90 (Or.inl rfl) rfl h
  · rcases (show x1 = 2 ∨ x1 = 3 ∨ x1 = 4 ∨ x1 = 5 ∨ x1 = 6 ∨ x1 = 7 ∨ x1 = 8 ∨ x1 = 9 ∨ x1 = 10 ∨ x1 = 11 by omega) with c1 | c1 | c1 | c1 | c1 | c1 | c1 | c1 | c1 | c1
    · refine am_tswIn (off := 55) (tgt := 56) dX0_lengthOf_1 (by omega) (by omega) (by rw [c1]; decide) (by decide) ?_
      refine am_iload_n dX0_lengthOf_56 (List.Mem.head _) ?_
      refine am_iconst dX0_lengthOf_57 (by unfold am_rg; omega) ?_
      refine am_irem dX0_lengthOf_58 (by decide) ?_
      refine am_ifne (tgt := 82) dX0_lengthOf_59 (by decide) (fun c2 => ?_) (fun c2 => ?_)
      · refine am_bipush dX0_lengthOf_82 (by decide) (by unfold am_rg; omega) ?_
        rw [show ((if x1 = 11 then 30 else (if x1 = 10 then 31 else (if x1 = 9 then 30 else (if x1 = 8 then 31 else (if x1 = 7 then 31 else (if x1 = 6 then 30 else (if x1 = 5 then 31 else (if x1 = 4 then 30 else (if x1 = 3 then 31 else (if x1 = 2 then (if (am_w (Int.tmod x0 4)) = 0 then (if (am_w (Int.tmod x0 100)) = 0 then (if (am_w (Int.tmod x0 400)) = 0 then 29 else 28) else 29) else 28) else 31)))))))))) : Int) = 28 from (if_neg (show ¬ x1 = 11 by omega)).trans ((if_neg (show ¬ x1 = 10 by omega)).trans ((if_neg (show ¬ x1 = 9 by omega)).trans ((if_neg (show ¬ x1 = 8 by omega)).trans ((if_neg (show ¬ x1 = 7 by omega)).trans ((if_neg (show ¬ x1 = 6 by omega)).trans ((if_neg (show ¬ x1 = 5 by omega)).trans ((if_neg (show ¬ x1 = 4 by omega)).trans ((if_neg (show ¬ x1 = 3 by omega)).trans ((if_pos c1).trans (if_neg c2))))))))))] at h
        exact am_ret (r := some (.inl 28)) dX0_lengthOf_84 (Or.inl rfl) rfl h
      · refine am_iload_n dX0_lengthOf_62 (List.Mem.head _) ?_
        refine am_bipush dX0_lengthOf_63 (by decide) (by unfold am_rg; omega) ?_
        refine am_irem dX0_lengthOf_65 (by decide) ?_
        refine am_ifne (tgt := 77) dX0_lengthOf_66 (by decide) (fun c3 => ?_) (fun c3 => ?_)
        · refine am_bipush dX0_lengthOf_77 (by decide) (by unfold am_rg; omega) ?_
          refine am_goto (tgt := 84) dX0_lengthOf_79 (by decide) ?_
          rw [show ((if x1 = 11 then 30 else (if x1 = 10 then 31 else (if x1 = 9 then 30 else (if x1 = 8 then 31 else (if x1 = 7 then 31 else (if x1 = 6 then 30 else (if x1 = 5 then 31 else (if x1 = 4 then 30 else (if x1 = 3 then 31 else (if x1 = 2 then (if (am_w (Int.tmod x0 4)) = 0 then (if (am_w (Int.tmod x0 100)) = 0 then (if (am_w (Int.tmod x0 400)) = 0 then 29 else 28) else 29) else 28) else 31)))))))))) : Int) = 29 from (if_neg (show ¬ x1 = 11 by omega)).trans ((if_neg (show ¬ x1 = 10 by omega)).trans ((if_neg (show ¬ x1 = 9 by omega)).trans ((if_neg (show ¬ x1 = 8 by omega)).trans ((if_neg (show ¬ x1 = 7 by omega)).trans ((if_neg (show ¬ x1 = 6 by omega)).trans ((if_neg (show ¬ x1 = 5 by omega)).trans ((if_neg (show ¬ x1 = 4 by omega)).trans ((if_neg (show ¬ x1 = 3 by omega)).trans ((if_pos c1).trans ((if_pos c2).trans (if_neg c3)))))))))))] at h
          exact am_ret (r := some (.inl 29)) dX0_lengthOf_84 (Or.inl rfl) rfl h
        · refine am_iload_n dX0_lengthOf_69 (List.Mem.head _) ?_
          refine am_sipush dX0_lengthOf_70 (by decide) (by unfold am_rg; omega) ?_
          refine am_irem dX0_lengthOf_73 (by decide) ?_
          refine am_ifne (tgt := 82) dX0_lengthOf_74 (by decide) (fun c4 => ?_) (fun c4 => ?_)
          · refine am_bipush dX0_lengthOf_82 (by decide) (by unfold am_rg; omega) ?_
            rw [show ((if x1 = 11 then 30 else (if x1 = 10 then 31 else (if x1 = 9 then 30 else (if x1 = 8 then 31 else (if x1 = 7 then 31 else (if x1 = 6 then 30 else (if x1 = 5 then 31 else (if x1 = 4 then 30 else (if x1 = 3 then 31 else (if x1 = 2 then (if (am_w (Int.tmod x0 4)) = 0 then (if (am_w (Int.tmod x0 100)) = 0 then (if (am_w (Int.tmod x0 400)) = 0 then 29 else 28) else 29) else 28) else 31)))))))))) : Int) = 28 from (if_neg (show ¬ x1 = 11 by omega)).trans ((if_neg (show ¬ x1 = 10 by omega)).trans ((if_neg (show ¬ x1 = 9 by omega)).trans ((if_neg (show ¬ x1 = 8 by omega)).trans ((if_neg (show ¬ x1 = 7 by omega)).trans ((if_neg (show ¬ x1 = 6 by omega)).trans ((if_neg (show ¬ x1 = 5 by omega)).trans ((if_neg (show ¬ x1 = 4 by omega)).trans ((if_neg (show ¬ x1 = 3 by omega)).trans ((if_pos c1).trans ((if_pos c2).trans ((if_pos c3).trans (if_neg c4))))))))))))] at h
            exact am_ret (r := some (.inl 28)) dX0_lengthOf_84 (Or.inl rfl) rfl h
          · refine am_bipush dX0_lengthOf_77 (by decide) (by unfold am_rg; omega) ?_
            refine am_goto (tgt := 84) dX0_lengthOf_79 (by decide) ?_
            rw [show ((if x1 = 11 then 30 else (if x1 = 10 then 31 else (if x1 = 9 then 30 else (if x1 = 8 then 31 else (if x1 = 7 then 31 else (if x1 = 6 then 30 else (if x1 = 5 then 31 else (if x1 = 4 then 30 else (if x1 = 3 then 31 else (if x1 = 2 then (if (am_w (Int.tmod x0 4)) = 0 then (if (am_w (Int.tmod x0 100)) = 0 then (if (am_w (Int.tmod x0 400)) = 0 then 29 else 28) else 29) else 28) else 31)))))))))) : Int) = 29 from (if_neg (show ¬ x1 = 11 by omega)).trans ((if_neg (show ¬ x1 = 10 by omega)).trans ((if_neg (show ¬ x1 = 9 by omega)).trans ((if_neg (show ¬ x1 = 8 by omega)).trans ((if_neg (show ¬ x1 = 7 by omega)).trans ((if_neg (show ¬ x1 = 6 by omega)).trans ((if_neg (show ¬ x1 = 5 by omega)).trans ((if_neg (show ¬ x1 = 4 by omega)).trans ((if_neg (show ¬ x1 = 3 by omega)).trans ((if_pos c1).trans ((if_pos c2).trans ((if_pos c3).trans (if_pos c4))))))))))))] at h
            exact am_ret (r := some (.inl 29)) dX0_lengthOf_84 (Or.inl rfl) rfl h
    · refine am_tswIn (off := 87) (tgt := 88) dX0_lengthOf_1 (by omega) (by omega) (by rw [c1]; decide) (by decide) ?_
      refine am_bipush dX0_lengthOf_88 (by decide) (by unfold am_rg; omega) ?_
      rw [show ((if x1 = 11 then 30 else (if x1 = 10 then 31 else (if x1 = 9 then 30 else (if x1 = 8 then 31 else (if x1 = 7 then 31 else (if x1 = 6 then 30 else (if x1 = 5 then 31 else (if x1 = 4 then 30 else (if x1 = 3 then 31 else (if x1 = 2 then (if (am_w (Int.tmod x0 4)) = 0 then (if (am_w (Int.tmod x0 100)) = 0 then (if (am_w (Int.tmod x0 400)) = 0 then 29 else 28) else 29) else 28) else 31)))))))))) : Int) = 31 from (if_neg (show ¬ x1 = 11 by omega)).trans ((if_neg (show ¬ x1 = 10 by omega)).trans ((if_neg (show ¬ x1 = 9 by omega)).trans ((if_neg (show ¬ x1 = 8 by omega)).trans ((if_neg (show ¬ x1 = 7 by omega)).trans ((if_neg (show ¬ x1 = 6 by omega)).trans ((if_neg (show ¬ x1 = 5 by omega)).trans ((if_neg (show ¬ x1 = 4 by omega)).trans (if_pos c1))))))))] at h
      exact am_ret (r := some (.inl 31)) dX0_lengthOf_90 (Or.inl rfl) rfl h
    · refine am_tswIn (off := 84) (tgt := 85) dX0_lengthOf_1 (by omega) (by omega) (by rw [c1]; decide) (by decide) ?_
      refine am_bipush dX0_lengthOf_85 (by decide) (by unfold am_rg; omega) ?_
      rw [show ((if x1 = 11 then 30 else (if x1 = 10 then 31 else (if x1 = 9 then 30 else (if x1 = 8 then 31 else (if x1 = 7 then 31 else (if x1 = 6 then 30 else (if x1 = 5 then 31 else (if x1 = 4 then 30 else (if x1 = 3 then 31 else (if x1 = 2 then (if (am_w (Int.tmod x0 4)) = 0 then (if (am_w (Int.tmod x0 100)) = 0 then (if (am_w (Int.tmod x0 400)) = 0 then 29 else 28) else 29) else 28) else 31)))))))))) : Int) = 30 from (if_neg (show ¬ x1 = 11 by omega)).trans ((if_neg (show ¬ x1 = 10 by omega)).trans ((if_neg (show ¬ x1 = 9 by omega)).trans ((if_neg (show ¬ x1 = 8 by omega)).trans ((if_neg (show ¬ x1 = 7 by omega)).trans ((if_neg (show ¬ x1 = 6 by omega)).trans ((if_neg (show ¬ x1 = 5 by omega)).trans (if_pos c1)))))))] at h
      exact am_ret (r := some (.inl 30)) dX0_lengthOf_87 (Or.inl rfl) rfl h
    · refine am_tswIn (off := 87) (tgt := 88) dX0_lengthOf_1 (by omega) (by omega) (by rw [c1]; decide) (by decide) ?_
      refine am_bipush dX0_lengthOf_88 (by decide) (by unfold am_rg; omega) ?_
      rw [show ((if x1 = 11 then 30 else (if x1 = 10 then 31 else (if x1 = 9 then 30 else (if x1 = 8 then 31 else (if x1 = 7 then 31 else (if x1 = 6 then 30 else (if x1 = 5 then 31 else (if x1 = 4 then 30 else (if x1 = 3 then 31 else (if x1 = 2 then (if (am_w (Int.tmod x0 4)) = 0 then (if (am_w (Int.tmod x0 100)) = 0 then (if (am_w (Int.tmod x0 400)) = 0 then 29 else 28) else 29) else 28) else 31)))))))))) : Int) = 31 from (if_neg (show ¬ x1 = 11 by omega)).trans ((if_neg (show ¬ x1 = 10 by omega)).trans ((if_neg (show ¬ x1 = 9 by omega)).trans ((if_neg (show ¬ x1 = 8 by omega)).trans ((if_neg (show ¬ x1 = 7 by omega)).trans ((if_neg (show ¬ x1 = 6 by omega)).trans (if_pos c1))))))] at h
      exact am_ret (r := some (.inl 31)) dX0_lengthOf_90 (Or.inl rfl) rfl h
    · refine am_tswIn (off := 84) (tgt := 85) dX0_lengthOf_1 (by omega) (by omega) (by rw [c1]; decide) (by decide) ?_
      refine am_bipush dX0_lengthOf_85 (by decide) (by unfold am_rg; omega) ?_
      rw [show ((if x1 = 11 then 30 else (if x1 = 10 then 31 else (if x1 = 9 then 30 else (if x1 = 8 then 31 else (if x1 = 7 then 31 else (if x1 = 6 then 30 else (if x1 = 5 then 31 else (if x1 = 4 then 30 else (if x1 = 3 then 31 else (if x1 = 2 then (if (am_w (Int.tmod x0 4)) = 0 then (if (am_w (Int.tmod x0 100)) = 0 then (if (am_w (Int.tmod x0 400)) = 0 then 29 else 28) else 29) else 28) else 31)))))))))) : Int) = 30 from (if_neg (show ¬ x1 = 11 by omega)).trans ((if_neg (show ¬ x1 = 10 by omega)).trans ((if_neg (show ¬ x1 = 9 by omega)).trans ((if_neg (show ¬ x1 = 8 by omega)).trans ((if_neg (show ¬ x1 = 7 by omega)).trans (if_pos c1)))))] at h
      exact am_ret (r := some (.inl 30)) dX0_lengthOf_87 (Or.inl rfl) rfl h
    · refine am_tswIn (off := 87) (tgt := 88) dX0_lengthOf_1 (by omega) (by omega) (by rw [c1]; decide) (by decide) ?_
      refine am_bipush dX0_lengthOf_88 (by decide) (by unfold am_rg; omega) ?_
      rw [show ((if x1 = 11 then 30 else (if x1 = 10 then 31 else (if x1 = 9 then 30 else (if x1 = 8 then 31 else (if x1 = 7 then 31 else (if x1 = 6 then 30 else (if x1 = 5 then 31 else (if x1 = 4 then 30 else (if x1 = 3 then 31 else (if x1 = 2 then (if (am_w (Int.tmod x0 4)) = 0 then (if (am_w (Int.tmod x0 100)) = 0 then (if (am_w (Int.tmod x0 400)) = 0 then 29 else 28) else 29) else 28) else 31)))))))))) : Int) = 31 from (if_neg (show ¬ x1 = 11 by omega)).trans ((if_neg (show ¬ x1 = 10 by omega)).trans ((if_neg (show ¬ x1 = 9 by omega)).trans ((if_neg (show ¬ x1 = 8 by omega)).trans (if_pos c1))))] at h
      exact am_ret (r := some (.inl 31)) dX0_lengthOf_90 (Or.inl rfl) rfl h
    · refine am_tswIn (off := 87) (tgt := 88) dX0_lengthOf_1 (by omega) (by omega) (by rw [c1]; decide) (by decide) ?_
      refine am_bipush dX0_lengthOf_88 (by decide) (by unfold am_rg; omega) ?_
      rw [show ((if x1 = 11 then 30 else (if x1 = 10 then 31 else (if x1 = 9 then 30 else (if x1 = 8 then 31 else (if x1 = 7 then 31 else (if x1 = 6 then 30 else (if x1 = 5 then 31 else (if x1 = 4 then 30 else (if x1 = 3 then 31 else (if x1 = 2 then (if (am_w (Int.tmod x0 4)) = 0 then (if (am_w (Int.tmod x0 100)) = 0 then (if (am_w (Int.tmod x0 400)) = 0 then 29 else 28) else 29) else 28) else 31)))))))))) : Int) = 31 from (if_neg (show ¬ x1 = 11 by omega)).trans ((if_neg (show ¬ x1 = 10 by omega)).trans ((if_neg (show ¬ x1 = 9 by omega)).trans (if_pos c1)))] at h
      exact am_ret (r := some (.inl 31)) dX0_lengthOf_90 (Or.inl rfl) rfl h
    · refine am_tswIn (off := 84) (tgt := 85) dX0_lengthOf_1 (by omega) (by omega) (by rw [c1]; decide) (by decide) ?_
      refine am_bipush dX0_lengthOf_85 (by decide) (by unfold am_rg; omega) ?_
      rw [show ((if x1 = 11 then 30 else (if x1 = 10 then 31 else (if x1 = 9 then 30 else (if x1 = 8 then 31 else (if x1 = 7 then 31 else (if x1 = 6 then 30 else (if x1 = 5 then 31 else (if x1 = 4 then 30 else (if x1 = 3 then 31 else (if x1 = 2 then (if (am_w (Int.tmod x0 4)) = 0 then (if (am_w (Int.tmod x0 100)) = 0 then (if (am_w (Int.tmod x0 400)) = 0 then 29 else 28) else 29) else 28) else 31)))))))))) : Int) = 30 from (if_neg (show ¬ x1 = 11 by omega)).trans ((if_neg (show ¬ x1 = 10 by omega)).trans (if_pos c1))] at h
      exact am_ret (r := some (.inl 30)) dX0_lengthOf_87 (Or.inl rfl) rfl h
    · refine am_tswIn (off := 87) (tgt := 88) dX0_lengthOf_1 (by omega) (by omega) (by rw [c1]; decide) (by decide) ?_
      refine am_bipush dX0_lengthOf_88 (by decide) (by unfold am_rg; omega) ?_
      rw [show ((if x1 = 11 then 30 else (if x1 = 10 then 31 else (if x1 = 9 then 30 else (if x1 = 8 then 31 else (if x1 = 7 then 31 else (if x1 = 6 then 30 else (if x1 = 5 then 31 else (if x1 = 4 then 30 else (if x1 = 3 then 31 else (if x1 = 2 then (if (am_w (Int.tmod x0 4)) = 0 then (if (am_w (Int.tmod x0 100)) = 0 then (if (am_w (Int.tmod x0 400)) = 0 then 29 else 28) else 29) else 28) else 31)))))))))) : Int) = 31 from (if_neg (show ¬ x1 = 11 by omega)).trans (if_pos c1)] at h
      exact am_ret (r := some (.inl 31)) dX0_lengthOf_90 (Or.inl rfl) rfl h
    · refine am_tswIn (off := 84) (tgt := 85) dX0_lengthOf_1 (by omega) (by omega) (by rw [c1]; decide) (by decide) ?_
      refine am_bipush dX0_lengthOf_85 (by decide) (by unfold am_rg; omega) ?_
      rw [show ((if x1 = 11 then 30 else (if x1 = 10 then 31 else (if x1 = 9 then 30 else (if x1 = 8 then 31 else (if x1 = 7 then 31 else (if x1 = 6 then 30 else (if x1 = 5 then 31 else (if x1 = 4 then 30 else (if x1 = 3 then 31 else (if x1 = 2 then (if (am_w (Int.tmod x0 4)) = 0 then (if (am_w (Int.tmod x0 100)) = 0 then (if (am_w (Int.tmod x0 400)) = 0 then 29 else 28) else 29) else 28) else 31)))))))))) : Int) = 30 from if_pos c1] at h
      exact am_ret (r := some (.inl 30)) dX0_lengthOf_87 (Or.inl rfl) rfl h
-- MourningHouse$Calendar.hasDate(I)Z
theorem dX0_hasDate_0 : decode mX0_hasDate.2.1 0 = .ok (.iload_n 0, 1) := by decide +kernel
theorem dX0_hasDate_1 : decode mX0_hasDate.2.1 1 = .ok (.ldc 11, 2) := by decide +kernel
theorem dX0_hasDate_3 : decode mX0_hasDate.2.1 3 = .ok (.if_icmp .ge 5, 3) := by decide +kernel
theorem dX0_hasDate_6 : decode mX0_hasDate.2.1 6 = .ok (.iconst 0, 1) := by decide +kernel
theorem dX0_hasDate_7 : decode mX0_hasDate.2.1 7 = .ok (.ireturn, 1) := by decide +kernel
theorem dX0_hasDate_8 : decode mX0_hasDate.2.1 8 = .ok (.iload_n 0, 1) := by decide +kernel
theorem dX0_hasDate_9 : decode mX0_hasDate.2.1 9 = .ok (.sipush 10000, 3) := by decide +kernel
theorem dX0_hasDate_12 : decode mX0_hasDate.2.1 12 = .ok (.idiv, 1) := by decide +kernel
theorem dX0_hasDate_13 : decode mX0_hasDate.2.1 13 = .ok (.istore_n 1, 1) := by decide +kernel
theorem dX0_hasDate_14 : decode mX0_hasDate.2.1 14 = .ok (.iload_n 0, 1) := by decide +kernel
theorem dX0_hasDate_15 : decode mX0_hasDate.2.1 15 = .ok (.bipush 100, 2) := by decide +kernel
theorem dX0_hasDate_17 : decode mX0_hasDate.2.1 17 = .ok (.idiv, 1) := by decide +kernel
theorem dX0_hasDate_18 : decode mX0_hasDate.2.1 18 = .ok (.bipush 100, 2) := by decide +kernel
theorem dX0_hasDate_20 : decode mX0_hasDate.2.1 20 = .ok (.irem, 1) := by decide +kernel
theorem dX0_hasDate_21 : decode mX0_hasDate.2.1 21 = .ok (.istore_n 2, 1) := by decide +kernel
theorem dX0_hasDate_22 : decode mX0_hasDate.2.1 22 = .ok (.iload_n 0, 1) := by decide +kernel
theorem dX0_hasDate_23 : decode mX0_hasDate.2.1 23 = .ok (.bipush 100, 2) := by decide +kernel
theorem dX0_hasDate_25 : decode mX0_hasDate.2.1 25 = .ok (.irem, 1) := by decide +kernel
theorem dX0_hasDate_26 : decode mX0_hasDate.2.1 26 = .ok (.istore_n 3, 1) := by decide +kernel
theorem dX0_hasDate_27 : decode mX0_hasDate.2.1 27 = .ok (.iload_n 1, 1) := by decide +kernel
theorem dX0_hasDate_28 : decode mX0_hasDate.2.1 28 = .ok (.sipush 1999, 3) := by decide +kernel
theorem dX0_hasDate_31 : decode mX0_hasDate.2.1 31 = .ok (.if_icmp .gt 32, 3) := by decide +kernel
theorem dX0_hasDate_34 : decode mX0_hasDate.2.1 34 = .ok (.iload_n 2, 1) := by decide +kernel
theorem dX0_hasDate_35 : decode mX0_hasDate.2.1 35 = .ok (.iconst 1, 1) := by decide +kernel
theorem dX0_hasDate_36 : decode mX0_hasDate.2.1 36 = .ok (.if_icmp .lt 27, 3) := by decide +kernel
theorem dX0_hasDate_39 : decode mX0_hasDate.2.1 39 = .ok (.iload_n 2, 1) := by decide +kernel
theorem dX0_hasDate_40 : decode mX0_hasDate.2.1 40 = .ok (.bipush 12, 2) := by decide +kernel
theorem dX0_hasDate_42 : decode mX0_hasDate.2.1 42 = .ok (.if_icmp .gt 21, 3) := by decide +kernel
theorem dX0_hasDate_45 : decode mX0_hasDate.2.1 45 = .ok (.iload_n 3, 1) := by decide +kernel
theorem dX0_hasDate_46 : decode mX0_hasDate.2.1 46 = .ok (.iconst 1, 1) := by decide +kernel
theorem dX0_hasDate_47 : decode mX0_hasDate.2.1 47 = .ok (.if_icmp .lt 16, 3) := by decide +kernel
theorem dX0_hasDate_50 : decode mX0_hasDate.2.1 50 = .ok (.iload_n 3, 1) := by decide +kernel
theorem dX0_hasDate_51 : decode mX0_hasDate.2.1 51 = .ok (.iload_n 1, 1) := by decide +kernel
theorem dX0_hasDate_52 : decode mX0_hasDate.2.1 52 = .ok (.iload_n 2, 1) := by decide +kernel
theorem dX0_hasDate_53 : decode mX0_hasDate.2.1 53 = .ok (.invokestatic 12, 3) := by decide +kernel
theorem dX0_hasDate_56 : decode mX0_hasDate.2.1 56 = .ok (.if_icmp .gt 7, 3) := by decide +kernel
theorem dX0_hasDate_59 : decode mX0_hasDate.2.1 59 = .ok (.iconst 1, 1) := by decide +kernel
theorem dX0_hasDate_60 : decode mX0_hasDate.2.1 60 = .ok (.goto 4, 3) := by decide +kernel
theorem dX0_hasDate_63 : decode mX0_hasDate.2.1 63 = .ok (.iconst 0, 1) := by decide +kernel
theorem dX0_hasDate_64 : decode mX0_hasDate.2.1 64 = .ok (.ireturn, 1) := by decide +kernel
theorem bX0_hasDate_0 {SC : Nat → Nat} {X : mh_X} {d : Nat} {Q : Option am_V → am_W → Prop} {bc bs : Nat} {w : am_W} {x0 : Int}
    (h : ((17000000 ≤ x0 → ((1999 < (am_w (Int.tdiv x0 10000)) → Q (some (.inl 0)) w) ∧ (¬ 1999 < (am_w (Int.tdiv x0 10000)) → (((am_w (Int.tmod (am_w (Int.tdiv x0 100)) 100)) < 1 → Q (some (.inl 0)) w) ∧ (¬ (am_w (Int.tmod (am_w (Int.tdiv x0 100)) 100)) < 1 → ((12 < (am_w (Int.tmod (am_w (Int.tdiv x0 100)) 100)) → Q (some (.inl 0)) w) ∧ (¬ 12 < (am_w (Int.tmod (am_w (Int.tdiv x0 100)) 100)) → (((am_w (Int.tmod x0 100)) < 1 → Q (some (.inl 0)) w) ∧ (¬ (am_w (Int.tmod x0 100)) < 1 → am_M (mh_G X) SC (d + 1) 0 0 mX0_lengthOf [.inl (am_w (Int.tdiv x0 10000)), .inl (am_w (Int.tmod (am_w (Int.tdiv x0 100)) 100))] w (fun r w1 => am_A (mh_G X) SC (d + 2) mX0_hasDate Q 56 [(3, .inl (am_w (Int.tmod x0 100))), (2, .inl (am_w (Int.tmod (am_w (Int.tdiv x0 100)) 100))), (1, .inl (am_w (Int.tdiv x0 10000))), (0, .inl x0)] (r.toList ++ [.inl (am_w (Int.tmod x0 100))]) w1 bc bs)))))))))) ∧ (¬ 17000000 ≤ x0 → Q (some (.inl 0)) w))) :
    am_A (mh_G X) SC (d + 2) mX0_hasDate Q 0 [(0, .inl x0)] [] w bc bs := by
  refine am_iload_n dX0_hasDate_0 (List.Mem.head _) ?_
  refine am_ldcV (n := 17000000) dX0_hasDate_1 (by decide) wd_1023 (by unfold am_rg; omega) ?_
  refine am_icmpge (tgt := 8) dX0_hasDate_3 (by decide) (fun c1 => ?_) (fun c1 => ?_)
  · replace h := h.1 c1
    refine am_iload_n dX0_hasDate_8 (List.Mem.head _) ?_
    refine am_sipush dX0_hasDate_9 (by decide) (by unfold am_rg; omega) ?_
    refine am_idiv dX0_hasDate_12 (by decide) ?_
    refine am_istore_n (ls' := [(1, .inl (am_w (Int.tdiv x0 10000))), (0, .inl x0)]) dX0_hasDate_13 (by decide) rfl ?_
    refine am_iload_n dX0_hasDate_14 (List.Mem.tail _ (List.Mem.head _)) ?_
    refine am_bipush dX0_hasDate_15 (by decide) (by unfold am_rg; omega) ?_
    refine am_idiv dX0_hasDate_17 (by decide) ?_
    refine am_bipush dX0_hasDate_18 (by decide) (by unfold am_rg; omega) ?_
    refine am_irem dX0_hasDate_20 (by decide) ?_
    refine am_istore_n (ls' := [(2, .inl (am_w (Int.tmod (am_w (Int.tdiv x0 100)) 100))), (1, .inl (am_w (Int.tdiv x0 10000))), (0, .inl x0)]) dX0_hasDate_21 (by decide) rfl ?_
    refine am_iload_n dX0_hasDate_22 (List.Mem.tail _ (List.Mem.tail _ (List.Mem.head _))) ?_
    refine am_bipush dX0_hasDate_23 (by decide) (by unfold am_rg; omega) ?_
    refine am_irem dX0_hasDate_25 (by decide) ?_
    refine am_istore_n (ls' := [(3, .inl (am_w (Int.tmod x0 100))), (2, .inl (am_w (Int.tmod (am_w (Int.tdiv x0 100)) 100))), (1, .inl (am_w (Int.tdiv x0 10000))), (0, .inl x0)]) dX0_hasDate_26 (by decide) rfl ?_
    refine am_iload_n dX0_hasDate_27 (List.Mem.tail _ (List.Mem.tail _ (List.Mem.head _))) ?_
    refine am_sipush dX0_hasDate_28 (by decide) (by unfold am_rg; omega) ?_
    refine am_icmpgt (tgt := 63) dX0_hasDate_31 (by decide) (fun c2 => ?_) (fun c2 => ?_)
    · replace h := h.1 c2
      refine am_iconst dX0_hasDate_63 (by unfold am_rg; omega) ?_
      exact am_ret (r := some (.inl 0)) dX0_hasDate_64 (Or.inr (Or.inl ⟨rfl, (Or.inl rfl)⟩)) rfl h
    · replace h := h.2 c2
      refine am_iload_n dX0_hasDate_34 (List.Mem.tail _ (List.Mem.head _)) ?_
      refine am_iconst dX0_hasDate_35 (by unfold am_rg; omega) ?_
      refine am_icmplt (tgt := 63) dX0_hasDate_36 (by decide) (fun c3 => ?_) (fun c3 => ?_)
      · replace h := h.1 c3
        refine am_iconst dX0_hasDate_63 (by unfold am_rg; omega) ?_
        exact am_ret (r := some (.inl 0)) dX0_hasDate_64 (Or.inr (Or.inl ⟨rfl, (Or.inl rfl)⟩)) rfl h
      · replace h := h.2 c3
        refine am_iload_n dX0_hasDate_39 (List.Mem.tail _ (List.Mem.head _)) ?_
        refine am_bipush dX0_hasDate_40 (by decide) (by unfold am_rg; omega) ?_
        refine am_icmpgt (tgt := 63) dX0_hasDate_42 (by decide) (fun c4 => ?_) (fun c4 => ?_)
        · replace h := h.1 c4
          refine am_iconst dX0_hasDate_63 (by unfold am_rg; omega) ?_
          exact am_ret (r := some (.inl 0)) dX0_hasDate_64 (Or.inr (Or.inl ⟨rfl, (Or.inl rfl)⟩)) rfl h
        · replace h := h.2 c4
          refine am_iload_n dX0_hasDate_45 (List.Mem.head _) ?_
          refine am_iconst dX0_hasDate_46 (by unfold am_rg; omega) ?_
          refine am_icmplt (tgt := 63) dX0_hasDate_47 (by decide) (fun c5 => ?_) (fun c5 => ?_)
          · replace h := h.1 c5
            refine am_iconst dX0_hasDate_63 (by unfold am_rg; omega) ?_
            exact am_ret (r := some (.inl 0)) dX0_hasDate_64 (Or.inr (Or.inl ⟨rfl, (Or.inl rfl)⟩)) rfl h
          · replace h := h.2 c5
            refine am_iload_n dX0_hasDate_50 (List.Mem.head _) ?_
            refine am_iload_n dX0_hasDate_51 (List.Mem.tail _ (List.Mem.tail _ (List.Mem.head _))) ?_
            refine am_iload_n dX0_hasDate_52 (List.Mem.tail _ (List.Mem.head _)) ?_
            exact am_calls (d' := d + 1) (kc := 0) (ks := 0) (as := [.inl (am_w (Int.tdiv x0 10000)), .inl (am_w (Int.tmod (am_w (Int.tdiv x0 100)) 100))]) dX0_hasDate_53 wc_X0_lengthOf wd_1024 wd_894 wd_129 ds_X0_lengthOf (by decide) (by omega) (Nat.le_of_ble_eq_true rfl) (Nat.zero_le _) (Nat.zero_le _) rfl h
  · replace h := h.2 c1
    refine am_iconst dX0_hasDate_6 (by unfold am_rg; omega) ?_
    exact am_ret (r := some (.inl 0)) dX0_hasDate_7 (Or.inr (Or.inl ⟨rfl, (Or.inl rfl)⟩)) rfl h
theorem bX0_hasDate_56 {SC : Nat → Nat} {X : mh_X} {d : Nat} {Q : Option am_V → am_W → Prop} {bc bs : Nat} {w : am_W} {x3 : Int} {x2 : Int} {x1 : Int} {x0 : Int} {xs0 : Int} {xs1 : Int}
    (h : ((xs0 < xs1 → Q (some (.inl 0)) w) ∧ (¬ xs0 < xs1 → Q (some (.inl 1)) w))) :
    am_A (mh_G X) SC (d + 2) mX0_hasDate Q 56 [(3, .inl x3), (2, .inl x2), (1, .inl x1), (0, .inl x0)] [.inl xs0, .inl xs1] w bc bs := by
  refine am_icmpgt (tgt := 63) dX0_hasDate_56 (by decide) (fun c1 => ?_) (fun c1 => ?_)
  · replace h := h.1 c1
    refine am_iconst dX0_hasDate_63 (by unfold am_rg; omega) ?_
    exact am_ret (r := some (.inl 0)) dX0_hasDate_64 (Or.inr (Or.inl ⟨rfl, (Or.inl rfl)⟩)) rfl h
  · replace h := h.2 c1
    refine am_iconst dX0_hasDate_59 (by unfold am_rg; omega) ?_
    refine am_goto (tgt := 64) dX0_hasDate_60 (by decide) ?_
    exact am_ret (r := some (.inl 1)) dX0_hasDate_64 (Or.inr (Or.inl ⟨rfl, (Or.inr rfl)⟩)) rfl h
-- MourningHouse$Calendar.dayOf(III)I
theorem dX0_dayOf_0 : decode mX0_dayOf.2.1 0 = .ok (.iload_n 1, 1) := by decide +kernel
theorem dX0_dayOf_1 : decode mX0_dayOf.2.1 1 = .ok (.iconst 2, 1) := by decide +kernel
theorem dX0_dayOf_2 : decode mX0_dayOf.2.1 2 = .ok (.if_icmp .le 9, 3) := by decide +kernel
theorem dX0_dayOf_5 : decode mX0_dayOf.2.1 5 = .ok (.iload_n 1, 1) := by decide +kernel
theorem dX0_dayOf_6 : decode mX0_dayOf.2.1 6 = .ok (.iconst 3, 1) := by decide +kernel
theorem dX0_dayOf_7 : decode mX0_dayOf.2.1 7 = .ok (.isub, 1) := by decide +kernel
theorem dX0_dayOf_8 : decode mX0_dayOf.2.1 8 = .ok (.goto 7, 3) := by decide +kernel
theorem dX0_dayOf_11 : decode mX0_dayOf.2.1 11 = .ok (.iload_n 1, 1) := by decide +kernel
theorem dX0_dayOf_12 : decode mX0_dayOf.2.1 12 = .ok (.bipush 9, 2) := by decide +kernel
theorem dX0_dayOf_14 : decode mX0_dayOf.2.1 14 = .ok (.iadd, 1) := by decide +kernel
theorem dX0_dayOf_15 : decode mX0_dayOf.2.1 15 = .ok (.istore_n 3, 1) := by decide +kernel
theorem dX0_dayOf_16 : decode mX0_dayOf.2.1 16 = .ok (.iload_n 1, 1) := by decide +kernel
theorem dX0_dayOf_17 : decode mX0_dayOf.2.1 17 = .ok (.iconst 2, 1) := by decide +kernel
theorem dX0_dayOf_18 : decode mX0_dayOf.2.1 18 = .ok (.if_icmp .le 7, 3) := by decide +kernel
theorem dX0_dayOf_21 : decode mX0_dayOf.2.1 21 = .ok (.iload_n 0, 1) := by decide +kernel
theorem dX0_dayOf_22 : decode mX0_dayOf.2.1 22 = .ok (.goto 6, 3) := by decide +kernel
theorem dX0_dayOf_25 : decode mX0_dayOf.2.1 25 = .ok (.iload_n 0, 1) := by decide +kernel
theorem dX0_dayOf_26 : decode mX0_dayOf.2.1 26 = .ok (.iconst 1, 1) := by decide +kernel
theorem dX0_dayOf_27 : decode mX0_dayOf.2.1 27 = .ok (.isub, 1) := by decide +kernel
theorem dX0_dayOf_28 : decode mX0_dayOf.2.1 28 = .ok (.istore 4, 2) := by decide +kernel
theorem dX0_dayOf_30 : decode mX0_dayOf.2.1 30 = .ok (.iload 4, 2) := by decide +kernel
theorem dX0_dayOf_32 : decode mX0_dayOf.2.1 32 = .ok (.sipush 400, 3) := by decide +kernel
theorem dX0_dayOf_35 : decode mX0_dayOf.2.1 35 = .ok (.idiv, 1) := by decide +kernel
theorem dX0_dayOf_36 : decode mX0_dayOf.2.1 36 = .ok (.istore 5, 2) := by decide +kernel
theorem dX0_dayOf_38 : decode mX0_dayOf.2.1 38 = .ok (.iload 4, 2) := by decide +kernel
theorem dX0_dayOf_40 : decode mX0_dayOf.2.1 40 = .ok (.sipush 400, 3) := by decide +kernel
theorem dX0_dayOf_43 : decode mX0_dayOf.2.1 43 = .ok (.irem, 1) := by decide +kernel
theorem dX0_dayOf_44 : decode mX0_dayOf.2.1 44 = .ok (.istore 6, 2) := by decide +kernel
theorem dX0_dayOf_46 : decode mX0_dayOf.2.1 46 = .ok (.sipush 153, 3) := by decide +kernel
theorem dX0_dayOf_49 : decode mX0_dayOf.2.1 49 = .ok (.iload_n 3, 1) := by decide +kernel
theorem dX0_dayOf_50 : decode mX0_dayOf.2.1 50 = .ok (.imul, 1) := by decide +kernel
theorem dX0_dayOf_51 : decode mX0_dayOf.2.1 51 = .ok (.iconst 2, 1) := by decide +kernel
theorem dX0_dayOf_52 : decode mX0_dayOf.2.1 52 = .ok (.iadd, 1) := by decide +kernel
theorem dX0_dayOf_53 : decode mX0_dayOf.2.1 53 = .ok (.iconst 5, 1) := by decide +kernel
theorem dX0_dayOf_54 : decode mX0_dayOf.2.1 54 = .ok (.idiv, 1) := by decide +kernel
theorem dX0_dayOf_55 : decode mX0_dayOf.2.1 55 = .ok (.iload_n 2, 1) := by decide +kernel
theorem dX0_dayOf_56 : decode mX0_dayOf.2.1 56 = .ok (.iadd, 1) := by decide +kernel
theorem dX0_dayOf_57 : decode mX0_dayOf.2.1 57 = .ok (.iconst 1, 1) := by decide +kernel
theorem dX0_dayOf_58 : decode mX0_dayOf.2.1 58 = .ok (.isub, 1) := by decide +kernel
theorem dX0_dayOf_59 : decode mX0_dayOf.2.1 59 = .ok (.istore 7, 2) := by decide +kernel
theorem dX0_dayOf_61 : decode mX0_dayOf.2.1 61 = .ok (.iload 6, 2) := by decide +kernel
theorem dX0_dayOf_63 : decode mX0_dayOf.2.1 63 = .ok (.sipush 365, 3) := by decide +kernel
theorem dX0_dayOf_66 : decode mX0_dayOf.2.1 66 = .ok (.imul, 1) := by decide +kernel
theorem dX0_dayOf_67 : decode mX0_dayOf.2.1 67 = .ok (.iload 6, 2) := by decide +kernel
theorem dX0_dayOf_69 : decode mX0_dayOf.2.1 69 = .ok (.iconst 4, 1) := by decide +kernel
theorem dX0_dayOf_70 : decode mX0_dayOf.2.1 70 = .ok (.idiv, 1) := by decide +kernel
theorem dX0_dayOf_71 : decode mX0_dayOf.2.1 71 = .ok (.iadd, 1) := by decide +kernel
theorem dX0_dayOf_72 : decode mX0_dayOf.2.1 72 = .ok (.iload 6, 2) := by decide +kernel
theorem dX0_dayOf_74 : decode mX0_dayOf.2.1 74 = .ok (.bipush 100, 2) := by decide +kernel
theorem dX0_dayOf_76 : decode mX0_dayOf.2.1 76 = .ok (.idiv, 1) := by decide +kernel
theorem dX0_dayOf_77 : decode mX0_dayOf.2.1 77 = .ok (.isub, 1) := by decide +kernel
theorem dX0_dayOf_78 : decode mX0_dayOf.2.1 78 = .ok (.iload 7, 2) := by decide +kernel
theorem dX0_dayOf_80 : decode mX0_dayOf.2.1 80 = .ok (.iadd, 1) := by decide +kernel
theorem dX0_dayOf_81 : decode mX0_dayOf.2.1 81 = .ok (.istore 8, 2) := by decide +kernel
theorem dX0_dayOf_83 : decode mX0_dayOf.2.1 83 = .ok (.iload 5, 2) := by decide +kernel
theorem dX0_dayOf_85 : decode mX0_dayOf.2.1 85 = .ok (.ldc 16, 2) := by decide +kernel
theorem dX0_dayOf_87 : decode mX0_dayOf.2.1 87 = .ok (.imul, 1) := by decide +kernel
theorem dX0_dayOf_88 : decode mX0_dayOf.2.1 88 = .ok (.iload 8, 2) := by decide +kernel
theorem dX0_dayOf_90 : decode mX0_dayOf.2.1 90 = .ok (.iadd, 1) := by decide +kernel
theorem dX0_dayOf_91 : decode mX0_dayOf.2.1 91 = .ok (.ldc 17, 2) := by decide +kernel
theorem dX0_dayOf_93 : decode mX0_dayOf.2.1 93 = .ok (.isub, 1) := by decide +kernel
theorem dX0_dayOf_94 : decode mX0_dayOf.2.1 94 = .ok (.ireturn, 1) := by decide +kernel
theorem bX0_dayOf_0 {SC : Nat → Nat} {X : mh_X} {d : Nat} {Q : Option am_V → am_W → Prop} {bc bs : Nat} {w : am_W} {x0 : Int} {x1 : Int} {x2 : Int}
    (h : ((x1 ≤ 2 → am_A (mh_G X) SC (d + 1) mX0_dayOf Q 15 [(0, .inl x0), (1, .inl x1), (2, .inl x2)] [.inl (am_w (x1 + 9))] w bc bs) ∧ (¬ x1 ≤ 2 → am_A (mh_G X) SC (d + 1) mX0_dayOf Q 15 [(0, .inl x0), (1, .inl x1), (2, .inl x2)] [.inl (am_w (x1 - 3))] w bc bs))) :
    am_A (mh_G X) SC (d + 1) mX0_dayOf Q 0 [(0, .inl x0), (1, .inl x1), (2, .inl x2)] [] w bc bs := by
  refine am_iload_n dX0_dayOf_0 (List.Mem.tail _ (List.Mem.head _)) ?_
  refine am_iconst dX0_dayOf_1 (by unfold am_rg; omega) ?_
  refine am_icmple (tgt := 11) dX0_dayOf_2 (by decide) (fun c1 => ?_) (fun c1 => ?_)
  · replace h := h.1 c1
    refine am_iload_n dX0_dayOf_11 (List.Mem.tail _ (List.Mem.head _)) ?_
    refine am_bipush dX0_dayOf_12 (by decide) (by unfold am_rg; omega) ?_
    refine am_iadd dX0_dayOf_14 ?_
    exact h
  · replace h := h.2 c1
    refine am_iload_n dX0_dayOf_5 (List.Mem.tail _ (List.Mem.head _)) ?_
    refine am_iconst dX0_dayOf_6 (by unfold am_rg; omega) ?_
    refine am_isub dX0_dayOf_7 ?_
    refine am_goto (tgt := 15) dX0_dayOf_8 (by decide) ?_
    exact h
theorem bX0_dayOf_15 {SC : Nat → Nat} {X : mh_X} {d : Nat} {Q : Option am_V → am_W → Prop} {bc bs : Nat} {w : am_W} {x0 : Int} {x1 : Int} {x2 : Int} {xs0 : Int}
    (h : ((x1 ≤ 2 → am_A (mh_G X) SC (d + 1) mX0_dayOf Q 28 [(2, .inl x2), (3, .inl xs0)] [.inl (am_w (x0 - 1))] w bc bs) ∧ (¬ x1 ≤ 2 → am_A (mh_G X) SC (d + 1) mX0_dayOf Q 28 [(2, .inl x2), (3, .inl xs0)] [.inl x0] w bc bs))) :
    am_A (mh_G X) SC (d + 1) mX0_dayOf Q 15 [(0, .inl x0), (1, .inl x1), (2, .inl x2)] [.inl xs0] w bc bs := by
  refine am_istore_n (ls' := [(3, .inl xs0), (0, .inl x0), (1, .inl x1), (2, .inl x2)]) dX0_dayOf_15 (by decide) rfl ?_
  refine am_iload_n dX0_dayOf_16 (List.Mem.tail _ (List.Mem.tail _ (List.Mem.head _))) ?_
  refine am_iconst dX0_dayOf_17 (by unfold am_rg; omega) ?_
  refine am_icmple (tgt := 25) dX0_dayOf_18 (by decide) (fun c1 => ?_) (fun c1 => ?_)
  · replace h := h.1 c1
    refine am_iload_n dX0_dayOf_25 (List.Mem.tail _ (List.Mem.head _)) ?_
    refine am_iconst dX0_dayOf_26 (by unfold am_rg; omega) ?_
    refine am_isub dX0_dayOf_27 ?_
    exact am_sub [3, 0] rfl h
  · replace h := h.2 c1
    refine am_iload_n dX0_dayOf_21 (List.Mem.tail _ (List.Mem.head _)) ?_
    refine am_goto (tgt := 28) dX0_dayOf_22 (by decide) ?_
    exact am_sub [3, 0] rfl h
theorem bX0_dayOf_28 {SC : Nat → Nat} {X : mh_X} {d : Nat} {Q : Option am_V → am_W → Prop} {bc bs : Nat} {w : am_W} {x2 : Int} {x3 : Int} {xs0 : Int}
    (h : (∀ n1 : Int, n1 = (am_w ((am_w ((am_w (Int.tdiv (am_w ((am_w (153 * x3)) + 2)) 5)) + x2)) - 1)) → (∀ n2 : Int, n2 = (am_w ((am_w ((am_w ((am_w ((am_w (Int.tmod xs0 400)) * 365)) + (am_w (Int.tdiv (am_w (Int.tmod xs0 400)) 4)))) - (am_w (Int.tdiv (am_w (Int.tmod xs0 400)) 100)))) + n1)) → Q (some (.inl (am_w ((am_w ((am_w ((am_w (Int.tdiv xs0 400)) * 146097)) + n2)) - 657377)))) w))) :
    am_A (mh_G X) SC (d + 1) mX0_dayOf Q 28 [(2, .inl x2), (3, .inl x3)] [.inl xs0] w bc bs := by
  refine am_istore (ls' := [(4, .inl xs0), (2, .inl x2), (3, .inl x3)]) dX0_dayOf_28 (by decide) rfl ?_
  refine am_iload dX0_dayOf_30 (List.Mem.head _) ?_
  refine am_sipush dX0_dayOf_32 (by decide) (by unfold am_rg; omega) ?_
  refine am_idiv dX0_dayOf_35 (by decide) ?_
  refine am_istore (ls' := [(5, .inl (am_w (Int.tdiv xs0 400))), (4, .inl xs0), (2, .inl x2), (3, .inl x3)]) dX0_dayOf_36 (by decide) rfl ?_
  refine am_iload dX0_dayOf_38 (List.Mem.tail _ (List.Mem.head _)) ?_
  refine am_sipush dX0_dayOf_40 (by decide) (by unfold am_rg; omega) ?_
  refine am_irem dX0_dayOf_43 (by decide) ?_
  refine am_istore (ls' := [(6, .inl (am_w (Int.tmod xs0 400))), (5, .inl (am_w (Int.tdiv xs0 400))), (4, .inl xs0), (2, .inl x2), (3, .inl x3)]) dX0_dayOf_44 (by decide) rfl ?_
  refine am_sipush dX0_dayOf_46 (by decide) (by unfold am_rg; omega) ?_
  refine am_iload_n dX0_dayOf_49 (List.Mem.tail _ (List.Mem.tail _ (List.Mem.tail _ (List.Mem.tail _ (List.Mem.head _))))) ?_
  refine am_imul dX0_dayOf_50 ?_
  refine am_iconst dX0_dayOf_51 (by unfold am_rg; omega) ?_
  refine am_iadd dX0_dayOf_52 ?_
  refine am_iconst dX0_dayOf_53 (by unfold am_rg; omega) ?_
  refine am_idiv dX0_dayOf_54 (by decide) ?_
  refine am_iload_n dX0_dayOf_55 (List.Mem.tail _ (List.Mem.tail _ (List.Mem.tail _ (List.Mem.head _)))) ?_
  refine am_iadd dX0_dayOf_56 ?_
  refine am_iconst dX0_dayOf_57 (by unfold am_rg; omega) ?_
  refine am_isub dX0_dayOf_58 ?_
  refine am_named (fun n1 en1 => ?_)
  replace h := h n1 en1
  refine am_istore (ls' := [(7, .inl n1), (6, .inl (am_w (Int.tmod xs0 400))), (5, .inl (am_w (Int.tdiv xs0 400))), (4, .inl xs0), (2, .inl x2), (3, .inl x3)]) dX0_dayOf_59 (by decide) rfl ?_
  refine am_iload dX0_dayOf_61 (List.Mem.tail _ (List.Mem.head _)) ?_
  refine am_sipush dX0_dayOf_63 (by decide) (by unfold am_rg; omega) ?_
  refine am_imul dX0_dayOf_66 ?_
  refine am_iload dX0_dayOf_67 (List.Mem.tail _ (List.Mem.head _)) ?_
  refine am_iconst dX0_dayOf_69 (by unfold am_rg; omega) ?_
  refine am_idiv dX0_dayOf_70 (by decide) ?_
  refine am_iadd dX0_dayOf_71 ?_
  refine am_iload dX0_dayOf_72 (List.Mem.tail _ (List.Mem.head _)) ?_
  refine am_bipush dX0_dayOf_74 (by decide) (by unfold am_rg; omega) ?_
  refine am_idiv dX0_dayOf_76 (by decide) ?_
  refine am_isub dX0_dayOf_77 ?_
  refine am_iload dX0_dayOf_78 (List.Mem.head _) ?_
  refine am_iadd dX0_dayOf_80 ?_
  refine am_named (fun n2 en2 => ?_)
  replace h := h n2 en2
  refine am_istore (ls' := [(8, .inl n2), (7, .inl n1), (6, .inl (am_w (Int.tmod xs0 400))), (5, .inl (am_w (Int.tdiv xs0 400))), (4, .inl xs0), (2, .inl x2), (3, .inl x3)]) dX0_dayOf_81 (by decide) rfl ?_
  refine am_iload dX0_dayOf_83 (List.Mem.tail _ (List.Mem.tail _ (List.Mem.tail _ (List.Mem.head _)))) ?_
  refine am_ldcV (n := 146097) dX0_dayOf_85 (by decide) wd_1013 (by unfold am_rg; omega) ?_
  refine am_imul dX0_dayOf_87 ?_
  refine am_iload dX0_dayOf_88 (List.Mem.head _) ?_
  refine am_iadd dX0_dayOf_90 ?_
  refine am_ldcV (n := 657377) dX0_dayOf_91 (by decide) wd_1012 (by unfold am_rg; omega) ?_
  refine am_isub dX0_dayOf_93 ?_
  exact am_ret (r := some (.inl (am_w ((am_w ((am_w ((am_w (Int.tdiv xs0 400)) * 146097)) + n2)) - 657377)))) dX0_dayOf_94 (Or.inl rfl) rfl h
-- MourningHouse$Calendar.dateOf(I)I
theorem dX0_dateOf_0 : decode mX0_dateOf.2.1 0 = .ok (.iload_n 0, 1) := by decide +kernel
theorem dX0_dateOf_1 : decode mX0_dateOf.2.1 1 = .ok (.ldc 17, 2) := by decide +kernel
theorem dX0_dateOf_3 : decode mX0_dateOf.2.1 3 = .ok (.iadd, 1) := by decide +kernel
theorem dX0_dateOf_4 : decode mX0_dateOf.2.1 4 = .ok (.istore_n 1, 1) := by decide +kernel
theorem dX0_dateOf_5 : decode mX0_dateOf.2.1 5 = .ok (.iload_n 1, 1) := by decide +kernel
theorem dX0_dateOf_6 : decode mX0_dateOf.2.1 6 = .ok (.ldc 16, 2) := by decide +kernel
theorem dX0_dateOf_8 : decode mX0_dateOf.2.1 8 = .ok (.idiv, 1) := by decide +kernel
theorem dX0_dateOf_9 : decode mX0_dateOf.2.1 9 = .ok (.istore_n 2, 1) := by decide +kernel
theorem dX0_dateOf_10 : decode mX0_dateOf.2.1 10 = .ok (.iload_n 1, 1) := by decide +kernel
theorem dX0_dateOf_11 : decode mX0_dateOf.2.1 11 = .ok (.ldc 16, 2) := by decide +kernel
theorem dX0_dateOf_13 : decode mX0_dateOf.2.1 13 = .ok (.irem, 1) := by decide +kernel
theorem dX0_dateOf_14 : decode mX0_dateOf.2.1 14 = .ok (.istore_n 3, 1) := by decide +kernel
theorem dX0_dateOf_15 : decode mX0_dateOf.2.1 15 = .ok (.iload_n 3, 1) := by decide +kernel
theorem dX0_dateOf_16 : decode mX0_dateOf.2.1 16 = .ok (.iload_n 3, 1) := by decide +kernel
theorem dX0_dateOf_17 : decode mX0_dateOf.2.1 17 = .ok (.sipush 1460, 3) := by decide +kernel
theorem dX0_dateOf_20 : decode mX0_dateOf.2.1 20 = .ok (.idiv, 1) := by decide +kernel
theorem dX0_dateOf_21 : decode mX0_dateOf.2.1 21 = .ok (.isub, 1) := by decide +kernel
theorem dX0_dateOf_22 : decode mX0_dateOf.2.1 22 = .ok (.iload_n 3, 1) := by decide +kernel
theorem dX0_dateOf_23 : decode mX0_dateOf.2.1 23 = .ok (.ldc 18, 2) := by decide +kernel
theorem dX0_dateOf_25 : decode mX0_dateOf.2.1 25 = .ok (.idiv, 1) := by decide +kernel
theorem dX0_dateOf_26 : decode mX0_dateOf.2.1 26 = .ok (.iadd, 1) := by decide +kernel
theorem dX0_dateOf_27 : decode mX0_dateOf.2.1 27 = .ok (.iload_n 3, 1) := by decide +kernel
theorem dX0_dateOf_28 : decode mX0_dateOf.2.1 28 = .ok (.ldc 19, 2) := by decide +kernel
theorem dX0_dateOf_30 : decode mX0_dateOf.2.1 30 = .ok (.idiv, 1) := by decide +kernel
theorem dX0_dateOf_31 : decode mX0_dateOf.2.1 31 = .ok (.isub, 1) := by decide +kernel
theorem dX0_dateOf_32 : decode mX0_dateOf.2.1 32 = .ok (.sipush 365, 3) := by decide +kernel
theorem dX0_dateOf_35 : decode mX0_dateOf.2.1 35 = .ok (.idiv, 1) := by decide +kernel
theorem dX0_dateOf_36 : decode mX0_dateOf.2.1 36 = .ok (.istore 4, 2) := by decide +kernel
theorem dX0_dateOf_38 : decode mX0_dateOf.2.1 38 = .ok (.iload_n 3, 1) := by decide +kernel
theorem dX0_dateOf_39 : decode mX0_dateOf.2.1 39 = .ok (.sipush 365, 3) := by decide +kernel
theorem dX0_dateOf_42 : decode mX0_dateOf.2.1 42 = .ok (.iload 4, 2) := by decide +kernel
theorem dX0_dateOf_44 : decode mX0_dateOf.2.1 44 = .ok (.imul, 1) := by decide +kernel
theorem dX0_dateOf_45 : decode mX0_dateOf.2.1 45 = .ok (.iload 4, 2) := by decide +kernel
theorem dX0_dateOf_47 : decode mX0_dateOf.2.1 47 = .ok (.iconst 4, 1) := by decide +kernel
theorem dX0_dateOf_48 : decode mX0_dateOf.2.1 48 = .ok (.idiv, 1) := by decide +kernel
theorem dX0_dateOf_49 : decode mX0_dateOf.2.1 49 = .ok (.iadd, 1) := by decide +kernel
theorem dX0_dateOf_50 : decode mX0_dateOf.2.1 50 = .ok (.iload 4, 2) := by decide +kernel
theorem dX0_dateOf_52 : decode mX0_dateOf.2.1 52 = .ok (.bipush 100, 2) := by decide +kernel
theorem dX0_dateOf_54 : decode mX0_dateOf.2.1 54 = .ok (.idiv, 1) := by decide +kernel
theorem dX0_dateOf_55 : decode mX0_dateOf.2.1 55 = .ok (.isub, 1) := by decide +kernel
theorem dX0_dateOf_56 : decode mX0_dateOf.2.1 56 = .ok (.isub, 1) := by decide +kernel
theorem dX0_dateOf_57 : decode mX0_dateOf.2.1 57 = .ok (.istore 5, 2) := by decide +kernel
theorem dX0_dateOf_59 : decode mX0_dateOf.2.1 59 = .ok (.iconst 5, 1) := by decide +kernel
theorem dX0_dateOf_60 : decode mX0_dateOf.2.1 60 = .ok (.iload 5, 2) := by decide +kernel
theorem dX0_dateOf_62 : decode mX0_dateOf.2.1 62 = .ok (.imul, 1) := by decide +kernel
theorem dX0_dateOf_63 : decode mX0_dateOf.2.1 63 = .ok (.iconst 2, 1) := by decide +kernel
theorem dX0_dateOf_64 : decode mX0_dateOf.2.1 64 = .ok (.iadd, 1) := by decide +kernel
theorem dX0_dateOf_65 : decode mX0_dateOf.2.1 65 = .ok (.sipush 153, 3) := by decide +kernel
theorem dX0_dateOf_68 : decode mX0_dateOf.2.1 68 = .ok (.idiv, 1) := by decide +kernel
theorem dX0_dateOf_69 : decode mX0_dateOf.2.1 69 = .ok (.istore 6, 2) := by decide +kernel
theorem dX0_dateOf_71 : decode mX0_dateOf.2.1 71 = .ok (.iload 5, 2) := by decide +kernel
theorem dX0_dateOf_73 : decode mX0_dateOf.2.1 73 = .ok (.sipush 153, 3) := by decide +kernel
theorem dX0_dateOf_76 : decode mX0_dateOf.2.1 76 = .ok (.iload 6, 2) := by decide +kernel
theorem dX0_dateOf_78 : decode mX0_dateOf.2.1 78 = .ok (.imul, 1) := by decide +kernel
theorem dX0_dateOf_79 : decode mX0_dateOf.2.1 79 = .ok (.iconst 2, 1) := by decide +kernel
theorem dX0_dateOf_80 : decode mX0_dateOf.2.1 80 = .ok (.iadd, 1) := by decide +kernel
theorem dX0_dateOf_81 : decode mX0_dateOf.2.1 81 = .ok (.iconst 5, 1) := by decide +kernel
theorem dX0_dateOf_82 : decode mX0_dateOf.2.1 82 = .ok (.idiv, 1) := by decide +kernel
theorem dX0_dateOf_83 : decode mX0_dateOf.2.1 83 = .ok (.isub, 1) := by decide +kernel
theorem dX0_dateOf_84 : decode mX0_dateOf.2.1 84 = .ok (.iconst 1, 1) := by decide +kernel
theorem dX0_dateOf_85 : decode mX0_dateOf.2.1 85 = .ok (.iadd, 1) := by decide +kernel
theorem dX0_dateOf_86 : decode mX0_dateOf.2.1 86 = .ok (.istore 7, 2) := by decide +kernel
theorem dX0_dateOf_88 : decode mX0_dateOf.2.1 88 = .ok (.iload 6, 2) := by decide +kernel
theorem dX0_dateOf_90 : decode mX0_dateOf.2.1 90 = .ok (.bipush 10, 2) := by decide +kernel
theorem dX0_dateOf_92 : decode mX0_dateOf.2.1 92 = .ok (.if_icmp .ge 10, 3) := by decide +kernel
theorem dX0_dateOf_95 : decode mX0_dateOf.2.1 95 = .ok (.iload 6, 2) := by decide +kernel
theorem dX0_dateOf_97 : decode mX0_dateOf.2.1 97 = .ok (.iconst 3, 1) := by decide +kernel
theorem dX0_dateOf_98 : decode mX0_dateOf.2.1 98 = .ok (.iadd, 1) := by decide +kernel
theorem dX0_dateOf_99 : decode mX0_dateOf.2.1 99 = .ok (.goto 8, 3) := by decide +kernel
theorem dX0_dateOf_102 : decode mX0_dateOf.2.1 102 = .ok (.iload 6, 2) := by decide +kernel
theorem dX0_dateOf_104 : decode mX0_dateOf.2.1 104 = .ok (.bipush 9, 2) := by decide +kernel
theorem dX0_dateOf_106 : decode mX0_dateOf.2.1 106 = .ok (.isub, 1) := by decide +kernel
theorem dX0_dateOf_107 : decode mX0_dateOf.2.1 107 = .ok (.istore 8, 2) := by decide +kernel
theorem dX0_dateOf_109 : decode mX0_dateOf.2.1 109 = .ok (.iload_n 2, 1) := by decide +kernel
theorem dX0_dateOf_110 : decode mX0_dateOf.2.1 110 = .ok (.sipush 400, 3) := by decide +kernel
theorem dX0_dateOf_113 : decode mX0_dateOf.2.1 113 = .ok (.imul, 1) := by decide +kernel
theorem dX0_dateOf_114 : decode mX0_dateOf.2.1 114 = .ok (.iload 4, 2) := by decide +kernel
theorem dX0_dateOf_116 : decode mX0_dateOf.2.1 116 = .ok (.iadd, 1) := by decide +kernel
theorem dX0_dateOf_117 : decode mX0_dateOf.2.1 117 = .ok (.iload 8, 2) := by decide +kernel
theorem dX0_dateOf_119 : decode mX0_dateOf.2.1 119 = .ok (.iconst 2, 1) := by decide +kernel
theorem dX0_dateOf_120 : decode mX0_dateOf.2.1 120 = .ok (.if_icmp .le 7, 3) := by decide +kernel
theorem dX0_dateOf_123 : decode mX0_dateOf.2.1 123 = .ok (.iconst 0, 1) := by decide +kernel
theorem dX0_dateOf_124 : decode mX0_dateOf.2.1 124 = .ok (.goto 4, 3) := by decide +kernel
theorem dX0_dateOf_127 : decode mX0_dateOf.2.1 127 = .ok (.iconst 1, 1) := by decide +kernel
theorem dX0_dateOf_128 : decode mX0_dateOf.2.1 128 = .ok (.iadd, 1) := by decide +kernel
theorem dX0_dateOf_129 : decode mX0_dateOf.2.1 129 = .ok (.istore 9, 2) := by decide +kernel
theorem dX0_dateOf_131 : decode mX0_dateOf.2.1 131 = .ok (.iload 9, 2) := by decide +kernel
theorem dX0_dateOf_133 : decode mX0_dateOf.2.1 133 = .ok (.sipush 10000, 3) := by decide +kernel
theorem dX0_dateOf_136 : decode mX0_dateOf.2.1 136 = .ok (.imul, 1) := by decide +kernel
theorem dX0_dateOf_137 : decode mX0_dateOf.2.1 137 = .ok (.iload 8, 2) := by decide +kernel
theorem dX0_dateOf_139 : decode mX0_dateOf.2.1 139 = .ok (.bipush 100, 2) := by decide +kernel
theorem dX0_dateOf_141 : decode mX0_dateOf.2.1 141 = .ok (.imul, 1) := by decide +kernel
theorem dX0_dateOf_142 : decode mX0_dateOf.2.1 142 = .ok (.iadd, 1) := by decide +kernel
theorem dX0_dateOf_143 : decode mX0_dateOf.2.1 143 = .ok (.iload 7, 2) := by decide +kernel
theorem dX0_dateOf_145 : decode mX0_dateOf.2.1 145 = .ok (.iadd, 1) := by decide +kernel
theorem dX0_dateOf_146 : decode mX0_dateOf.2.1 146 = .ok (.ireturn, 1) := by decide +kernel
theorem bX0_dateOf_0 {SC : Nat → Nat} {X : mh_X} {d : Nat} {Q : Option am_V → am_W → Prop} {bc bs : Nat} {w : am_W} {x0 : Int}
    (h : (∀ n1 : Int, n1 = (am_w (Int.tdiv (am_w ((am_w ((am_w ((am_w (Int.tmod (am_w (x0 + 657377)) 146097)) - (am_w (Int.tdiv (am_w (Int.tmod (am_w (x0 + 657377)) 146097)) 1460)))) + (am_w (Int.tdiv (am_w (Int.tmod (am_w (x0 + 657377)) 146097)) 36524)))) - (am_w (Int.tdiv (am_w (Int.tmod (am_w (x0 + 657377)) 146097)) 146096)))) 365)) → (∀ n2 : Int, n2 = (am_w ((am_w (Int.tmod (am_w (x0 + 657377)) 146097)) - (am_w ((am_w ((am_w (365 * n1)) + (am_w (Int.tdiv n1 4)))) - (am_w (Int.tdiv n1 100)))))) → (∀ n3 : Int, n3 = (am_w ((am_w (n2 - (am_w (Int.tdiv (am_w ((am_w (153 * (am_w (Int.tdiv (am_w ((am_w (5 * n2)) + 2)) 153)))) + 2)) 5)))) + 1)) → ((10 ≤ (am_w (Int.tdiv (am_w ((am_w (5 * n2)) + 2)) 153)) → am_A (mh_G X) SC (d + 1) mX0_dateOf Q 107 [(2, .inl (am_w (Int.tdiv (am_w (x0 + 657377)) 146097))), (4, .inl n1), (7, .inl n3)] [.inl (am_w ((am_w (Int.tdiv (am_w ((am_w (5 * n2)) + 2)) 153)) - 9))] w bc bs) ∧ (¬ 10 ≤ (am_w (Int.tdiv (am_w ((am_w (5 * n2)) + 2)) 153)) → am_A (mh_G X) SC (d + 1) mX0_dateOf Q 107 [(2, .inl (am_w (Int.tdiv (am_w (x0 + 657377)) 146097))), (4, .inl n1), (7, .inl n3)] [.inl (am_w ((am_w (Int.tdiv (am_w ((am_w (5 * n2)) + 2)) 153)) + 3))] w bc bs)))))) :
    am_A (mh_G X) SC (d + 1) mX0_dateOf Q 0 [(0, .inl x0)] [] w bc bs := by
  refine am_iload_n dX0_dateOf_0 (List.Mem.head _) ?_
  refine am_ldcV (n := 657377) dX0_dateOf_1 (by decide) wd_1012 (by unfold am_rg; omega) ?_
  refine am_iadd dX0_dateOf_3 ?_
  refine am_istore_n (ls' := [(1, .inl (am_w (x0 + 657377))), (0, .inl x0)]) dX0_dateOf_4 (by decide) rfl ?_
  refine am_iload_n dX0_dateOf_5 (List.Mem.head _) ?_
  refine am_ldcV (n := 146097) dX0_dateOf_6 (by decide) wd_1013 (by unfold am_rg; omega) ?_
  refine am_idiv dX0_dateOf_8 (by decide) ?_
  refine am_istore_n (ls' := [(2, .inl (am_w (Int.tdiv (am_w (x0 + 657377)) 146097))), (1, .inl (am_w (x0 + 657377))), (0, .inl x0)]) dX0_dateOf_9 (by decide) rfl ?_
  refine am_iload_n dX0_dateOf_10 (List.Mem.tail _ (List.Mem.head _)) ?_
  refine am_ldcV (n := 146097) dX0_dateOf_11 (by decide) wd_1013 (by unfold am_rg; omega) ?_
  refine am_irem dX0_dateOf_13 (by decide) ?_
  refine am_istore_n (ls' := [(3, .inl (am_w (Int.tmod (am_w (x0 + 657377)) 146097))), (2, .inl (am_w (Int.tdiv (am_w (x0 + 657377)) 146097))), (1, .inl (am_w (x0 + 657377))), (0, .inl x0)]) dX0_dateOf_14 (by decide) rfl ?_
  refine am_iload_n dX0_dateOf_15 (List.Mem.head _) ?_
  refine am_iload_n dX0_dateOf_16 (List.Mem.head _) ?_
  refine am_sipush dX0_dateOf_17 (by decide) (by unfold am_rg; omega) ?_
  refine am_idiv dX0_dateOf_20 (by decide) ?_
  refine am_isub dX0_dateOf_21 ?_
  refine am_iload_n dX0_dateOf_22 (List.Mem.head _) ?_
  refine am_ldcV (n := 36524) dX0_dateOf_23 (by decide) wd_1014 (by unfold am_rg; omega) ?_
  refine am_idiv dX0_dateOf_25 (by decide) ?_
  refine am_iadd dX0_dateOf_26 ?_
  refine am_iload_n dX0_dateOf_27 (List.Mem.head _) ?_
  refine am_ldcV (n := 146096) dX0_dateOf_28 (by decide) wd_1015 (by unfold am_rg; omega) ?_
  refine am_idiv dX0_dateOf_30 (by decide) ?_
  refine am_isub dX0_dateOf_31 ?_
  refine am_sipush dX0_dateOf_32 (by decide) (by unfold am_rg; omega) ?_
  refine am_idiv dX0_dateOf_35 (by decide) ?_
  refine am_named (fun n1 en1 => ?_)
  replace h := h n1 en1
  refine am_istore (ls' := [(4, .inl n1), (3, .inl (am_w (Int.tmod (am_w (x0 + 657377)) 146097))), (2, .inl (am_w (Int.tdiv (am_w (x0 + 657377)) 146097))), (1, .inl (am_w (x0 + 657377))), (0, .inl x0)]) dX0_dateOf_36 (by decide) rfl ?_
  refine am_iload_n dX0_dateOf_38 (List.Mem.tail _ (List.Mem.head _)) ?_
  refine am_sipush dX0_dateOf_39 (by decide) (by unfold am_rg; omega) ?_
  refine am_iload dX0_dateOf_42 (List.Mem.head _) ?_
  refine am_imul dX0_dateOf_44 ?_
  refine am_iload dX0_dateOf_45 (List.Mem.head _) ?_
  refine am_iconst dX0_dateOf_47 (by unfold am_rg; omega) ?_
  refine am_idiv dX0_dateOf_48 (by decide) ?_
  refine am_iadd dX0_dateOf_49 ?_
  refine am_iload dX0_dateOf_50 (List.Mem.head _) ?_
  refine am_bipush dX0_dateOf_52 (by decide) (by unfold am_rg; omega) ?_
  refine am_idiv dX0_dateOf_54 (by decide) ?_
  refine am_isub dX0_dateOf_55 ?_
  refine am_isub dX0_dateOf_56 ?_
  refine am_named (fun n2 en2 => ?_)
  replace h := h n2 en2
  refine am_istore (ls' := [(5, .inl n2), (4, .inl n1), (3, .inl (am_w (Int.tmod (am_w (x0 + 657377)) 146097))), (2, .inl (am_w (Int.tdiv (am_w (x0 + 657377)) 146097))), (1, .inl (am_w (x0 + 657377))), (0, .inl x0)]) dX0_dateOf_57 (by decide) rfl ?_
  refine am_iconst dX0_dateOf_59 (by unfold am_rg; omega) ?_
  refine am_iload dX0_dateOf_60 (List.Mem.head _) ?_
  refine am_imul dX0_dateOf_62 ?_
  refine am_iconst dX0_dateOf_63 (by unfold am_rg; omega) ?_
  refine am_iadd dX0_dateOf_64 ?_
  refine am_sipush dX0_dateOf_65 (by decide) (by unfold am_rg; omega) ?_
  refine am_idiv dX0_dateOf_68 (by decide) ?_
  refine am_istore (ls' := [(6, .inl (am_w (Int.tdiv (am_w ((am_w (5 * n2)) + 2)) 153))), (5, .inl n2), (4, .inl n1), (3, .inl (am_w (Int.tmod (am_w (x0 + 657377)) 146097))), (2, .inl (am_w (Int.tdiv (am_w (x0 + 657377)) 146097))), (1, .inl (am_w (x0 + 657377))), (0, .inl x0)]) dX0_dateOf_69 (by decide) rfl ?_
  refine am_iload dX0_dateOf_71 (List.Mem.tail _ (List.Mem.head _)) ?_
  refine am_sipush dX0_dateOf_73 (by decide) (by unfold am_rg; omega) ?_
  refine am_iload dX0_dateOf_76 (List.Mem.head _) ?_
  refine am_imul dX0_dateOf_78 ?_
  refine am_iconst dX0_dateOf_79 (by unfold am_rg; omega) ?_
  refine am_iadd dX0_dateOf_80 ?_
  refine am_iconst dX0_dateOf_81 (by unfold am_rg; omega) ?_
  refine am_idiv dX0_dateOf_82 (by decide) ?_
  refine am_isub dX0_dateOf_83 ?_
  refine am_iconst dX0_dateOf_84 (by unfold am_rg; omega) ?_
  refine am_iadd dX0_dateOf_85 ?_
  refine am_named (fun n3 en3 => ?_)
  replace h := h n3 en3
  refine am_istore (ls' := [(7, .inl n3), (6, .inl (am_w (Int.tdiv (am_w ((am_w (5 * n2)) + 2)) 153))), (5, .inl n2), (4, .inl n1), (3, .inl (am_w (Int.tmod (am_w (x0 + 657377)) 146097))), (2, .inl (am_w (Int.tdiv (am_w (x0 + 657377)) 146097))), (1, .inl (am_w (x0 + 657377))), (0, .inl x0)]) dX0_dateOf_86 (by decide) rfl ?_
  refine am_iload dX0_dateOf_88 (List.Mem.tail _ (List.Mem.head _)) ?_
  refine am_bipush dX0_dateOf_90 (by decide) (by unfold am_rg; omega) ?_
  refine am_icmpge (tgt := 102) dX0_dateOf_92 (by decide) (fun c4 => ?_) (fun c4 => ?_)
  · replace h := h.1 c4
    refine am_iload dX0_dateOf_102 (List.Mem.tail _ (List.Mem.head _)) ?_
    refine am_bipush dX0_dateOf_104 (by decide) (by unfold am_rg; omega) ?_
    refine am_isub dX0_dateOf_106 ?_
    exact am_sub [5, 3, 0] rfl h
  · replace h := h.2 c4
    refine am_iload dX0_dateOf_95 (List.Mem.tail _ (List.Mem.head _)) ?_
    refine am_iconst dX0_dateOf_97 (by unfold am_rg; omega) ?_
    refine am_iadd dX0_dateOf_98 ?_
    refine am_goto (tgt := 107) dX0_dateOf_99 (by decide) ?_
    exact am_sub [5, 3, 0] rfl h
theorem bX0_dateOf_107 {SC : Nat → Nat} {X : mh_X} {d : Nat} {Q : Option am_V → am_W → Prop} {bc bs : Nat} {w : am_W} {x2 : Int} {x4 : Int} {x7 : Int} {xs0 : Int}
    (h : ((xs0 ≤ 2 → am_A (mh_G X) SC (d + 1) mX0_dateOf Q 128 [(7, .inl x7), (8, .inl xs0)] [.inl 1, .inl (am_w ((am_w (x2 * 400)) + x4))] w bc bs) ∧ (¬ xs0 ≤ 2 → am_A (mh_G X) SC (d + 1) mX0_dateOf Q 128 [(7, .inl x7), (8, .inl xs0)] [.inl 0, .inl (am_w ((am_w (x2 * 400)) + x4))] w bc bs))) :
    am_A (mh_G X) SC (d + 1) mX0_dateOf Q 107 [(2, .inl x2), (4, .inl x4), (7, .inl x7)] [.inl xs0] w bc bs := by
  refine am_istore (ls' := [(8, .inl xs0), (2, .inl x2), (4, .inl x4), (7, .inl x7)]) dX0_dateOf_107 (by decide) rfl ?_
  refine am_iload_n dX0_dateOf_109 (List.Mem.tail _ (List.Mem.head _)) ?_
  refine am_sipush dX0_dateOf_110 (by decide) (by unfold am_rg; omega) ?_
  refine am_imul dX0_dateOf_113 ?_
  refine am_iload dX0_dateOf_114 (List.Mem.tail _ (List.Mem.tail _ (List.Mem.head _))) ?_
  refine am_iadd dX0_dateOf_116 ?_
  refine am_iload dX0_dateOf_117 (List.Mem.head _) ?_
  refine am_iconst dX0_dateOf_119 (by unfold am_rg; omega) ?_
  refine am_icmple (tgt := 127) dX0_dateOf_120 (by decide) (fun c1 => ?_) (fun c1 => ?_)
  · replace h := h.1 c1
    refine am_iconst dX0_dateOf_127 (by unfold am_rg; omega) ?_
    exact am_sub [3, 0] rfl h
  · replace h := h.2 c1
    refine am_iconst dX0_dateOf_123 (by unfold am_rg; omega) ?_
    refine am_goto (tgt := 128) dX0_dateOf_124 (by decide) ?_
    exact am_sub [3, 0] rfl h
theorem bX0_dateOf_128 {SC : Nat → Nat} {X : mh_X} {d : Nat} {Q : Option am_V → am_W → Prop} {bc bs : Nat} {w : am_W} {x7 : Int} {x8 : Int} {xs0 : Int} {xs1 : Int}
    (h : Q (some (.inl (am_w ((am_w ((am_w ((am_w (xs1 + xs0)) * 10000)) + (am_w (x8 * 100)))) + x7)))) w) :
    am_A (mh_G X) SC (d + 1) mX0_dateOf Q 128 [(7, .inl x7), (8, .inl x8)] [.inl xs0, .inl xs1] w bc bs := by
  refine am_iadd dX0_dateOf_128 ?_
  refine am_istore (ls' := [(9, .inl (am_w (xs1 + xs0))), (7, .inl x7), (8, .inl x8)]) dX0_dateOf_129 (by decide) rfl ?_
  refine am_iload dX0_dateOf_131 (List.Mem.head _) ?_
  refine am_sipush dX0_dateOf_133 (by decide) (by unfold am_rg; omega) ?_
  refine am_imul dX0_dateOf_136 ?_
  refine am_iload dX0_dateOf_137 (List.Mem.tail _ (List.Mem.tail _ (List.Mem.head _))) ?_
  refine am_bipush dX0_dateOf_139 (by decide) (by unfold am_rg; omega) ?_
  refine am_imul dX0_dateOf_141 ?_
  refine am_iadd dX0_dateOf_142 ?_
  refine am_iload dX0_dateOf_143 (List.Mem.tail _ (List.Mem.head _)) ?_
  refine am_iadd dX0_dateOf_145 ?_
  exact am_ret (r := some (.inl (am_w ((am_w ((am_w ((am_w (xs1 + xs0)) * 10000)) + (am_w (x8 * 100)))) + x7)))) dX0_dateOf_146 (Or.inl rfl) rfl h
-- MourningHouse$Calendar.later(II)I
theorem dX0_later_0 : decode mX0_later.2.1 0 = .ok (.iload_n 0, 1) := by decide +kernel
theorem dX0_later_1 : decode mX0_later.2.1 1 = .ok (.invokestatic 20, 3) := by decide +kernel
theorem dX0_later_4 : decode mX0_later.2.1 4 = .ok (.istore_n 2, 1) := by decide +kernel
theorem dX0_later_5 : decode mX0_later.2.1 5 = .ok (.iload_n 2, 1) := by decide +kernel
theorem dX0_later_6 : decode mX0_later.2.1 6 = .ok (.sipush 10000, 3) := by decide +kernel
theorem dX0_later_9 : decode mX0_later.2.1 9 = .ok (.idiv, 1) := by decide +kernel
theorem dX0_later_10 : decode mX0_later.2.1 10 = .ok (.bipush 12, 2) := by decide +kernel
theorem dX0_later_12 : decode mX0_later.2.1 12 = .ok (.imul, 1) := by decide +kernel
theorem dX0_later_13 : decode mX0_later.2.1 13 = .ok (.iload_n 2, 1) := by decide +kernel
theorem dX0_later_14 : decode mX0_later.2.1 14 = .ok (.bipush 100, 2) := by decide +kernel
theorem dX0_later_16 : decode mX0_later.2.1 16 = .ok (.idiv, 1) := by decide +kernel
theorem dX0_later_17 : decode mX0_later.2.1 17 = .ok (.bipush 100, 2) := by decide +kernel
theorem dX0_later_19 : decode mX0_later.2.1 19 = .ok (.irem, 1) := by decide +kernel
theorem dX0_later_20 : decode mX0_later.2.1 20 = .ok (.iadd, 1) := by decide +kernel
theorem dX0_later_21 : decode mX0_later.2.1 21 = .ok (.iconst 1, 1) := by decide +kernel
theorem dX0_later_22 : decode mX0_later.2.1 22 = .ok (.isub, 1) := by decide +kernel
theorem dX0_later_23 : decode mX0_later.2.1 23 = .ok (.iload_n 1, 1) := by decide +kernel
theorem dX0_later_24 : decode mX0_later.2.1 24 = .ok (.iadd, 1) := by decide +kernel
theorem dX0_later_25 : decode mX0_later.2.1 25 = .ok (.istore_n 3, 1) := by decide +kernel
theorem dX0_later_26 : decode mX0_later.2.1 26 = .ok (.iload_n 3, 1) := by decide +kernel
theorem dX0_later_27 : decode mX0_later.2.1 27 = .ok (.bipush 12, 2) := by decide +kernel
theorem dX0_later_29 : decode mX0_later.2.1 29 = .ok (.idiv, 1) := by decide +kernel
theorem dX0_later_30 : decode mX0_later.2.1 30 = .ok (.istore 4, 2) := by decide +kernel
theorem dX0_later_32 : decode mX0_later.2.1 32 = .ok (.iload_n 3, 1) := by decide +kernel
theorem dX0_later_33 : decode mX0_later.2.1 33 = .ok (.bipush 12, 2) := by decide +kernel
theorem dX0_later_35 : decode mX0_later.2.1 35 = .ok (.irem, 1) := by decide +kernel
theorem dX0_later_36 : decode mX0_later.2.1 36 = .ok (.iconst 1, 1) := by decide +kernel
theorem dX0_later_37 : decode mX0_later.2.1 37 = .ok (.iadd, 1) := by decide +kernel
theorem dX0_later_38 : decode mX0_later.2.1 38 = .ok (.istore 5, 2) := by decide +kernel
theorem dX0_later_40 : decode mX0_later.2.1 40 = .ok (.iload 4, 2) := by decide +kernel
theorem dX0_later_42 : decode mX0_later.2.1 42 = .ok (.iload 5, 2) := by decide +kernel
theorem dX0_later_44 : decode mX0_later.2.1 44 = .ok (.iload_n 2, 1) := by decide +kernel
theorem dX0_later_45 : decode mX0_later.2.1 45 = .ok (.bipush 100, 2) := by decide +kernel
theorem dX0_later_47 : decode mX0_later.2.1 47 = .ok (.irem, 1) := by decide +kernel
theorem dX0_later_48 : decode mX0_later.2.1 48 = .ok (.iload 4, 2) := by decide +kernel
theorem dX0_later_50 : decode mX0_later.2.1 50 = .ok (.iload 5, 2) := by decide +kernel
theorem dX0_later_52 : decode mX0_later.2.1 52 = .ok (.invokestatic 12, 3) := by decide +kernel
theorem dX0_later_55 : decode mX0_later.2.1 55 = .ok (.invokestatic 24, 3) := by decide +kernel
theorem dX0_later_58 : decode mX0_later.2.1 58 = .ok (.invokestatic 29, 3) := by decide +kernel
theorem dX0_later_61 : decode mX0_later.2.1 61 = .ok (.ireturn, 1) := by decide +kernel
theorem bX0_later_0 {SC : Nat → Nat} {X : mh_X} {d : Nat} {Q : Option am_V → am_W → Prop} {bc bs : Nat} {w : am_W} {x0 : Int} {x1 : Int}
    (h : am_M (mh_G X) SC (d + 1) 0 0 mX0_dateOf [.inl x0] w (fun r w1 => am_A (mh_G X) SC (d + 2) mX0_later Q 4 [(0, .inl x0), (1, .inl x1)] (r.toList ++ []) w1 bc bs)) :
    am_A (mh_G X) SC (d + 2) mX0_later Q 0 [(0, .inl x0), (1, .inl x1)] [] w bc bs := by
  refine am_iload_n dX0_later_0 (List.Mem.head _) ?_
  exact am_calls (d' := d + 1) (kc := 0) (ks := 0) (as := [.inl x0]) dX0_later_1 wc_X0_dateOf wd_1036 wd_1010 wd_129 ds_X0_dateOf (by decide) (by omega) (Nat.le_of_ble_eq_true rfl) (Nat.zero_le _) (Nat.zero_le _) rfl h
theorem bX0_later_4 {SC : Nat → Nat} {X : mh_X} {d : Nat} {Q : Option am_V → am_W → Prop} {bc bs : Nat} {w : am_W} {x0 : Int} {x1 : Int} {xs0 : Int}
    (h : (∀ n1 : Int, n1 = (am_w ((am_w ((am_w ((am_w ((am_w (Int.tdiv xs0 10000)) * 12)) + (am_w (Int.tmod (am_w (Int.tdiv xs0 100)) 100)))) - 1)) + x1)) → am_M (mh_G X) SC (d + 1) 0 0 mX0_lengthOf [.inl (am_w (Int.tdiv n1 12)), .inl (am_w ((am_w (Int.tmod n1 12)) + 1))] w (fun r w1 => am_A (mh_G X) SC (d + 2) mX0_later Q 55 [(5, .inl (am_w ((am_w (Int.tmod n1 12)) + 1))), (4, .inl (am_w (Int.tdiv n1 12))), (3, .inl n1), (2, .inl xs0), (0, .inl x0), (1, .inl x1)] (r.toList ++ [.inl (am_w (Int.tmod xs0 100)), .inl (am_w ((am_w (Int.tmod n1 12)) + 1)), .inl (am_w (Int.tdiv n1 12))]) w1 bc bs))) :
    am_A (mh_G X) SC (d + 2) mX0_later Q 4 [(0, .inl x0), (1, .inl x1)] [.inl xs0] w bc bs := by
  refine am_istore_n (ls' := [(2, .inl xs0), (0, .inl x0), (1, .inl x1)]) dX0_later_4 (by decide) rfl ?_
  refine am_iload_n dX0_later_5 (List.Mem.head _) ?_
  refine am_sipush dX0_later_6 (by decide) (by unfold am_rg; omega) ?_
  refine am_idiv dX0_later_9 (by decide) ?_
  refine am_bipush dX0_later_10 (by decide) (by unfold am_rg; omega) ?_
  refine am_imul dX0_later_12 ?_
  refine am_iload_n dX0_later_13 (List.Mem.head _) ?_
  refine am_bipush dX0_later_14 (by decide) (by unfold am_rg; omega) ?_
  refine am_idiv dX0_later_16 (by decide) ?_
  refine am_bipush dX0_later_17 (by decide) (by unfold am_rg; omega) ?_
  refine am_irem dX0_later_19 (by decide) ?_
  refine am_iadd dX0_later_20 ?_
  refine am_iconst dX0_later_21 (by unfold am_rg; omega) ?_
  refine am_isub dX0_later_22 ?_
  refine am_iload_n dX0_later_23 (List.Mem.tail _ (List.Mem.tail _ (List.Mem.head _))) ?_
  refine am_iadd dX0_later_24 ?_
  refine am_named (fun n1 en1 => ?_)
  replace h := h n1 en1
  refine am_istore_n (ls' := [(3, .inl n1), (2, .inl xs0), (0, .inl x0), (1, .inl x1)]) dX0_later_25 (by decide) rfl ?_
  refine am_iload_n dX0_later_26 (List.Mem.head _) ?_
  refine am_bipush dX0_later_27 (by decide) (by unfold am_rg; omega) ?_
  refine am_idiv dX0_later_29 (by decide) ?_
  refine am_istore (ls' := [(4, .inl (am_w (Int.tdiv n1 12))), (3, .inl n1), (2, .inl xs0), (0, .inl x0), (1, .inl x1)]) dX0_later_30 (by decide) rfl ?_
  refine am_iload_n dX0_later_32 (List.Mem.tail _ (List.Mem.head _)) ?_
  refine am_bipush dX0_later_33 (by decide) (by unfold am_rg; omega) ?_
  refine am_irem dX0_later_35 (by decide) ?_
  refine am_iconst dX0_later_36 (by unfold am_rg; omega) ?_
  refine am_iadd dX0_later_37 ?_
  refine am_istore (ls' := [(5, .inl (am_w ((am_w (Int.tmod n1 12)) + 1))), (4, .inl (am_w (Int.tdiv n1 12))), (3, .inl n1), (2, .inl xs0), (0, .inl x0), (1, .inl x1)]) dX0_later_38 (by decide) rfl ?_
  refine am_iload dX0_later_40 (List.Mem.tail _ (List.Mem.head _)) ?_
  refine am_iload dX0_later_42 (List.Mem.head _) ?_
  refine am_iload_n dX0_later_44 (List.Mem.tail _ (List.Mem.tail _ (List.Mem.tail _ (List.Mem.head _)))) ?_
  refine am_bipush dX0_later_45 (by decide) (by unfold am_rg; omega) ?_
  refine am_irem dX0_later_47 (by decide) ?_
  refine am_iload dX0_later_48 (List.Mem.tail _ (List.Mem.head _)) ?_
  refine am_iload dX0_later_50 (List.Mem.head _) ?_
  exact am_calls (d' := d + 1) (kc := 0) (ks := 0) (as := [.inl (am_w (Int.tdiv n1 12)), .inl (am_w ((am_w (Int.tmod n1 12)) + 1))]) dX0_later_52 wc_X0_lengthOf wd_1024 wd_894 wd_129 ds_X0_lengthOf (by decide) (by omega) (Nat.le_of_ble_eq_true rfl) (Nat.zero_le _) (Nat.zero_le _) rfl h
theorem bX0_later_55 {SC : Nat → Nat} {X : mh_X} {d : Nat} {Q : Option am_V → am_W → Prop} {bc bs : Nat} {w : am_W} {x5 : Int} {x4 : Int} {x3 : Int} {x2 : Int} {x0 : Int} {x1 : Int} {xs0 : Int} {xs1 : Int} {xs2 : Int} {xs3 : Int}
    (h : am_M (mh_G X) SC (d + 1) 0 0 mX0_dayOf [.inl xs3, .inl xs2, .inl (min xs1 xs0)] w (fun r w1 => am_A (mh_G X) SC (d + 2) mX0_later Q 61 [(5, .inl x5), (4, .inl x4), (3, .inl x3), (2, .inl x2), (0, .inl x0), (1, .inl x1)] (r.toList ++ []) w1 bc bs)) :
    am_A (mh_G X) SC (d + 2) mX0_later Q 55 [(5, .inl x5), (4, .inl x4), (3, .inl x3), (2, .inl x2), (0, .inl x0), (1, .inl x1)] [.inl xs0, .inl xs1, .inl xs2, .inl xs3] w bc bs := by
  refine am_mmin dX0_later_55 wd_1037 (by omega) (Nat.le_of_ble_eq_true rfl) ?_
  exact am_calls (d' := d + 1) (kc := 0) (ks := 0) (as := [.inl xs3, .inl xs2, .inl (min xs1 xs0)]) dX0_later_58 wc_X0_dayOf wd_1038 wd_1026 wd_129 ds_X0_dayOf (by decide) (by omega) (Nat.le_of_ble_eq_true rfl) (Nat.zero_le _) (Nat.zero_le _) rfl h
theorem bX0_later_61 {SC : Nat → Nat} {X : mh_X} {d : Nat} {Q : Option am_V → am_W → Prop} {bc bs : Nat} {w : am_W} {x5 : Int} {x4 : Int} {x3 : Int} {x2 : Int} {x0 : Int} {x1 : Int} {xs0 : Int}
    (h : Q (some (.inl xs0)) w) :
    am_A (mh_G X) SC (d + 2) mX0_later Q 61 [(5, .inl x5), (4, .inl x4), (3, .inl x3), (2, .inl x2), (0, .inl x0), (1, .inl x1)] [.inl xs0] w bc bs := by
  exact am_ret (r := some (.inl xs0)) dX0_later_61 (Or.inl rfl) rfl h
-- MourningHouse$Decrees.blankLaw()LMourningHouse$Law;
theorem dX1_blankLaw_0 : decode mX1_blankLaw.2.1 0 = .ok (.aload_n 0, 1) := by decide +kernel
theorem dX1_blankLaw_1 : decode mX1_blankLaw.2.1 1 = .ok (.getfield 28, 3) := by decide +kernel
theorem dX1_blankLaw_4 : decode mX1_blankLaw.2.1 4 = .ok (.bipush 6, 2) := by decide +kernel
theorem dX1_blankLaw_6 : decode mX1_blankLaw.2.1 6 = .ok (.if_icmp .ge 15, 3) := by decide +kernel
theorem dX1_blankLaw_9 : decode mX1_blankLaw.2.1 9 = .ok (.aload_n 0, 1) := by decide +kernel
theorem dX1_blankLaw_10 : decode mX1_blankLaw.2.1 10 = .ok (.getfield 11, 3) := by decide +kernel
theorem dX1_blankLaw_13 : decode mX1_blankLaw.2.1 13 = .ok (.aload_n 0, 1) := by decide +kernel
theorem dX1_blankLaw_14 : decode mX1_blankLaw.2.1 14 = .ok (.getfield 28, 3) := by decide +kernel
theorem dX1_blankLaw_17 : decode mX1_blankLaw.2.1 17 = .ok (.aaload, 1) := by decide +kernel
theorem dX1_blankLaw_18 : decode mX1_blankLaw.2.1 18 = .ok (.goto 4, 3) := by decide +kernel
theorem dX1_blankLaw_21 : decode mX1_blankLaw.2.1 21 = .ok (.aconst_null, 1) := by decide +kernel
theorem dX1_blankLaw_22 : decode mX1_blankLaw.2.1 22 = .ok (.areturn, 1) := by decide +kernel
theorem bX1_blankLaw_0 {SC : Nat → Nat} {X : mh_X} {d : Nat} {Q : Option am_V → am_W → Prop} {bc bs : Nat} {w : am_W} 
    (h : ((6 ≤ (w.1 4 0 5) → Q (some (.inr (.inr none))) w) ∧ (¬ 6 ≤ (w.1 4 0 5) → (0 ≤ (w.1 4 0 5) ∧ ((w.1 4 0 5) < 6 ∧ Q (some (.inr (.inr (some (10, (w.1 4 0 5).toNat))))) w))))) :
    am_A (mh_G X) SC (d + 1) mX1_blankLaw Q 0 [(0, .inr (.inr (some (4, 0))))] [] w bc bs := by
  refine am_aload_n dX1_blankLaw_0 (List.Mem.head _) ?_
  refine am_getf (f := 5) (v := .inl (w.1 4 0 5)) dX1_blankLaw_1 hc_3 (by decide) wd_290 (by decide) rfl rfl ?_
  refine am_bipush dX1_blankLaw_4 (by decide) (by unfold am_rg; omega) ?_
  refine am_icmpge (tgt := 21) dX1_blankLaw_6 (by decide) (fun c1 => ?_) (fun c1 => ?_)
  · replace h := h.1 c1
    refine am_null dX1_blankLaw_21 ?_
    exact am_ret (r := some (.inr (.inr none))) dX1_blankLaw_22 ⟨_, rfl, Or.inl ⟨_, rfl⟩⟩ rfl h
  · replace h := h.2 c1
    refine am_aload_n dX1_blankLaw_9 (List.Mem.head _) ?_
    refine am_getf (f := 0) (v := .inr (.inr (some (28, 0)))) dX1_blankLaw_10 hc_3 (by decide) wd_285 (by decide) rfl rfl ?_
    refine am_aload_n dX1_blankLaw_13 (List.Mem.head _) ?_
    refine am_getf (f := 5) (v := .inl (w.1 4 0 5)) dX1_blankLaw_14 hc_3 (by decide) wd_290 (by decide) rfl rfl ?_
    have o2 := h.1
    replace h := h.2
    have o3 := h.1
    replace h := h.2
    refine am_aaload (kd := 7) (r := some (10, (w.1 4 0 5).toNat)) dX1_blankLaw_17 (by decide) rfl (by decide) (by decide) o2 o3 rfl ?_
    refine am_goto (tgt := 22) dX1_blankLaw_18 (by decide) ?_
    exact am_ret (r := some (.inr (.inr (some (10, (w.1 4 0 5).toNat))))) dX1_blankLaw_22 ⟨_, rfl, Or.inl ⟨_, rfl⟩⟩ rfl h
-- MourningHouse$Decrees.enact(LMourningHouse$Law;I)V
theorem dX1_enact_0 : decode mX1_enact.2.1 0 = .ok (.aload_n 1, 1) := by decide +kernel
theorem dX1_enact_1 : decode mX1_enact.2.1 1 = .ok (.iload_n 2, 1) := by decide +kernel
theorem dX1_enact_2 : decode mX1_enact.2.1 2 = .ok (.putfield 36, 3) := by decide +kernel
theorem dX1_enact_5 : decode mX1_enact.2.1 5 = .ok (.aload_n 0, 1) := by decide +kernel
theorem dX1_enact_6 : decode mX1_enact.2.1 6 = .ok (.dup, 1) := by decide +kernel
theorem dX1_enact_7 : decode mX1_enact.2.1 7 = .ok (.getfield 28, 3) := by decide +kernel
theorem dX1_enact_10 : decode mX1_enact.2.1 10 = .ok (.iconst 1, 1) := by decide +kernel
theorem dX1_enact_11 : decode mX1_enact.2.1 11 = .ok (.iadd, 1) := by decide +kernel
theorem dX1_enact_12 : decode mX1_enact.2.1 12 = .ok (.putfield 28, 3) := by decide +kernel
theorem dX1_enact_15 : decode mX1_enact.2.1 15 = .ok (.return_, 1) := by decide +kernel
theorem sX1_enact {SC : Nat → Nat} {X : mh_X} {d kc ks : Nat} {Q : Option am_V → am_W → Prop} {w : am_W} {j1 : Nat} {x2 : Int}
    (h : Q none ((am_up (am_up w.1 10 j1 17 x2) 4 0 5 (am_w ((w.1 4 0 5) + 1))), w.2)) : am_M (mh_G X) SC (d + 1) kc ks mX1_enact [.inr (.inr (some (4, 0))), .inr (.inr (some (10, j1))), .inl x2] w Q := by
  refine am_M_of (by decide) (Nat.le_of_ble_eq_true rfl) ?_
  show am_A (mh_G X) SC (d + 1) mX1_enact Q 0 [(0, .inr (.inr (some (4, 0)))), (1, .inr (.inr (some (10, j1)))), (2, .inl x2)] [] w kc ks
  refine am_aload_n dX1_enact_0 (List.Mem.tail _ (List.Mem.head _)) ?_
  refine am_iload_n dX1_enact_1 (List.Mem.tail _ (List.Mem.tail _ (List.Mem.head _))) ?_
  refine am_putf (f := 17) dX1_enact_2 hc_4 (by decide) wd_247 rfl (Or.inl rfl) (Or.inl (by decide)) rfl ?_
  refine am_aload_n dX1_enact_5 (List.Mem.head _) ?_
  refine am_dup dX1_enact_6 rfl ?_
  refine am_getf (f := 5) (v := .inl (w.1 4 0 5)) dX1_enact_7 hc_3 (by decide) wd_290 (by decide) rfl rfl ?_
  refine am_iconst dX1_enact_10 (by unfold am_rg; omega) ?_
  refine am_iadd dX1_enact_11 ?_
  refine am_putf (f := 5) dX1_enact_12 hc_3 (by decide) wd_290 rfl (Or.inl rfl) (Or.inl (by decide)) rfl ?_
  exact am_ret (r := none) dX1_enact_15 rfl rfl h
-- MourningHouse$Decrees.lawNumbered(I)LMourningHouse$Law;
theorem dX1_lawNumbered_0 : decode mX1_lawNumbered.2.1 0 = .ok (.iload_n 1, 1) := by decide +kernel
theorem dX1_lawNumbered_1 : decode mX1_lawNumbered.2.1 1 = .ok (.ifCond .lt 20, 3) := by decide +kernel
theorem dX1_lawNumbered_4 : decode mX1_lawNumbered.2.1 4 = .ok (.iload_n 1, 1) := by decide +kernel
theorem dX1_lawNumbered_5 : decode mX1_lawNumbered.2.1 5 = .ok (.aload_n 0, 1) := by decide +kernel
theorem dX1_lawNumbered_6 : decode mX1_lawNumbered.2.1 6 = .ok (.getfield 28, 3) := by decide +kernel
theorem dX1_lawNumbered_9 : decode mX1_lawNumbered.2.1 9 = .ok (.if_icmp .ge 12, 3) := by decide +kernel
theorem dX1_lawNumbered_12 : decode mX1_lawNumbered.2.1 12 = .ok (.aload_n 0, 1) := by decide +kernel
theorem dX1_lawNumbered_13 : decode mX1_lawNumbered.2.1 13 = .ok (.getfield 11, 3) := by decide +kernel
theorem dX1_lawNumbered_16 : decode mX1_lawNumbered.2.1 16 = .ok (.iload_n 1, 1) := by decide +kernel
theorem dX1_lawNumbered_17 : decode mX1_lawNumbered.2.1 17 = .ok (.aaload, 1) := by decide +kernel
theorem dX1_lawNumbered_18 : decode mX1_lawNumbered.2.1 18 = .ok (.goto 4, 3) := by decide +kernel
theorem dX1_lawNumbered_21 : decode mX1_lawNumbered.2.1 21 = .ok (.aconst_null, 1) := by decide +kernel
theorem dX1_lawNumbered_22 : decode mX1_lawNumbered.2.1 22 = .ok (.areturn, 1) := by decide +kernel
theorem bX1_lawNumbered_0 {SC : Nat → Nat} {X : mh_X} {d : Nat} {Q : Option am_V → am_W → Prop} {bc bs : Nat} {w : am_W} {x1 : Int}
    (h : ((x1 < 0 → Q (some (.inr (.inr none))) w) ∧ (¬ x1 < 0 → (((w.1 4 0 5) ≤ x1 → Q (some (.inr (.inr none))) w) ∧ (¬ (w.1 4 0 5) ≤ x1 → (0 ≤ x1 ∧ (x1 < 6 ∧ Q (some (.inr (.inr (some (10, x1.toNat))))) w))))))) :
    am_A (mh_G X) SC (d + 1) mX1_lawNumbered Q 0 [(0, .inr (.inr (some (4, 0)))), (1, .inl x1)] [] w bc bs := by
  refine am_iload_n dX1_lawNumbered_0 (List.Mem.tail _ (List.Mem.head _)) ?_
  refine am_iflt (tgt := 21) dX1_lawNumbered_1 (by decide) (fun c1 => ?_) (fun c1 => ?_)
  · replace h := h.1 c1
    refine am_null dX1_lawNumbered_21 ?_
    exact am_ret (r := some (.inr (.inr none))) dX1_lawNumbered_22 ⟨_, rfl, Or.inl ⟨_, rfl⟩⟩ rfl h
  · replace h := h.2 c1
    refine am_iload_n dX1_lawNumbered_4 (List.Mem.tail _ (List.Mem.head _)) ?_
    refine am_aload_n dX1_lawNumbered_5 (List.Mem.head _) ?_
    refine am_getf (f := 5) (v := .inl (w.1 4 0 5)) dX1_lawNumbered_6 hc_3 (by decide) wd_290 (by decide) rfl rfl ?_
    refine am_icmpge (tgt := 21) dX1_lawNumbered_9 (by decide) (fun c2 => ?_) (fun c2 => ?_)
    · replace h := h.1 c2
      refine am_null dX1_lawNumbered_21 ?_
      exact am_ret (r := some (.inr (.inr none))) dX1_lawNumbered_22 ⟨_, rfl, Or.inl ⟨_, rfl⟩⟩ rfl h
    · replace h := h.2 c2
      refine am_aload_n dX1_lawNumbered_12 (List.Mem.head _) ?_
      refine am_getf (f := 0) (v := .inr (.inr (some (28, 0)))) dX1_lawNumbered_13 hc_3 (by decide) wd_285 (by decide) rfl rfl ?_
      refine am_iload_n dX1_lawNumbered_16 (List.Mem.tail _ (List.Mem.head _)) ?_
      have o3 := h.1
      replace h := h.2
      have o4 := h.1
      replace h := h.2
      refine am_aaload (kd := 7) (r := some (10, x1.toNat)) dX1_lawNumbered_17 (by decide) rfl (by decide) (by decide) o3 o4 rfl ?_
      refine am_goto (tgt := 22) dX1_lawNumbered_18 (by decide) ?_
      exact am_ret (r := some (.inr (.inr (some (10, x1.toNat))))) dX1_lawNumbered_22 ⟨_, rfl, Or.inl ⟨_, rfl⟩⟩ rfl h
-- MourningHouse$Decrees.lawOn(II)LMourningHouse$Law;
theorem dX1_lawOn_0 : decode mX1_lawOn.2.1 0 = .ok (.aload_n 0, 1) := by decide +kernel
theorem dX1_lawOn_1 : decode mX1_lawOn.2.1 1 = .ok (.getfield 28, 3) := by decide +kernel
theorem dX1_lawOn_4 : decode mX1_lawOn.2.1 4 = .ok (.iconst 1, 1) := by decide +kernel
theorem dX1_lawOn_5 : decode mX1_lawOn.2.1 5 = .ok (.isub, 1) := by decide +kernel
theorem dX1_lawOn_6 : decode mX1_lawOn.2.1 6 = .ok (.istore_n 3, 1) := by decide +kernel
theorem dX1_lawOn_7 : decode mX1_lawOn.2.1 7 = .ok (.iload_n 3, 1) := by decide +kernel
theorem dX1_lawOn_8 : decode mX1_lawOn.2.1 8 = .ok (.ifCond .lt 43, 3) := by decide +kernel
theorem dX1_lawOn_11 : decode mX1_lawOn.2.1 11 = .ok (.aload_n 0, 1) := by decide +kernel
theorem dX1_lawOn_12 : decode mX1_lawOn.2.1 12 = .ok (.getfield 11, 3) := by decide +kernel
theorem dX1_lawOn_15 : decode mX1_lawOn.2.1 15 = .ok (.iload_n 3, 1) := by decide +kernel
theorem dX1_lawOn_16 : decode mX1_lawOn.2.1 16 = .ok (.aaload, 1) := by decide +kernel
theorem dX1_lawOn_17 : decode mX1_lawOn.2.1 17 = .ok (.astore 4, 2) := by decide +kernel
theorem dX1_lawOn_19 : decode mX1_lawOn.2.1 19 = .ok (.aload 4, 2) := by decide +kernel
theorem dX1_lawOn_21 : decode mX1_lawOn.2.1 21 = .ok (.ifnull 24, 3) := by decide +kernel
theorem dX1_lawOn_24 : decode mX1_lawOn.2.1 24 = .ok (.aload 4, 2) := by decide +kernel
theorem dX1_lawOn_26 : decode mX1_lawOn.2.1 26 = .ok (.getfield 36, 3) := by decide +kernel
theorem dX1_lawOn_29 : decode mX1_lawOn.2.1 29 = .ok (.iload_n 1, 1) := by decide +kernel
theorem dX1_lawOn_30 : decode mX1_lawOn.2.1 30 = .ok (.if_icmp .gt 15, 3) := by decide +kernel
theorem dX1_lawOn_33 : decode mX1_lawOn.2.1 33 = .ok (.aload 4, 2) := by decide +kernel
theorem dX1_lawOn_35 : decode mX1_lawOn.2.1 35 = .ok (.getfield 36, 3) := by decide +kernel
theorem dX1_lawOn_38 : decode mX1_lawOn.2.1 38 = .ok (.iload_n 2, 1) := by decide +kernel
theorem dX1_lawOn_39 : decode mX1_lawOn.2.1 39 = .ok (.if_icmp .gt 6, 3) := by decide +kernel
theorem dX1_lawOn_42 : decode mX1_lawOn.2.1 42 = .ok (.aload 4, 2) := by decide +kernel
theorem dX1_lawOn_44 : decode mX1_lawOn.2.1 44 = .ok (.areturn, 1) := by decide +kernel
theorem dX1_lawOn_45 : decode mX1_lawOn.2.1 45 = .ok (.iinc 3 (-1), 3) := by decide +kernel
theorem dX1_lawOn_48 : decode mX1_lawOn.2.1 48 = .ok (.goto (-41), 3) := by decide +kernel
theorem dX1_lawOn_51 : decode mX1_lawOn.2.1 51 = .ok (.aconst_null, 1) := by decide +kernel
theorem dX1_lawOn_52 : decode mX1_lawOn.2.1 52 = .ok (.areturn, 1) := by decide +kernel
theorem bX1_lawOn_0 {SC : Nat → Nat} {X : mh_X} {d : Nat} {Q : Option am_V → am_W → Prop} {bc bs : Nat} {w : am_W} {x1 : Int} {x2 : Int}
    (h : am_A (mh_G X) SC (d + 1) mX1_lawOn Q 7 [(0, .inr (.inr (some (4, 0)))), (1, .inl x1), (2, .inl x2), (3, .inl (am_w ((w.1 4 0 5) - 1)))] [] w bc bs) :
    am_A (mh_G X) SC (d + 1) mX1_lawOn Q 0 [(0, .inr (.inr (some (4, 0)))), (1, .inl x1), (2, .inl x2)] [] w bc bs := by
  refine am_aload_n dX1_lawOn_0 (List.Mem.head _) ?_
  refine am_getf (f := 5) (v := .inl (w.1 4 0 5)) dX1_lawOn_1 hc_3 (by decide) wd_290 (by decide) rfl rfl ?_
  refine am_iconst dX1_lawOn_4 (by unfold am_rg; omega) ?_
  refine am_isub dX1_lawOn_5 ?_
  refine am_istore_n (ls' := [(3, .inl (am_w ((w.1 4 0 5) - 1))), (0, .inr (.inr (some (4, 0)))), (1, .inl x1), (2, .inl x2)]) dX1_lawOn_6 (by decide) rfl ?_
  exact am_sub [1, 2, 3, 0] rfl h
theorem bX1_lawOn_7 {SC : Nat → Nat} {X : mh_X} {d : Nat} {Q : Option am_V → am_W → Prop} {bc bs : Nat} {w : am_W} {x1 : Int} {x2 : Int} {x3 : Int}
    (h : ((x3 < 0 → Q (some (.inr (.inr none))) w) ∧ (¬ x3 < 0 → (0 ≤ x3 ∧ (x3 < 6 ∧ ((x1 < (w.1 10 x3.toNat 17) → am_A (mh_G X) SC (d + 1) mX1_lawOn Q 45 [(0, .inr (.inr (some (4, 0)))), (1, .inl x1), (2, .inl x2), (3, .inl x3)] [] w bc bs) ∧ (¬ x1 < (w.1 10 x3.toNat 17) → ((x2 < (w.1 10 x3.toNat 17) → am_A (mh_G X) SC (d + 1) mX1_lawOn Q 45 [(0, .inr (.inr (some (4, 0)))), (1, .inl x1), (2, .inl x2), (3, .inl x3)] [] w bc bs) ∧ (¬ x2 < (w.1 10 x3.toNat 17) → Q (some (.inr (.inr (some (10, x3.toNat))))) w))))))))) :
    am_A (mh_G X) SC (d + 1) mX1_lawOn Q 7 [(0, .inr (.inr (some (4, 0)))), (1, .inl x1), (2, .inl x2), (3, .inl x3)] [] w bc bs := by
  refine am_iload_n dX1_lawOn_7 (List.Mem.tail _ (List.Mem.tail _ (List.Mem.tail _ (List.Mem.head _)))) ?_
  refine am_iflt (tgt := 51) dX1_lawOn_8 (by decide) (fun c1 => ?_) (fun c1 => ?_)
  · replace h := h.1 c1
    refine am_null dX1_lawOn_51 ?_
    exact am_ret (r := some (.inr (.inr none))) dX1_lawOn_52 ⟨_, rfl, Or.inl ⟨_, rfl⟩⟩ rfl h
  · replace h := h.2 c1
    refine am_aload_n dX1_lawOn_11 (List.Mem.head _) ?_
    refine am_getf (f := 0) (v := .inr (.inr (some (28, 0)))) dX1_lawOn_12 hc_3 (by decide) wd_285 (by decide) rfl rfl ?_
    refine am_iload_n dX1_lawOn_15 (List.Mem.tail _ (List.Mem.tail _ (List.Mem.tail _ (List.Mem.head _)))) ?_
    have o2 := h.1
    replace h := h.2
    have o3 := h.1
    replace h := h.2
    refine am_aaload (kd := 7) (r := some (10, x3.toNat)) dX1_lawOn_16 (by decide) rfl (by decide) (by decide) o2 o3 rfl ?_
    refine am_astore (ls' := [(4, .inr (.inr (some (10, x3.toNat)))), (0, .inr (.inr (some (4, 0)))), (1, .inl x1), (2, .inl x2), (3, .inl x3)]) dX1_lawOn_17 (by decide) rfl ?_
    refine am_aload dX1_lawOn_19 (List.Mem.head _) ?_
    refine am_ifnull (tgt := 45) dX1_lawOn_21 (by decide) (fun e => by cases e) (fun _ => ?_)
    refine am_aload dX1_lawOn_24 (List.Mem.head _) ?_
    refine am_getf (f := 17) (v := .inl (w.1 10 x3.toNat 17)) dX1_lawOn_26 hc_4 (by decide) wd_247 (by decide) rfl rfl ?_
    refine am_iload_n dX1_lawOn_29 (List.Mem.tail _ (List.Mem.tail _ (List.Mem.head _))) ?_
    refine am_icmpgt (tgt := 45) dX1_lawOn_30 (by decide) (fun c4 => ?_) (fun c4 => ?_)
    · replace h := h.1 c4
      exact am_sub [1, 2, 3, 4] rfl h
    · replace h := h.2 c4
      refine am_aload dX1_lawOn_33 (List.Mem.head _) ?_
      refine am_getf (f := 17) (v := .inl (w.1 10 x3.toNat 17)) dX1_lawOn_35 hc_4 (by decide) wd_247 (by decide) rfl rfl ?_
      refine am_iload_n dX1_lawOn_38 (List.Mem.tail _ (List.Mem.tail _ (List.Mem.tail _ (List.Mem.head _)))) ?_
      refine am_icmpgt (tgt := 45) dX1_lawOn_39 (by decide) (fun c5 => ?_) (fun c5 => ?_)
      · replace h := h.1 c5
        exact am_sub [1, 2, 3, 4] rfl h
      · replace h := h.2 c5
        refine am_aload dX1_lawOn_42 (List.Mem.head _) ?_
        exact am_ret (r := some (.inr (.inr (some (10, x3.toNat))))) dX1_lawOn_44 ⟨_, rfl, Or.inl ⟨_, rfl⟩⟩ rfl h
theorem bX1_lawOn_45 {SC : Nat → Nat} {X : mh_X} {d : Nat} {Q : Option am_V → am_W → Prop} {bc bs : Nat} {w : am_W} {x1 : Int} {x2 : Int} {x3 : Int}
    (h : am_A (mh_G X) SC (d + 1) mX1_lawOn Q 7 [(0, .inr (.inr (some (4, 0)))), (1, .inl x1), (2, .inl x2), (3, .inl (am_w (x3 + (-1))))] [] w bc bs) :
    am_A (mh_G X) SC (d + 1) mX1_lawOn Q 45 [(0, .inr (.inr (some (4, 0)))), (1, .inl x1), (2, .inl x2), (3, .inl x3)] [] w bc bs := by
  refine am_iinc (ls' := [(3, .inl (am_w (x3 + (-1)))), (0, .inr (.inr (some (4, 0)))), (1, .inl x1), (2, .inl x2)]) dX1_lawOn_45 (List.Mem.tail _ (List.Mem.tail _ (List.Mem.tail _ (List.Mem.head _)))) (by decide) rfl ?_
  refine am_goto (tgt := 7) dX1_lawOn_48 (by decide) ?_
  exact am_sub [1, 2, 3, 0] rfl h
-- MourningHouse$Decrees.canOrder(II)Z
theorem dX1_canOrder_0 : decode mX1_canOrder.2.1 0 = .ok (.iload_n 2, 1) := by decide +kernel
theorem dX1_canOrder_1 : decode mX1_canOrder.2.1 1 = .ok (.iconst 1, 1) := by decide +kernel
theorem dX1_canOrder_2 : decode mX1_canOrder.2.1 2 = .ok (.if_icmp .lt 33, 3) := by decide +kernel
theorem dX1_canOrder_5 : decode mX1_canOrder.2.1 5 = .ok (.iload_n 2, 1) := by decide +kernel
theorem dX1_canOrder_6 : decode mX1_canOrder.2.1 6 = .ok (.iconst 4, 1) := by decide +kernel
theorem dX1_canOrder_7 : decode mX1_canOrder.2.1 7 = .ok (.if_icmp .gt 28, 3) := by decide +kernel
theorem dX1_canOrder_10 : decode mX1_canOrder.2.1 10 = .ok (.iload_n 1, 1) := by decide +kernel
theorem dX1_canOrder_11 : decode mX1_canOrder.2.1 11 = .ok (.iconst 1, 1) := by decide +kernel
theorem dX1_canOrder_12 : decode mX1_canOrder.2.1 12 = .ok (.if_icmp .lt 23, 3) := by decide +kernel
theorem dX1_canOrder_15 : decode mX1_canOrder.2.1 15 = .ok (.iload_n 1, 1) := by decide +kernel
theorem dX1_canOrder_16 : decode mX1_canOrder.2.1 16 = .ok (.sipush 400, 3) := by decide +kernel
theorem dX1_canOrder_19 : decode mX1_canOrder.2.1 19 = .ok (.if_icmp .gt 16, 3) := by decide +kernel
theorem dX1_canOrder_22 : decode mX1_canOrder.2.1 22 = .ok (.aload_n 0, 1) := by decide +kernel
theorem dX1_canOrder_23 : decode mX1_canOrder.2.1 23 = .ok (.getfield 32, 3) := by decide +kernel
theorem dX1_canOrder_26 : decode mX1_canOrder.2.1 26 = .ok (.bipush 10, 2) := by decide +kernel
theorem dX1_canOrder_28 : decode mX1_canOrder.2.1 28 = .ok (.if_icmp .ge 7, 3) := by decide +kernel
theorem dX1_canOrder_31 : decode mX1_canOrder.2.1 31 = .ok (.iconst 1, 1) := by decide +kernel
theorem dX1_canOrder_32 : decode mX1_canOrder.2.1 32 = .ok (.goto 4, 3) := by decide +kernel
theorem dX1_canOrder_35 : decode mX1_canOrder.2.1 35 = .ok (.iconst 0, 1) := by decide +kernel
theorem dX1_canOrder_36 : decode mX1_canOrder.2.1 36 = .ok (.ireturn, 1) := by decide +kernel
theorem sX1_canOrder {SC : Nat → Nat} {X : mh_X} {d kc ks : Nat} {Q : Option am_V → am_W → Prop} {w : am_W} {x1 : Int} {x2 : Int}
    (h : Q (some (.inl (if (¬ x2 < 1 ∧ (¬ 4 < x2 ∧ (¬ x1 < 1 ∧ (¬ 400 < x1 ∧ (¬ 10 ≤ (w.1 4 0 6)))))) then 1 else 0))) w) : am_M (mh_G X) SC (d + 1) kc ks mX1_canOrder [.inr (.inr (some (4, 0))), .inl x1, .inl x2] w Q := by
  refine am_M_of (by decide) (Nat.le_of_ble_eq_true rfl) ?_
  show am_A (mh_G X) SC (d + 1) mX1_canOrder Q 0 [(0, .inr (.inr (some (4, 0)))), (1, .inl x1), (2, .inl x2)] [] w kc ks
  refine am_iload_n dX1_canOrder_0 (List.Mem.tail _ (List.Mem.tail _ (List.Mem.head _))) ?_
  refine am_iconst dX1_canOrder_1 (by unfold am_rg; omega) ?_
  refine am_icmplt (tgt := 35) dX1_canOrder_2 (by decide) (fun c1 => ?_) (fun c1 => ?_)
  · refine am_iconst dX1_canOrder_35 (by unfold am_rg; omega) ?_
    rw [if_neg (by omega)] at h
    exact am_ret (r := some (.inl 0)) dX1_canOrder_36 (Or.inr (Or.inl ⟨rfl, (Or.inl rfl)⟩)) rfl h
  · refine am_iload_n dX1_canOrder_5 (List.Mem.tail _ (List.Mem.tail _ (List.Mem.head _))) ?_
    refine am_iconst dX1_canOrder_6 (by unfold am_rg; omega) ?_
    refine am_icmpgt (tgt := 35) dX1_canOrder_7 (by decide) (fun c2 => ?_) (fun c2 => ?_)
    · refine am_iconst dX1_canOrder_35 (by unfold am_rg; omega) ?_
      rw [if_neg (by omega)] at h
      exact am_ret (r := some (.inl 0)) dX1_canOrder_36 (Or.inr (Or.inl ⟨rfl, (Or.inl rfl)⟩)) rfl h
    · refine am_iload_n dX1_canOrder_10 (List.Mem.tail _ (List.Mem.head _)) ?_
      refine am_iconst dX1_canOrder_11 (by unfold am_rg; omega) ?_
      refine am_icmplt (tgt := 35) dX1_canOrder_12 (by decide) (fun c3 => ?_) (fun c3 => ?_)
      · refine am_iconst dX1_canOrder_35 (by unfold am_rg; omega) ?_
        rw [if_neg (by omega)] at h
        exact am_ret (r := some (.inl 0)) dX1_canOrder_36 (Or.inr (Or.inl ⟨rfl, (Or.inl rfl)⟩)) rfl h
      · refine am_iload_n dX1_canOrder_15 (List.Mem.tail _ (List.Mem.head _)) ?_
        refine am_sipush dX1_canOrder_16 (by decide) (by unfold am_rg; omega) ?_
        refine am_icmpgt (tgt := 35) dX1_canOrder_19 (by decide) (fun c4 => ?_) (fun c4 => ?_)
        · refine am_iconst dX1_canOrder_35 (by unfold am_rg; omega) ?_
          rw [if_neg (by omega)] at h
          exact am_ret (r := some (.inl 0)) dX1_canOrder_36 (Or.inr (Or.inl ⟨rfl, (Or.inl rfl)⟩)) rfl h
        · refine am_aload_n dX1_canOrder_22 (List.Mem.head _) ?_
          refine am_getf (f := 6) (v := .inl (w.1 4 0 6)) dX1_canOrder_23 hc_3 (by decide) wd_292 (by decide) rfl rfl ?_
          refine am_bipush dX1_canOrder_26 (by decide) (by unfold am_rg; omega) ?_
          refine am_icmpge (tgt := 35) dX1_canOrder_28 (by decide) (fun c5 => ?_) (fun c5 => ?_)
          · refine am_iconst dX1_canOrder_35 (by unfold am_rg; omega) ?_
            rw [if_neg (by omega)] at h
            exact am_ret (r := some (.inl 0)) dX1_canOrder_36 (Or.inr (Or.inl ⟨rfl, (Or.inl rfl)⟩)) rfl h
          · refine am_iconst dX1_canOrder_31 (by unfold am_rg; omega) ?_
            refine am_goto (tgt := 36) dX1_canOrder_32 (by decide) ?_
            rw [if_pos (by omega)] at h
            exact am_ret (r := some (.inl 1)) dX1_canOrder_36 (Or.inr (Or.inl ⟨rfl, (Or.inr rfl)⟩)) rfl h
-- MourningHouse$Decrees.order(IIII)I
theorem dX1_order_0 : decode mX1_order.2.1 0 = .ok (.aload_n 0, 1) := by decide +kernel
theorem dX1_order_1 : decode mX1_order.2.1 1 = .ok (.getfield 15, 3) := by decide +kernel
theorem dX1_order_4 : decode mX1_order.2.1 4 = .ok (.aload_n 0, 1) := by decide +kernel
theorem dX1_order_5 : decode mX1_order.2.1 5 = .ok (.getfield 32, 3) := by decide +kernel
theorem dX1_order_8 : decode mX1_order.2.1 8 = .ok (.iload_n 1, 1) := by decide +kernel
theorem dX1_order_9 : decode mX1_order.2.1 9 = .ok (.iastore, 1) := by decide +kernel
theorem dX1_order_10 : decode mX1_order.2.1 10 = .ok (.aload_n 0, 1) := by decide +kernel
theorem dX1_order_11 : decode mX1_order.2.1 11 = .ok (.getfield 19, 3) := by decide +kernel
theorem dX1_order_14 : decode mX1_order.2.1 14 = .ok (.aload_n 0, 1) := by decide +kernel
theorem dX1_order_15 : decode mX1_order.2.1 15 = .ok (.getfield 32, 3) := by decide +kernel
theorem dX1_order_18 : decode mX1_order.2.1 18 = .ok (.iload_n 2, 1) := by decide +kernel
theorem dX1_order_19 : decode mX1_order.2.1 19 = .ok (.iastore, 1) := by decide +kernel
theorem dX1_order_20 : decode mX1_order.2.1 20 = .ok (.aload_n 0, 1) := by decide +kernel
theorem dX1_order_21 : decode mX1_order.2.1 21 = .ok (.getfield 22, 3) := by decide +kernel
theorem dX1_order_24 : decode mX1_order.2.1 24 = .ok (.aload_n 0, 1) := by decide +kernel
theorem dX1_order_25 : decode mX1_order.2.1 25 = .ok (.getfield 32, 3) := by decide +kernel
theorem dX1_order_28 : decode mX1_order.2.1 28 = .ok (.iload_n 3, 1) := by decide +kernel
theorem dX1_order_29 : decode mX1_order.2.1 29 = .ok (.iastore, 1) := by decide +kernel
theorem dX1_order_30 : decode mX1_order.2.1 30 = .ok (.aload_n 0, 1) := by decide +kernel
theorem dX1_order_31 : decode mX1_order.2.1 31 = .ok (.getfield 25, 3) := by decide +kernel
theorem dX1_order_34 : decode mX1_order.2.1 34 = .ok (.aload_n 0, 1) := by decide +kernel
theorem dX1_order_35 : decode mX1_order.2.1 35 = .ok (.getfield 32, 3) := by decide +kernel
theorem dX1_order_38 : decode mX1_order.2.1 38 = .ok (.iload 4, 2) := by decide +kernel
theorem dX1_order_40 : decode mX1_order.2.1 40 = .ok (.iastore, 1) := by decide +kernel
theorem dX1_order_41 : decode mX1_order.2.1 41 = .ok (.aload_n 0, 1) := by decide +kernel
theorem dX1_order_42 : decode mX1_order.2.1 42 = .ok (.dup, 1) := by decide +kernel
theorem dX1_order_43 : decode mX1_order.2.1 43 = .ok (.getfield 32, 3) := by decide +kernel
theorem dX1_order_46 : decode mX1_order.2.1 46 = .ok (.iconst 1, 1) := by decide +kernel
theorem dX1_order_47 : decode mX1_order.2.1 47 = .ok (.iadd, 1) := by decide +kernel
theorem dX1_order_48 : decode mX1_order.2.1 48 = .ok (.putfield 32, 3) := by decide +kernel
theorem dX1_order_51 : decode mX1_order.2.1 51 = .ok (.aload_n 0, 1) := by decide +kernel
theorem dX1_order_52 : decode mX1_order.2.1 52 = .ok (.getfield 32, 3) := by decide +kernel
theorem dX1_order_55 : decode mX1_order.2.1 55 = .ok (.iconst 1, 1) := by decide +kernel
theorem dX1_order_56 : decode mX1_order.2.1 56 = .ok (.isub, 1) := by decide +kernel
theorem dX1_order_57 : decode mX1_order.2.1 57 = .ok (.ireturn, 1) := by decide +kernel
theorem sX1_order {SC : Nat → Nat} {X : mh_X} {d kc ks : Nat} {Q : Option am_V → am_W → Prop} {w : am_W} {x1 : Int} {x2 : Int} {x3 : Int} {x4 : Int} (Ho1 : 0 ≤ (w.1 4 0 6)) (Ho2 : (w.1 4 0 6) < 10)
    (h : Q (some (.inl (am_w (((am_up w.1 4 0 6 (am_w ((w.1 4 0 6) + 1))) 4 0 6) - 1)))) ((am_up (am_up (am_up (am_up (am_up w.1 29 0 (w.1 4 0 6).toNat x1) 30 0 (w.1 4 0 6).toNat x2) 31 0 (w.1 4 0 6).toNat x3) 32 0 (w.1 4 0 6).toNat x4) 4 0 6 (am_w ((w.1 4 0 6) + 1))), w.2)) : am_M (mh_G X) SC (d + 1) kc ks mX1_order [.inr (.inr (some (4, 0))), .inl x1, .inl x2, .inl x3, .inl x4] w Q := by
  refine am_M_of (by decide) (Nat.le_of_ble_eq_true rfl) ?_
  show am_A (mh_G X) SC (d + 1) mX1_order Q 0 [(0, .inr (.inr (some (4, 0)))), (1, .inl x1), (2, .inl x2), (3, .inl x3), (4, .inl x4)] [] w kc ks
  refine am_aload_n dX1_order_0 (List.Mem.head _) ?_
  refine am_getf (f := 1) (v := .inr (.inr (some (29, 0)))) dX1_order_1 hc_3 (by decide) wd_286 (by decide) rfl rfl ?_
  refine am_aload_n dX1_order_4 (List.Mem.head _) ?_
  refine am_getf (f := 6) (v := .inl (w.1 4 0 6)) dX1_order_5 hc_3 (by decide) wd_292 (by decide) rfl rfl ?_
  refine am_iload_n dX1_order_8 (List.Mem.tail _ (List.Mem.head _)) ?_
  have o1 := Ho1
  have o2 := Ho2
  refine am_iastore dX1_order_9 (Or.inl (by decide)) rfl o1 o2 ?_
  refine am_aload_n dX1_order_10 (List.Mem.head _) ?_
  refine am_getf (f := 2) (v := .inr (.inr (some (30, 0)))) dX1_order_11 hc_3 (by decide) wd_287 (by decide) rfl rfl ?_
  refine am_aload_n dX1_order_14 (List.Mem.head _) ?_
  refine am_getf (f := 6) (v := .inl (w.1 4 0 6)) dX1_order_15 hc_3 (by decide) wd_292 (by decide) rfl rfl ?_
  refine am_iload_n dX1_order_18 (List.Mem.tail _ (List.Mem.tail _ (List.Mem.head _))) ?_
  refine am_iastore dX1_order_19 (Or.inl (by decide)) rfl o1 o2 ?_
  refine am_aload_n dX1_order_20 (List.Mem.head _) ?_
  refine am_getf (f := 3) (v := .inr (.inr (some (31, 0)))) dX1_order_21 hc_3 (by decide) wd_288 (by decide) rfl rfl ?_
  refine am_aload_n dX1_order_24 (List.Mem.head _) ?_
  refine am_getf (f := 6) (v := .inl (w.1 4 0 6)) dX1_order_25 hc_3 (by decide) wd_292 (by decide) rfl rfl ?_
  refine am_iload_n dX1_order_28 (List.Mem.tail _ (List.Mem.tail _ (List.Mem.tail _ (List.Mem.head _)))) ?_
  refine am_iastore dX1_order_29 (Or.inl (by decide)) rfl o1 o2 ?_
  refine am_aload_n dX1_order_30 (List.Mem.head _) ?_
  refine am_getf (f := 4) (v := .inr (.inr (some (32, 0)))) dX1_order_31 hc_3 (by decide) wd_289 (by decide) rfl rfl ?_
  refine am_aload_n dX1_order_34 (List.Mem.head _) ?_
  refine am_getf (f := 6) (v := .inl (w.1 4 0 6)) dX1_order_35 hc_3 (by decide) wd_292 (by decide) rfl rfl ?_
  refine am_iload dX1_order_38 (List.Mem.tail _ (List.Mem.tail _ (List.Mem.tail _ (List.Mem.tail _ (List.Mem.head _))))) ?_
  refine am_iastore dX1_order_40 (Or.inl (by decide)) rfl o1 o2 ?_
  refine am_aload_n dX1_order_41 (List.Mem.head _) ?_
  refine am_dup dX1_order_42 rfl ?_
  refine am_getf (f := 6) (v := .inl (w.1 4 0 6)) dX1_order_43 hc_3 (by decide) wd_292 (by decide) rfl rfl ?_
  refine am_iconst dX1_order_46 (by unfold am_rg; omega) ?_
  refine am_iadd dX1_order_47 ?_
  refine am_putf (f := 6) dX1_order_48 hc_3 (by decide) wd_292 rfl (Or.inl rfl) (Or.inl (by decide)) rfl ?_
  refine am_aload_n dX1_order_51 (List.Mem.head _) ?_
  refine am_getf (f := 6) (v := .inl ((am_up w.1 4 0 6 (am_w ((w.1 4 0 6) + 1))) 4 0 6)) dX1_order_52 hc_3 (by decide) wd_292 (by decide) rfl rfl ?_
  refine am_iconst dX1_order_55 (by unfold am_rg; omega) ?_
  refine am_isub dX1_order_56 ?_
  exact am_ret (r := some (.inl (am_w (((am_up w.1 4 0 6 (am_w ((w.1 4 0 6) + 1))) 4 0 6) - 1)))) dX1_order_57 (Or.inl rfl) rfl h
-- MourningHouse$Decrees.orderedDepth(II)I
theorem dX1_orderedDepth_0 : decode mX1_orderedDepth.2.1 0 = .ok (.iconst 0, 1) := by decide +kernel
theorem dX1_orderedDepth_1 : decode mX1_orderedDepth.2.1 1 = .ok (.istore_n 3, 1) := by decide +kernel
theorem dX1_orderedDepth_2 : decode mX1_orderedDepth.2.1 2 = .ok (.iconst 0, 1) := by decide +kernel
theorem dX1_orderedDepth_3 : decode mX1_orderedDepth.2.1 3 = .ok (.istore 4, 2) := by decide +kernel
theorem dX1_orderedDepth_5 : decode mX1_orderedDepth.2.1 5 = .ok (.iload 4, 2) := by decide +kernel
theorem dX1_orderedDepth_7 : decode mX1_orderedDepth.2.1 7 = .ok (.aload_n 0, 1) := by decide +kernel
theorem dX1_orderedDepth_8 : decode mX1_orderedDepth.2.1 8 = .ok (.getfield 32, 3) := by decide +kernel
theorem dX1_orderedDepth_11 : decode mX1_orderedDepth.2.1 11 = .ok (.if_icmp .ge 62, 3) := by decide +kernel
theorem dX1_orderedDepth_14 : decode mX1_orderedDepth.2.1 14 = .ok (.aload_n 0, 1) := by decide +kernel
theorem dX1_orderedDepth_15 : decode mX1_orderedDepth.2.1 15 = .ok (.getfield 25, 3) := by decide +kernel
theorem dX1_orderedDepth_18 : decode mX1_orderedDepth.2.1 18 = .ok (.iload 4, 2) := by decide +kernel
theorem dX1_orderedDepth_20 : decode mX1_orderedDepth.2.1 20 = .ok (.iaload, 1) := by decide +kernel
theorem dX1_orderedDepth_21 : decode mX1_orderedDepth.2.1 21 = .ok (.iload_n 2, 1) := by decide +kernel
theorem dX1_orderedDepth_22 : decode mX1_orderedDepth.2.1 22 = .ok (.if_icmp .gt 45, 3) := by decide +kernel
theorem dX1_orderedDepth_25 : decode mX1_orderedDepth.2.1 25 = .ok (.iload_n 1, 1) := by decide +kernel
theorem dX1_orderedDepth_26 : decode mX1_orderedDepth.2.1 26 = .ok (.aload_n 0, 1) := by decide +kernel
theorem dX1_orderedDepth_27 : decode mX1_orderedDepth.2.1 27 = .ok (.getfield 15, 3) := by decide +kernel
theorem dX1_orderedDepth_30 : decode mX1_orderedDepth.2.1 30 = .ok (.iload 4, 2) := by decide +kernel
theorem dX1_orderedDepth_32 : decode mX1_orderedDepth.2.1 32 = .ok (.iaload, 1) := by decide +kernel
theorem dX1_orderedDepth_33 : decode mX1_orderedDepth.2.1 33 = .ok (.if_icmp .lt 34, 3) := by decide +kernel
theorem dX1_orderedDepth_36 : decode mX1_orderedDepth.2.1 36 = .ok (.iload_n 1, 1) := by decide +kernel
theorem dX1_orderedDepth_37 : decode mX1_orderedDepth.2.1 37 = .ok (.aload_n 0, 1) := by decide +kernel
theorem dX1_orderedDepth_38 : decode mX1_orderedDepth.2.1 38 = .ok (.getfield 15, 3) := by decide +kernel
theorem dX1_orderedDepth_41 : decode mX1_orderedDepth.2.1 41 = .ok (.iload 4, 2) := by decide +kernel
theorem dX1_orderedDepth_43 : decode mX1_orderedDepth.2.1 43 = .ok (.iaload, 1) := by decide +kernel
theorem dX1_orderedDepth_44 : decode mX1_orderedDepth.2.1 44 = .ok (.aload_n 0, 1) := by decide +kernel
theorem dX1_orderedDepth_45 : decode mX1_orderedDepth.2.1 45 = .ok (.getfield 19, 3) := by decide +kernel
theorem dX1_orderedDepth_48 : decode mX1_orderedDepth.2.1 48 = .ok (.iload 4, 2) := by decide +kernel
theorem dX1_orderedDepth_50 : decode mX1_orderedDepth.2.1 50 = .ok (.iaload, 1) := by decide +kernel
theorem dX1_orderedDepth_51 : decode mX1_orderedDepth.2.1 51 = .ok (.iadd, 1) := by decide +kernel
theorem dX1_orderedDepth_52 : decode mX1_orderedDepth.2.1 52 = .ok (.if_icmp .ge 15, 3) := by decide +kernel
theorem dX1_orderedDepth_55 : decode mX1_orderedDepth.2.1 55 = .ok (.iload_n 3, 1) := by decide +kernel
theorem dX1_orderedDepth_56 : decode mX1_orderedDepth.2.1 56 = .ok (.aload_n 0, 1) := by decide +kernel
theorem dX1_orderedDepth_57 : decode mX1_orderedDepth.2.1 57 = .ok (.getfield 22, 3) := by decide +kernel
theorem dX1_orderedDepth_60 : decode mX1_orderedDepth.2.1 60 = .ok (.iload 4, 2) := by decide +kernel
theorem dX1_orderedDepth_62 : decode mX1_orderedDepth.2.1 62 = .ok (.iaload, 1) := by decide +kernel
theorem dX1_orderedDepth_63 : decode mX1_orderedDepth.2.1 63 = .ok (.invokestatic 41, 3) := by decide +kernel
theorem dX1_orderedDepth_66 : decode mX1_orderedDepth.2.1 66 = .ok (.istore_n 3, 1) := by decide +kernel
theorem dX1_orderedDepth_67 : decode mX1_orderedDepth.2.1 67 = .ok (.iinc 4 1, 3) := by decide +kernel
theorem dX1_orderedDepth_70 : decode mX1_orderedDepth.2.1 70 = .ok (.goto (-65), 3) := by decide +kernel
theorem dX1_orderedDepth_73 : decode mX1_orderedDepth.2.1 73 = .ok (.iload_n 3, 1) := by decide +kernel
theorem dX1_orderedDepth_74 : decode mX1_orderedDepth.2.1 74 = .ok (.ireturn, 1) := by decide +kernel
theorem bX1_orderedDepth_0 {SC : Nat → Nat} {X : mh_X} {d : Nat} {Q : Option am_V → am_W → Prop} {bc bs : Nat} {w : am_W} {x1 : Int} {x2 : Int}
    (h : am_A (mh_G X) SC (d + 2) mX1_orderedDepth Q 5 [(0, .inr (.inr (some (4, 0)))), (1, .inl x1), (2, .inl x2), (3, .inl 0), (4, .inl 0)] [] w bc bs) :
    am_A (mh_G X) SC (d + 2) mX1_orderedDepth Q 0 [(0, .inr (.inr (some (4, 0)))), (1, .inl x1), (2, .inl x2)] [] w bc bs := by
  refine am_iconst dX1_orderedDepth_0 (by unfold am_rg; omega) ?_
  refine am_istore_n (ls' := [(3, .inl 0), (0, .inr (.inr (some (4, 0)))), (1, .inl x1), (2, .inl x2)]) dX1_orderedDepth_1 (by decide) rfl ?_
  refine am_iconst dX1_orderedDepth_2 (by unfold am_rg; omega) ?_
  refine am_istore (ls' := [(4, .inl 0), (3, .inl 0), (0, .inr (.inr (some (4, 0)))), (1, .inl x1), (2, .inl x2)]) dX1_orderedDepth_3 (by decide) rfl ?_
  exact am_sub [2, 3, 4, 1, 0] rfl h
theorem bX1_orderedDepth_5 {SC : Nat → Nat} {X : mh_X} {d : Nat} {Q : Option am_V → am_W → Prop} {bc bs : Nat} {w : am_W} {x1 : Int} {x2 : Int} {x3 : Int} {x4 : Int}
    (h : (((w.1 4 0 6) ≤ x4 → Q (some (.inl x3)) w) ∧ (¬ (w.1 4 0 6) ≤ x4 → (0 ≤ x4 ∧ (x4 < 10 ∧ ((x2 < (w.1 32 0 x4.toNat) → am_A (mh_G X) SC (d + 2) mX1_orderedDepth Q 67 [(0, .inr (.inr (some (4, 0)))), (1, .inl x1), (2, .inl x2), (3, .inl x3), (4, .inl x4)] [] w bc bs) ∧ (¬ x2 < (w.1 32 0 x4.toNat) → ((x1 < (w.1 29 0 x4.toNat) → am_A (mh_G X) SC (d + 2) mX1_orderedDepth Q 67 [(0, .inr (.inr (some (4, 0)))), (1, .inl x1), (2, .inl x2), (3, .inl x3), (4, .inl x4)] [] w bc bs) ∧ (¬ x1 < (w.1 29 0 x4.toNat) → (((am_w ((w.1 29 0 x4.toNat) + (w.1 30 0 x4.toNat))) ≤ x1 → am_A (mh_G X) SC (d + 2) mX1_orderedDepth Q 67 [(0, .inr (.inr (some (4, 0)))), (1, .inl x1), (2, .inl x2), (3, .inl x3), (4, .inl x4)] [] w bc bs) ∧ (¬ (am_w ((w.1 29 0 x4.toNat) + (w.1 30 0 x4.toNat))) ≤ x1 → am_A (mh_G X) SC (d + 2) mX1_orderedDepth Q 67 [(0, .inr (.inr (some (4, 0)))), (1, .inl x1), (2, .inl x2), (3, .inl (max x3 (w.1 31 0 x4.toNat))), (4, .inl x4)] [] w bc bs))))))))))) :
    am_A (mh_G X) SC (d + 2) mX1_orderedDepth Q 5 [(0, .inr (.inr (some (4, 0)))), (1, .inl x1), (2, .inl x2), (3, .inl x3), (4, .inl x4)] [] w bc bs := by
  refine am_iload dX1_orderedDepth_5 (List.Mem.tail _ (List.Mem.tail _ (List.Mem.tail _ (List.Mem.tail _ (List.Mem.head _))))) ?_
  refine am_aload_n dX1_orderedDepth_7 (List.Mem.head _) ?_
  refine am_getf (f := 6) (v := .inl (w.1 4 0 6)) dX1_orderedDepth_8 hc_3 (by decide) wd_292 (by decide) rfl rfl ?_
  refine am_icmpge (tgt := 73) dX1_orderedDepth_11 (by decide) (fun c1 => ?_) (fun c1 => ?_)
  · replace h := h.1 c1
    refine am_iload_n dX1_orderedDepth_73 (List.Mem.tail _ (List.Mem.tail _ (List.Mem.tail _ (List.Mem.head _)))) ?_
    exact am_ret (r := some (.inl x3)) dX1_orderedDepth_74 (Or.inl rfl) rfl h
  · replace h := h.2 c1
    refine am_aload_n dX1_orderedDepth_14 (List.Mem.head _) ?_
    refine am_getf (f := 4) (v := .inr (.inr (some (32, 0)))) dX1_orderedDepth_15 hc_3 (by decide) wd_289 (by decide) rfl rfl ?_
    refine am_iload dX1_orderedDepth_18 (List.Mem.tail _ (List.Mem.tail _ (List.Mem.tail _ (List.Mem.tail _ (List.Mem.head _))))) ?_
    have o2 := h.1
    replace h := h.2
    have o3 := h.1
    replace h := h.2
    refine am_iaload (v := (w.1 32 0 x4.toNat)) dX1_orderedDepth_20 (by decide) rfl o2 o3 rfl ?_
    refine am_iload_n dX1_orderedDepth_21 (List.Mem.tail _ (List.Mem.tail _ (List.Mem.head _))) ?_
    refine am_icmpgt (tgt := 67) dX1_orderedDepth_22 (by decide) (fun c4 => ?_) (fun c4 => ?_)
    · replace h := h.1 c4
      exact h
    · replace h := h.2 c4
      refine am_iload_n dX1_orderedDepth_25 (List.Mem.tail _ (List.Mem.head _)) ?_
      refine am_aload_n dX1_orderedDepth_26 (List.Mem.head _) ?_
      refine am_getf (f := 1) (v := .inr (.inr (some (29, 0)))) dX1_orderedDepth_27 hc_3 (by decide) wd_286 (by decide) rfl rfl ?_
      refine am_iload dX1_orderedDepth_30 (List.Mem.tail _ (List.Mem.tail _ (List.Mem.tail _ (List.Mem.tail _ (List.Mem.head _))))) ?_
      refine am_iaload (v := (w.1 29 0 x4.toNat)) dX1_orderedDepth_32 (by decide) rfl o2 o3 rfl ?_
      refine am_icmplt (tgt := 67) dX1_orderedDepth_33 (by decide) (fun c5 => ?_) (fun c5 => ?_)
      · replace h := h.1 c5
        exact h
      · replace h := h.2 c5
        refine am_iload_n dX1_orderedDepth_36 (List.Mem.tail _ (List.Mem.head _)) ?_
        refine am_aload_n dX1_orderedDepth_37 (List.Mem.head _) ?_
        refine am_getf (f := 1) (v := .inr (.inr (some (29, 0)))) dX1_orderedDepth_38 hc_3 (by decide) wd_286 (by decide) rfl rfl ?_
        refine am_iload dX1_orderedDepth_41 (List.Mem.tail _ (List.Mem.tail _ (List.Mem.tail _ (List.Mem.tail _ (List.Mem.head _))))) ?_
        refine am_iaload (v := (w.1 29 0 x4.toNat)) dX1_orderedDepth_43 (by decide) rfl o2 o3 rfl ?_
        refine am_aload_n dX1_orderedDepth_44 (List.Mem.head _) ?_
        refine am_getf (f := 2) (v := .inr (.inr (some (30, 0)))) dX1_orderedDepth_45 hc_3 (by decide) wd_287 (by decide) rfl rfl ?_
        refine am_iload dX1_orderedDepth_48 (List.Mem.tail _ (List.Mem.tail _ (List.Mem.tail _ (List.Mem.tail _ (List.Mem.head _))))) ?_
        refine am_iaload (v := (w.1 30 0 x4.toNat)) dX1_orderedDepth_50 (by decide) rfl o2 o3 rfl ?_
        refine am_iadd dX1_orderedDepth_51 ?_
        refine am_icmpge (tgt := 67) dX1_orderedDepth_52 (by decide) (fun c6 => ?_) (fun c6 => ?_)
        · replace h := h.1 c6
          exact h
        · replace h := h.2 c6
          refine am_iload_n dX1_orderedDepth_55 (List.Mem.tail _ (List.Mem.tail _ (List.Mem.tail _ (List.Mem.head _)))) ?_
          refine am_aload_n dX1_orderedDepth_56 (List.Mem.head _) ?_
          refine am_getf (f := 3) (v := .inr (.inr (some (31, 0)))) dX1_orderedDepth_57 hc_3 (by decide) wd_288 (by decide) rfl rfl ?_
          refine am_iload dX1_orderedDepth_60 (List.Mem.tail _ (List.Mem.tail _ (List.Mem.tail _ (List.Mem.tail _ (List.Mem.head _))))) ?_
          refine am_iaload (v := (w.1 31 0 x4.toNat)) dX1_orderedDepth_62 (by decide) rfl o2 o3 rfl ?_
          refine am_mmax dX1_orderedDepth_63 wd_1282 (by omega) (Nat.le_of_ble_eq_true rfl) ?_
          refine am_istore_n (ls' := [(3, .inl (max x3 (w.1 31 0 x4.toNat))), (0, .inr (.inr (some (4, 0)))), (1, .inl x1), (2, .inl x2), (4, .inl x4)]) dX1_orderedDepth_66 (by decide) rfl ?_
          exact am_sub [1, 2, 3, 0, 4] rfl h
theorem bX1_orderedDepth_67 {SC : Nat → Nat} {X : mh_X} {d : Nat} {Q : Option am_V → am_W → Prop} {bc bs : Nat} {w : am_W} {x1 : Int} {x2 : Int} {x3 : Int} {x4 : Int}
    (h : am_A (mh_G X) SC (d + 2) mX1_orderedDepth Q 5 [(0, .inr (.inr (some (4, 0)))), (1, .inl x1), (2, .inl x2), (3, .inl x3), (4, .inl (am_w (x4 + 1)))] [] w bc bs) :
    am_A (mh_G X) SC (d + 2) mX1_orderedDepth Q 67 [(0, .inr (.inr (some (4, 0)))), (1, .inl x1), (2, .inl x2), (3, .inl x3), (4, .inl x4)] [] w bc bs := by
  refine am_iinc (ls' := [(4, .inl (am_w (x4 + 1))), (0, .inr (.inr (some (4, 0)))), (1, .inl x1), (2, .inl x2), (3, .inl x3)]) dX1_orderedDepth_67 (List.Mem.tail _ (List.Mem.tail _ (List.Mem.tail _ (List.Mem.tail _ (List.Mem.head _))))) (by decide) rfl ?_
  refine am_goto (tgt := 5) dX1_orderedDepth_70 (by decide) ?_
  exact am_sub [1, 2, 3, 4, 0] rfl h
-- MourningHouse$Family.has(I)Z
theorem dX2_has_0 : decode mX2_has.2.1 0 = .ok (.iload_n 1, 1) := by decide +kernel
theorem dX2_has_1 : decode mX2_has.2.1 1 = .ok (.ifCond .lt 15, 3) := by decide +kernel
theorem dX2_has_4 : decode mX2_has.2.1 4 = .ok (.iload_n 1, 1) := by decide +kernel
theorem dX2_has_5 : decode mX2_has.2.1 5 = .ok (.aload_n 0, 1) := by decide +kernel
theorem dX2_has_6 : decode mX2_has.2.1 6 = .ok (.getfield 68, 3) := by decide +kernel
theorem dX2_has_9 : decode mX2_has.2.1 9 = .ok (.if_icmp .ge 7, 3) := by decide +kernel
theorem dX2_has_12 : decode mX2_has.2.1 12 = .ok (.iconst 1, 1) := by decide +kernel
theorem dX2_has_13 : decode mX2_has.2.1 13 = .ok (.goto 4, 3) := by decide +kernel
theorem dX2_has_16 : decode mX2_has.2.1 16 = .ok (.iconst 0, 1) := by decide +kernel
theorem dX2_has_17 : decode mX2_has.2.1 17 = .ok (.ireturn, 1) := by decide +kernel
theorem sX2_has {SC : Nat → Nat} {X : mh_X} {d kc ks : Nat} {Q : Option am_V → am_W → Prop} {w : am_W} {x1 : Int}
    (h : Q (some (.inl (if (¬ x1 < 0 ∧ (¬ (w.1 5 0 18) ≤ x1)) then 1 else 0))) w) : am_M (mh_G X) SC (d + 1) kc ks mX2_has [.inr (.inr (some (5, 0))), .inl x1] w Q := by
  refine am_M_of (by decide) (Nat.le_of_ble_eq_true rfl) ?_
  show am_A (mh_G X) SC (d + 1) mX2_has Q 0 [(0, .inr (.inr (some (5, 0)))), (1, .inl x1)] [] w kc ks
  refine am_iload_n dX2_has_0 (List.Mem.tail _ (List.Mem.head _)) ?_
  refine am_iflt (tgt := 16) dX2_has_1 (by decide) (fun c1 => ?_) (fun c1 => ?_)
  · refine am_iconst dX2_has_16 (by unfold am_rg; omega) ?_
    rw [if_neg (by omega)] at h
    exact am_ret (r := some (.inl 0)) dX2_has_17 (Or.inr (Or.inl ⟨rfl, (Or.inl rfl)⟩)) rfl h
  · refine am_iload_n dX2_has_4 (List.Mem.tail _ (List.Mem.head _)) ?_
    refine am_aload_n dX2_has_5 (List.Mem.head _) ?_
    refine am_getf (f := 18) (v := .inl (w.1 5 0 18)) dX2_has_6 hc_5 (by decide) wd_339 (by decide) rfl rfl ?_
    refine am_icmpge (tgt := 16) dX2_has_9 (by decide) (fun c2 => ?_) (fun c2 => ?_)
    · refine am_iconst dX2_has_16 (by unfold am_rg; omega) ?_
      rw [if_neg (by omega)] at h
      exact am_ret (r := some (.inl 0)) dX2_has_17 (Or.inr (Or.inl ⟨rfl, (Or.inl rfl)⟩)) rfl h
    · refine am_iconst dX2_has_12 (by unfold am_rg; omega) ?_
      refine am_goto (tgt := 17) dX2_has_13 (by decide) ?_
      rw [if_pos (by omega)] at h
      exact am_ret (r := some (.inl 1)) dX2_has_17 (Or.inr (Or.inl ⟨rfl, (Or.inr rfl)⟩)) rfl h
-- MourningHouse$Family.canBeParent(III)Z
theorem dX2_canBeParent_0 : decode mX2_canBeParent.2.1 0 = .ok (.iload_n 1, 1) := by decide +kernel
theorem dX2_canBeParent_1 : decode mX2_canBeParent.2.1 1 = .ok (.iconst (-1), 1) := by decide +kernel
theorem dX2_canBeParent_2 : decode mX2_canBeParent.2.1 2 = .ok (.if_icmp .eq 31, 3) := by decide +kernel
theorem dX2_canBeParent_5 : decode mX2_canBeParent.2.1 5 = .ok (.aload_n 0, 1) := by decide +kernel
theorem dX2_canBeParent_6 : decode mX2_canBeParent.2.1 6 = .ok (.iload_n 1, 1) := by decide +kernel
theorem dX2_canBeParent_7 : decode mX2_canBeParent.2.1 7 = .ok (.invokevirtual 79, 3) := by decide +kernel
theorem dX2_canBeParent_10 : decode mX2_canBeParent.2.1 10 = .ok (.ifCond .eq 27, 3) := by decide +kernel
theorem dX2_canBeParent_13 : decode mX2_canBeParent.2.1 13 = .ok (.aload_n 0, 1) := by decide +kernel
theorem dX2_canBeParent_14 : decode mX2_canBeParent.2.1 14 = .ok (.getfield 11, 3) := by decide +kernel
theorem dX2_canBeParent_17 : decode mX2_canBeParent.2.1 17 = .ok (.iload_n 1, 1) := by decide +kernel
theorem dX2_canBeParent_18 : decode mX2_canBeParent.2.1 18 = .ok (.iaload, 1) := by decide +kernel
theorem dX2_canBeParent_19 : decode mX2_canBeParent.2.1 19 = .ok (.iload_n 2, 1) := by decide +kernel
theorem dX2_canBeParent_20 : decode mX2_canBeParent.2.1 20 = .ok (.if_icmp .ne 17, 3) := by decide +kernel
theorem dX2_canBeParent_23 : decode mX2_canBeParent.2.1 23 = .ok (.aload_n 0, 1) := by decide +kernel
theorem dX2_canBeParent_24 : decode mX2_canBeParent.2.1 24 = .ok (.getfield 24, 3) := by decide +kernel
theorem dX2_canBeParent_27 : decode mX2_canBeParent.2.1 27 = .ok (.iload_n 1, 1) := by decide +kernel
theorem dX2_canBeParent_28 : decode mX2_canBeParent.2.1 28 = .ok (.iaload, 1) := by decide +kernel
theorem dX2_canBeParent_29 : decode mX2_canBeParent.2.1 29 = .ok (.iload_n 3, 1) := by decide +kernel
theorem dX2_canBeParent_30 : decode mX2_canBeParent.2.1 30 = .ok (.if_icmp .gt 7, 3) := by decide +kernel
theorem dX2_canBeParent_33 : decode mX2_canBeParent.2.1 33 = .ok (.iconst 1, 1) := by decide +kernel
theorem dX2_canBeParent_34 : decode mX2_canBeParent.2.1 34 = .ok (.goto 4, 3) := by decide +kernel
theorem dX2_canBeParent_37 : decode mX2_canBeParent.2.1 37 = .ok (.iconst 0, 1) := by decide +kernel
theorem dX2_canBeParent_38 : decode mX2_canBeParent.2.1 38 = .ok (.ireturn, 1) := by decide +kernel
theorem sX2_canBeParent {SC : Nat → Nat} {X : mh_X} {d kc ks : Nat} {Q : Option am_V → am_W → Prop} {w : am_W} {x1 : Int} {x2 : Int} {x3 : Int} (Ho3 : ¬ x1 = (-1) → (¬ x1 < 0 ∧ (¬ (w.1 5 0 18) ≤ x1)) → 0 ≤ x1) (Ho4 : ¬ x1 = (-1) → (¬ x1 < 0 ∧ (¬ (w.1 5 0 18) ≤ x1)) → x1 < 40)
    (h : Q (some (.inl (if (x1 = (-1) ∨ ((¬ x1 < 0 ∧ (¬ (w.1 5 0 18) ≤ x1)) ∧ ((w.1 33 0 x1.toNat) = x2 ∧ (¬ x3 < (w.1 37 0 x1.toNat))))) then 1 else 0))) w) : am_M (mh_G X) SC (d + 2) kc ks mX2_canBeParent [.inr (.inr (some (5, 0))), .inl x1, .inl x2, .inl x3] w Q := by
  refine am_M_of (by decide) (Nat.le_of_ble_eq_true rfl) ?_
  show am_A (mh_G X) SC (d + 2) mX2_canBeParent Q 0 [(0, .inr (.inr (some (5, 0)))), (1, .inl x1), (2, .inl x2), (3, .inl x3)] [] w kc ks
  refine am_iload_n dX2_canBeParent_0 (List.Mem.tail _ (List.Mem.head _)) ?_
  refine am_iconst dX2_canBeParent_1 (by unfold am_rg; omega) ?_
  refine am_icmpeq (tgt := 33) dX2_canBeParent_2 (by decide) (fun c1 => ?_) (fun c1 => ?_)
  · refine am_iconst dX2_canBeParent_33 (by unfold am_rg; omega) ?_
    refine am_goto (tgt := 38) dX2_canBeParent_34 (by decide) ?_
    rw [if_pos (by omega)] at h
    exact am_ret (r := some (.inl 1)) dX2_canBeParent_38 (Or.inr (Or.inl ⟨rfl, (Or.inr rfl)⟩)) rfl h
  · refine am_aload_n dX2_canBeParent_5 (List.Mem.head _) ?_
    refine am_iload_n dX2_canBeParent_6 (List.Mem.tail _ (List.Mem.head _)) ?_
    refine am_callv (d' := d + 1) (kc := 0) (ks := 0) (as := [.inl x1]) dX2_canBeParent_7 wc_X2_has wd_1081 wd_1082 wd_1083 wd_117 ds_X2_has (by decide) (by omega) (Nat.le_of_ble_eq_true rfl) (Nat.zero_le _) (Nat.zero_le _) hc_5 (by decide) rfl rfl (sX2_has (d := d + 0) (x1 := x1)  ?_)
    show am_A (mh_G X) SC (d + 2) mX2_canBeParent Q 10 [(0, .inr (.inr (some (5, 0)))), (1, .inl x1), (2, .inl x2), (3, .inl x3)] [.inl (if (¬ x1 < 0 ∧ (¬ (w.1 5 0 18) ≤ x1)) then 1 else 0)] w kc ks
    refine am_ifeq (tgt := 37) dX2_canBeParent_10 (by decide) (fun c2 => ?_) (fun c2 => ?_)
    · replace c2 := am_beq1 c2
      refine am_iconst dX2_canBeParent_37 (by unfold am_rg; omega) ?_
      rw [if_neg (by omega)] at h
      exact am_ret (r := some (.inl 0)) dX2_canBeParent_38 (Or.inr (Or.inl ⟨rfl, (Or.inl rfl)⟩)) rfl h
    · replace c2 := am_beq2 c2
      refine am_aload_n dX2_canBeParent_13 (List.Mem.head _) ?_
      refine am_getf (f := 0) (v := .inr (.inr (some (33, 0)))) dX2_canBeParent_14 hc_5 (by decide) wd_315 (by decide) rfl rfl ?_
      refine am_iload_n dX2_canBeParent_17 (List.Mem.tail _ (List.Mem.head _)) ?_
      have o3 := Ho3 c1 c2
      have o4 := Ho4 c1 c2
      refine am_iaload (v := (w.1 33 0 x1.toNat)) dX2_canBeParent_18 (by decide) rfl o3 o4 rfl ?_
      refine am_iload_n dX2_canBeParent_19 (List.Mem.tail _ (List.Mem.tail _ (List.Mem.head _))) ?_
      refine am_icmpne (tgt := 37) dX2_canBeParent_20 (by decide) (fun c5 => ?_) (fun c5 => ?_)
      · refine am_iconst dX2_canBeParent_37 (by unfold am_rg; omega) ?_
        rw [if_neg (by omega)] at h
        exact am_ret (r := some (.inl 0)) dX2_canBeParent_38 (Or.inr (Or.inl ⟨rfl, (Or.inl rfl)⟩)) rfl h
      · refine am_aload_n dX2_canBeParent_23 (List.Mem.head _) ?_
        refine am_getf (f := 4) (v := .inr (.inr (some (37, 0)))) dX2_canBeParent_24 hc_5 (by decide) wd_320 (by decide) rfl rfl ?_
        refine am_iload_n dX2_canBeParent_27 (List.Mem.tail _ (List.Mem.head _)) ?_
        refine am_iaload (v := (w.1 37 0 x1.toNat)) dX2_canBeParent_28 (by decide) rfl o3 o4 rfl ?_
        refine am_iload_n dX2_canBeParent_29 (List.Mem.tail _ (List.Mem.tail _ (List.Mem.tail _ (List.Mem.head _)))) ?_
        refine am_icmpgt (tgt := 37) dX2_canBeParent_30 (by decide) (fun c6 => ?_) (fun c6 => ?_)
        · refine am_iconst dX2_canBeParent_37 (by unfold am_rg; omega) ?_
          rw [if_neg (by omega)] at h
          exact am_ret (r := some (.inl 0)) dX2_canBeParent_38 (Or.inr (Or.inl ⟨rfl, (Or.inl rfl)⟩)) rfl h
        · refine am_iconst dX2_canBeParent_33 (by unfold am_rg; omega) ?_
          refine am_goto (tgt := 38) dX2_canBeParent_34 (by decide) ?_
          rw [if_pos (by omega)] at h
          exact am_ret (r := some (.inl 1)) dX2_canBeParent_38 (Or.inr (Or.inl ⟨rfl, (Or.inr rfl)⟩)) rfl h
-- MourningHouse$Family.hasPlaceFor(IIII)Z
theorem dX2_hasPlaceFor_0 : decode mX2_hasPlaceFor.2.1 0 = .ok (.aload_n 0, 1) := by decide +kernel
theorem dX2_hasPlaceFor_1 : decode mX2_hasPlaceFor.2.1 1 = .ok (.getfield 68, 3) := by decide +kernel
theorem dX2_hasPlaceFor_4 : decode mX2_hasPlaceFor.2.1 4 = .ok (.bipush 40, 2) := by decide +kernel
theorem dX2_hasPlaceFor_6 : decode mX2_hasPlaceFor.2.1 6 = .ok (.if_icmp .ge 49, 3) := by decide +kernel
theorem dX2_hasPlaceFor_9 : decode mX2_hasPlaceFor.2.1 9 = .ok (.iload_n 1, 1) := by decide +kernel
theorem dX2_hasPlaceFor_10 : decode mX2_hasPlaceFor.2.1 10 = .ok (.ifCond .lt 45, 3) := by decide +kernel
theorem dX2_hasPlaceFor_13 : decode mX2_hasPlaceFor.2.1 13 = .ok (.iload_n 1, 1) := by decide +kernel
theorem dX2_hasPlaceFor_14 : decode mX2_hasPlaceFor.2.1 14 = .ok (.bipush 10, 2) := by decide +kernel
theorem dX2_hasPlaceFor_16 : decode mX2_hasPlaceFor.2.1 16 = .ok (.idiv, 1) := by decide +kernel
theorem dX2_hasPlaceFor_17 : decode mX2_hasPlaceFor.2.1 17 = .ok (.iconst 1, 1) := by decide +kernel
theorem dX2_hasPlaceFor_18 : decode mX2_hasPlaceFor.2.1 18 = .ok (.if_icmp .gt 37, 3) := by decide +kernel
theorem dX2_hasPlaceFor_21 : decode mX2_hasPlaceFor.2.1 21 = .ok (.iload_n 1, 1) := by decide +kernel
theorem dX2_hasPlaceFor_22 : decode mX2_hasPlaceFor.2.1 22 = .ok (.bipush 10, 2) := by decide +kernel
theorem dX2_hasPlaceFor_24 : decode mX2_hasPlaceFor.2.1 24 = .ok (.irem, 1) := by decide +kernel
theorem dX2_hasPlaceFor_25 : decode mX2_hasPlaceFor.2.1 25 = .ok (.iconst 5, 1) := by decide +kernel
theorem dX2_hasPlaceFor_26 : decode mX2_hasPlaceFor.2.1 26 = .ok (.if_icmp .ge 29, 3) := by decide +kernel
theorem dX2_hasPlaceFor_29 : decode mX2_hasPlaceFor.2.1 29 = .ok (.aload_n 0, 1) := by decide +kernel
theorem dX2_hasPlaceFor_30 : decode mX2_hasPlaceFor.2.1 30 = .ok (.iload_n 2, 1) := by decide +kernel
theorem dX2_hasPlaceFor_31 : decode mX2_hasPlaceFor.2.1 31 = .ok (.iconst 1, 1) := by decide +kernel
theorem dX2_hasPlaceFor_32 : decode mX2_hasPlaceFor.2.1 32 = .ok (.iload 4, 2) := by decide +kernel
theorem dX2_hasPlaceFor_34 : decode mX2_hasPlaceFor.2.1 34 = .ok (.invokevirtual 75, 3) := by decide +kernel
theorem dX2_hasPlaceFor_37 : decode mX2_hasPlaceFor.2.1 37 = .ok (.ifCond .eq 18, 3) := by decide +kernel
theorem dX2_hasPlaceFor_40 : decode mX2_hasPlaceFor.2.1 40 = .ok (.aload_n 0, 1) := by decide +kernel
theorem dX2_hasPlaceFor_41 : decode mX2_hasPlaceFor.2.1 41 = .ok (.iload_n 3, 1) := by decide +kernel
theorem dX2_hasPlaceFor_42 : decode mX2_hasPlaceFor.2.1 42 = .ok (.iconst 0, 1) := by decide +kernel
theorem dX2_hasPlaceFor_43 : decode mX2_hasPlaceFor.2.1 43 = .ok (.iload 4, 2) := by decide +kernel
theorem dX2_hasPlaceFor_45 : decode mX2_hasPlaceFor.2.1 45 = .ok (.invokevirtual 75, 3) := by decide +kernel
theorem dX2_hasPlaceFor_48 : decode mX2_hasPlaceFor.2.1 48 = .ok (.ifCond .eq 7, 3) := by decide +kernel
theorem dX2_hasPlaceFor_51 : decode mX2_hasPlaceFor.2.1 51 = .ok (.iconst 1, 1) := by decide +kernel
theorem dX2_hasPlaceFor_52 : decode mX2_hasPlaceFor.2.1 52 = .ok (.goto 4, 3) := by decide +kernel
theorem dX2_hasPlaceFor_55 : decode mX2_hasPlaceFor.2.1 55 = .ok (.iconst 0, 1) := by decide +kernel
theorem dX2_hasPlaceFor_56 : decode mX2_hasPlaceFor.2.1 56 = .ok (.ireturn, 1) := by decide +kernel
theorem sX2_hasPlaceFor {SC : Nat → Nat} {X : mh_X} {d kc ks : Nat} {Q : Option am_V → am_W → Prop} {w : am_W} {x1 : Int} {x2 : Int} {x3 : Int} {x4 : Int} (Ho5 : ¬ 40 ≤ (w.1 5 0 18) → ¬ x1 < 0 → ¬ 1 < (am_w (Int.tdiv x1 10)) → ¬ 5 ≤ (am_w (Int.tmod x1 10)) → (¬ x2 = (-1) → (¬ x2 < 0 ∧ (¬ (w.1 5 0 18) ≤ x2)) → 0 ≤ x2)) (Ho6 : ¬ 40 ≤ (w.1 5 0 18) → ¬ x1 < 0 → ¬ 1 < (am_w (Int.tdiv x1 10)) → ¬ 5 ≤ (am_w (Int.tmod x1 10)) → (¬ x2 = (-1) → (¬ x2 < 0 ∧ (¬ (w.1 5 0 18) ≤ x2)) → x2 < 40)) (Ho8 : ¬ 40 ≤ (w.1 5 0 18) → ¬ x1 < 0 → ¬ 1 < (am_w (Int.tdiv x1 10)) → ¬ 5 ≤ (am_w (Int.tmod x1 10)) → (x2 = (-1) ∨ ((¬ x2 < 0 ∧ (¬ (w.1 5 0 18) ≤ x2)) ∧ ((w.1 33 0 x2.toNat) = (1 : Int) ∧ (¬ x4 < (w.1 37 0 x2.toNat))))) → (¬ x3 = (-1) → (¬ x3 < 0 ∧ (¬ (w.1 5 0 18) ≤ x3)) → 0 ≤ x3)) (Ho9 : ¬ 40 ≤ (w.1 5 0 18) → ¬ x1 < 0 → ¬ 1 < (am_w (Int.tdiv x1 10)) → ¬ 5 ≤ (am_w (Int.tmod x1 10)) → (x2 = (-1) ∨ ((¬ x2 < 0 ∧ (¬ (w.1 5 0 18) ≤ x2)) ∧ ((w.1 33 0 x2.toNat) = (1 : Int) ∧ (¬ x4 < (w.1 37 0 x2.toNat))))) → (¬ x3 = (-1) → (¬ x3 < 0 ∧ (¬ (w.1 5 0 18) ≤ x3)) → x3 < 40))
    (h : Q (some (.inl (if (¬ 40 ≤ (w.1 5 0 18) ∧ (¬ x1 < 0 ∧ (¬ 1 < (am_w (Int.tdiv x1 10)) ∧ (¬ 5 ≤ (am_w (Int.tmod x1 10)) ∧ ((x2 = (-1) ∨ ((¬ x2 < 0 ∧ (¬ (w.1 5 0 18) ≤ x2)) ∧ ((w.1 33 0 x2.toNat) = (1 : Int) ∧ (¬ x4 < (w.1 37 0 x2.toNat))))) ∧ ((x3 = (-1) ∨ ((¬ x3 < 0 ∧ (¬ (w.1 5 0 18) ≤ x3)) ∧ ((w.1 33 0 x3.toNat) = (0 : Int) ∧ (¬ x4 < (w.1 37 0 x3.toNat))))))))))) then 1 else 0))) w) : am_M (mh_G X) SC (d + 3) kc ks mX2_hasPlaceFor [.inr (.inr (some (5, 0))), .inl x1, .inl x2, .inl x3, .inl x4] w Q := by
  refine am_M_of (by decide) (Nat.le_of_ble_eq_true rfl) ?_
  show am_A (mh_G X) SC (d + 3) mX2_hasPlaceFor Q 0 [(0, .inr (.inr (some (5, 0)))), (1, .inl x1), (2, .inl x2), (3, .inl x3), (4, .inl x4)] [] w kc ks
  refine am_aload_n dX2_hasPlaceFor_0 (List.Mem.head _) ?_
  refine am_getf (f := 18) (v := .inl (w.1 5 0 18)) dX2_hasPlaceFor_1 hc_5 (by decide) wd_339 (by decide) rfl rfl ?_
  refine am_bipush dX2_hasPlaceFor_4 (by decide) (by unfold am_rg; omega) ?_
  refine am_icmpge (tgt := 55) dX2_hasPlaceFor_6 (by decide) (fun c1 => ?_) (fun c1 => ?_)
  · refine am_iconst dX2_hasPlaceFor_55 (by unfold am_rg; omega) ?_
    rw [if_neg (by omega)] at h
    exact am_ret (r := some (.inl 0)) dX2_hasPlaceFor_56 (Or.inr (Or.inl ⟨rfl, (Or.inl rfl)⟩)) rfl h
  · refine am_iload_n dX2_hasPlaceFor_9 (List.Mem.tail _ (List.Mem.head _)) ?_
    refine am_iflt (tgt := 55) dX2_hasPlaceFor_10 (by decide) (fun c2 => ?_) (fun c2 => ?_)
    · refine am_iconst dX2_hasPlaceFor_55 (by unfold am_rg; omega) ?_
      rw [if_neg (by omega)] at h
      exact am_ret (r := some (.inl 0)) dX2_hasPlaceFor_56 (Or.inr (Or.inl ⟨rfl, (Or.inl rfl)⟩)) rfl h
    · refine am_iload_n dX2_hasPlaceFor_13 (List.Mem.tail _ (List.Mem.head _)) ?_
      refine am_bipush dX2_hasPlaceFor_14 (by decide) (by unfold am_rg; omega) ?_
      refine am_idiv dX2_hasPlaceFor_16 (by decide) ?_
      refine am_iconst dX2_hasPlaceFor_17 (by unfold am_rg; omega) ?_
      refine am_icmpgt (tgt := 55) dX2_hasPlaceFor_18 (by decide) (fun c3 => ?_) (fun c3 => ?_)
      · refine am_iconst dX2_hasPlaceFor_55 (by unfold am_rg; omega) ?_
        rw [if_neg (by omega)] at h
        exact am_ret (r := some (.inl 0)) dX2_hasPlaceFor_56 (Or.inr (Or.inl ⟨rfl, (Or.inl rfl)⟩)) rfl h
      · refine am_iload_n dX2_hasPlaceFor_21 (List.Mem.tail _ (List.Mem.head _)) ?_
        refine am_bipush dX2_hasPlaceFor_22 (by decide) (by unfold am_rg; omega) ?_
        refine am_irem dX2_hasPlaceFor_24 (by decide) ?_
        refine am_iconst dX2_hasPlaceFor_25 (by unfold am_rg; omega) ?_
        refine am_icmpge (tgt := 55) dX2_hasPlaceFor_26 (by decide) (fun c4 => ?_) (fun c4 => ?_)
        · refine am_iconst dX2_hasPlaceFor_55 (by unfold am_rg; omega) ?_
          rw [if_neg (by omega)] at h
          exact am_ret (r := some (.inl 0)) dX2_hasPlaceFor_56 (Or.inr (Or.inl ⟨rfl, (Or.inl rfl)⟩)) rfl h
        · refine am_aload_n dX2_hasPlaceFor_29 (List.Mem.head _) ?_
          refine am_iload_n dX2_hasPlaceFor_30 (List.Mem.tail _ (List.Mem.tail _ (List.Mem.head _))) ?_
          refine am_iconst dX2_hasPlaceFor_31 (by unfold am_rg; omega) ?_
          refine am_iload dX2_hasPlaceFor_32 (List.Mem.tail _ (List.Mem.tail _ (List.Mem.tail _ (List.Mem.tail _ (List.Mem.head _))))) ?_
          have o5 := Ho5 c1 c2 c3 c4
          have o6 := Ho6 c1 c2 c3 c4
          refine am_callv (d' := d + 2) (kc := 0) (ks := 0) (as := [.inl x2, .inl 1, .inl x4]) dX2_hasPlaceFor_34 wc_X2_canBeParent wd_1077 wd_1079 wd_29 wd_117 ds_X2_canBeParent (by decide) (by omega) (Nat.le_of_ble_eq_true rfl) (Nat.zero_le _) (Nat.zero_le _) hc_5 (by decide) rfl rfl (sX2_canBeParent (d := d + 0) (x1 := x2) (x2 := 1) (x3 := x4) o5 o6 ?_)
          show am_A (mh_G X) SC (d + 3) mX2_hasPlaceFor Q 37 [(0, .inr (.inr (some (5, 0)))), (1, .inl x1), (2, .inl x2), (3, .inl x3), (4, .inl x4)] [.inl (if (x2 = (-1) ∨ ((¬ x2 < 0 ∧ (¬ (w.1 5 0 18) ≤ x2)) ∧ ((w.1 33 0 x2.toNat) = (1 : Int) ∧ (¬ x4 < (w.1 37 0 x2.toNat))))) then 1 else 0)] w kc ks
          refine am_ifeq (tgt := 55) dX2_hasPlaceFor_37 (by decide) (fun c7 => ?_) (fun c7 => ?_)
          · replace c7 := am_beq1 c7
            refine am_iconst dX2_hasPlaceFor_55 (by unfold am_rg; omega) ?_
            rw [if_neg (by omega)] at h
            exact am_ret (r := some (.inl 0)) dX2_hasPlaceFor_56 (Or.inr (Or.inl ⟨rfl, (Or.inl rfl)⟩)) rfl h
          · replace c7 := am_beq2 c7
            refine am_aload_n dX2_hasPlaceFor_40 (List.Mem.head _) ?_
            refine am_iload_n dX2_hasPlaceFor_41 (List.Mem.tail _ (List.Mem.tail _ (List.Mem.tail _ (List.Mem.head _)))) ?_
            refine am_iconst dX2_hasPlaceFor_42 (by unfold am_rg; omega) ?_
            refine am_iload dX2_hasPlaceFor_43 (List.Mem.tail _ (List.Mem.tail _ (List.Mem.tail _ (List.Mem.tail _ (List.Mem.head _))))) ?_
            have o8 := Ho8 c1 c2 c3 c4 c7
            have o9 := Ho9 c1 c2 c3 c4 c7
            refine am_callv (d' := d + 2) (kc := 0) (ks := 0) (as := [.inl x3, .inl 0, .inl x4]) dX2_hasPlaceFor_45 wc_X2_canBeParent wd_1077 wd_1079 wd_29 wd_117 ds_X2_canBeParent (by decide) (by omega) (Nat.le_of_ble_eq_true rfl) (Nat.zero_le _) (Nat.zero_le _) hc_5 (by decide) rfl rfl (sX2_canBeParent (d := d + 0) (x1 := x3) (x2 := 0) (x3 := x4) o8 o9 ?_)
            show am_A (mh_G X) SC (d + 3) mX2_hasPlaceFor Q 48 [(0, .inr (.inr (some (5, 0)))), (1, .inl x1), (2, .inl x2), (3, .inl x3), (4, .inl x4)] [.inl (if (x3 = (-1) ∨ ((¬ x3 < 0 ∧ (¬ (w.1 5 0 18) ≤ x3)) ∧ ((w.1 33 0 x3.toNat) = (0 : Int) ∧ (¬ x4 < (w.1 37 0 x3.toNat))))) then 1 else 0)] w kc ks
            refine am_ifeq (tgt := 55) dX2_hasPlaceFor_48 (by decide) (fun c10 => ?_) (fun c10 => ?_)
            · replace c10 := am_beq1 c10
              refine am_iconst dX2_hasPlaceFor_55 (by unfold am_rg; omega) ?_
              rw [if_neg (by omega)] at h
              exact am_ret (r := some (.inl 0)) dX2_hasPlaceFor_56 (Or.inr (Or.inl ⟨rfl, (Or.inl rfl)⟩)) rfl h
            · replace c10 := am_beq2 c10
              refine am_iconst dX2_hasPlaceFor_51 (by unfold am_rg; omega) ?_
              refine am_goto (tgt := 56) dX2_hasPlaceFor_52 (by decide) ?_
              rw [if_pos (by omega)] at h
              exact am_ret (r := some (.inl 1)) dX2_hasPlaceFor_56 (Or.inr (Or.inl ⟨rfl, (Or.inr rfl)⟩)) rfl h
-- MourningHouse$Family.addChild(II)V
theorem dX2_addChild_0 : decode mX2_addChild.2.1 0 = .ok (.aload_n 0, 1) := by decide +kernel
theorem dX2_addChild_1 : decode mX2_addChild.2.1 1 = .ok (.iload_n 1, 1) := by decide +kernel
theorem dX2_addChild_2 : decode mX2_addChild.2.1 2 = .ok (.invokevirtual 79, 3) := by decide +kernel
theorem dX2_addChild_5 : decode mX2_addChild.2.1 5 = .ok (.ifCond .ne 4, 3) := by decide +kernel
theorem dX2_addChild_8 : decode mX2_addChild.2.1 8 = .ok (.return_, 1) := by decide +kernel
theorem dX2_addChild_9 : decode mX2_addChild.2.1 9 = .ok (.iconst 0, 1) := by decide +kernel
theorem dX2_addChild_10 : decode mX2_addChild.2.1 10 = .ok (.istore_n 3, 1) := by decide +kernel
theorem dX2_addChild_11 : decode mX2_addChild.2.1 11 = .ok (.iload_n 3, 1) := by decide +kernel
theorem dX2_addChild_12 : decode mX2_addChild.2.1 12 = .ok (.iload_n 2, 1) := by decide +kernel
theorem dX2_addChild_13 : decode mX2_addChild.2.1 13 = .ok (.if_icmp .ge 48, 3) := by decide +kernel
theorem dX2_addChild_16 : decode mX2_addChild.2.1 16 = .ok (.aload_n 0, 1) := by decide +kernel
theorem dX2_addChild_17 : decode mX2_addChild.2.1 17 = .ok (.getfield 40, 3) := by decide +kernel
theorem dX2_addChild_20 : decode mX2_addChild.2.1 20 = .ok (.iload_n 1, 1) := by decide +kernel
theorem dX2_addChild_21 : decode mX2_addChild.2.1 21 = .ok (.laload, 1) := by decide +kernel
theorem dX2_addChild_22 : decode mX2_addChild.2.1 22 = .ok (.iload_n 3, 1) := by decide +kernel
theorem dX2_addChild_23 : decode mX2_addChild.2.1 23 = .ok (.lshr, 1) := by decide +kernel
theorem dX2_addChild_24 : decode mX2_addChild.2.1 24 = .ok (.lconst 1, 1) := by decide +kernel
theorem dX2_addChild_25 : decode mX2_addChild.2.1 25 = .ok (.land, 1) := by decide +kernel
theorem dX2_addChild_26 : decode mX2_addChild.2.1 26 = .ok (.lconst 0, 1) := by decide +kernel
theorem dX2_addChild_27 : decode mX2_addChild.2.1 27 = .ok (.lcmp, 1) := by decide +kernel
theorem dX2_addChild_28 : decode mX2_addChild.2.1 28 = .ok (.ifCond .eq 27, 3) := by decide +kernel
theorem dX2_addChild_31 : decode mX2_addChild.2.1 31 = .ok (.aload_n 0, 1) := by decide +kernel
theorem dX2_addChild_32 : decode mX2_addChild.2.1 32 = .ok (.getfield 43, 3) := by decide +kernel
theorem dX2_addChild_35 : decode mX2_addChild.2.1 35 = .ok (.iload_n 3, 1) := by decide +kernel
theorem dX2_addChild_36 : decode mX2_addChild.2.1 36 = .ok (.dup2, 1) := by decide +kernel
theorem dX2_addChild_37 : decode mX2_addChild.2.1 37 = .ok (.laload, 1) := by decide +kernel
theorem dX2_addChild_38 : decode mX2_addChild.2.1 38 = .ok (.lconst 1, 1) := by decide +kernel
theorem dX2_addChild_39 : decode mX2_addChild.2.1 39 = .ok (.iload_n 2, 1) := by decide +kernel
theorem dX2_addChild_40 : decode mX2_addChild.2.1 40 = .ok (.lshl, 1) := by decide +kernel
theorem dX2_addChild_41 : decode mX2_addChild.2.1 41 = .ok (.lor, 1) := by decide +kernel
theorem dX2_addChild_42 : decode mX2_addChild.2.1 42 = .ok (.lastore, 1) := by decide +kernel
theorem dX2_addChild_43 : decode mX2_addChild.2.1 43 = .ok (.aload_n 0, 1) := by decide +kernel
theorem dX2_addChild_44 : decode mX2_addChild.2.1 44 = .ok (.getfield 43, 3) := by decide +kernel
theorem dX2_addChild_47 : decode mX2_addChild.2.1 47 = .ok (.iload_n 2, 1) := by decide +kernel
theorem dX2_addChild_48 : decode mX2_addChild.2.1 48 = .ok (.dup2, 1) := by decide +kernel
theorem dX2_addChild_49 : decode mX2_addChild.2.1 49 = .ok (.laload, 1) := by decide +kernel
theorem dX2_addChild_50 : decode mX2_addChild.2.1 50 = .ok (.lconst 1, 1) := by decide +kernel
theorem dX2_addChild_51 : decode mX2_addChild.2.1 51 = .ok (.iload_n 3, 1) := by decide +kernel
theorem dX2_addChild_52 : decode mX2_addChild.2.1 52 = .ok (.lshl, 1) := by decide +kernel
theorem dX2_addChild_53 : decode mX2_addChild.2.1 53 = .ok (.lor, 1) := by decide +kernel
theorem dX2_addChild_54 : decode mX2_addChild.2.1 54 = .ok (.lastore, 1) := by decide +kernel
theorem dX2_addChild_55 : decode mX2_addChild.2.1 55 = .ok (.iinc 3 1, 3) := by decide +kernel
theorem dX2_addChild_58 : decode mX2_addChild.2.1 58 = .ok (.goto (-47), 3) := by decide +kernel
theorem dX2_addChild_61 : decode mX2_addChild.2.1 61 = .ok (.aload_n 0, 1) := by decide +kernel
theorem dX2_addChild_62 : decode mX2_addChild.2.1 62 = .ok (.getfield 40, 3) := by decide +kernel
theorem dX2_addChild_65 : decode mX2_addChild.2.1 65 = .ok (.iload_n 1, 1) := by decide +kernel
theorem dX2_addChild_66 : decode mX2_addChild.2.1 66 = .ok (.dup2, 1) := by decide +kernel
theorem dX2_addChild_67 : decode mX2_addChild.2.1 67 = .ok (.laload, 1) := by decide +kernel
theorem dX2_addChild_68 : decode mX2_addChild.2.1 68 = .ok (.lconst 1, 1) := by decide +kernel
theorem dX2_addChild_69 : decode mX2_addChild.2.1 69 = .ok (.iload_n 2, 1) := by decide +kernel
theorem dX2_addChild_70 : decode mX2_addChild.2.1 70 = .ok (.lshl, 1) := by decide +kernel
theorem dX2_addChild_71 : decode mX2_addChild.2.1 71 = .ok (.lor, 1) := by decide +kernel
theorem dX2_addChild_72 : decode mX2_addChild.2.1 72 = .ok (.lastore, 1) := by decide +kernel
theorem dX2_addChild_73 : decode mX2_addChild.2.1 73 = .ok (.aload_n 0, 1) := by decide +kernel
theorem dX2_addChild_74 : decode mX2_addChild.2.1 74 = .ok (.getfield 36, 3) := by decide +kernel
theorem dX2_addChild_77 : decode mX2_addChild.2.1 77 = .ok (.iload_n 2, 1) := by decide +kernel
theorem dX2_addChild_78 : decode mX2_addChild.2.1 78 = .ok (.dup2, 1) := by decide +kernel
theorem dX2_addChild_79 : decode mX2_addChild.2.1 79 = .ok (.laload, 1) := by decide +kernel
theorem dX2_addChild_80 : decode mX2_addChild.2.1 80 = .ok (.lconst 1, 1) := by decide +kernel
theorem dX2_addChild_81 : decode mX2_addChild.2.1 81 = .ok (.iload_n 1, 1) := by decide +kernel
theorem dX2_addChild_82 : decode mX2_addChild.2.1 82 = .ok (.lshl, 1) := by decide +kernel
theorem dX2_addChild_83 : decode mX2_addChild.2.1 83 = .ok (.lor, 1) := by decide +kernel
theorem dX2_addChild_84 : decode mX2_addChild.2.1 84 = .ok (.lastore, 1) := by decide +kernel
theorem dX2_addChild_85 : decode mX2_addChild.2.1 85 = .ok (.return_, 1) := by decide +kernel
theorem bX2_addChild_0 {SC : Nat → Nat} {X : mh_X} {d : Nat} {Q : Option am_V → am_W → Prop} {bc bs : Nat} {w : am_W} {x1 : Int} {x2 : Int}
    (h : (((¬ x1 < 0 ∧ (¬ (w.1 5 0 18) ≤ x1)) → am_A (mh_G X) SC (d + 2) mX2_addChild Q 11 [(0, .inr (.inr (some (5, 0)))), (1, .inl x1), (2, .inl x2), (3, .inl 0)] [] w bc bs) ∧ (¬ (¬ x1 < 0 ∧ (¬ (w.1 5 0 18) ≤ x1)) → Q none w))) :
    am_A (mh_G X) SC (d + 2) mX2_addChild Q 0 [(0, .inr (.inr (some (5, 0)))), (1, .inl x1), (2, .inl x2)] [] w bc bs := by
  refine am_aload_n dX2_addChild_0 (List.Mem.head _) ?_
  refine am_iload_n dX2_addChild_1 (List.Mem.tail _ (List.Mem.head _)) ?_
  refine am_callv (d' := d + 1) (kc := 0) (ks := 0) (as := [.inl x1]) dX2_addChild_2 wc_X2_has wd_1081 wd_1082 wd_1083 wd_117 ds_X2_has (by decide) (by omega) (Nat.le_of_ble_eq_true rfl) (Nat.zero_le _) (Nat.zero_le _) hc_5 (by decide) rfl rfl (sX2_has (d := d + 0) (x1 := x1)  ?_)
  show am_A (mh_G X) SC (d + 2) mX2_addChild Q 5 [(0, .inr (.inr (some (5, 0)))), (1, .inl x1), (2, .inl x2)] [.inl (if (¬ x1 < 0 ∧ (¬ (w.1 5 0 18) ≤ x1)) then 1 else 0)] w bc bs
  refine am_ifne (tgt := 9) dX2_addChild_5 (by decide) (fun c1 => ?_) (fun c1 => ?_)
  · replace c1 := am_bne1 c1
    replace h := h.1 c1
    refine am_iconst dX2_addChild_9 (by unfold am_rg; omega) ?_
    refine am_istore_n (ls' := [(3, .inl 0), (0, .inr (.inr (some (5, 0)))), (1, .inl x1), (2, .inl x2)]) dX2_addChild_10 (by decide) rfl ?_
    exact am_sub [1, 2, 3, 0] rfl h
  · replace c1 := am_bne2 c1
    replace h := h.2 c1
    exact am_ret (r := none) dX2_addChild_8 rfl rfl h
theorem bX2_addChild_11 {SC : Nat → Nat} {X : mh_X} {d : Nat} {Q : Option am_V → am_W → Prop} {bc bs : Nat} {w : am_W} {x1 : Int} {x2 : Int} {x3 : Int}
    (h : ((x2 ≤ x3 → (0 ≤ x1 ∧ (x1 < 40 ∧ (0 ≤ x2 ∧ (x2 < 40 ∧ Q none (w.1, (am_up (am_up w.2.1 42 0 x1.toNat ((w.2.1 42 0 x1.toNat) ||| ((1 : Int64) <<< ((Int32.ofInt x2).toInt64 &&& 63)))) 41 0 x2.toNat ((w.2.1 41 0 x2.toNat) ||| ((1 : Int64) <<< ((Int32.ofInt x1).toInt64 &&& 63)))), w.2.2)))))) ∧ (¬ x2 ≤ x3 → (0 ≤ x1 ∧ (x1 < 40 ∧ (((am_lcmpv (((w.2.1 42 0 x1.toNat) >>> ((Int32.ofInt x3).toInt64 &&& 63)) &&& (1 : Int64)) (0 : Int64)) = 0 → am_A (mh_G X) SC (d + 2) mX2_addChild Q 55 [(0, .inr (.inr (some (5, 0)))), (1, .inl x1), (2, .inl x2), (3, .inl x3)] [] w bc bs) ∧ (¬ (am_lcmpv (((w.2.1 42 0 x1.toNat) >>> ((Int32.ofInt x3).toInt64 &&& 63)) &&& (1 : Int64)) (0 : Int64)) = 0 → (0 ≤ x3 ∧ (x3 < 40 ∧ (0 ≤ x2 ∧ (x2 < 40 ∧ am_A (mh_G X) SC (d + 2) mX2_addChild Q 55 [(0, .inr (.inr (some (5, 0)))), (1, .inl x1), (2, .inl x2), (3, .inl x3)] [] (w.1, (am_up (am_up w.2.1 43 0 x3.toNat ((w.2.1 43 0 x3.toNat) ||| ((1 : Int64) <<< ((Int32.ofInt x2).toInt64 &&& 63)))) 43 0 x2.toNat (((am_up w.2.1 43 0 x3.toNat ((w.2.1 43 0 x3.toNat) ||| ((1 : Int64) <<< ((Int32.ofInt x2).toInt64 &&& 63)))) 43 0 x2.toNat) ||| ((1 : Int64) <<< ((Int32.ofInt x3).toInt64 &&& 63)))), w.2.2) bc bs))))))))))) :
    am_A (mh_G X) SC (d + 2) mX2_addChild Q 11 [(0, .inr (.inr (some (5, 0)))), (1, .inl x1), (2, .inl x2), (3, .inl x3)] [] w bc bs := by
  refine am_iload_n dX2_addChild_11 (List.Mem.tail _ (List.Mem.tail _ (List.Mem.tail _ (List.Mem.head _)))) ?_
  refine am_iload_n dX2_addChild_12 (List.Mem.tail _ (List.Mem.tail _ (List.Mem.head _))) ?_
  refine am_icmpge (tgt := 61) dX2_addChild_13 (by decide) (fun c1 => ?_) (fun c1 => ?_)
  · replace h := h.1 c1
    refine am_aload_n dX2_addChild_61 (List.Mem.head _) ?_
    refine am_getf (f := 9) (v := .inr (.inr (some (42, 0)))) dX2_addChild_62 hc_5 (by decide) wd_330 (by decide) rfl rfl ?_
    refine am_iload_n dX2_addChild_65 (List.Mem.tail _ (List.Mem.head _)) ?_
    refine am_dup2 dX2_addChild_66 rfl rfl ?_
    have o2 := h.1
    replace h := h.2
    have o3 := h.1
    replace h := h.2
    refine am_laload (x := (w.2.1 42 0 x1.toNat)) dX2_addChild_67 (by decide) rfl o2 o3 rfl ?_
    refine am_lconst (x := 1) dX2_addChild_68 rfl ?_
    refine am_iload_n dX2_addChild_69 (List.Mem.tail _ (List.Mem.tail _ (List.Mem.head _))) ?_
    refine am_lshl dX2_addChild_70 ?_
    refine am_lor dX2_addChild_71 ?_
    refine am_lastore dX2_addChild_72 (Or.inl (by decide)) rfl o2 o3 ?_
    refine am_aload_n dX2_addChild_73 (List.Mem.head _) ?_
    refine am_getf (f := 8) (v := .inr (.inr (some (41, 0)))) dX2_addChild_74 hc_5 (by decide) wd_329 (by decide) rfl rfl ?_
    refine am_iload_n dX2_addChild_77 (List.Mem.tail _ (List.Mem.tail _ (List.Mem.head _))) ?_
    refine am_dup2 dX2_addChild_78 rfl rfl ?_
    have o4 := h.1
    replace h := h.2
    have o5 := h.1
    replace h := h.2
    refine am_laload (x := (w.2.1 41 0 x2.toNat)) dX2_addChild_79 (by decide) rfl o4 o5 rfl ?_
    refine am_lconst (x := 1) dX2_addChild_80 rfl ?_
    refine am_iload_n dX2_addChild_81 (List.Mem.tail _ (List.Mem.head _)) ?_
    refine am_lshl dX2_addChild_82 ?_
    refine am_lor dX2_addChild_83 ?_
    refine am_lastore dX2_addChild_84 (Or.inl (by decide)) rfl o4 o5 ?_
    exact am_ret (r := none) dX2_addChild_85 rfl rfl h
  · replace h := h.2 c1
    refine am_aload_n dX2_addChild_16 (List.Mem.head _) ?_
    refine am_getf (f := 9) (v := .inr (.inr (some (42, 0)))) dX2_addChild_17 hc_5 (by decide) wd_330 (by decide) rfl rfl ?_
    refine am_iload_n dX2_addChild_20 (List.Mem.tail _ (List.Mem.head _)) ?_
    have o6 := h.1
    replace h := h.2
    have o7 := h.1
    replace h := h.2
    refine am_laload (x := (w.2.1 42 0 x1.toNat)) dX2_addChild_21 (by decide) rfl o6 o7 rfl ?_
    refine am_iload_n dX2_addChild_22 (List.Mem.tail _ (List.Mem.tail _ (List.Mem.tail _ (List.Mem.head _)))) ?_
    refine am_lshr dX2_addChild_23 ?_
    refine am_lconst (x := 1) dX2_addChild_24 rfl ?_
    refine am_land dX2_addChild_25 ?_
    refine am_lconst (x := 0) dX2_addChild_26 rfl ?_
    refine am_lcmp dX2_addChild_27 ?_
    refine am_ifeq (tgt := 55) dX2_addChild_28 (by decide) (fun c8 => ?_) (fun c8 => ?_)
    · replace h := h.1 c8
      exact h
    · replace h := h.2 c8
      refine am_aload_n dX2_addChild_31 (List.Mem.head _) ?_
      refine am_getf (f := 10) (v := .inr (.inr (some (43, 0)))) dX2_addChild_32 hc_5 (by decide) wd_331 (by decide) rfl rfl ?_
      refine am_iload_n dX2_addChild_35 (List.Mem.tail _ (List.Mem.tail _ (List.Mem.tail _ (List.Mem.head _)))) ?_
      refine am_dup2 dX2_addChild_36 rfl rfl ?_
      have o9 := h.1
      replace h := h.2
      have o10 := h.1
      replace h := h.2
      refine am_laload (x := (w.2.1 43 0 x3.toNat)) dX2_addChild_37 (by decide) rfl o9 o10 rfl ?_
      refine am_lconst (x := 1) dX2_addChild_38 rfl ?_
      refine am_iload_n dX2_addChild_39 (List.Mem.tail _ (List.Mem.tail _ (List.Mem.head _))) ?_
      refine am_lshl dX2_addChild_40 ?_
      refine am_lor dX2_addChild_41 ?_
      refine am_lastore dX2_addChild_42 (Or.inl (by decide)) rfl o9 o10 ?_
      refine am_aload_n dX2_addChild_43 (List.Mem.head _) ?_
      refine am_getf (f := 10) (v := .inr (.inr (some (43, 0)))) dX2_addChild_44 hc_5 (by decide) wd_331 (by decide) rfl rfl ?_
      refine am_iload_n dX2_addChild_47 (List.Mem.tail _ (List.Mem.tail _ (List.Mem.head _))) ?_
      refine am_dup2 dX2_addChild_48 rfl rfl ?_
      have o11 := h.1
      replace h := h.2
      have o12 := h.1
      replace h := h.2
      refine am_laload (x := ((am_up w.2.1 43 0 x3.toNat ((w.2.1 43 0 x3.toNat) ||| ((1 : Int64) <<< ((Int32.ofInt x2).toInt64 &&& 63)))) 43 0 x2.toNat)) dX2_addChild_49 (by decide) rfl o11 o12 rfl ?_
      refine am_lconst (x := 1) dX2_addChild_50 rfl ?_
      refine am_iload_n dX2_addChild_51 (List.Mem.tail _ (List.Mem.tail _ (List.Mem.tail _ (List.Mem.head _)))) ?_
      refine am_lshl dX2_addChild_52 ?_
      refine am_lor dX2_addChild_53 ?_
      refine am_lastore dX2_addChild_54 (Or.inl (by decide)) rfl o11 o12 ?_
      exact h
theorem bX2_addChild_55 {SC : Nat → Nat} {X : mh_X} {d : Nat} {Q : Option am_V → am_W → Prop} {bc bs : Nat} {w : am_W} {x1 : Int} {x2 : Int} {x3 : Int}
    (h : am_A (mh_G X) SC (d + 2) mX2_addChild Q 11 [(0, .inr (.inr (some (5, 0)))), (1, .inl x1), (2, .inl x2), (3, .inl (am_w (x3 + 1)))] [] w bc bs) :
    am_A (mh_G X) SC (d + 2) mX2_addChild Q 55 [(0, .inr (.inr (some (5, 0)))), (1, .inl x1), (2, .inl x2), (3, .inl x3)] [] w bc bs := by
  refine am_iinc (ls' := [(3, .inl (am_w (x3 + 1))), (0, .inr (.inr (some (5, 0)))), (1, .inl x1), (2, .inl x2)]) dX2_addChild_55 (List.Mem.tail _ (List.Mem.tail _ (List.Mem.tail _ (List.Mem.head _)))) (by decide) rfl ?_
  refine am_goto (tgt := 11) dX2_addChild_58 (by decide) ?_
  exact am_sub [1, 2, 3, 0] rfl h
-- MourningHouse$Family.isMan(I)Z
theorem dX2_isMan_0 : decode mX2_isMan.2.1 0 = .ok (.aload_n 0, 1) := by decide +kernel
theorem dX2_isMan_1 : decode mX2_isMan.2.1 1 = .ok (.getfield 11, 3) := by decide +kernel
theorem dX2_isMan_4 : decode mX2_isMan.2.1 4 = .ok (.iload_n 1, 1) := by decide +kernel
theorem dX2_isMan_5 : decode mX2_isMan.2.1 5 = .ok (.iaload, 1) := by decide +kernel
theorem dX2_isMan_6 : decode mX2_isMan.2.1 6 = .ok (.iconst 1, 1) := by decide +kernel
theorem dX2_isMan_7 : decode mX2_isMan.2.1 7 = .ok (.if_icmp .ne 7, 3) := by decide +kernel
theorem dX2_isMan_10 : decode mX2_isMan.2.1 10 = .ok (.iconst 1, 1) := by decide +kernel
theorem dX2_isMan_11 : decode mX2_isMan.2.1 11 = .ok (.goto 4, 3) := by decide +kernel
theorem dX2_isMan_14 : decode mX2_isMan.2.1 14 = .ok (.iconst 0, 1) := by decide +kernel
theorem dX2_isMan_15 : decode mX2_isMan.2.1 15 = .ok (.ireturn, 1) := by decide +kernel
theorem sX2_isMan {SC : Nat → Nat} {X : mh_X} {d kc ks : Nat} {Q : Option am_V → am_W → Prop} {w : am_W} {x1 : Int} (Ho1 : 0 ≤ x1) (Ho2 : x1 < 40)
    (h : Q (some (.inl (if ((w.1 33 0 x1.toNat) = 1) then 1 else 0))) w) : am_M (mh_G X) SC (d + 1) kc ks mX2_isMan [.inr (.inr (some (5, 0))), .inl x1] w Q := by
  refine am_M_of (by decide) (Nat.le_of_ble_eq_true rfl) ?_
  show am_A (mh_G X) SC (d + 1) mX2_isMan Q 0 [(0, .inr (.inr (some (5, 0)))), (1, .inl x1)] [] w kc ks
  refine am_aload_n dX2_isMan_0 (List.Mem.head _) ?_
  refine am_getf (f := 0) (v := .inr (.inr (some (33, 0)))) dX2_isMan_1 hc_5 (by decide) wd_315 (by decide) rfl rfl ?_
  refine am_iload_n dX2_isMan_4 (List.Mem.tail _ (List.Mem.head _)) ?_
  have o1 := Ho1
  have o2 := Ho2
  refine am_iaload (v := (w.1 33 0 x1.toNat)) dX2_isMan_5 (by decide) rfl o1 o2 rfl ?_
  refine am_iconst dX2_isMan_6 (by unfold am_rg; omega) ?_
  refine am_icmpne (tgt := 14) dX2_isMan_7 (by decide) (fun c3 => ?_) (fun c3 => ?_)
  · refine am_iconst dX2_isMan_14 (by unfold am_rg; omega) ?_
    rw [if_neg (by omega)] at h
    exact am_ret (r := some (.inl 0)) dX2_isMan_15 (Or.inr (Or.inl ⟨rfl, (Or.inl rfl)⟩)) rfl h
  · refine am_iconst dX2_isMan_10 (by unfold am_rg; omega) ?_
    refine am_goto (tgt := 15) dX2_isMan_11 (by decide) ?_
    rw [if_pos (by omega)] at h
    exact am_ret (r := some (.inl 1)) dX2_isMan_15 (Or.inr (Or.inl ⟨rfl, (Or.inr rfl)⟩)) rfl h
-- MourningHouse$Family.add(IIIII)I
theorem dX2_add_0 : decode mX2_add.2.1 0 = .ok (.aload_n 0, 1) := by decide +kernel
theorem dX2_add_1 : decode mX2_add.2.1 1 = .ok (.getfield 68, 3) := by decide +kernel
theorem dX2_add_4 : decode mX2_add.2.1 4 = .ok (.istore 6, 2) := by decide +kernel
theorem dX2_add_6 : decode mX2_add.2.1 6 = .ok (.aload_n 0, 1) := by decide +kernel
theorem dX2_add_7 : decode mX2_add.2.1 7 = .ok (.getfield 11, 3) := by decide +kernel
theorem dX2_add_10 : decode mX2_add.2.1 10 = .ok (.iload 6, 2) := by decide +kernel
theorem dX2_add_12 : decode mX2_add.2.1 12 = .ok (.iload_n 1, 1) := by decide +kernel
theorem dX2_add_13 : decode mX2_add.2.1 13 = .ok (.bipush 10, 2) := by decide +kernel
theorem dX2_add_15 : decode mX2_add.2.1 15 = .ok (.idiv, 1) := by decide +kernel
theorem dX2_add_16 : decode mX2_add.2.1 16 = .ok (.iastore, 1) := by decide +kernel
theorem dX2_add_17 : decode mX2_add.2.1 17 = .ok (.aload_n 0, 1) := by decide +kernel
theorem dX2_add_18 : decode mX2_add.2.1 18 = .ok (.getfield 15, 3) := by decide +kernel
theorem dX2_add_21 : decode mX2_add.2.1 21 = .ok (.iload 6, 2) := by decide +kernel
theorem dX2_add_23 : decode mX2_add.2.1 23 = .ok (.iload_n 1, 1) := by decide +kernel
theorem dX2_add_24 : decode mX2_add.2.1 24 = .ok (.bipush 10, 2) := by decide +kernel
theorem dX2_add_26 : decode mX2_add.2.1 26 = .ok (.irem, 1) := by decide +kernel
theorem dX2_add_27 : decode mX2_add.2.1 27 = .ok (.iastore, 1) := by decide +kernel
theorem dX2_add_28 : decode mX2_add.2.1 28 = .ok (.aload_n 0, 1) := by decide +kernel
theorem dX2_add_29 : decode mX2_add.2.1 29 = .ok (.getfield 18, 3) := by decide +kernel
theorem dX2_add_32 : decode mX2_add.2.1 32 = .ok (.iload 6, 2) := by decide +kernel
theorem dX2_add_34 : decode mX2_add.2.1 34 = .ok (.iload_n 2, 1) := by decide +kernel
theorem dX2_add_35 : decode mX2_add.2.1 35 = .ok (.iastore, 1) := by decide +kernel
theorem dX2_add_36 : decode mX2_add.2.1 36 = .ok (.aload_n 0, 1) := by decide +kernel
theorem dX2_add_37 : decode mX2_add.2.1 37 = .ok (.getfield 21, 3) := by decide +kernel
theorem dX2_add_40 : decode mX2_add.2.1 40 = .ok (.iload 6, 2) := by decide +kernel
theorem dX2_add_42 : decode mX2_add.2.1 42 = .ok (.iload_n 3, 1) := by decide +kernel
theorem dX2_add_43 : decode mX2_add.2.1 43 = .ok (.iastore, 1) := by decide +kernel
theorem dX2_add_44 : decode mX2_add.2.1 44 = .ok (.aload_n 0, 1) := by decide +kernel
theorem dX2_add_45 : decode mX2_add.2.1 45 = .ok (.getfield 24, 3) := by decide +kernel
theorem dX2_add_48 : decode mX2_add.2.1 48 = .ok (.iload 6, 2) := by decide +kernel
theorem dX2_add_50 : decode mX2_add.2.1 50 = .ok (.iload 4, 2) := by decide +kernel
theorem dX2_add_52 : decode mX2_add.2.1 52 = .ok (.iastore, 1) := by decide +kernel
theorem dX2_add_53 : decode mX2_add.2.1 53 = .ok (.aload_n 0, 1) := by decide +kernel
theorem dX2_add_54 : decode mX2_add.2.1 54 = .ok (.getfield 27, 3) := by decide +kernel
theorem dX2_add_57 : decode mX2_add.2.1 57 = .ok (.iload 6, 2) := by decide +kernel
theorem dX2_add_59 : decode mX2_add.2.1 59 = .ok (.iload 5, 2) := by decide +kernel
theorem dX2_add_61 : decode mX2_add.2.1 61 = .ok (.iastore, 1) := by decide +kernel
theorem dX2_add_62 : decode mX2_add.2.1 62 = .ok (.aload_n 0, 1) := by decide +kernel
theorem dX2_add_63 : decode mX2_add.2.1 63 = .ok (.getfield 33, 3) := by decide +kernel
theorem dX2_add_66 : decode mX2_add.2.1 66 = .ok (.iload 6, 2) := by decide +kernel
theorem dX2_add_68 : decode mX2_add.2.1 68 = .ok (.ldc 83, 2) := by decide +kernel
theorem dX2_add_70 : decode mX2_add.2.1 70 = .ok (.iastore, 1) := by decide +kernel
theorem dX2_add_71 : decode mX2_add.2.1 71 = .ok (.aload_n 0, 1) := by decide +kernel
theorem dX2_add_72 : decode mX2_add.2.1 72 = .ok (.iload 6, 2) := by decide +kernel
theorem dX2_add_74 : decode mX2_add.2.1 74 = .ok (.invokevirtual 84, 3) := by decide +kernel
theorem dX2_add_77 : decode mX2_add.2.1 77 = .ok (.ifCond .eq 16, 3) := by decide +kernel
theorem dX2_add_80 : decode mX2_add.2.1 80 = .ok (.aload_n 0, 1) := by decide +kernel
theorem dX2_add_81 : decode mX2_add.2.1 81 = .ok (.dup, 1) := by decide +kernel
theorem dX2_add_82 : decode mX2_add.2.1 82 = .ok (.getfield 61, 3) := by decide +kernel
theorem dX2_add_85 : decode mX2_add.2.1 85 = .ok (.lconst 1, 1) := by decide +kernel
theorem dX2_add_86 : decode mX2_add.2.1 86 = .ok (.iload 6, 2) := by decide +kernel
theorem dX2_add_88 : decode mX2_add.2.1 88 = .ok (.lshl, 1) := by decide +kernel
theorem dX2_add_89 : decode mX2_add.2.1 89 = .ok (.lor, 1) := by decide +kernel
theorem dX2_add_90 : decode mX2_add.2.1 90 = .ok (.putfield 61, 3) := by decide +kernel
theorem dX2_add_93 : decode mX2_add.2.1 93 = .ok (.aload_n 0, 1) := by decide +kernel
theorem dX2_add_94 : decode mX2_add.2.1 94 = .ok (.iload_n 2, 1) := by decide +kernel
theorem dX2_add_95 : decode mX2_add.2.1 95 = .ok (.iload 6, 2) := by decide +kernel
theorem dX2_add_97 : decode mX2_add.2.1 97 = .ok (.invokevirtual 87, 3) := by decide +kernel
theorem dX2_add_100 : decode mX2_add.2.1 100 = .ok (.aload_n 0, 1) := by decide +kernel
theorem dX2_add_101 : decode mX2_add.2.1 101 = .ok (.iload_n 3, 1) := by decide +kernel
theorem dX2_add_102 : decode mX2_add.2.1 102 = .ok (.iload 6, 2) := by decide +kernel
theorem dX2_add_104 : decode mX2_add.2.1 104 = .ok (.invokevirtual 87, 3) := by decide +kernel
theorem dX2_add_107 : decode mX2_add.2.1 107 = .ok (.aload_n 0, 1) := by decide +kernel
theorem dX2_add_108 : decode mX2_add.2.1 108 = .ok (.dup, 1) := by decide +kernel
theorem dX2_add_109 : decode mX2_add.2.1 109 = .ok (.getfield 68, 3) := by decide +kernel
theorem dX2_add_112 : decode mX2_add.2.1 112 = .ok (.iconst 1, 1) := by decide +kernel
theorem dX2_add_113 : decode mX2_add.2.1 113 = .ok (.iadd, 1) := by decide +kernel
theorem dX2_add_114 : decode mX2_add.2.1 114 = .ok (.putfield 68, 3) := by decide +kernel
theorem dX2_add_117 : decode mX2_add.2.1 117 = .ok (.iload 6, 2) := by decide +kernel
theorem dX2_add_119 : decode mX2_add.2.1 119 = .ok (.ireturn, 1) := by decide +kernel
theorem bX2_add_0 {SC : Nat → Nat} {X : mh_X} {d : Nat} {Q : Option am_V → am_W → Prop} {bc bs : Nat} {w : am_W} {x1 : Int} {x2 : Int} {x3 : Int} {x4 : Int} {x5 : Int}
    (h : (0 ≤ (w.1 5 0 18) ∧ ((w.1 5 0 18) < 40 ∧ ((¬ (((am_up w.1 33 0 (w.1 5 0 18).toNat (am_w (Int.tdiv x1 10))) 33 0 (w.1 5 0 18).toNat) = 1) → am_A (mh_G X) SC (d + 3) mX2_add Q 93 [(0, .inr (.inr (some (5, 0)))), (2, .inl x2), (3, .inl x3), (6, .inl (w.1 5 0 18))] [] ((am_up (am_up (am_up (am_up (am_up (am_up (am_up w.1 33 0 (w.1 5 0 18).toNat (am_w (Int.tdiv x1 10))) 34 0 (w.1 5 0 18).toNat (am_w (Int.tmod x1 10))) 35 0 (w.1 5 0 18).toNat x2) 36 0 (w.1 5 0 18).toNat x3) 37 0 (w.1 5 0 18).toNat x4) 38 0 (w.1 5 0 18).toNat x5) 40 0 (w.1 5 0 18).toNat 2147483647), w.2) bc bs) ∧ ((((am_up w.1 33 0 (w.1 5 0 18).toNat (am_w (Int.tdiv x1 10))) 33 0 (w.1 5 0 18).toNat) = 1) → am_A (mh_G X) SC (d + 3) mX2_add Q 93 [(0, .inr (.inr (some (5, 0)))), (2, .inl x2), (3, .inl x3), (6, .inl (w.1 5 0 18))] [] ((am_up (am_up (am_up (am_up (am_up (am_up (am_up w.1 33 0 (w.1 5 0 18).toNat (am_w (Int.tdiv x1 10))) 34 0 (w.1 5 0 18).toNat (am_w (Int.tmod x1 10))) 35 0 (w.1 5 0 18).toNat x2) 36 0 (w.1 5 0 18).toNat x3) 37 0 (w.1 5 0 18).toNat x4) 38 0 (w.1 5 0 18).toNat x5) 40 0 (w.1 5 0 18).toNat 2147483647), (am_up w.2.1 5 0 16 ((w.2.1 5 0 16) ||| ((1 : Int64) <<< ((Int32.ofInt (w.1 5 0 18)).toInt64 &&& 63)))), w.2.2) bc bs))))) :
    am_A (mh_G X) SC (d + 3) mX2_add Q 0 [(0, .inr (.inr (some (5, 0)))), (1, .inl x1), (2, .inl x2), (3, .inl x3), (4, .inl x4), (5, .inl x5)] [] w bc bs := by
  refine am_aload_n dX2_add_0 (List.Mem.head _) ?_
  refine am_getf (f := 18) (v := .inl (w.1 5 0 18)) dX2_add_1 hc_5 (by decide) wd_339 (by decide) rfl rfl ?_
  refine am_istore (ls' := [(6, .inl (w.1 5 0 18)), (0, .inr (.inr (some (5, 0)))), (1, .inl x1), (2, .inl x2), (3, .inl x3), (4, .inl x4), (5, .inl x5)]) dX2_add_4 (by decide) rfl ?_
  refine am_aload_n dX2_add_6 (List.Mem.tail _ (List.Mem.head _)) ?_
  refine am_getf (f := 0) (v := .inr (.inr (some (33, 0)))) dX2_add_7 hc_5 (by decide) wd_315 (by decide) rfl rfl ?_
  refine am_iload dX2_add_10 (List.Mem.head _) ?_
  refine am_iload_n dX2_add_12 (List.Mem.tail _ (List.Mem.tail _ (List.Mem.head _))) ?_
  refine am_bipush dX2_add_13 (by decide) (by unfold am_rg; omega) ?_
  refine am_idiv dX2_add_15 (by decide) ?_
  have o1 := h.1
  replace h := h.2
  have o2 := h.1
  replace h := h.2
  refine am_iastore dX2_add_16 (Or.inl (by decide)) rfl o1 o2 ?_
  refine am_aload_n dX2_add_17 (List.Mem.tail _ (List.Mem.head _)) ?_
  refine am_getf (f := 1) (v := .inr (.inr (some (34, 0)))) dX2_add_18 hc_5 (by decide) wd_316 (by decide) rfl rfl ?_
  refine am_iload dX2_add_21 (List.Mem.head _) ?_
  refine am_iload_n dX2_add_23 (List.Mem.tail _ (List.Mem.tail _ (List.Mem.head _))) ?_
  refine am_bipush dX2_add_24 (by decide) (by unfold am_rg; omega) ?_
  refine am_irem dX2_add_26 (by decide) ?_
  refine am_iastore dX2_add_27 (Or.inl (by decide)) rfl o1 o2 ?_
  refine am_aload_n dX2_add_28 (List.Mem.tail _ (List.Mem.head _)) ?_
  refine am_getf (f := 2) (v := .inr (.inr (some (35, 0)))) dX2_add_29 hc_5 (by decide) wd_318 (by decide) rfl rfl ?_
  refine am_iload dX2_add_32 (List.Mem.head _) ?_
  refine am_iload_n dX2_add_34 (List.Mem.tail _ (List.Mem.tail _ (List.Mem.tail _ (List.Mem.head _)))) ?_
  refine am_iastore dX2_add_35 (Or.inl (by decide)) rfl o1 o2 ?_
  refine am_aload_n dX2_add_36 (List.Mem.tail _ (List.Mem.head _)) ?_
  refine am_getf (f := 3) (v := .inr (.inr (some (36, 0)))) dX2_add_37 hc_5 (by decide) wd_319 (by decide) rfl rfl ?_
  refine am_iload dX2_add_40 (List.Mem.head _) ?_
  refine am_iload_n dX2_add_42 (List.Mem.tail _ (List.Mem.tail _ (List.Mem.tail _ (List.Mem.tail _ (List.Mem.head _))))) ?_
  refine am_iastore dX2_add_43 (Or.inl (by decide)) rfl o1 o2 ?_
  refine am_aload_n dX2_add_44 (List.Mem.tail _ (List.Mem.head _)) ?_
  refine am_getf (f := 4) (v := .inr (.inr (some (37, 0)))) dX2_add_45 hc_5 (by decide) wd_320 (by decide) rfl rfl ?_
  refine am_iload dX2_add_48 (List.Mem.head _) ?_
  refine am_iload dX2_add_50 (List.Mem.tail _ (List.Mem.tail _ (List.Mem.tail _ (List.Mem.tail _ (List.Mem.tail _ (List.Mem.head _)))))) ?_
  refine am_iastore dX2_add_52 (Or.inl (by decide)) rfl o1 o2 ?_
  refine am_aload_n dX2_add_53 (List.Mem.tail _ (List.Mem.head _)) ?_
  refine am_getf (f := 5) (v := .inr (.inr (some (38, 0)))) dX2_add_54 hc_5 (by decide) wd_323 (by decide) rfl rfl ?_
  refine am_iload dX2_add_57 (List.Mem.head _) ?_
  refine am_iload dX2_add_59 (List.Mem.tail _ (List.Mem.tail _ (List.Mem.tail _ (List.Mem.tail _ (List.Mem.tail _ (List.Mem.tail _ (List.Mem.head _))))))) ?_
  refine am_iastore dX2_add_61 (Or.inl (by decide)) rfl o1 o2 ?_
  refine am_aload_n dX2_add_62 (List.Mem.tail _ (List.Mem.head _)) ?_
  refine am_getf (f := 7) (v := .inr (.inr (some (40, 0)))) dX2_add_63 hc_5 (by decide) wd_327 (by decide) rfl rfl ?_
  refine am_iload dX2_add_66 (List.Mem.head _) ?_
  refine am_ldcV (n := 2147483647) dX2_add_68 (by decide) wd_1089 (by unfold am_rg; omega) ?_
  refine am_iastore dX2_add_70 (Or.inl (by decide)) rfl o1 o2 ?_
  refine am_aload_n dX2_add_71 (List.Mem.tail _ (List.Mem.head _)) ?_
  refine am_iload dX2_add_72 (List.Mem.head _) ?_
  refine am_callv (d' := d + 2) (kc := 0) (ks := 0) (as := [.inl (w.1 5 0 18)]) dX2_add_74 wc_X2_isMan wd_1090 wd_1091 wd_1092 wd_117 ds_X2_isMan (by decide) (by omega) (Nat.le_of_ble_eq_true rfl) (Nat.zero_le _) (Nat.zero_le _) hc_5 (by decide) rfl rfl (sX2_isMan (d := d + 1) (x1 := (w.1 5 0 18)) o1 o2 ?_)
  show am_A (mh_G X) SC (d + 3) mX2_add Q 77 [(6, .inl (w.1 5 0 18)), (0, .inr (.inr (some (5, 0)))), (1, .inl x1), (2, .inl x2), (3, .inl x3), (4, .inl x4), (5, .inl x5)] [.inl (if (((am_up w.1 33 0 (w.1 5 0 18).toNat (am_w (Int.tdiv x1 10))) 33 0 (w.1 5 0 18).toNat) = 1) then 1 else 0)] ((am_up (am_up (am_up (am_up (am_up (am_up (am_up w.1 33 0 (w.1 5 0 18).toNat (am_w (Int.tdiv x1 10))) 34 0 (w.1 5 0 18).toNat (am_w (Int.tmod x1 10))) 35 0 (w.1 5 0 18).toNat x2) 36 0 (w.1 5 0 18).toNat x3) 37 0 (w.1 5 0 18).toNat x4) 38 0 (w.1 5 0 18).toNat x5) 40 0 (w.1 5 0 18).toNat 2147483647), w.2) bc bs
  refine am_ifeq (tgt := 93) dX2_add_77 (by decide) (fun c3 => ?_) (fun c3 => ?_)
  · replace c3 := am_beq1 c3
    replace h := h.1 c3
    exact am_sub [1, 3, 4, 0] rfl h
  · replace c3 := am_beq2 c3
    replace h := h.2 c3
    refine am_aload_n dX2_add_80 (List.Mem.tail _ (List.Mem.head _)) ?_
    refine am_dup dX2_add_81 rfl ?_
    refine am_getf (f := 16) (v := .inr (.inl (w.2.1 5 0 16))) dX2_add_82 hc_5 (by decide) wd_337 (by decide) rfl rfl ?_
    refine am_lconst (x := 1) dX2_add_85 rfl ?_
    refine am_iload dX2_add_86 (List.Mem.head _) ?_
    refine am_lshl dX2_add_88 ?_
    refine am_lor dX2_add_89 ?_
    refine am_putl (f := 16) dX2_add_90 hc_5 (by decide) wd_337 rfl rfl (Or.inl (by decide)) rfl ?_
    exact am_sub [1, 3, 4, 0] rfl h
theorem bX2_add_93 {SC : Nat → Nat} {X : mh_X} {d : Nat} {Q : Option am_V → am_W → Prop} {bc bs : Nat} {w : am_W} {x2 : Int} {x3 : Int} {x6 : Int}
    (h : am_M (mh_G X) SC (d + 2) 0 0 mX2_addChild [.inr (.inr (some (5, 0))), .inl x2, .inl x6] w (fun r w1 => am_A (mh_G X) SC (d + 3) mX2_add Q 100 [(0, .inr (.inr (some (5, 0)))), (2, .inl x2), (3, .inl x3), (6, .inl x6)] (r.toList ++ []) w1 bc bs)) :
    am_A (mh_G X) SC (d + 3) mX2_add Q 93 [(0, .inr (.inr (some (5, 0)))), (2, .inl x2), (3, .inl x3), (6, .inl x6)] [] w bc bs := by
  refine am_aload_n dX2_add_93 (List.Mem.head _) ?_
  refine am_iload_n dX2_add_94 (List.Mem.tail _ (List.Mem.head _)) ?_
  refine am_iload dX2_add_95 (List.Mem.tail _ (List.Mem.tail _ (List.Mem.tail _ (List.Mem.head _)))) ?_
  exact am_callv (d' := d + 2) (kc := 0) (ks := 0) (as := [.inl x2, .inl x6]) dX2_add_97 wc_X2_addChild wd_1094 wd_1096 wd_30 wd_117 ds_X2_addChild (by decide) (by omega) (Nat.le_of_ble_eq_true rfl) (Nat.zero_le _) (Nat.zero_le _) hc_5 (by decide) rfl rfl h
theorem bX2_add_100 {SC : Nat → Nat} {X : mh_X} {d : Nat} {Q : Option am_V → am_W → Prop} {bc bs : Nat} {w : am_W} {x2 : Int} {x3 : Int} {x6 : Int}
    (h : am_M (mh_G X) SC (d + 2) 0 0 mX2_addChild [.inr (.inr (some (5, 0))), .inl x3, .inl x6] w (fun r w1 => am_A (mh_G X) SC (d + 3) mX2_add Q 107 [(0, .inr (.inr (some (5, 0)))), (2, .inl x2), (3, .inl x3), (6, .inl x6)] (r.toList ++ []) w1 bc bs)) :
    am_A (mh_G X) SC (d + 3) mX2_add Q 100 [(0, .inr (.inr (some (5, 0)))), (2, .inl x2), (3, .inl x3), (6, .inl x6)] [] w bc bs := by
  refine am_aload_n dX2_add_100 (List.Mem.head _) ?_
  refine am_iload_n dX2_add_101 (List.Mem.tail _ (List.Mem.tail _ (List.Mem.head _))) ?_
  refine am_iload dX2_add_102 (List.Mem.tail _ (List.Mem.tail _ (List.Mem.tail _ (List.Mem.head _)))) ?_
  exact am_callv (d' := d + 2) (kc := 0) (ks := 0) (as := [.inl x3, .inl x6]) dX2_add_104 wc_X2_addChild wd_1094 wd_1096 wd_30 wd_117 ds_X2_addChild (by decide) (by omega) (Nat.le_of_ble_eq_true rfl) (Nat.zero_le _) (Nat.zero_le _) hc_5 (by decide) rfl rfl h
theorem bX2_add_107 {SC : Nat → Nat} {X : mh_X} {d : Nat} {Q : Option am_V → am_W → Prop} {bc bs : Nat} {w : am_W} {x2 : Int} {x3 : Int} {x6 : Int}
    (h : Q (some (.inl x6)) ((am_up w.1 5 0 18 (am_w ((w.1 5 0 18) + 1))), w.2)) :
    am_A (mh_G X) SC (d + 3) mX2_add Q 107 [(0, .inr (.inr (some (5, 0)))), (2, .inl x2), (3, .inl x3), (6, .inl x6)] [] w bc bs := by
  refine am_aload_n dX2_add_107 (List.Mem.head _) ?_
  refine am_dup dX2_add_108 rfl ?_
  refine am_getf (f := 18) (v := .inl (w.1 5 0 18)) dX2_add_109 hc_5 (by decide) wd_339 (by decide) rfl rfl ?_
  refine am_iconst dX2_add_112 (by unfold am_rg; omega) ?_
  refine am_iadd dX2_add_113 ?_
  refine am_putf (f := 18) dX2_add_114 hc_5 (by decide) wd_339 rfl (Or.inl rfl) (Or.inl (by decide)) rfl ?_
  refine am_iload dX2_add_117 (List.Mem.tail _ (List.Mem.tail _ (List.Mem.tail _ (List.Mem.head _)))) ?_
  exact am_ret (r := some (.inl x6)) dX2_add_119 (Or.inl rfl) rfl h
-- MourningHouse$Family.isToldDead(I)Z
theorem dX2_isToldDead_0 : decode mX2_isToldDead.2.1 0 = .ok (.aload_n 0, 1) := by decide +kernel
theorem dX2_isToldDead_1 : decode mX2_isToldDead.2.1 1 = .ok (.getfield 33, 3) := by decide +kernel
theorem dX2_isToldDead_4 : decode mX2_isToldDead.2.1 4 = .ok (.iload_n 1, 1) := by decide +kernel
theorem dX2_isToldDead_5 : decode mX2_isToldDead.2.1 5 = .ok (.iaload, 1) := by decide +kernel
theorem dX2_isToldDead_6 : decode mX2_isToldDead.2.1 6 = .ok (.ldc 83, 2) := by decide +kernel
theorem dX2_isToldDead_8 : decode mX2_isToldDead.2.1 8 = .ok (.if_icmp .eq 7, 3) := by decide +kernel
theorem dX2_isToldDead_11 : decode mX2_isToldDead.2.1 11 = .ok (.iconst 1, 1) := by decide +kernel
theorem dX2_isToldDead_12 : decode mX2_isToldDead.2.1 12 = .ok (.goto 4, 3) := by decide +kernel
theorem dX2_isToldDead_15 : decode mX2_isToldDead.2.1 15 = .ok (.iconst 0, 1) := by decide +kernel
theorem dX2_isToldDead_16 : decode mX2_isToldDead.2.1 16 = .ok (.ireturn, 1) := by decide +kernel
theorem sX2_isToldDead {SC : Nat → Nat} {X : mh_X} {d kc ks : Nat} {Q : Option am_V → am_W → Prop} {w : am_W} {x1 : Int} (Ho1 : 0 ≤ x1) (Ho2 : x1 < 40)
    (h : Q (some (.inl (if (¬ (w.1 40 0 x1.toNat) = 2147483647) then 1 else 0))) w) : am_M (mh_G X) SC (d + 1) kc ks mX2_isToldDead [.inr (.inr (some (5, 0))), .inl x1] w Q := by
  refine am_M_of (by decide) (Nat.le_of_ble_eq_true rfl) ?_
  show am_A (mh_G X) SC (d + 1) mX2_isToldDead Q 0 [(0, .inr (.inr (some (5, 0)))), (1, .inl x1)] [] w kc ks
  refine am_aload_n dX2_isToldDead_0 (List.Mem.head _) ?_
  refine am_getf (f := 7) (v := .inr (.inr (some (40, 0)))) dX2_isToldDead_1 hc_5 (by decide) wd_327 (by decide) rfl rfl ?_
  refine am_iload_n dX2_isToldDead_4 (List.Mem.tail _ (List.Mem.head _)) ?_
  have o1 := Ho1
  have o2 := Ho2
  refine am_iaload (v := (w.1 40 0 x1.toNat)) dX2_isToldDead_5 (by decide) rfl o1 o2 rfl ?_
  refine am_ldcV (n := 2147483647) dX2_isToldDead_6 (by decide) wd_1089 (by unfold am_rg; omega) ?_
  refine am_icmpeq (tgt := 15) dX2_isToldDead_8 (by decide) (fun c3 => ?_) (fun c3 => ?_)
  · refine am_iconst dX2_isToldDead_15 (by unfold am_rg; omega) ?_
    rw [if_neg (by omega)] at h
    exact am_ret (r := some (.inl 0)) dX2_isToldDead_16 (Or.inr (Or.inl ⟨rfl, (Or.inl rfl)⟩)) rfl h
  · refine am_iconst dX2_isToldDead_11 (by unfold am_rg; omega) ?_
    refine am_goto (tgt := 16) dX2_isToldDead_12 (by decide) ?_
    rw [if_pos (by omega)] at h
    exact am_ret (r := some (.inl 1)) dX2_isToldDead_16 (Or.inr (Or.inl ⟨rfl, (Or.inr rfl)⟩)) rfl h
-- MourningHouse$Family.bury(III)V
theorem dX2_bury_0 : decode mX2_bury.2.1 0 = .ok (.aload_n 0, 1) := by decide +kernel
theorem dX2_bury_1 : decode mX2_bury.2.1 1 = .ok (.getfield 30, 3) := by decide +kernel
theorem dX2_bury_4 : decode mX2_bury.2.1 4 = .ok (.iload_n 1, 1) := by decide +kernel
theorem dX2_bury_5 : decode mX2_bury.2.1 5 = .ok (.iload_n 2, 1) := by decide +kernel
theorem dX2_bury_6 : decode mX2_bury.2.1 6 = .ok (.iastore, 1) := by decide +kernel
theorem dX2_bury_7 : decode mX2_bury.2.1 7 = .ok (.aload_n 0, 1) := by decide +kernel
theorem dX2_bury_8 : decode mX2_bury.2.1 8 = .ok (.getfield 33, 3) := by decide +kernel
theorem dX2_bury_11 : decode mX2_bury.2.1 11 = .ok (.iload_n 1, 1) := by decide +kernel
theorem dX2_bury_12 : decode mX2_bury.2.1 12 = .ok (.iload_n 3, 1) := by decide +kernel
theorem dX2_bury_13 : decode mX2_bury.2.1 13 = .ok (.iastore, 1) := by decide +kernel
theorem dX2_bury_14 : decode mX2_bury.2.1 14 = .ok (.return_, 1) := by decide +kernel
theorem sX2_bury {SC : Nat → Nat} {X : mh_X} {d kc ks : Nat} {Q : Option am_V → am_W → Prop} {w : am_W} {x1 : Int} {x2 : Int} {x3 : Int} (Ho1 : 0 ≤ x1) (Ho2 : x1 < 40)
    (h : Q none ((am_up (am_up w.1 39 0 x1.toNat x2) 40 0 x1.toNat x3), w.2)) : am_M (mh_G X) SC (d + 1) kc ks mX2_bury [.inr (.inr (some (5, 0))), .inl x1, .inl x2, .inl x3] w Q := by
  refine am_M_of (by decide) (Nat.le_of_ble_eq_true rfl) ?_
  show am_A (mh_G X) SC (d + 1) mX2_bury Q 0 [(0, .inr (.inr (some (5, 0)))), (1, .inl x1), (2, .inl x2), (3, .inl x3)] [] w kc ks
  refine am_aload_n dX2_bury_0 (List.Mem.head _) ?_
  refine am_getf (f := 6) (v := .inr (.inr (some (39, 0)))) dX2_bury_1 hc_5 (by decide) wd_325 (by decide) rfl rfl ?_
  refine am_iload_n dX2_bury_4 (List.Mem.tail _ (List.Mem.head _)) ?_
  refine am_iload_n dX2_bury_5 (List.Mem.tail _ (List.Mem.tail _ (List.Mem.head _))) ?_
  have o1 := Ho1
  have o2 := Ho2
  refine am_iastore dX2_bury_6 (Or.inl (by decide)) rfl o1 o2 ?_
  refine am_aload_n dX2_bury_7 (List.Mem.head _) ?_
  refine am_getf (f := 7) (v := .inr (.inr (some (40, 0)))) dX2_bury_8 hc_5 (by decide) wd_327 (by decide) rfl rfl ?_
  refine am_iload_n dX2_bury_11 (List.Mem.tail _ (List.Mem.head _)) ?_
  refine am_iload_n dX2_bury_12 (List.Mem.tail _ (List.Mem.tail _ (List.Mem.tail _ (List.Mem.head _)))) ?_
  refine am_iastore dX2_bury_13 (Or.inl (by decide)) rfl o1 o2 ?_
  exact am_ret (r := none) dX2_bury_14 rfl rfl h
-- MourningHouse$Family.areAlive(I)Z
theorem dX2_areAlive_0 : decode mX2_areAlive.2.1 0 = .ok (.iload_n 1, 1) := by decide +kernel
theorem dX2_areAlive_1 : decode mX2_areAlive.2.1 1 = .ok (.i2l, 1) := by decide +kernel
theorem dX2_areAlive_2 : decode mX2_areAlive.2.1 2 = .ok (.aload_n 0, 1) := by decide +kernel
theorem dX2_areAlive_3 : decode mX2_areAlive.2.1 3 = .ok (.getfield 68, 3) := by decide +kernel
theorem dX2_areAlive_6 : decode mX2_areAlive.2.1 6 = .ok (.lshr, 1) := by decide +kernel
theorem dX2_areAlive_7 : decode mX2_areAlive.2.1 7 = .ok (.lconst 0, 1) := by decide +kernel
theorem dX2_areAlive_8 : decode mX2_areAlive.2.1 8 = .ok (.lcmp, 1) := by decide +kernel
theorem dX2_areAlive_9 : decode mX2_areAlive.2.1 9 = .ok (.ifCond .eq 5, 3) := by decide +kernel
theorem dX2_areAlive_12 : decode mX2_areAlive.2.1 12 = .ok (.iconst 0, 1) := by decide +kernel
theorem dX2_areAlive_13 : decode mX2_areAlive.2.1 13 = .ok (.ireturn, 1) := by decide +kernel
theorem dX2_areAlive_14 : decode mX2_areAlive.2.1 14 = .ok (.iconst 0, 1) := by decide +kernel
theorem dX2_areAlive_15 : decode mX2_areAlive.2.1 15 = .ok (.istore_n 2, 1) := by decide +kernel
theorem dX2_areAlive_16 : decode mX2_areAlive.2.1 16 = .ok (.iload_n 2, 1) := by decide +kernel
theorem dX2_areAlive_17 : decode mX2_areAlive.2.1 17 = .ok (.aload_n 0, 1) := by decide +kernel
theorem dX2_areAlive_18 : decode mX2_areAlive.2.1 18 = .ok (.getfield 68, 3) := by decide +kernel
theorem dX2_areAlive_21 : decode mX2_areAlive.2.1 21 = .ok (.if_icmp .ge 30, 3) := by decide +kernel
theorem dX2_areAlive_24 : decode mX2_areAlive.2.1 24 = .ok (.iload_n 1, 1) := by decide +kernel
theorem dX2_areAlive_25 : decode mX2_areAlive.2.1 25 = .ok (.i2l, 1) := by decide +kernel
theorem dX2_areAlive_26 : decode mX2_areAlive.2.1 26 = .ok (.iload_n 2, 1) := by decide +kernel
theorem dX2_areAlive_27 : decode mX2_areAlive.2.1 27 = .ok (.lshr, 1) := by decide +kernel
theorem dX2_areAlive_28 : decode mX2_areAlive.2.1 28 = .ok (.lconst 1, 1) := by decide +kernel
theorem dX2_areAlive_29 : decode mX2_areAlive.2.1 29 = .ok (.land, 1) := by decide +kernel
theorem dX2_areAlive_30 : decode mX2_areAlive.2.1 30 = .ok (.lconst 0, 1) := by decide +kernel
theorem dX2_areAlive_31 : decode mX2_areAlive.2.1 31 = .ok (.lcmp, 1) := by decide +kernel
theorem dX2_areAlive_32 : decode mX2_areAlive.2.1 32 = .ok (.ifCond .eq 13, 3) := by decide +kernel
theorem dX2_areAlive_35 : decode mX2_areAlive.2.1 35 = .ok (.aload_n 0, 1) := by decide +kernel
theorem dX2_areAlive_36 : decode mX2_areAlive.2.1 36 = .ok (.iload_n 2, 1) := by decide +kernel
theorem dX2_areAlive_37 : decode mX2_areAlive.2.1 37 = .ok (.invokevirtual 91, 3) := by decide +kernel
theorem dX2_areAlive_40 : decode mX2_areAlive.2.1 40 = .ok (.ifCond .eq 5, 3) := by decide +kernel
theorem dX2_areAlive_43 : decode mX2_areAlive.2.1 43 = .ok (.iconst 0, 1) := by decide +kernel
theorem dX2_areAlive_44 : decode mX2_areAlive.2.1 44 = .ok (.ireturn, 1) := by decide +kernel
theorem dX2_areAlive_45 : decode mX2_areAlive.2.1 45 = .ok (.iinc 2 1, 3) := by decide +kernel
theorem dX2_areAlive_48 : decode mX2_areAlive.2.1 48 = .ok (.goto (-32), 3) := by decide +kernel
theorem dX2_areAlive_51 : decode mX2_areAlive.2.1 51 = .ok (.iconst 1, 1) := by decide +kernel
theorem dX2_areAlive_52 : decode mX2_areAlive.2.1 52 = .ok (.ireturn, 1) := by decide +kernel
theorem bX2_areAlive_0 {SC : Nat → Nat} {X : mh_X} {d : Nat} {Q : Option am_V → am_W → Prop} {bc bs : Nat} {w : am_W} {x1 : Int}
    (h : (((am_lcmpv ((Int32.ofInt x1).toInt64 >>> ((Int32.ofInt (w.1 5 0 18)).toInt64 &&& 63)) (0 : Int64)) = 0 → am_A (mh_G X) SC (d + 2) mX2_areAlive Q 16 [(0, .inr (.inr (some (5, 0)))), (1, .inl x1), (2, .inl 0)] [] w bc bs) ∧ (¬ (am_lcmpv ((Int32.ofInt x1).toInt64 >>> ((Int32.ofInt (w.1 5 0 18)).toInt64 &&& 63)) (0 : Int64)) = 0 → Q (some (.inl 0)) w))) :
    am_A (mh_G X) SC (d + 2) mX2_areAlive Q 0 [(0, .inr (.inr (some (5, 0)))), (1, .inl x1)] [] w bc bs := by
  refine am_iload_n dX2_areAlive_0 (List.Mem.tail _ (List.Mem.head _)) ?_
  refine am_i2l dX2_areAlive_1 ?_
  refine am_aload_n dX2_areAlive_2 (List.Mem.head _) ?_
  refine am_getf (f := 18) (v := .inl (w.1 5 0 18)) dX2_areAlive_3 hc_5 (by decide) wd_339 (by decide) rfl rfl ?_
  refine am_lshr dX2_areAlive_6 ?_
  refine am_lconst (x := 0) dX2_areAlive_7 rfl ?_
  refine am_lcmp dX2_areAlive_8 ?_
  refine am_ifeq (tgt := 14) dX2_areAlive_9 (by decide) (fun c1 => ?_) (fun c1 => ?_)
  · replace h := h.1 c1
    refine am_iconst dX2_areAlive_14 (by unfold am_rg; omega) ?_
    refine am_istore_n (ls' := [(2, .inl 0), (0, .inr (.inr (some (5, 0)))), (1, .inl x1)]) dX2_areAlive_15 (by decide) rfl ?_
    exact am_sub [1, 2, 0] rfl h
  · replace h := h.2 c1
    refine am_iconst dX2_areAlive_12 (by unfold am_rg; omega) ?_
    exact am_ret (r := some (.inl 0)) dX2_areAlive_13 (Or.inr (Or.inl ⟨rfl, (Or.inl rfl)⟩)) rfl h
theorem bX2_areAlive_16 {SC : Nat → Nat} {X : mh_X} {d : Nat} {Q : Option am_V → am_W → Prop} {bc bs : Nat} {w : am_W} {x1 : Int} {x2 : Int}
    (h : (((w.1 5 0 18) ≤ x2 → Q (some (.inl 1)) w) ∧ (¬ (w.1 5 0 18) ≤ x2 → (((am_lcmpv (((Int32.ofInt x1).toInt64 >>> ((Int32.ofInt x2).toInt64 &&& 63)) &&& (1 : Int64)) (0 : Int64)) = 0 → am_A (mh_G X) SC (d + 2) mX2_areAlive Q 45 [(0, .inr (.inr (some (5, 0)))), (1, .inl x1), (2, .inl x2)] [] w bc bs) ∧ (¬ (am_lcmpv (((Int32.ofInt x1).toInt64 >>> ((Int32.ofInt x2).toInt64 &&& 63)) &&& (1 : Int64)) (0 : Int64)) = 0 → (0 ≤ x2 ∧ (x2 < 40 ∧ ((¬ (¬ (w.1 40 0 x2.toNat) = 2147483647) → am_A (mh_G X) SC (d + 2) mX2_areAlive Q 45 [(0, .inr (.inr (some (5, 0)))), (1, .inl x1), (2, .inl x2)] [] w bc bs) ∧ ((¬ (w.1 40 0 x2.toNat) = 2147483647) → Q (some (.inl 0)) w))))))))) :
    am_A (mh_G X) SC (d + 2) mX2_areAlive Q 16 [(0, .inr (.inr (some (5, 0)))), (1, .inl x1), (2, .inl x2)] [] w bc bs := by
  refine am_iload_n dX2_areAlive_16 (List.Mem.tail _ (List.Mem.tail _ (List.Mem.head _))) ?_
  refine am_aload_n dX2_areAlive_17 (List.Mem.head _) ?_
  refine am_getf (f := 18) (v := .inl (w.1 5 0 18)) dX2_areAlive_18 hc_5 (by decide) wd_339 (by decide) rfl rfl ?_
  refine am_icmpge (tgt := 51) dX2_areAlive_21 (by decide) (fun c1 => ?_) (fun c1 => ?_)
  · replace h := h.1 c1
    refine am_iconst dX2_areAlive_51 (by unfold am_rg; omega) ?_
    exact am_ret (r := some (.inl 1)) dX2_areAlive_52 (Or.inr (Or.inl ⟨rfl, (Or.inr rfl)⟩)) rfl h
  · replace h := h.2 c1
    refine am_iload_n dX2_areAlive_24 (List.Mem.tail _ (List.Mem.head _)) ?_
    refine am_i2l dX2_areAlive_25 ?_
    refine am_iload_n dX2_areAlive_26 (List.Mem.tail _ (List.Mem.tail _ (List.Mem.head _))) ?_
    refine am_lshr dX2_areAlive_27 ?_
    refine am_lconst (x := 1) dX2_areAlive_28 rfl ?_
    refine am_land dX2_areAlive_29 ?_
    refine am_lconst (x := 0) dX2_areAlive_30 rfl ?_
    refine am_lcmp dX2_areAlive_31 ?_
    refine am_ifeq (tgt := 45) dX2_areAlive_32 (by decide) (fun c2 => ?_) (fun c2 => ?_)
    · replace h := h.1 c2
      exact h
    · replace h := h.2 c2
      refine am_aload_n dX2_areAlive_35 (List.Mem.head _) ?_
      refine am_iload_n dX2_areAlive_36 (List.Mem.tail _ (List.Mem.tail _ (List.Mem.head _))) ?_
      have o3 := h.1
      replace h := h.2
      have o4 := h.1
      replace h := h.2
      refine am_callv (d' := d + 1) (kc := 0) (ks := 0) (as := [.inl x2]) dX2_areAlive_37 wc_X2_isToldDead wd_1420 wd_1104 wd_1105 wd_117 ds_X2_isToldDead (by decide) (by omega) (Nat.le_of_ble_eq_true rfl) (Nat.zero_le _) (Nat.zero_le _) hc_5 (by decide) rfl rfl (sX2_isToldDead (d := d + 0) (x1 := x2) o3 o4 ?_)
      show am_A (mh_G X) SC (d + 2) mX2_areAlive Q 40 [(0, .inr (.inr (some (5, 0)))), (1, .inl x1), (2, .inl x2)] [.inl (if (¬ (w.1 40 0 x2.toNat) = 2147483647) then 1 else 0)] w bc bs
      refine am_ifeq (tgt := 45) dX2_areAlive_40 (by decide) (fun c5 => ?_) (fun c5 => ?_)
      · replace c5 := am_beq1 c5
        replace h := h.1 c5
        exact h
      · replace c5 := am_beq2 c5
        replace h := h.2 c5
        refine am_iconst dX2_areAlive_43 (by unfold am_rg; omega) ?_
        exact am_ret (r := some (.inl 0)) dX2_areAlive_44 (Or.inr (Or.inl ⟨rfl, (Or.inl rfl)⟩)) rfl h
theorem bX2_areAlive_45 {SC : Nat → Nat} {X : mh_X} {d : Nat} {Q : Option am_V → am_W → Prop} {bc bs : Nat} {w : am_W} {x1 : Int} {x2 : Int}
    (h : am_A (mh_G X) SC (d + 2) mX2_areAlive Q 16 [(0, .inr (.inr (some (5, 0)))), (1, .inl x1), (2, .inl (am_w (x2 + 1)))] [] w bc bs) :
    am_A (mh_G X) SC (d + 2) mX2_areAlive Q 45 [(0, .inr (.inr (some (5, 0)))), (1, .inl x1), (2, .inl x2)] [] w bc bs := by
  refine am_iinc (ls' := [(2, .inl (am_w (x2 + 1))), (0, .inr (.inr (some (5, 0)))), (1, .inl x1)]) dX2_areAlive_45 (List.Mem.tail _ (List.Mem.tail _ (List.Mem.head _))) (by decide) rfl ?_
  refine am_goto (tgt := 16) dX2_areAlive_48 (by decide) ?_
  exact am_sub [1, 2, 0] rfl h
-- MourningHouse$Family.canMarry(III)Z
theorem dX2_canMarry_0 : decode mX2_canMarry.2.1 0 = .ok (.aload_n 0, 1) := by decide +kernel
theorem dX2_canMarry_1 : decode mX2_canMarry.2.1 1 = .ok (.getfield 72, 3) := by decide +kernel
theorem dX2_canMarry_4 : decode mX2_canMarry.2.1 4 = .ok (.bipush 40, 2) := by decide +kernel
theorem dX2_canMarry_6 : decode mX2_canMarry.2.1 6 = .ok (.if_icmp .ge 58, 3) := by decide +kernel
theorem dX2_canMarry_9 : decode mX2_canMarry.2.1 9 = .ok (.aload_n 0, 1) := by decide +kernel
theorem dX2_canMarry_10 : decode mX2_canMarry.2.1 10 = .ok (.iload_n 1, 1) := by decide +kernel
theorem dX2_canMarry_11 : decode mX2_canMarry.2.1 11 = .ok (.invokevirtual 79, 3) := by decide +kernel
theorem dX2_canMarry_14 : decode mX2_canMarry.2.1 14 = .ok (.ifCond .eq 50, 3) := by decide +kernel
theorem dX2_canMarry_17 : decode mX2_canMarry.2.1 17 = .ok (.aload_n 0, 1) := by decide +kernel
theorem dX2_canMarry_18 : decode mX2_canMarry.2.1 18 = .ok (.iload_n 2, 1) := by decide +kernel
theorem dX2_canMarry_19 : decode mX2_canMarry.2.1 19 = .ok (.invokevirtual 79, 3) := by decide +kernel
theorem dX2_canMarry_22 : decode mX2_canMarry.2.1 22 = .ok (.ifCond .eq 42, 3) := by decide +kernel
theorem dX2_canMarry_25 : decode mX2_canMarry.2.1 25 = .ok (.aload_n 0, 1) := by decide +kernel
theorem dX2_canMarry_26 : decode mX2_canMarry.2.1 26 = .ok (.getfield 11, 3) := by decide +kernel
theorem dX2_canMarry_29 : decode mX2_canMarry.2.1 29 = .ok (.iload_n 1, 1) := by decide +kernel
theorem dX2_canMarry_30 : decode mX2_canMarry.2.1 30 = .ok (.iaload, 1) := by decide +kernel
theorem dX2_canMarry_31 : decode mX2_canMarry.2.1 31 = .ok (.aload_n 0, 1) := by decide +kernel
theorem dX2_canMarry_32 : decode mX2_canMarry.2.1 32 = .ok (.getfield 11, 3) := by decide +kernel
theorem dX2_canMarry_35 : decode mX2_canMarry.2.1 35 = .ok (.iload_n 2, 1) := by decide +kernel
theorem dX2_canMarry_36 : decode mX2_canMarry.2.1 36 = .ok (.iaload, 1) := by decide +kernel
theorem dX2_canMarry_37 : decode mX2_canMarry.2.1 37 = .ok (.if_icmp .eq 27, 3) := by decide +kernel
theorem dX2_canMarry_40 : decode mX2_canMarry.2.1 40 = .ok (.iload_n 3, 1) := by decide +kernel
theorem dX2_canMarry_41 : decode mX2_canMarry.2.1 41 = .ok (.aload_n 0, 1) := by decide +kernel
theorem dX2_canMarry_42 : decode mX2_canMarry.2.1 42 = .ok (.getfield 24, 3) := by decide +kernel
theorem dX2_canMarry_45 : decode mX2_canMarry.2.1 45 = .ok (.iload_n 1, 1) := by decide +kernel
theorem dX2_canMarry_46 : decode mX2_canMarry.2.1 46 = .ok (.iaload, 1) := by decide +kernel
theorem dX2_canMarry_47 : decode mX2_canMarry.2.1 47 = .ok (.if_icmp .lt 17, 3) := by decide +kernel
theorem dX2_canMarry_50 : decode mX2_canMarry.2.1 50 = .ok (.iload_n 3, 1) := by decide +kernel
theorem dX2_canMarry_51 : decode mX2_canMarry.2.1 51 = .ok (.aload_n 0, 1) := by decide +kernel
theorem dX2_canMarry_52 : decode mX2_canMarry.2.1 52 = .ok (.getfield 24, 3) := by decide +kernel
theorem dX2_canMarry_55 : decode mX2_canMarry.2.1 55 = .ok (.iload_n 2, 1) := by decide +kernel
theorem dX2_canMarry_56 : decode mX2_canMarry.2.1 56 = .ok (.iaload, 1) := by decide +kernel
theorem dX2_canMarry_57 : decode mX2_canMarry.2.1 57 = .ok (.if_icmp .lt 7, 3) := by decide +kernel
theorem dX2_canMarry_60 : decode mX2_canMarry.2.1 60 = .ok (.iconst 1, 1) := by decide +kernel
theorem dX2_canMarry_61 : decode mX2_canMarry.2.1 61 = .ok (.goto 4, 3) := by decide +kernel
theorem dX2_canMarry_64 : decode mX2_canMarry.2.1 64 = .ok (.iconst 0, 1) := by decide +kernel
theorem dX2_canMarry_65 : decode mX2_canMarry.2.1 65 = .ok (.ireturn, 1) := by decide +kernel
theorem sX2_canMarry {SC : Nat → Nat} {X : mh_X} {d kc ks : Nat} {Q : Option am_V → am_W → Prop} {w : am_W} {x1 : Int} {x2 : Int} {x3 : Int} (Ho4 : ¬ 40 ≤ (w.1 5 0 19) → (¬ x1 < 0 ∧ (¬ (w.1 5 0 18) ≤ x1)) → (¬ x2 < 0 ∧ (¬ (w.1 5 0 18) ≤ x2)) → 0 ≤ x1) (Ho5 : ¬ 40 ≤ (w.1 5 0 19) → (¬ x1 < 0 ∧ (¬ (w.1 5 0 18) ≤ x1)) → (¬ x2 < 0 ∧ (¬ (w.1 5 0 18) ≤ x2)) → x1 < 40) (Ho6 : ¬ 40 ≤ (w.1 5 0 19) → (¬ x1 < 0 ∧ (¬ (w.1 5 0 18) ≤ x1)) → (¬ x2 < 0 ∧ (¬ (w.1 5 0 18) ≤ x2)) → 0 ≤ x2) (Ho7 : ¬ 40 ≤ (w.1 5 0 19) → (¬ x1 < 0 ∧ (¬ (w.1 5 0 18) ≤ x1)) → (¬ x2 < 0 ∧ (¬ (w.1 5 0 18) ≤ x2)) → x2 < 40)
    (h : Q (some (.inl (if (¬ 40 ≤ (w.1 5 0 19) ∧ ((¬ x1 < 0 ∧ (¬ (w.1 5 0 18) ≤ x1)) ∧ ((¬ x2 < 0 ∧ (¬ (w.1 5 0 18) ≤ x2)) ∧ (¬ (w.1 33 0 x1.toNat) = (w.1 33 0 x2.toNat) ∧ (¬ x3 < (w.1 37 0 x1.toNat) ∧ (¬ x3 < (w.1 37 0 x2.toNat))))))) then 1 else 0))) w) : am_M (mh_G X) SC (d + 2) kc ks mX2_canMarry [.inr (.inr (some (5, 0))), .inl x1, .inl x2, .inl x3] w Q := by
  refine am_M_of (by decide) (Nat.le_of_ble_eq_true rfl) ?_
  show am_A (mh_G X) SC (d + 2) mX2_canMarry Q 0 [(0, .inr (.inr (some (5, 0)))), (1, .inl x1), (2, .inl x2), (3, .inl x3)] [] w kc ks
  refine am_aload_n dX2_canMarry_0 (List.Mem.head _) ?_
  refine am_getf (f := 19) (v := .inl (w.1 5 0 19)) dX2_canMarry_1 hc_5 (by decide) wd_342 (by decide) rfl rfl ?_
  refine am_bipush dX2_canMarry_4 (by decide) (by unfold am_rg; omega) ?_
  refine am_icmpge (tgt := 64) dX2_canMarry_6 (by decide) (fun c1 => ?_) (fun c1 => ?_)
  · refine am_iconst dX2_canMarry_64 (by unfold am_rg; omega) ?_
    rw [if_neg (by omega)] at h
    exact am_ret (r := some (.inl 0)) dX2_canMarry_65 (Or.inr (Or.inl ⟨rfl, (Or.inl rfl)⟩)) rfl h
  · refine am_aload_n dX2_canMarry_9 (List.Mem.head _) ?_
    refine am_iload_n dX2_canMarry_10 (List.Mem.tail _ (List.Mem.head _)) ?_
    refine am_callv (d' := d + 1) (kc := 0) (ks := 0) (as := [.inl x1]) dX2_canMarry_11 wc_X2_has wd_1081 wd_1082 wd_1083 wd_117 ds_X2_has (by decide) (by omega) (Nat.le_of_ble_eq_true rfl) (Nat.zero_le _) (Nat.zero_le _) hc_5 (by decide) rfl rfl (sX2_has (d := d + 0) (x1 := x1)  ?_)
    show am_A (mh_G X) SC (d + 2) mX2_canMarry Q 14 [(0, .inr (.inr (some (5, 0)))), (1, .inl x1), (2, .inl x2), (3, .inl x3)] [.inl (if (¬ x1 < 0 ∧ (¬ (w.1 5 0 18) ≤ x1)) then 1 else 0)] w kc ks
    refine am_ifeq (tgt := 64) dX2_canMarry_14 (by decide) (fun c2 => ?_) (fun c2 => ?_)
    · replace c2 := am_beq1 c2
      refine am_iconst dX2_canMarry_64 (by unfold am_rg; omega) ?_
      rw [if_neg (by omega)] at h
      exact am_ret (r := some (.inl 0)) dX2_canMarry_65 (Or.inr (Or.inl ⟨rfl, (Or.inl rfl)⟩)) rfl h
    · replace c2 := am_beq2 c2
      refine am_aload_n dX2_canMarry_17 (List.Mem.head _) ?_
      refine am_iload_n dX2_canMarry_18 (List.Mem.tail _ (List.Mem.tail _ (List.Mem.head _))) ?_
      refine am_callv (d' := d + 1) (kc := 0) (ks := 0) (as := [.inl x2]) dX2_canMarry_19 wc_X2_has wd_1081 wd_1082 wd_1083 wd_117 ds_X2_has (by decide) (by omega) (Nat.le_of_ble_eq_true rfl) (Nat.zero_le _) (Nat.zero_le _) hc_5 (by decide) rfl rfl (sX2_has (d := d + 0) (x1 := x2)  ?_)
      show am_A (mh_G X) SC (d + 2) mX2_canMarry Q 22 [(0, .inr (.inr (some (5, 0)))), (1, .inl x1), (2, .inl x2), (3, .inl x3)] [.inl (if (¬ x2 < 0 ∧ (¬ (w.1 5 0 18) ≤ x2)) then 1 else 0)] w kc ks
      refine am_ifeq (tgt := 64) dX2_canMarry_22 (by decide) (fun c3 => ?_) (fun c3 => ?_)
      · replace c3 := am_beq1 c3
        refine am_iconst dX2_canMarry_64 (by unfold am_rg; omega) ?_
        rw [if_neg (by omega)] at h
        exact am_ret (r := some (.inl 0)) dX2_canMarry_65 (Or.inr (Or.inl ⟨rfl, (Or.inl rfl)⟩)) rfl h
      · replace c3 := am_beq2 c3
        refine am_aload_n dX2_canMarry_25 (List.Mem.head _) ?_
        refine am_getf (f := 0) (v := .inr (.inr (some (33, 0)))) dX2_canMarry_26 hc_5 (by decide) wd_315 (by decide) rfl rfl ?_
        refine am_iload_n dX2_canMarry_29 (List.Mem.tail _ (List.Mem.head _)) ?_
        have o4 := Ho4 c1 c2 c3
        have o5 := Ho5 c1 c2 c3
        refine am_iaload (v := (w.1 33 0 x1.toNat)) dX2_canMarry_30 (by decide) rfl o4 o5 rfl ?_
        refine am_aload_n dX2_canMarry_31 (List.Mem.head _) ?_
        refine am_getf (f := 0) (v := .inr (.inr (some (33, 0)))) dX2_canMarry_32 hc_5 (by decide) wd_315 (by decide) rfl rfl ?_
        refine am_iload_n dX2_canMarry_35 (List.Mem.tail _ (List.Mem.tail _ (List.Mem.head _))) ?_
        have o6 := Ho6 c1 c2 c3
        have o7 := Ho7 c1 c2 c3
        refine am_iaload (v := (w.1 33 0 x2.toNat)) dX2_canMarry_36 (by decide) rfl o6 o7 rfl ?_
        refine am_icmpeq (tgt := 64) dX2_canMarry_37 (by decide) (fun c8 => ?_) (fun c8 => ?_)
        · refine am_iconst dX2_canMarry_64 (by unfold am_rg; omega) ?_
          rw [if_neg (by omega)] at h
          exact am_ret (r := some (.inl 0)) dX2_canMarry_65 (Or.inr (Or.inl ⟨rfl, (Or.inl rfl)⟩)) rfl h
        · refine am_iload_n dX2_canMarry_40 (List.Mem.tail _ (List.Mem.tail _ (List.Mem.tail _ (List.Mem.head _)))) ?_
          refine am_aload_n dX2_canMarry_41 (List.Mem.head _) ?_
          refine am_getf (f := 4) (v := .inr (.inr (some (37, 0)))) dX2_canMarry_42 hc_5 (by decide) wd_320 (by decide) rfl rfl ?_
          refine am_iload_n dX2_canMarry_45 (List.Mem.tail _ (List.Mem.head _)) ?_
          refine am_iaload (v := (w.1 37 0 x1.toNat)) dX2_canMarry_46 (by decide) rfl o4 o5 rfl ?_
          refine am_icmplt (tgt := 64) dX2_canMarry_47 (by decide) (fun c9 => ?_) (fun c9 => ?_)
          · refine am_iconst dX2_canMarry_64 (by unfold am_rg; omega) ?_
            rw [if_neg (by omega)] at h
            exact am_ret (r := some (.inl 0)) dX2_canMarry_65 (Or.inr (Or.inl ⟨rfl, (Or.inl rfl)⟩)) rfl h
          · refine am_iload_n dX2_canMarry_50 (List.Mem.tail _ (List.Mem.tail _ (List.Mem.tail _ (List.Mem.head _)))) ?_
            refine am_aload_n dX2_canMarry_51 (List.Mem.head _) ?_
            refine am_getf (f := 4) (v := .inr (.inr (some (37, 0)))) dX2_canMarry_52 hc_5 (by decide) wd_320 (by decide) rfl rfl ?_
            refine am_iload_n dX2_canMarry_55 (List.Mem.tail _ (List.Mem.tail _ (List.Mem.head _))) ?_
            refine am_iaload (v := (w.1 37 0 x2.toNat)) dX2_canMarry_56 (by decide) rfl o6 o7 rfl ?_
            refine am_icmplt (tgt := 64) dX2_canMarry_57 (by decide) (fun c10 => ?_) (fun c10 => ?_)
            · refine am_iconst dX2_canMarry_64 (by unfold am_rg; omega) ?_
              rw [if_neg (by omega)] at h
              exact am_ret (r := some (.inl 0)) dX2_canMarry_65 (Or.inr (Or.inl ⟨rfl, (Or.inl rfl)⟩)) rfl h
            · refine am_iconst dX2_canMarry_60 (by unfold am_rg; omega) ?_
              refine am_goto (tgt := 65) dX2_canMarry_61 (by decide) ?_
              rw [if_pos (by omega)] at h
              exact am_ret (r := some (.inl 1)) dX2_canMarry_65 (Or.inr (Or.inl ⟨rfl, (Or.inr rfl)⟩)) rfl h
-- MourningHouse$Family.marry(IIII)I
theorem dX2_marry_0 : decode mX2_marry.2.1 0 = .ok (.aload_n 0, 1) := by decide +kernel
theorem dX2_marry_1 : decode mX2_marry.2.1 1 = .ok (.getfield 46, 3) := by decide +kernel
theorem dX2_marry_4 : decode mX2_marry.2.1 4 = .ok (.aload_n 0, 1) := by decide +kernel
theorem dX2_marry_5 : decode mX2_marry.2.1 5 = .ok (.getfield 72, 3) := by decide +kernel
theorem dX2_marry_8 : decode mX2_marry.2.1 8 = .ok (.aload_n 0, 1) := by decide +kernel
theorem dX2_marry_9 : decode mX2_marry.2.1 9 = .ok (.iload_n 1, 1) := by decide +kernel
theorem dX2_marry_10 : decode mX2_marry.2.1 10 = .ok (.invokevirtual 84, 3) := by decide +kernel
theorem dX2_marry_13 : decode mX2_marry.2.1 13 = .ok (.ifCond .eq 7, 3) := by decide +kernel
theorem dX2_marry_16 : decode mX2_marry.2.1 16 = .ok (.iload_n 1, 1) := by decide +kernel
theorem dX2_marry_17 : decode mX2_marry.2.1 17 = .ok (.goto 4, 3) := by decide +kernel
theorem dX2_marry_20 : decode mX2_marry.2.1 20 = .ok (.iload_n 2, 1) := by decide +kernel
theorem dX2_marry_21 : decode mX2_marry.2.1 21 = .ok (.iastore, 1) := by decide +kernel
theorem dX2_marry_22 : decode mX2_marry.2.1 22 = .ok (.aload_n 0, 1) := by decide +kernel
theorem dX2_marry_23 : decode mX2_marry.2.1 23 = .ok (.getfield 49, 3) := by decide +kernel
theorem dX2_marry_26 : decode mX2_marry.2.1 26 = .ok (.aload_n 0, 1) := by decide +kernel
theorem dX2_marry_27 : decode mX2_marry.2.1 27 = .ok (.getfield 72, 3) := by decide +kernel
theorem dX2_marry_30 : decode mX2_marry.2.1 30 = .ok (.aload_n 0, 1) := by decide +kernel
theorem dX2_marry_31 : decode mX2_marry.2.1 31 = .ok (.iload_n 1, 1) := by decide +kernel
theorem dX2_marry_32 : decode mX2_marry.2.1 32 = .ok (.invokevirtual 84, 3) := by decide +kernel
theorem dX2_marry_35 : decode mX2_marry.2.1 35 = .ok (.ifCond .eq 7, 3) := by decide +kernel
theorem dX2_marry_38 : decode mX2_marry.2.1 38 = .ok (.iload_n 2, 1) := by decide +kernel
theorem dX2_marry_39 : decode mX2_marry.2.1 39 = .ok (.goto 4, 3) := by decide +kernel
theorem dX2_marry_42 : decode mX2_marry.2.1 42 = .ok (.iload_n 1, 1) := by decide +kernel
theorem dX2_marry_43 : decode mX2_marry.2.1 43 = .ok (.iastore, 1) := by decide +kernel
theorem dX2_marry_44 : decode mX2_marry.2.1 44 = .ok (.aload_n 0, 1) := by decide +kernel
theorem dX2_marry_45 : decode mX2_marry.2.1 45 = .ok (.getfield 52, 3) := by decide +kernel
theorem dX2_marry_48 : decode mX2_marry.2.1 48 = .ok (.aload_n 0, 1) := by decide +kernel
theorem dX2_marry_49 : decode mX2_marry.2.1 49 = .ok (.getfield 72, 3) := by decide +kernel
theorem dX2_marry_52 : decode mX2_marry.2.1 52 = .ok (.iload_n 3, 1) := by decide +kernel
theorem dX2_marry_53 : decode mX2_marry.2.1 53 = .ok (.iastore, 1) := by decide +kernel
theorem dX2_marry_54 : decode mX2_marry.2.1 54 = .ok (.aload_n 0, 1) := by decide +kernel
theorem dX2_marry_55 : decode mX2_marry.2.1 55 = .ok (.getfield 55, 3) := by decide +kernel
theorem dX2_marry_58 : decode mX2_marry.2.1 58 = .ok (.aload_n 0, 1) := by decide +kernel
theorem dX2_marry_59 : decode mX2_marry.2.1 59 = .ok (.getfield 72, 3) := by decide +kernel
theorem dX2_marry_62 : decode mX2_marry.2.1 62 = .ok (.iload 4, 2) := by decide +kernel
theorem dX2_marry_64 : decode mX2_marry.2.1 64 = .ok (.iastore, 1) := by decide +kernel
theorem dX2_marry_65 : decode mX2_marry.2.1 65 = .ok (.aload_n 0, 1) := by decide +kernel
theorem dX2_marry_66 : decode mX2_marry.2.1 66 = .ok (.dup, 1) := by decide +kernel
theorem dX2_marry_67 : decode mX2_marry.2.1 67 = .ok (.getfield 72, 3) := by decide +kernel
theorem dX2_marry_70 : decode mX2_marry.2.1 70 = .ok (.iconst 1, 1) := by decide +kernel
theorem dX2_marry_71 : decode mX2_marry.2.1 71 = .ok (.iadd, 1) := by decide +kernel
theorem dX2_marry_72 : decode mX2_marry.2.1 72 = .ok (.putfield 72, 3) := by decide +kernel
theorem dX2_marry_75 : decode mX2_marry.2.1 75 = .ok (.aload_n 0, 1) := by decide +kernel
theorem dX2_marry_76 : decode mX2_marry.2.1 76 = .ok (.getfield 72, 3) := by decide +kernel
theorem dX2_marry_79 : decode mX2_marry.2.1 79 = .ok (.iconst 1, 1) := by decide +kernel
theorem dX2_marry_80 : decode mX2_marry.2.1 80 = .ok (.isub, 1) := by decide +kernel
theorem dX2_marry_81 : decode mX2_marry.2.1 81 = .ok (.ireturn, 1) := by decide +kernel
theorem bX2_marry_0 {SC : Nat → Nat} {X : mh_X} {d : Nat} {Q : Option am_V → am_W → Prop} {bc bs : Nat} {w : am_W} {x1 : Int} {x2 : Int} {x3 : Int} {x4 : Int}
    (h : (0 ≤ x1 ∧ (x1 < 40 ∧ ((¬ ((w.1 33 0 x1.toNat) = 1) → am_A (mh_G X) SC (d + 2) mX2_marry Q 21 [(0, .inr (.inr (some (5, 0)))), (1, .inl x1), (2, .inl x2), (3, .inl x3), (4, .inl x4)] [.inl x2, .inl (w.1 5 0 19), .inr (.inr (some (44, 0)))] w bc bs) ∧ (((w.1 33 0 x1.toNat) = 1) → am_A (mh_G X) SC (d + 2) mX2_marry Q 21 [(0, .inr (.inr (some (5, 0)))), (1, .inl x1), (2, .inl x2), (3, .inl x3), (4, .inl x4)] [.inl x1, .inl (w.1 5 0 19), .inr (.inr (some (44, 0)))] w bc bs))))) :
    am_A (mh_G X) SC (d + 2) mX2_marry Q 0 [(0, .inr (.inr (some (5, 0)))), (1, .inl x1), (2, .inl x2), (3, .inl x3), (4, .inl x4)] [] w bc bs := by
  refine am_aload_n dX2_marry_0 (List.Mem.head _) ?_
  refine am_getf (f := 11) (v := .inr (.inr (some (44, 0)))) dX2_marry_1 hc_5 (by decide) wd_332 (by decide) rfl rfl ?_
  refine am_aload_n dX2_marry_4 (List.Mem.head _) ?_
  refine am_getf (f := 19) (v := .inl (w.1 5 0 19)) dX2_marry_5 hc_5 (by decide) wd_342 (by decide) rfl rfl ?_
  refine am_aload_n dX2_marry_8 (List.Mem.head _) ?_
  refine am_iload_n dX2_marry_9 (List.Mem.tail _ (List.Mem.head _)) ?_
  have o1 := h.1
  replace h := h.2
  have o2 := h.1
  replace h := h.2
  refine am_callv (d' := d + 1) (kc := 0) (ks := 0) (as := [.inl x1]) dX2_marry_10 wc_X2_isMan wd_1090 wd_1091 wd_1092 wd_117 ds_X2_isMan (by decide) (by omega) (Nat.le_of_ble_eq_true rfl) (Nat.zero_le _) (Nat.zero_le _) hc_5 (by decide) rfl rfl (sX2_isMan (d := d + 0) (x1 := x1) o1 o2 ?_)
  show am_A (mh_G X) SC (d + 2) mX2_marry Q 13 [(0, .inr (.inr (some (5, 0)))), (1, .inl x1), (2, .inl x2), (3, .inl x3), (4, .inl x4)] [.inl (if ((w.1 33 0 x1.toNat) = 1) then 1 else 0), .inl (w.1 5 0 19), .inr (.inr (some (44, 0)))] w bc bs
  refine am_ifeq (tgt := 20) dX2_marry_13 (by decide) (fun c3 => ?_) (fun c3 => ?_)
  · replace c3 := am_beq1 c3
    replace h := h.1 c3
    refine am_iload_n dX2_marry_20 (List.Mem.tail _ (List.Mem.tail _ (List.Mem.head _))) ?_
    exact h
  · replace c3 := am_beq2 c3
    replace h := h.2 c3
    refine am_iload_n dX2_marry_16 (List.Mem.tail _ (List.Mem.head _)) ?_
    refine am_goto (tgt := 21) dX2_marry_17 (by decide) ?_
    exact h
theorem bX2_marry_21 {SC : Nat → Nat} {X : mh_X} {d : Nat} {Q : Option am_V → am_W → Prop} {bc bs : Nat} {w : am_W} {x1 : Int} {x2 : Int} {x3 : Int} {x4 : Int} {xs0 : Int} {xs1 : Int}
    (h : (0 ≤ xs1 ∧ (xs1 < 40 ∧ (0 ≤ x1 ∧ (x1 < 40 ∧ ((¬ ((w.1 33 0 x1.toNat) = 1) → am_A (mh_G X) SC (d + 2) mX2_marry Q 43 [(0, .inr (.inr (some (5, 0)))), (3, .inl x3), (4, .inl x4)] [.inl x1, .inl (w.1 5 0 19), .inr (.inr (some (45, 0)))] ((am_up w.1 44 0 xs1.toNat xs0), w.2) bc bs) ∧ (((w.1 33 0 x1.toNat) = 1) → am_A (mh_G X) SC (d + 2) mX2_marry Q 43 [(0, .inr (.inr (some (5, 0)))), (3, .inl x3), (4, .inl x4)] [.inl x2, .inl (w.1 5 0 19), .inr (.inr (some (45, 0)))] ((am_up w.1 44 0 xs1.toNat xs0), w.2) bc bs))))))) :
    am_A (mh_G X) SC (d + 2) mX2_marry Q 21 [(0, .inr (.inr (some (5, 0)))), (1, .inl x1), (2, .inl x2), (3, .inl x3), (4, .inl x4)] [.inl xs0, .inl xs1, .inr (.inr (some (44, 0)))] w bc bs := by
  have o1 := h.1
  replace h := h.2
  have o2 := h.1
  replace h := h.2
  refine am_iastore dX2_marry_21 (Or.inl (by decide)) rfl o1 o2 ?_
  refine am_aload_n dX2_marry_22 (List.Mem.head _) ?_
  refine am_getf (f := 12) (v := .inr (.inr (some (45, 0)))) dX2_marry_23 hc_5 (by decide) wd_333 (by decide) rfl rfl ?_
  refine am_aload_n dX2_marry_26 (List.Mem.head _) ?_
  refine am_getf (f := 19) (v := .inl (w.1 5 0 19)) dX2_marry_27 hc_5 (by decide) wd_342 (by decide) rfl rfl ?_
  refine am_aload_n dX2_marry_30 (List.Mem.head _) ?_
  refine am_iload_n dX2_marry_31 (List.Mem.tail _ (List.Mem.head _)) ?_
  have o3 := h.1
  replace h := h.2
  have o4 := h.1
  replace h := h.2
  refine am_callv (d' := d + 1) (kc := 0) (ks := 0) (as := [.inl x1]) dX2_marry_32 wc_X2_isMan wd_1090 wd_1091 wd_1092 wd_117 ds_X2_isMan (by decide) (by omega) (Nat.le_of_ble_eq_true rfl) (Nat.zero_le _) (Nat.zero_le _) hc_5 (by decide) rfl rfl (sX2_isMan (d := d + 0) (x1 := x1) o3 o4 ?_)
  show am_A (mh_G X) SC (d + 2) mX2_marry Q 35 [(0, .inr (.inr (some (5, 0)))), (1, .inl x1), (2, .inl x2), (3, .inl x3), (4, .inl x4)] [.inl (if ((w.1 33 0 x1.toNat) = 1) then 1 else 0), .inl (w.1 5 0 19), .inr (.inr (some (45, 0)))] ((am_up w.1 44 0 xs1.toNat xs0), w.2) bc bs
  refine am_ifeq (tgt := 42) dX2_marry_35 (by decide) (fun c5 => ?_) (fun c5 => ?_)
  · replace c5 := am_beq1 c5
    replace h := h.1 c5
    refine am_iload_n dX2_marry_42 (List.Mem.tail _ (List.Mem.head _)) ?_
    exact am_sub [0, 3, 4] rfl h
  · replace c5 := am_beq2 c5
    replace h := h.2 c5
    refine am_iload_n dX2_marry_38 (List.Mem.tail _ (List.Mem.tail _ (List.Mem.head _))) ?_
    refine am_goto (tgt := 43) dX2_marry_39 (by decide) ?_
    exact am_sub [0, 3, 4] rfl h
theorem bX2_marry_43 {SC : Nat → Nat} {X : mh_X} {d : Nat} {Q : Option am_V → am_W → Prop} {bc bs : Nat} {w : am_W} {x3 : Int} {x4 : Int} {xs0 : Int} {xs1 : Int}
    (h : (0 ≤ xs1 ∧ (xs1 < 40 ∧ (0 ≤ (w.1 5 0 19) ∧ ((w.1 5 0 19) < 40 ∧ Q (some (.inl (am_w (((am_up w.1 5 0 19 (am_w ((w.1 5 0 19) + 1))) 5 0 19) - 1)))) ((am_up (am_up (am_up (am_up w.1 45 0 xs1.toNat xs0) 46 0 (w.1 5 0 19).toNat x3) 47 0 (w.1 5 0 19).toNat x4) 5 0 19 (am_w ((w.1 5 0 19) + 1))), w.2)))))) :
    am_A (mh_G X) SC (d + 2) mX2_marry Q 43 [(0, .inr (.inr (some (5, 0)))), (3, .inl x3), (4, .inl x4)] [.inl xs0, .inl xs1, .inr (.inr (some (45, 0)))] w bc bs := by
  have o1 := h.1
  replace h := h.2
  have o2 := h.1
  replace h := h.2
  refine am_iastore dX2_marry_43 (Or.inl (by decide)) rfl o1 o2 ?_
  refine am_aload_n dX2_marry_44 (List.Mem.head _) ?_
  refine am_getf (f := 13) (v := .inr (.inr (some (46, 0)))) dX2_marry_45 hc_5 (by decide) wd_334 (by decide) rfl rfl ?_
  refine am_aload_n dX2_marry_48 (List.Mem.head _) ?_
  refine am_getf (f := 19) (v := .inl (w.1 5 0 19)) dX2_marry_49 hc_5 (by decide) wd_342 (by decide) rfl rfl ?_
  refine am_iload_n dX2_marry_52 (List.Mem.tail _ (List.Mem.head _)) ?_
  have o3 := h.1
  replace h := h.2
  have o4 := h.1
  replace h := h.2
  refine am_iastore dX2_marry_53 (Or.inl (by decide)) rfl o3 o4 ?_
  refine am_aload_n dX2_marry_54 (List.Mem.head _) ?_
  refine am_getf (f := 14) (v := .inr (.inr (some (47, 0)))) dX2_marry_55 hc_5 (by decide) wd_335 (by decide) rfl rfl ?_
  refine am_aload_n dX2_marry_58 (List.Mem.head _) ?_
  refine am_getf (f := 19) (v := .inl (w.1 5 0 19)) dX2_marry_59 hc_5 (by decide) wd_342 (by decide) rfl rfl ?_
  refine am_iload dX2_marry_62 (List.Mem.tail _ (List.Mem.tail _ (List.Mem.head _))) ?_
  refine am_iastore dX2_marry_64 (Or.inl (by decide)) rfl o3 o4 ?_
  refine am_aload_n dX2_marry_65 (List.Mem.head _) ?_
  refine am_dup dX2_marry_66 rfl ?_
  refine am_getf (f := 19) (v := .inl (w.1 5 0 19)) dX2_marry_67 hc_5 (by decide) wd_342 (by decide) rfl rfl ?_
  refine am_iconst dX2_marry_70 (by unfold am_rg; omega) ?_
  refine am_iadd dX2_marry_71 ?_
  refine am_putf (f := 19) dX2_marry_72 hc_5 (by decide) wd_342 rfl (Or.inl rfl) (Or.inl (by decide)) rfl ?_
  refine am_aload_n dX2_marry_75 (List.Mem.head _) ?_
  refine am_getf (f := 19) (v := .inl ((am_up w.1 5 0 19 (am_w ((w.1 5 0 19) + 1))) 5 0 19)) dX2_marry_76 hc_5 (by decide) wd_342 (by decide) rfl rfl ?_
  refine am_iconst dX2_marry_79 (by unfold am_rg; omega) ?_
  refine am_isub dX2_marry_80 ?_
  exact am_ret (r := some (.inl (am_w (((am_up w.1 5 0 19 (am_w ((w.1 5 0 19) + 1))) 5 0 19) - 1)))) dX2_marry_81 (Or.inl rfl) rfl h
-- MourningHouse$Family.nextWedding(III)I
theorem dX2_nextWedding_0 : decode mX2_nextWedding.2.1 0 = .ok (.ldc 83, 2) := by decide +kernel
theorem dX2_nextWedding_2 : decode mX2_nextWedding.2.1 2 = .ok (.istore 4, 2) := by decide +kernel
theorem dX2_nextWedding_4 : decode mX2_nextWedding.2.1 4 = .ok (.iconst 0, 1) := by decide +kernel
theorem dX2_nextWedding_5 : decode mX2_nextWedding.2.1 5 = .ok (.istore 5, 2) := by decide +kernel
theorem dX2_nextWedding_7 : decode mX2_nextWedding.2.1 7 = .ok (.iload 5, 2) := by decide +kernel
theorem dX2_nextWedding_9 : decode mX2_nextWedding.2.1 9 = .ok (.aload_n 0, 1) := by decide +kernel
theorem dX2_nextWedding_10 : decode mX2_nextWedding.2.1 10 = .ok (.getfield 72, 3) := by decide +kernel
theorem dX2_nextWedding_13 : decode mX2_nextWedding.2.1 13 = .ok (.if_icmp .ge 86, 3) := by decide +kernel
theorem dX2_nextWedding_16 : decode mX2_nextWedding.2.1 16 = .ok (.aload_n 0, 1) := by decide +kernel
theorem dX2_nextWedding_17 : decode mX2_nextWedding.2.1 17 = .ok (.getfield 46, 3) := by decide +kernel
theorem dX2_nextWedding_20 : decode mX2_nextWedding.2.1 20 = .ok (.iload 5, 2) := by decide +kernel
theorem dX2_nextWedding_22 : decode mX2_nextWedding.2.1 22 = .ok (.iaload, 1) := by decide +kernel
theorem dX2_nextWedding_23 : decode mX2_nextWedding.2.1 23 = .ok (.iload_n 1, 1) := by decide +kernel
theorem dX2_nextWedding_24 : decode mX2_nextWedding.2.1 24 = .ok (.if_icmp .eq 14, 3) := by decide +kernel
theorem dX2_nextWedding_27 : decode mX2_nextWedding.2.1 27 = .ok (.aload_n 0, 1) := by decide +kernel
theorem dX2_nextWedding_28 : decode mX2_nextWedding.2.1 28 = .ok (.getfield 49, 3) := by decide +kernel
theorem dX2_nextWedding_31 : decode mX2_nextWedding.2.1 31 = .ok (.iload 5, 2) := by decide +kernel
theorem dX2_nextWedding_33 : decode mX2_nextWedding.2.1 33 = .ok (.iaload, 1) := by decide +kernel
theorem dX2_nextWedding_34 : decode mX2_nextWedding.2.1 34 = .ok (.iload_n 1, 1) := by decide +kernel
theorem dX2_nextWedding_35 : decode mX2_nextWedding.2.1 35 = .ok (.if_icmp .ne 7, 3) := by decide +kernel
theorem dX2_nextWedding_38 : decode mX2_nextWedding.2.1 38 = .ok (.iconst 1, 1) := by decide +kernel
theorem dX2_nextWedding_39 : decode mX2_nextWedding.2.1 39 = .ok (.goto 4, 3) := by decide +kernel
theorem dX2_nextWedding_42 : decode mX2_nextWedding.2.1 42 = .ok (.iconst 0, 1) := by decide +kernel
theorem dX2_nextWedding_43 : decode mX2_nextWedding.2.1 43 = .ok (.istore 6, 2) := by decide +kernel
theorem dX2_nextWedding_45 : decode mX2_nextWedding.2.1 45 = .ok (.iload 6, 2) := by decide +kernel
theorem dX2_nextWedding_47 : decode mX2_nextWedding.2.1 47 = .ok (.ifCond .eq 46, 3) := by decide +kernel
theorem dX2_nextWedding_50 : decode mX2_nextWedding.2.1 50 = .ok (.aload_n 0, 1) := by decide +kernel
theorem dX2_nextWedding_51 : decode mX2_nextWedding.2.1 51 = .ok (.getfield 55, 3) := by decide +kernel
theorem dX2_nextWedding_54 : decode mX2_nextWedding.2.1 54 = .ok (.iload 5, 2) := by decide +kernel
theorem dX2_nextWedding_56 : decode mX2_nextWedding.2.1 56 = .ok (.iaload, 1) := by decide +kernel
theorem dX2_nextWedding_57 : decode mX2_nextWedding.2.1 57 = .ok (.iload_n 3, 1) := by decide +kernel
theorem dX2_nextWedding_58 : decode mX2_nextWedding.2.1 58 = .ok (.if_icmp .gt 35, 3) := by decide +kernel
theorem dX2_nextWedding_61 : decode mX2_nextWedding.2.1 61 = .ok (.aload_n 0, 1) := by decide +kernel
theorem dX2_nextWedding_62 : decode mX2_nextWedding.2.1 62 = .ok (.getfield 52, 3) := by decide +kernel
theorem dX2_nextWedding_65 : decode mX2_nextWedding.2.1 65 = .ok (.iload 5, 2) := by decide +kernel
theorem dX2_nextWedding_67 : decode mX2_nextWedding.2.1 67 = .ok (.iaload, 1) := by decide +kernel
theorem dX2_nextWedding_68 : decode mX2_nextWedding.2.1 68 = .ok (.iload_n 2, 1) := by decide +kernel
theorem dX2_nextWedding_69 : decode mX2_nextWedding.2.1 69 = .ok (.if_icmp .le 24, 3) := by decide +kernel
theorem dX2_nextWedding_72 : decode mX2_nextWedding.2.1 72 = .ok (.aload_n 0, 1) := by decide +kernel
theorem dX2_nextWedding_73 : decode mX2_nextWedding.2.1 73 = .ok (.getfield 52, 3) := by decide +kernel
theorem dX2_nextWedding_76 : decode mX2_nextWedding.2.1 76 = .ok (.iload 5, 2) := by decide +kernel
theorem dX2_nextWedding_78 : decode mX2_nextWedding.2.1 78 = .ok (.iaload, 1) := by decide +kernel
theorem dX2_nextWedding_79 : decode mX2_nextWedding.2.1 79 = .ok (.iload 4, 2) := by decide +kernel
theorem dX2_nextWedding_81 : decode mX2_nextWedding.2.1 81 = .ok (.if_icmp .ge 12, 3) := by decide +kernel
theorem dX2_nextWedding_84 : decode mX2_nextWedding.2.1 84 = .ok (.aload_n 0, 1) := by decide +kernel
theorem dX2_nextWedding_85 : decode mX2_nextWedding.2.1 85 = .ok (.getfield 52, 3) := by decide +kernel
theorem dX2_nextWedding_88 : decode mX2_nextWedding.2.1 88 = .ok (.iload 5, 2) := by decide +kernel
theorem dX2_nextWedding_90 : decode mX2_nextWedding.2.1 90 = .ok (.iaload, 1) := by decide +kernel
theorem dX2_nextWedding_91 : decode mX2_nextWedding.2.1 91 = .ok (.istore 4, 2) := by decide +kernel
theorem dX2_nextWedding_93 : decode mX2_nextWedding.2.1 93 = .ok (.iinc 5 1, 3) := by decide +kernel
theorem dX2_nextWedding_96 : decode mX2_nextWedding.2.1 96 = .ok (.goto (-89), 3) := by decide +kernel
theorem dX2_nextWedding_99 : decode mX2_nextWedding.2.1 99 = .ok (.iload 4, 2) := by decide +kernel
theorem dX2_nextWedding_101 : decode mX2_nextWedding.2.1 101 = .ok (.ireturn, 1) := by decide +kernel
theorem bX2_nextWedding_0 {SC : Nat → Nat} {X : mh_X} {d : Nat} {Q : Option am_V → am_W → Prop} {bc bs : Nat} {w : am_W} {x1 : Int} {x2 : Int} {x3 : Int}
    (h : am_A (mh_G X) SC (d + 1) mX2_nextWedding Q 7 [(0, .inr (.inr (some (5, 0)))), (1, .inl x1), (2, .inl x2), (3, .inl x3), (4, .inl 2147483647), (5, .inl 0)] [] w bc bs) :
    am_A (mh_G X) SC (d + 1) mX2_nextWedding Q 0 [(0, .inr (.inr (some (5, 0)))), (1, .inl x1), (2, .inl x2), (3, .inl x3)] [] w bc bs := by
  refine am_ldcV (n := 2147483647) dX2_nextWedding_0 (by decide) wd_1089 (by unfold am_rg; omega) ?_
  refine am_istore (ls' := [(4, .inl 2147483647), (0, .inr (.inr (some (5, 0)))), (1, .inl x1), (2, .inl x2), (3, .inl x3)]) dX2_nextWedding_2 (by decide) rfl ?_
  refine am_iconst dX2_nextWedding_4 (by unfold am_rg; omega) ?_
  refine am_istore (ls' := [(5, .inl 0), (4, .inl 2147483647), (0, .inr (.inr (some (5, 0)))), (1, .inl x1), (2, .inl x2), (3, .inl x3)]) dX2_nextWedding_5 (by decide) rfl ?_
  exact am_sub [2, 3, 4, 5, 1, 0] rfl h
theorem bX2_nextWedding_7 {SC : Nat → Nat} {X : mh_X} {d : Nat} {Q : Option am_V → am_W → Prop} {bc bs : Nat} {w : am_W} {x1 : Int} {x2 : Int} {x3 : Int} {x4 : Int} {x5 : Int}
    (h : (((w.1 5 0 19) ≤ x5 → Q (some (.inl x4)) w) ∧ (¬ (w.1 5 0 19) ≤ x5 → (0 ≤ x5 ∧ (x5 < 40 ∧ (((w.1 44 0 x5.toNat) = x1 → am_A (mh_G X) SC (d + 1) mX2_nextWedding Q 38 [(0, .inr (.inr (some (5, 0)))), (1, .inl x1), (2, .inl x2), (3, .inl x3), (4, .inl x4), (5, .inl x5)] [] w bc bs) ∧ (¬ (w.1 44 0 x5.toNat) = x1 → ((¬ (w.1 45 0 x5.toNat) = x1 → am_A (mh_G X) SC (d + 1) mX2_nextWedding Q 43 [(0, .inr (.inr (some (5, 0)))), (1, .inl x1), (2, .inl x2), (3, .inl x3), (4, .inl x4), (5, .inl x5)] [.inl 0] w bc bs) ∧ ((w.1 45 0 x5.toNat) = x1 → am_A (mh_G X) SC (d + 1) mX2_nextWedding Q 38 [(0, .inr (.inr (some (5, 0)))), (1, .inl x1), (2, .inl x2), (3, .inl x3), (4, .inl x4), (5, .inl x5)] [] w bc bs))))))))) :
    am_A (mh_G X) SC (d + 1) mX2_nextWedding Q 7 [(0, .inr (.inr (some (5, 0)))), (1, .inl x1), (2, .inl x2), (3, .inl x3), (4, .inl x4), (5, .inl x5)] [] w bc bs := by
  refine am_iload dX2_nextWedding_7 (List.Mem.tail _ (List.Mem.tail _ (List.Mem.tail _ (List.Mem.tail _ (List.Mem.tail _ (List.Mem.head _)))))) ?_
  refine am_aload_n dX2_nextWedding_9 (List.Mem.head _) ?_
  refine am_getf (f := 19) (v := .inl (w.1 5 0 19)) dX2_nextWedding_10 hc_5 (by decide) wd_342 (by decide) rfl rfl ?_
  refine am_icmpge (tgt := 99) dX2_nextWedding_13 (by decide) (fun c1 => ?_) (fun c1 => ?_)
  · replace h := h.1 c1
    refine am_iload dX2_nextWedding_99 (List.Mem.tail _ (List.Mem.tail _ (List.Mem.tail _ (List.Mem.tail _ (List.Mem.head _))))) ?_
    exact am_ret (r := some (.inl x4)) dX2_nextWedding_101 (Or.inl rfl) rfl h
  · replace h := h.2 c1
    refine am_aload_n dX2_nextWedding_16 (List.Mem.head _) ?_
    refine am_getf (f := 11) (v := .inr (.inr (some (44, 0)))) dX2_nextWedding_17 hc_5 (by decide) wd_332 (by decide) rfl rfl ?_
    refine am_iload dX2_nextWedding_20 (List.Mem.tail _ (List.Mem.tail _ (List.Mem.tail _ (List.Mem.tail _ (List.Mem.tail _ (List.Mem.head _)))))) ?_
    have o2 := h.1
    replace h := h.2
    have o3 := h.1
    replace h := h.2
    refine am_iaload (v := (w.1 44 0 x5.toNat)) dX2_nextWedding_22 (by decide) rfl o2 o3 rfl ?_
    refine am_iload_n dX2_nextWedding_23 (List.Mem.tail _ (List.Mem.head _)) ?_
    refine am_icmpeq (tgt := 38) dX2_nextWedding_24 (by decide) (fun c4 => ?_) (fun c4 => ?_)
    · replace h := h.1 c4
      exact h
    · replace h := h.2 c4
      refine am_aload_n dX2_nextWedding_27 (List.Mem.head _) ?_
      refine am_getf (f := 12) (v := .inr (.inr (some (45, 0)))) dX2_nextWedding_28 hc_5 (by decide) wd_333 (by decide) rfl rfl ?_
      refine am_iload dX2_nextWedding_31 (List.Mem.tail _ (List.Mem.tail _ (List.Mem.tail _ (List.Mem.tail _ (List.Mem.tail _ (List.Mem.head _)))))) ?_
      refine am_iaload (v := (w.1 45 0 x5.toNat)) dX2_nextWedding_33 (by decide) rfl o2 o3 rfl ?_
      refine am_iload_n dX2_nextWedding_34 (List.Mem.tail _ (List.Mem.head _)) ?_
      refine am_icmpne (tgt := 42) dX2_nextWedding_35 (by decide) (fun c5 => ?_) (fun c5 => ?_)
      · replace h := h.1 c5
        refine am_iconst dX2_nextWedding_42 (by unfold am_rg; omega) ?_
        exact h
      · replace h := h.2 c5
        exact h
theorem bX2_nextWedding_38 {SC : Nat → Nat} {X : mh_X} {d : Nat} {Q : Option am_V → am_W → Prop} {bc bs : Nat} {w : am_W} {x1 : Int} {x2 : Int} {x3 : Int} {x4 : Int} {x5 : Int}
    (h : am_A (mh_G X) SC (d + 1) mX2_nextWedding Q 43 [(0, .inr (.inr (some (5, 0)))), (1, .inl x1), (2, .inl x2), (3, .inl x3), (4, .inl x4), (5, .inl x5)] [.inl 1] w bc bs) :
    am_A (mh_G X) SC (d + 1) mX2_nextWedding Q 38 [(0, .inr (.inr (some (5, 0)))), (1, .inl x1), (2, .inl x2), (3, .inl x3), (4, .inl x4), (5, .inl x5)] [] w bc bs := by
  refine am_iconst dX2_nextWedding_38 (by unfold am_rg; omega) ?_
  refine am_goto (tgt := 43) dX2_nextWedding_39 (by decide) ?_
  exact h
theorem bX2_nextWedding_43 {SC : Nat → Nat} {X : mh_X} {d : Nat} {Q : Option am_V → am_W → Prop} {bc bs : Nat} {w : am_W} {x1 : Int} {x2 : Int} {x3 : Int} {x4 : Int} {x5 : Int} {xs0 : Int}
    (h : ((xs0 = 0 → am_A (mh_G X) SC (d + 1) mX2_nextWedding Q 93 [(0, .inr (.inr (some (5, 0)))), (1, .inl x1), (2, .inl x2), (3, .inl x3), (4, .inl x4), (5, .inl x5)] [] w bc bs) ∧ (¬ xs0 = 0 → (0 ≤ x5 ∧ (x5 < 40 ∧ ((x3 < (w.1 47 0 x5.toNat) → am_A (mh_G X) SC (d + 1) mX2_nextWedding Q 93 [(0, .inr (.inr (some (5, 0)))), (1, .inl x1), (2, .inl x2), (3, .inl x3), (4, .inl x4), (5, .inl x5)] [] w bc bs) ∧ (¬ x3 < (w.1 47 0 x5.toNat) → (((w.1 46 0 x5.toNat) ≤ x2 → am_A (mh_G X) SC (d + 1) mX2_nextWedding Q 93 [(0, .inr (.inr (some (5, 0)))), (1, .inl x1), (2, .inl x2), (3, .inl x3), (4, .inl x4), (5, .inl x5)] [] w bc bs) ∧ (¬ (w.1 46 0 x5.toNat) ≤ x2 → ((x4 ≤ (w.1 46 0 x5.toNat) → am_A (mh_G X) SC (d + 1) mX2_nextWedding Q 93 [(0, .inr (.inr (some (5, 0)))), (1, .inl x1), (2, .inl x2), (3, .inl x3), (4, .inl x4), (5, .inl x5)] [] w bc bs) ∧ (¬ x4 ≤ (w.1 46 0 x5.toNat) → am_A (mh_G X) SC (d + 1) mX2_nextWedding Q 93 [(0, .inr (.inr (some (5, 0)))), (1, .inl x1), (2, .inl x2), (3, .inl x3), (4, .inl (w.1 46 0 x5.toNat)), (5, .inl x5)] [] w bc bs))))))))))) :
    am_A (mh_G X) SC (d + 1) mX2_nextWedding Q 43 [(0, .inr (.inr (some (5, 0)))), (1, .inl x1), (2, .inl x2), (3, .inl x3), (4, .inl x4), (5, .inl x5)] [.inl xs0] w bc bs := by
  refine am_istore (ls' := [(6, .inl xs0), (0, .inr (.inr (some (5, 0)))), (1, .inl x1), (2, .inl x2), (3, .inl x3), (4, .inl x4), (5, .inl x5)]) dX2_nextWedding_43 (by decide) rfl ?_
  refine am_iload dX2_nextWedding_45 (List.Mem.head _) ?_
  refine am_ifeq (tgt := 93) dX2_nextWedding_47 (by decide) (fun c1 => ?_) (fun c1 => ?_)
  · replace h := h.1 c1
    exact am_sub [1, 2, 3, 4, 5, 6] rfl h
  · replace h := h.2 c1
    refine am_aload_n dX2_nextWedding_50 (List.Mem.tail _ (List.Mem.head _)) ?_
    refine am_getf (f := 14) (v := .inr (.inr (some (47, 0)))) dX2_nextWedding_51 hc_5 (by decide) wd_335 (by decide) rfl rfl ?_
    refine am_iload dX2_nextWedding_54 (List.Mem.tail _ (List.Mem.tail _ (List.Mem.tail _ (List.Mem.tail _ (List.Mem.tail _ (List.Mem.tail _ (List.Mem.head _))))))) ?_
    have o2 := h.1
    replace h := h.2
    have o3 := h.1
    replace h := h.2
    refine am_iaload (v := (w.1 47 0 x5.toNat)) dX2_nextWedding_56 (by decide) rfl o2 o3 rfl ?_
    refine am_iload_n dX2_nextWedding_57 (List.Mem.tail _ (List.Mem.tail _ (List.Mem.tail _ (List.Mem.tail _ (List.Mem.head _))))) ?_
    refine am_icmpgt (tgt := 93) dX2_nextWedding_58 (by decide) (fun c4 => ?_) (fun c4 => ?_)
    · replace h := h.1 c4
      exact am_sub [1, 2, 3, 4, 5, 6] rfl h
    · replace h := h.2 c4
      refine am_aload_n dX2_nextWedding_61 (List.Mem.tail _ (List.Mem.head _)) ?_
      refine am_getf (f := 13) (v := .inr (.inr (some (46, 0)))) dX2_nextWedding_62 hc_5 (by decide) wd_334 (by decide) rfl rfl ?_
      refine am_iload dX2_nextWedding_65 (List.Mem.tail _ (List.Mem.tail _ (List.Mem.tail _ (List.Mem.tail _ (List.Mem.tail _ (List.Mem.tail _ (List.Mem.head _))))))) ?_
      refine am_iaload (v := (w.1 46 0 x5.toNat)) dX2_nextWedding_67 (by decide) rfl o2 o3 rfl ?_
      refine am_iload_n dX2_nextWedding_68 (List.Mem.tail _ (List.Mem.tail _ (List.Mem.tail _ (List.Mem.head _)))) ?_
      refine am_icmple (tgt := 93) dX2_nextWedding_69 (by decide) (fun c5 => ?_) (fun c5 => ?_)
      · replace h := h.1 c5
        exact am_sub [1, 2, 3, 4, 5, 6] rfl h
      · replace h := h.2 c5
        refine am_aload_n dX2_nextWedding_72 (List.Mem.tail _ (List.Mem.head _)) ?_
        refine am_getf (f := 13) (v := .inr (.inr (some (46, 0)))) dX2_nextWedding_73 hc_5 (by decide) wd_334 (by decide) rfl rfl ?_
        refine am_iload dX2_nextWedding_76 (List.Mem.tail _ (List.Mem.tail _ (List.Mem.tail _ (List.Mem.tail _ (List.Mem.tail _ (List.Mem.tail _ (List.Mem.head _))))))) ?_
        refine am_iaload (v := (w.1 46 0 x5.toNat)) dX2_nextWedding_78 (by decide) rfl o2 o3 rfl ?_
        refine am_iload dX2_nextWedding_79 (List.Mem.tail _ (List.Mem.tail _ (List.Mem.tail _ (List.Mem.tail _ (List.Mem.tail _ (List.Mem.head _)))))) ?_
        refine am_icmpge (tgt := 93) dX2_nextWedding_81 (by decide) (fun c6 => ?_) (fun c6 => ?_)
        · replace h := h.1 c6
          exact am_sub [1, 2, 3, 4, 5, 6] rfl h
        · replace h := h.2 c6
          refine am_aload_n dX2_nextWedding_84 (List.Mem.tail _ (List.Mem.head _)) ?_
          refine am_getf (f := 13) (v := .inr (.inr (some (46, 0)))) dX2_nextWedding_85 hc_5 (by decide) wd_334 (by decide) rfl rfl ?_
          refine am_iload dX2_nextWedding_88 (List.Mem.tail _ (List.Mem.tail _ (List.Mem.tail _ (List.Mem.tail _ (List.Mem.tail _ (List.Mem.tail _ (List.Mem.head _))))))) ?_
          refine am_iaload (v := (w.1 46 0 x5.toNat)) dX2_nextWedding_90 (by decide) rfl o2 o3 rfl ?_
          refine am_istore (ls' := [(4, .inl (w.1 46 0 x5.toNat)), (6, .inl xs0), (0, .inr (.inr (some (5, 0)))), (1, .inl x1), (2, .inl x2), (3, .inl x3), (5, .inl x5)]) dX2_nextWedding_91 (by decide) rfl ?_
          exact am_sub [2, 3, 4, 5, 0, 6] rfl h
theorem bX2_nextWedding_93 {SC : Nat → Nat} {X : mh_X} {d : Nat} {Q : Option am_V → am_W → Prop} {bc bs : Nat} {w : am_W} {x1 : Int} {x2 : Int} {x3 : Int} {x4 : Int} {x5 : Int}
    (h : am_A (mh_G X) SC (d + 1) mX2_nextWedding Q 7 [(0, .inr (.inr (some (5, 0)))), (1, .inl x1), (2, .inl x2), (3, .inl x3), (4, .inl x4), (5, .inl (am_w (x5 + 1)))] [] w bc bs) :
    am_A (mh_G X) SC (d + 1) mX2_nextWedding Q 93 [(0, .inr (.inr (some (5, 0)))), (1, .inl x1), (2, .inl x2), (3, .inl x3), (4, .inl x4), (5, .inl x5)] [] w bc bs := by
  refine am_iinc (ls' := [(5, .inl (am_w (x5 + 1))), (0, .inr (.inr (some (5, 0)))), (1, .inl x1), (2, .inl x2), (3, .inl x3), (4, .inl x4)]) dX2_nextWedding_93 (List.Mem.tail _ (List.Mem.tail _ (List.Mem.tail _ (List.Mem.tail _ (List.Mem.tail _ (List.Mem.head _)))))) (by decide) rfl ?_
  refine am_goto (tgt := 7) dX2_nextWedding_96 (by decide) ?_
  exact am_sub [1, 2, 3, 4, 5, 0] rfl h
-- MourningHouse$Family.hasChildBorn(IIII)Z
theorem dX2_hasChildBorn_0 : decode mX2_hasChildBorn.2.1 0 = .ok (.iconst 0, 1) := by decide +kernel
theorem dX2_hasChildBorn_1 : decode mX2_hasChildBorn.2.1 1 = .ok (.istore 5, 2) := by decide +kernel
theorem dX2_hasChildBorn_3 : decode mX2_hasChildBorn.2.1 3 = .ok (.iload 5, 2) := by decide +kernel
theorem dX2_hasChildBorn_5 : decode mX2_hasChildBorn.2.1 5 = .ok (.aload_n 0, 1) := by decide +kernel
theorem dX2_hasChildBorn_6 : decode mX2_hasChildBorn.2.1 6 = .ok (.getfield 68, 3) := by decide +kernel
theorem dX2_hasChildBorn_9 : decode mX2_hasChildBorn.2.1 9 = .ok (.if_icmp .ge 73, 3) := by decide +kernel
theorem dX2_hasChildBorn_12 : decode mX2_hasChildBorn.2.1 12 = .ok (.aload_n 0, 1) := by decide +kernel
theorem dX2_hasChildBorn_13 : decode mX2_hasChildBorn.2.1 13 = .ok (.getfield 40, 3) := by decide +kernel
theorem dX2_hasChildBorn_16 : decode mX2_hasChildBorn.2.1 16 = .ok (.iload_n 1, 1) := by decide +kernel
theorem dX2_hasChildBorn_17 : decode mX2_hasChildBorn.2.1 17 = .ok (.laload, 1) := by decide +kernel
theorem dX2_hasChildBorn_18 : decode mX2_hasChildBorn.2.1 18 = .ok (.iload 5, 2) := by decide +kernel
theorem dX2_hasChildBorn_20 : decode mX2_hasChildBorn.2.1 20 = .ok (.lshr, 1) := by decide +kernel
theorem dX2_hasChildBorn_21 : decode mX2_hasChildBorn.2.1 21 = .ok (.lconst 1, 1) := by decide +kernel
theorem dX2_hasChildBorn_22 : decode mX2_hasChildBorn.2.1 22 = .ok (.land, 1) := by decide +kernel
theorem dX2_hasChildBorn_23 : decode mX2_hasChildBorn.2.1 23 = .ok (.lconst 0, 1) := by decide +kernel
theorem dX2_hasChildBorn_24 : decode mX2_hasChildBorn.2.1 24 = .ok (.lcmp, 1) := by decide +kernel
theorem dX2_hasChildBorn_25 : decode mX2_hasChildBorn.2.1 25 = .ok (.ifCond .eq 7, 3) := by decide +kernel
theorem dX2_hasChildBorn_28 : decode mX2_hasChildBorn.2.1 28 = .ok (.iconst 1, 1) := by decide +kernel
theorem dX2_hasChildBorn_29 : decode mX2_hasChildBorn.2.1 29 = .ok (.goto 4, 3) := by decide +kernel
theorem dX2_hasChildBorn_32 : decode mX2_hasChildBorn.2.1 32 = .ok (.iconst 0, 1) := by decide +kernel
theorem dX2_hasChildBorn_33 : decode mX2_hasChildBorn.2.1 33 = .ok (.istore 6, 2) := by decide +kernel
theorem dX2_hasChildBorn_35 : decode mX2_hasChildBorn.2.1 35 = .ok (.iload 6, 2) := by decide +kernel
theorem dX2_hasChildBorn_37 : decode mX2_hasChildBorn.2.1 37 = .ok (.ifCond .eq 39, 3) := by decide +kernel
theorem dX2_hasChildBorn_40 : decode mX2_hasChildBorn.2.1 40 = .ok (.aload_n 0, 1) := by decide +kernel
theorem dX2_hasChildBorn_41 : decode mX2_hasChildBorn.2.1 41 = .ok (.getfield 27, 3) := by decide +kernel
theorem dX2_hasChildBorn_44 : decode mX2_hasChildBorn.2.1 44 = .ok (.iload 5, 2) := by decide +kernel
theorem dX2_hasChildBorn_46 : decode mX2_hasChildBorn.2.1 46 = .ok (.iaload, 1) := by decide +kernel
theorem dX2_hasChildBorn_47 : decode mX2_hasChildBorn.2.1 47 = .ok (.iload 4, 2) := by decide +kernel
theorem dX2_hasChildBorn_49 : decode mX2_hasChildBorn.2.1 49 = .ok (.if_icmp .gt 27, 3) := by decide +kernel
theorem dX2_hasChildBorn_52 : decode mX2_hasChildBorn.2.1 52 = .ok (.aload_n 0, 1) := by decide +kernel
theorem dX2_hasChildBorn_53 : decode mX2_hasChildBorn.2.1 53 = .ok (.getfield 24, 3) := by decide +kernel
theorem dX2_hasChildBorn_56 : decode mX2_hasChildBorn.2.1 56 = .ok (.iload 5, 2) := by decide +kernel
theorem dX2_hasChildBorn_58 : decode mX2_hasChildBorn.2.1 58 = .ok (.iaload, 1) := by decide +kernel
theorem dX2_hasChildBorn_59 : decode mX2_hasChildBorn.2.1 59 = .ok (.iload_n 2, 1) := by decide +kernel
theorem dX2_hasChildBorn_60 : decode mX2_hasChildBorn.2.1 60 = .ok (.if_icmp .lt 16, 3) := by decide +kernel
theorem dX2_hasChildBorn_63 : decode mX2_hasChildBorn.2.1 63 = .ok (.aload_n 0, 1) := by decide +kernel
theorem dX2_hasChildBorn_64 : decode mX2_hasChildBorn.2.1 64 = .ok (.getfield 24, 3) := by decide +kernel
theorem dX2_hasChildBorn_67 : decode mX2_hasChildBorn.2.1 67 = .ok (.iload 5, 2) := by decide +kernel
theorem dX2_hasChildBorn_69 : decode mX2_hasChildBorn.2.1 69 = .ok (.iaload, 1) := by decide +kernel
theorem dX2_hasChildBorn_70 : decode mX2_hasChildBorn.2.1 70 = .ok (.iload_n 3, 1) := by decide +kernel
theorem dX2_hasChildBorn_71 : decode mX2_hasChildBorn.2.1 71 = .ok (.if_icmp .gt 5, 3) := by decide +kernel
theorem dX2_hasChildBorn_74 : decode mX2_hasChildBorn.2.1 74 = .ok (.iconst 1, 1) := by decide +kernel
theorem dX2_hasChildBorn_75 : decode mX2_hasChildBorn.2.1 75 = .ok (.ireturn, 1) := by decide +kernel
theorem dX2_hasChildBorn_76 : decode mX2_hasChildBorn.2.1 76 = .ok (.iinc 5 1, 3) := by decide +kernel
theorem dX2_hasChildBorn_79 : decode mX2_hasChildBorn.2.1 79 = .ok (.goto (-76), 3) := by decide +kernel
theorem dX2_hasChildBorn_82 : decode mX2_hasChildBorn.2.1 82 = .ok (.iconst 0, 1) := by decide +kernel
theorem dX2_hasChildBorn_83 : decode mX2_hasChildBorn.2.1 83 = .ok (.ireturn, 1) := by decide +kernel
theorem bX2_hasChildBorn_0 {SC : Nat → Nat} {X : mh_X} {d : Nat} {Q : Option am_V → am_W → Prop} {bc bs : Nat} {w : am_W} {x1 : Int} {x2 : Int} {x3 : Int} {x4 : Int}
    (h : am_A (mh_G X) SC (d + 1) mX2_hasChildBorn Q 3 [(0, .inr (.inr (some (5, 0)))), (1, .inl x1), (2, .inl x2), (3, .inl x3), (4, .inl x4), (5, .inl 0)] [] w bc bs) :
    am_A (mh_G X) SC (d + 1) mX2_hasChildBorn Q 0 [(0, .inr (.inr (some (5, 0)))), (1, .inl x1), (2, .inl x2), (3, .inl x3), (4, .inl x4)] [] w bc bs := by
  refine am_iconst dX2_hasChildBorn_0 (by unfold am_rg; omega) ?_
  refine am_istore (ls' := [(5, .inl 0), (0, .inr (.inr (some (5, 0)))), (1, .inl x1), (2, .inl x2), (3, .inl x3), (4, .inl x4)]) dX2_hasChildBorn_1 (by decide) rfl ?_
  exact am_sub [1, 2, 3, 4, 5, 0] rfl h
theorem bX2_hasChildBorn_3 {SC : Nat → Nat} {X : mh_X} {d : Nat} {Q : Option am_V → am_W → Prop} {bc bs : Nat} {w : am_W} {x1 : Int} {x2 : Int} {x3 : Int} {x4 : Int} {x5 : Int}
    (h : (((w.1 5 0 18) ≤ x5 → Q (some (.inl 0)) w) ∧ (¬ (w.1 5 0 18) ≤ x5 → (0 ≤ x1 ∧ (x1 < 40 ∧ (((am_lcmpv (((w.2.1 42 0 x1.toNat) >>> ((Int32.ofInt x5).toInt64 &&& 63)) &&& (1 : Int64)) (0 : Int64)) = 0 → am_A (mh_G X) SC (d + 1) mX2_hasChildBorn Q 33 [(0, .inr (.inr (some (5, 0)))), (1, .inl x1), (2, .inl x2), (3, .inl x3), (4, .inl x4), (5, .inl x5)] [.inl 0] w bc bs) ∧ (¬ (am_lcmpv (((w.2.1 42 0 x1.toNat) >>> ((Int32.ofInt x5).toInt64 &&& 63)) &&& (1 : Int64)) (0 : Int64)) = 0 → am_A (mh_G X) SC (d + 1) mX2_hasChildBorn Q 33 [(0, .inr (.inr (some (5, 0)))), (1, .inl x1), (2, .inl x2), (3, .inl x3), (4, .inl x4), (5, .inl x5)] [.inl 1] w bc bs))))))) :
    am_A (mh_G X) SC (d + 1) mX2_hasChildBorn Q 3 [(0, .inr (.inr (some (5, 0)))), (1, .inl x1), (2, .inl x2), (3, .inl x3), (4, .inl x4), (5, .inl x5)] [] w bc bs := by
  refine am_iload dX2_hasChildBorn_3 (List.Mem.tail _ (List.Mem.tail _ (List.Mem.tail _ (List.Mem.tail _ (List.Mem.tail _ (List.Mem.head _)))))) ?_
  refine am_aload_n dX2_hasChildBorn_5 (List.Mem.head _) ?_
  refine am_getf (f := 18) (v := .inl (w.1 5 0 18)) dX2_hasChildBorn_6 hc_5 (by decide) wd_339 (by decide) rfl rfl ?_
  refine am_icmpge (tgt := 82) dX2_hasChildBorn_9 (by decide) (fun c1 => ?_) (fun c1 => ?_)
  · replace h := h.1 c1
    refine am_iconst dX2_hasChildBorn_82 (by unfold am_rg; omega) ?_
    exact am_ret (r := some (.inl 0)) dX2_hasChildBorn_83 (Or.inr (Or.inl ⟨rfl, (Or.inl rfl)⟩)) rfl h
  · replace h := h.2 c1
    refine am_aload_n dX2_hasChildBorn_12 (List.Mem.head _) ?_
    refine am_getf (f := 9) (v := .inr (.inr (some (42, 0)))) dX2_hasChildBorn_13 hc_5 (by decide) wd_330 (by decide) rfl rfl ?_
    refine am_iload_n dX2_hasChildBorn_16 (List.Mem.tail _ (List.Mem.head _)) ?_
    have o2 := h.1
    replace h := h.2
    have o3 := h.1
    replace h := h.2
    refine am_laload (x := (w.2.1 42 0 x1.toNat)) dX2_hasChildBorn_17 (by decide) rfl o2 o3 rfl ?_
    refine am_iload dX2_hasChildBorn_18 (List.Mem.tail _ (List.Mem.tail _ (List.Mem.tail _ (List.Mem.tail _ (List.Mem.tail _ (List.Mem.head _)))))) ?_
    refine am_lshr dX2_hasChildBorn_20 ?_
    refine am_lconst (x := 1) dX2_hasChildBorn_21 rfl ?_
    refine am_land dX2_hasChildBorn_22 ?_
    refine am_lconst (x := 0) dX2_hasChildBorn_23 rfl ?_
    refine am_lcmp dX2_hasChildBorn_24 ?_
    refine am_ifeq (tgt := 32) dX2_hasChildBorn_25 (by decide) (fun c4 => ?_) (fun c4 => ?_)
    · replace h := h.1 c4
      refine am_iconst dX2_hasChildBorn_32 (by unfold am_rg; omega) ?_
      exact h
    · replace h := h.2 c4
      refine am_iconst dX2_hasChildBorn_28 (by unfold am_rg; omega) ?_
      refine am_goto (tgt := 33) dX2_hasChildBorn_29 (by decide) ?_
      exact h
theorem bX2_hasChildBorn_33 {SC : Nat → Nat} {X : mh_X} {d : Nat} {Q : Option am_V → am_W → Prop} {bc bs : Nat} {w : am_W} {x1 : Int} {x2 : Int} {x3 : Int} {x4 : Int} {x5 : Int} {xs0 : Int}
    (h : ((xs0 = 0 → am_A (mh_G X) SC (d + 1) mX2_hasChildBorn Q 76 [(0, .inr (.inr (some (5, 0)))), (1, .inl x1), (2, .inl x2), (3, .inl x3), (4, .inl x4), (5, .inl x5)] [] w bc bs) ∧ (¬ xs0 = 0 → (0 ≤ x5 ∧ (x5 < 40 ∧ ((x4 < (w.1 38 0 x5.toNat) → am_A (mh_G X) SC (d + 1) mX2_hasChildBorn Q 76 [(0, .inr (.inr (some (5, 0)))), (1, .inl x1), (2, .inl x2), (3, .inl x3), (4, .inl x4), (5, .inl x5)] [] w bc bs) ∧ (¬ x4 < (w.1 38 0 x5.toNat) → (((w.1 37 0 x5.toNat) < x2 → am_A (mh_G X) SC (d + 1) mX2_hasChildBorn Q 76 [(0, .inr (.inr (some (5, 0)))), (1, .inl x1), (2, .inl x2), (3, .inl x3), (4, .inl x4), (5, .inl x5)] [] w bc bs) ∧ (¬ (w.1 37 0 x5.toNat) < x2 → ((x3 < (w.1 37 0 x5.toNat) → am_A (mh_G X) SC (d + 1) mX2_hasChildBorn Q 76 [(0, .inr (.inr (some (5, 0)))), (1, .inl x1), (2, .inl x2), (3, .inl x3), (4, .inl x4), (5, .inl x5)] [] w bc bs) ∧ (¬ x3 < (w.1 37 0 x5.toNat) → Q (some (.inl 1)) w))))))))))) :
    am_A (mh_G X) SC (d + 1) mX2_hasChildBorn Q 33 [(0, .inr (.inr (some (5, 0)))), (1, .inl x1), (2, .inl x2), (3, .inl x3), (4, .inl x4), (5, .inl x5)] [.inl xs0] w bc bs := by
  refine am_istore (ls' := [(6, .inl xs0), (0, .inr (.inr (some (5, 0)))), (1, .inl x1), (2, .inl x2), (3, .inl x3), (4, .inl x4), (5, .inl x5)]) dX2_hasChildBorn_33 (by decide) rfl ?_
  refine am_iload dX2_hasChildBorn_35 (List.Mem.head _) ?_
  refine am_ifeq (tgt := 76) dX2_hasChildBorn_37 (by decide) (fun c1 => ?_) (fun c1 => ?_)
  · replace h := h.1 c1
    exact am_sub [1, 2, 3, 4, 5, 6] rfl h
  · replace h := h.2 c1
    refine am_aload_n dX2_hasChildBorn_40 (List.Mem.tail _ (List.Mem.head _)) ?_
    refine am_getf (f := 5) (v := .inr (.inr (some (38, 0)))) dX2_hasChildBorn_41 hc_5 (by decide) wd_323 (by decide) rfl rfl ?_
    refine am_iload dX2_hasChildBorn_44 (List.Mem.tail _ (List.Mem.tail _ (List.Mem.tail _ (List.Mem.tail _ (List.Mem.tail _ (List.Mem.tail _ (List.Mem.head _))))))) ?_
    have o2 := h.1
    replace h := h.2
    have o3 := h.1
    replace h := h.2
    refine am_iaload (v := (w.1 38 0 x5.toNat)) dX2_hasChildBorn_46 (by decide) rfl o2 o3 rfl ?_
    refine am_iload dX2_hasChildBorn_47 (List.Mem.tail _ (List.Mem.tail _ (List.Mem.tail _ (List.Mem.tail _ (List.Mem.tail _ (List.Mem.head _)))))) ?_
    refine am_icmpgt (tgt := 76) dX2_hasChildBorn_49 (by decide) (fun c4 => ?_) (fun c4 => ?_)
    · replace h := h.1 c4
      exact am_sub [1, 2, 3, 4, 5, 6] rfl h
    · replace h := h.2 c4
      refine am_aload_n dX2_hasChildBorn_52 (List.Mem.tail _ (List.Mem.head _)) ?_
      refine am_getf (f := 4) (v := .inr (.inr (some (37, 0)))) dX2_hasChildBorn_53 hc_5 (by decide) wd_320 (by decide) rfl rfl ?_
      refine am_iload dX2_hasChildBorn_56 (List.Mem.tail _ (List.Mem.tail _ (List.Mem.tail _ (List.Mem.tail _ (List.Mem.tail _ (List.Mem.tail _ (List.Mem.head _))))))) ?_
      refine am_iaload (v := (w.1 37 0 x5.toNat)) dX2_hasChildBorn_58 (by decide) rfl o2 o3 rfl ?_
      refine am_iload_n dX2_hasChildBorn_59 (List.Mem.tail _ (List.Mem.tail _ (List.Mem.tail _ (List.Mem.head _)))) ?_
      refine am_icmplt (tgt := 76) dX2_hasChildBorn_60 (by decide) (fun c5 => ?_) (fun c5 => ?_)
      · replace h := h.1 c5
        exact am_sub [1, 2, 3, 4, 5, 6] rfl h
      · replace h := h.2 c5
        refine am_aload_n dX2_hasChildBorn_63 (List.Mem.tail _ (List.Mem.head _)) ?_
        refine am_getf (f := 4) (v := .inr (.inr (some (37, 0)))) dX2_hasChildBorn_64 hc_5 (by decide) wd_320 (by decide) rfl rfl ?_
        refine am_iload dX2_hasChildBorn_67 (List.Mem.tail _ (List.Mem.tail _ (List.Mem.tail _ (List.Mem.tail _ (List.Mem.tail _ (List.Mem.tail _ (List.Mem.head _))))))) ?_
        refine am_iaload (v := (w.1 37 0 x5.toNat)) dX2_hasChildBorn_69 (by decide) rfl o2 o3 rfl ?_
        refine am_iload_n dX2_hasChildBorn_70 (List.Mem.tail _ (List.Mem.tail _ (List.Mem.tail _ (List.Mem.tail _ (List.Mem.head _))))) ?_
        refine am_icmpgt (tgt := 76) dX2_hasChildBorn_71 (by decide) (fun c6 => ?_) (fun c6 => ?_)
        · replace h := h.1 c6
          exact am_sub [1, 2, 3, 4, 5, 6] rfl h
        · replace h := h.2 c6
          refine am_iconst dX2_hasChildBorn_74 (by unfold am_rg; omega) ?_
          exact am_ret (r := some (.inl 1)) dX2_hasChildBorn_75 (Or.inr (Or.inl ⟨rfl, (Or.inr rfl)⟩)) rfl h
theorem bX2_hasChildBorn_76 {SC : Nat → Nat} {X : mh_X} {d : Nat} {Q : Option am_V → am_W → Prop} {bc bs : Nat} {w : am_W} {x1 : Int} {x2 : Int} {x3 : Int} {x4 : Int} {x5 : Int}
    (h : am_A (mh_G X) SC (d + 1) mX2_hasChildBorn Q 3 [(0, .inr (.inr (some (5, 0)))), (1, .inl x1), (2, .inl x2), (3, .inl x3), (4, .inl x4), (5, .inl (am_w (x5 + 1)))] [] w bc bs) :
    am_A (mh_G X) SC (d + 1) mX2_hasChildBorn Q 76 [(0, .inr (.inr (some (5, 0)))), (1, .inl x1), (2, .inl x2), (3, .inl x3), (4, .inl x4), (5, .inl x5)] [] w bc bs := by
  refine am_iinc (ls' := [(5, .inl (am_w (x5 + 1))), (0, .inr (.inr (some (5, 0)))), (1, .inl x1), (2, .inl x2), (3, .inl x3), (4, .inl x4)]) dX2_hasChildBorn_76 (List.Mem.tail _ (List.Mem.tail _ (List.Mem.tail _ (List.Mem.tail _ (List.Mem.tail _ (List.Mem.head _)))))) (by decide) rfl ?_
  refine am_goto (tgt := 3) dX2_hasChildBorn_79 (by decide) ?_
  exact am_sub [1, 2, 3, 4, 5, 0] rfl h
-- MourningHouse$Family.gather(II)V
theorem dX2_gather_0 : decode mX2_gather.2.1 0 = .ok (.aload_n 0, 1) := by decide +kernel
theorem dX2_gather_1 : decode mX2_gather.2.1 1 = .ok (.lconst 0, 1) := by decide +kernel
theorem dX2_gather_2 : decode mX2_gather.2.1 2 = .ok (.putfield 65, 3) := by decide +kernel
theorem dX2_gather_5 : decode mX2_gather.2.1 5 = .ok (.iconst 0, 1) := by decide +kernel
theorem dX2_gather_6 : decode mX2_gather.2.1 6 = .ok (.istore_n 3, 1) := by decide +kernel
theorem dX2_gather_7 : decode mX2_gather.2.1 7 = .ok (.iload_n 3, 1) := by decide +kernel
theorem dX2_gather_8 : decode mX2_gather.2.1 8 = .ok (.aload_n 0, 1) := by decide +kernel
theorem dX2_gather_9 : decode mX2_gather.2.1 9 = .ok (.getfield 68, 3) := by decide +kernel
theorem dX2_gather_12 : decode mX2_gather.2.1 12 = .ok (.if_icmp .ge 38, 3) := by decide +kernel
theorem dX2_gather_15 : decode mX2_gather.2.1 15 = .ok (.aload_n 0, 1) := by decide +kernel
theorem dX2_gather_16 : decode mX2_gather.2.1 16 = .ok (.getfield 58, 3) := by decide +kernel
theorem dX2_gather_19 : decode mX2_gather.2.1 19 = .ok (.iload_n 3, 1) := by decide +kernel
theorem dX2_gather_20 : decode mX2_gather.2.1 20 = .ok (.lconst 0, 1) := by decide +kernel
theorem dX2_gather_21 : decode mX2_gather.2.1 21 = .ok (.lastore, 1) := by decide +kernel
theorem dX2_gather_22 : decode mX2_gather.2.1 22 = .ok (.aload_n 0, 1) := by decide +kernel
theorem dX2_gather_23 : decode mX2_gather.2.1 23 = .ok (.getfield 27, 3) := by decide +kernel
theorem dX2_gather_26 : decode mX2_gather.2.1 26 = .ok (.iload_n 3, 1) := by decide +kernel
theorem dX2_gather_27 : decode mX2_gather.2.1 27 = .ok (.iaload, 1) := by decide +kernel
theorem dX2_gather_28 : decode mX2_gather.2.1 28 = .ok (.iload_n 2, 1) := by decide +kernel
theorem dX2_gather_29 : decode mX2_gather.2.1 29 = .ok (.if_icmp .gt 15, 3) := by decide +kernel
theorem dX2_gather_32 : decode mX2_gather.2.1 32 = .ok (.aload_n 0, 1) := by decide +kernel
theorem dX2_gather_33 : decode mX2_gather.2.1 33 = .ok (.dup, 1) := by decide +kernel
theorem dX2_gather_34 : decode mX2_gather.2.1 34 = .ok (.getfield 65, 3) := by decide +kernel
theorem dX2_gather_37 : decode mX2_gather.2.1 37 = .ok (.lconst 1, 1) := by decide +kernel
theorem dX2_gather_38 : decode mX2_gather.2.1 38 = .ok (.iload_n 3, 1) := by decide +kernel
theorem dX2_gather_39 : decode mX2_gather.2.1 39 = .ok (.lshl, 1) := by decide +kernel
theorem dX2_gather_40 : decode mX2_gather.2.1 40 = .ok (.lor, 1) := by decide +kernel
theorem dX2_gather_41 : decode mX2_gather.2.1 41 = .ok (.putfield 65, 3) := by decide +kernel
theorem dX2_gather_44 : decode mX2_gather.2.1 44 = .ok (.iinc 3 1, 3) := by decide +kernel
theorem dX2_gather_47 : decode mX2_gather.2.1 47 = .ok (.goto (-40), 3) := by decide +kernel
theorem dX2_gather_50 : decode mX2_gather.2.1 50 = .ok (.iconst 0, 1) := by decide +kernel
theorem dX2_gather_51 : decode mX2_gather.2.1 51 = .ok (.istore_n 3, 1) := by decide +kernel
theorem dX2_gather_52 : decode mX2_gather.2.1 52 = .ok (.iload_n 3, 1) := by decide +kernel
theorem dX2_gather_53 : decode mX2_gather.2.1 53 = .ok (.aload_n 0, 1) := by decide +kernel
theorem dX2_gather_54 : decode mX2_gather.2.1 54 = .ok (.getfield 72, 3) := by decide +kernel
theorem dX2_gather_57 : decode mX2_gather.2.1 57 = .ok (.if_icmp .ge 73, 3) := by decide +kernel
theorem dX2_gather_60 : decode mX2_gather.2.1 60 = .ok (.aload_n 0, 1) := by decide +kernel
theorem dX2_gather_61 : decode mX2_gather.2.1 61 = .ok (.getfield 55, 3) := by decide +kernel
theorem dX2_gather_64 : decode mX2_gather.2.1 64 = .ok (.iload_n 3, 1) := by decide +kernel
theorem dX2_gather_65 : decode mX2_gather.2.1 65 = .ok (.iaload, 1) := by decide +kernel
theorem dX2_gather_66 : decode mX2_gather.2.1 66 = .ok (.iload_n 2, 1) := by decide +kernel
theorem dX2_gather_67 : decode mX2_gather.2.1 67 = .ok (.if_icmp .gt 57, 3) := by decide +kernel
theorem dX2_gather_70 : decode mX2_gather.2.1 70 = .ok (.aload_n 0, 1) := by decide +kernel
theorem dX2_gather_71 : decode mX2_gather.2.1 71 = .ok (.getfield 52, 3) := by decide +kernel
theorem dX2_gather_74 : decode mX2_gather.2.1 74 = .ok (.iload_n 3, 1) := by decide +kernel
theorem dX2_gather_75 : decode mX2_gather.2.1 75 = .ok (.iaload, 1) := by decide +kernel
theorem dX2_gather_76 : decode mX2_gather.2.1 76 = .ok (.iload_n 1, 1) := by decide +kernel
theorem dX2_gather_77 : decode mX2_gather.2.1 77 = .ok (.if_icmp .gt 47, 3) := by decide +kernel
theorem dX2_gather_80 : decode mX2_gather.2.1 80 = .ok (.aload_n 0, 1) := by decide +kernel
theorem dX2_gather_81 : decode mX2_gather.2.1 81 = .ok (.getfield 58, 3) := by decide +kernel
theorem dX2_gather_84 : decode mX2_gather.2.1 84 = .ok (.aload_n 0, 1) := by decide +kernel
theorem dX2_gather_85 : decode mX2_gather.2.1 85 = .ok (.getfield 46, 3) := by decide +kernel
theorem dX2_gather_88 : decode mX2_gather.2.1 88 = .ok (.iload_n 3, 1) := by decide +kernel
theorem dX2_gather_89 : decode mX2_gather.2.1 89 = .ok (.iaload, 1) := by decide +kernel
theorem dX2_gather_90 : decode mX2_gather.2.1 90 = .ok (.dup2, 1) := by decide +kernel
theorem dX2_gather_91 : decode mX2_gather.2.1 91 = .ok (.laload, 1) := by decide +kernel
theorem dX2_gather_92 : decode mX2_gather.2.1 92 = .ok (.lconst 1, 1) := by decide +kernel
theorem dX2_gather_93 : decode mX2_gather.2.1 93 = .ok (.aload_n 0, 1) := by decide +kernel
theorem dX2_gather_94 : decode mX2_gather.2.1 94 = .ok (.getfield 49, 3) := by decide +kernel
theorem dX2_gather_97 : decode mX2_gather.2.1 97 = .ok (.iload_n 3, 1) := by decide +kernel
theorem dX2_gather_98 : decode mX2_gather.2.1 98 = .ok (.iaload, 1) := by decide +kernel
theorem dX2_gather_99 : decode mX2_gather.2.1 99 = .ok (.lshl, 1) := by decide +kernel
theorem dX2_gather_100 : decode mX2_gather.2.1 100 = .ok (.lor, 1) := by decide +kernel
theorem dX2_gather_101 : decode mX2_gather.2.1 101 = .ok (.lastore, 1) := by decide +kernel
theorem dX2_gather_102 : decode mX2_gather.2.1 102 = .ok (.aload_n 0, 1) := by decide +kernel
theorem dX2_gather_103 : decode mX2_gather.2.1 103 = .ok (.getfield 58, 3) := by decide +kernel
theorem dX2_gather_106 : decode mX2_gather.2.1 106 = .ok (.aload_n 0, 1) := by decide +kernel
theorem dX2_gather_107 : decode mX2_gather.2.1 107 = .ok (.getfield 49, 3) := by decide +kernel
theorem dX2_gather_110 : decode mX2_gather.2.1 110 = .ok (.iload_n 3, 1) := by decide +kernel
theorem dX2_gather_111 : decode mX2_gather.2.1 111 = .ok (.iaload, 1) := by decide +kernel
theorem dX2_gather_112 : decode mX2_gather.2.1 112 = .ok (.dup2, 1) := by decide +kernel
theorem dX2_gather_113 : decode mX2_gather.2.1 113 = .ok (.laload, 1) := by decide +kernel
theorem dX2_gather_114 : decode mX2_gather.2.1 114 = .ok (.lconst 1, 1) := by decide +kernel
theorem dX2_gather_115 : decode mX2_gather.2.1 115 = .ok (.aload_n 0, 1) := by decide +kernel
theorem dX2_gather_116 : decode mX2_gather.2.1 116 = .ok (.getfield 46, 3) := by decide +kernel
theorem dX2_gather_119 : decode mX2_gather.2.1 119 = .ok (.iload_n 3, 1) := by decide +kernel
theorem dX2_gather_120 : decode mX2_gather.2.1 120 = .ok (.iaload, 1) := by decide +kernel
theorem dX2_gather_121 : decode mX2_gather.2.1 121 = .ok (.lshl, 1) := by decide +kernel
theorem dX2_gather_122 : decode mX2_gather.2.1 122 = .ok (.lor, 1) := by decide +kernel
theorem dX2_gather_123 : decode mX2_gather.2.1 123 = .ok (.lastore, 1) := by decide +kernel
theorem dX2_gather_124 : decode mX2_gather.2.1 124 = .ok (.iinc 3 1, 3) := by decide +kernel
theorem dX2_gather_127 : decode mX2_gather.2.1 127 = .ok (.goto (-75), 3) := by decide +kernel
theorem dX2_gather_130 : decode mX2_gather.2.1 130 = .ok (.return_, 1) := by decide +kernel
theorem bX2_gather_0 {SC : Nat → Nat} {X : mh_X} {d : Nat} {Q : Option am_V → am_W → Prop} {bc bs : Nat} {w : am_W} {x1 : Int} {x2 : Int}
    (h : am_A (mh_G X) SC (d + 1) mX2_gather Q 7 [(0, .inr (.inr (some (5, 0)))), (1, .inl x1), (2, .inl x2), (3, .inl 0)] [] (w.1, (am_up w.2.1 5 0 17 (0 : Int64)), w.2.2) bc bs) :
    am_A (mh_G X) SC (d + 1) mX2_gather Q 0 [(0, .inr (.inr (some (5, 0)))), (1, .inl x1), (2, .inl x2)] [] w bc bs := by
  refine am_aload_n dX2_gather_0 (List.Mem.head _) ?_
  refine am_lconst (x := 0) dX2_gather_1 rfl ?_
  refine am_putl (f := 17) dX2_gather_2 hc_5 (by decide) wd_338 rfl rfl (Or.inl (by decide)) rfl ?_
  refine am_iconst dX2_gather_5 (by unfold am_rg; omega) ?_
  refine am_istore_n (ls' := [(3, .inl 0), (0, .inr (.inr (some (5, 0)))), (1, .inl x1), (2, .inl x2)]) dX2_gather_6 (by decide) rfl ?_
  exact am_sub [1, 2, 3, 0] rfl h
theorem bX2_gather_7 {SC : Nat → Nat} {X : mh_X} {d : Nat} {Q : Option am_V → am_W → Prop} {bc bs : Nat} {w : am_W} {x1 : Int} {x2 : Int} {x3 : Int}
    (h : (((w.1 5 0 18) ≤ x3 → am_A (mh_G X) SC (d + 1) mX2_gather Q 52 [(0, .inr (.inr (some (5, 0)))), (1, .inl x1), (2, .inl x2), (3, .inl 0)] [] w bc bs) ∧ (¬ (w.1 5 0 18) ≤ x3 → (0 ≤ x3 ∧ (x3 < 40 ∧ ((x2 < (w.1 38 0 x3.toNat) → am_A (mh_G X) SC (d + 1) mX2_gather Q 44 [(0, .inr (.inr (some (5, 0)))), (1, .inl x1), (2, .inl x2), (3, .inl x3)] [] (w.1, (am_up w.2.1 48 0 x3.toNat (0 : Int64)), w.2.2) bc bs) ∧ (¬ x2 < (w.1 38 0 x3.toNat) → am_A (mh_G X) SC (d + 1) mX2_gather Q 44 [(0, .inr (.inr (some (5, 0)))), (1, .inl x1), (2, .inl x2), (3, .inl x3)] [] (w.1, (am_up (am_up w.2.1 48 0 x3.toNat (0 : Int64)) 5 0 17 ((w.2.1 5 0 17) ||| ((1 : Int64) <<< ((Int32.ofInt x3).toInt64 &&& 63)))), w.2.2) bc bs))))))) :
    am_A (mh_G X) SC (d + 1) mX2_gather Q 7 [(0, .inr (.inr (some (5, 0)))), (1, .inl x1), (2, .inl x2), (3, .inl x3)] [] w bc bs := by
  refine am_iload_n dX2_gather_7 (List.Mem.tail _ (List.Mem.tail _ (List.Mem.tail _ (List.Mem.head _)))) ?_
  refine am_aload_n dX2_gather_8 (List.Mem.head _) ?_
  refine am_getf (f := 18) (v := .inl (w.1 5 0 18)) dX2_gather_9 hc_5 (by decide) wd_339 (by decide) rfl rfl ?_
  refine am_icmpge (tgt := 50) dX2_gather_12 (by decide) (fun c1 => ?_) (fun c1 => ?_)
  · replace h := h.1 c1
    refine am_iconst dX2_gather_50 (by unfold am_rg; omega) ?_
    refine am_istore_n (ls' := [(3, .inl 0), (0, .inr (.inr (some (5, 0)))), (1, .inl x1), (2, .inl x2)]) dX2_gather_51 (by decide) rfl ?_
    exact am_sub [1, 2, 3, 0] rfl h
  · replace h := h.2 c1
    refine am_aload_n dX2_gather_15 (List.Mem.head _) ?_
    refine am_getf (f := 15) (v := .inr (.inr (some (48, 0)))) dX2_gather_16 hc_5 (by decide) wd_336 (by decide) rfl rfl ?_
    refine am_iload_n dX2_gather_19 (List.Mem.tail _ (List.Mem.tail _ (List.Mem.tail _ (List.Mem.head _)))) ?_
    refine am_lconst (x := 0) dX2_gather_20 rfl ?_
    have o2 := h.1
    replace h := h.2
    have o3 := h.1
    replace h := h.2
    refine am_lastore dX2_gather_21 (Or.inl (by decide)) rfl o2 o3 ?_
    refine am_aload_n dX2_gather_22 (List.Mem.head _) ?_
    refine am_getf (f := 5) (v := .inr (.inr (some (38, 0)))) dX2_gather_23 hc_5 (by decide) wd_323 (by decide) rfl rfl ?_
    refine am_iload_n dX2_gather_26 (List.Mem.tail _ (List.Mem.tail _ (List.Mem.tail _ (List.Mem.head _)))) ?_
    refine am_iaload (v := (w.1 38 0 x3.toNat)) dX2_gather_27 (by decide) rfl o2 o3 rfl ?_
    refine am_iload_n dX2_gather_28 (List.Mem.tail _ (List.Mem.tail _ (List.Mem.head _))) ?_
    refine am_icmpgt (tgt := 44) dX2_gather_29 (by decide) (fun c4 => ?_) (fun c4 => ?_)
    · replace h := h.1 c4
      exact h
    · replace h := h.2 c4
      refine am_aload_n dX2_gather_32 (List.Mem.head _) ?_
      refine am_dup dX2_gather_33 rfl ?_
      refine am_getf (f := 17) (v := .inr (.inl (w.2.1 5 0 17))) dX2_gather_34 hc_5 (by decide) wd_338 (by decide) rfl rfl ?_
      refine am_lconst (x := 1) dX2_gather_37 rfl ?_
      refine am_iload_n dX2_gather_38 (List.Mem.tail _ (List.Mem.tail _ (List.Mem.tail _ (List.Mem.head _)))) ?_
      refine am_lshl dX2_gather_39 ?_
      refine am_lor dX2_gather_40 ?_
      refine am_putl (f := 17) dX2_gather_41 hc_5 (by decide) wd_338 rfl rfl (Or.inl (by decide)) rfl ?_
      exact h
theorem bX2_gather_52 {SC : Nat → Nat} {X : mh_X} {d : Nat} {Q : Option am_V → am_W → Prop} {bc bs : Nat} {w : am_W} {x1 : Int} {x2 : Int} {x3 : Int}
    (h : (((w.1 5 0 19) ≤ x3 → Q none w) ∧ (¬ (w.1 5 0 19) ≤ x3 → (0 ≤ x3 ∧ (x3 < 40 ∧ ((x2 < (w.1 47 0 x3.toNat) → am_A (mh_G X) SC (d + 1) mX2_gather Q 124 [(0, .inr (.inr (some (5, 0)))), (1, .inl x1), (2, .inl x2), (3, .inl x3)] [] w bc bs) ∧ (¬ x2 < (w.1 47 0 x3.toNat) → ((x1 < (w.1 46 0 x3.toNat) → am_A (mh_G X) SC (d + 1) mX2_gather Q 124 [(0, .inr (.inr (some (5, 0)))), (1, .inl x1), (2, .inl x2), (3, .inl x3)] [] w bc bs) ∧ (¬ x1 < (w.1 46 0 x3.toNat) → (0 ≤ (w.1 44 0 x3.toNat) ∧ ((w.1 44 0 x3.toNat) < 40 ∧ (0 ≤ (w.1 45 0 x3.toNat) ∧ ((w.1 45 0 x3.toNat) < 40 ∧ am_A (mh_G X) SC (d + 1) mX2_gather Q 124 [(0, .inr (.inr (some (5, 0)))), (1, .inl x1), (2, .inl x2), (3, .inl x3)] [] (w.1, (am_up (am_up w.2.1 48 0 (w.1 44 0 x3.toNat).toNat ((w.2.1 48 0 (w.1 44 0 x3.toNat).toNat) ||| ((1 : Int64) <<< ((Int32.ofInt (w.1 45 0 x3.toNat)).toInt64 &&& 63)))) 48 0 (w.1 45 0 x3.toNat).toNat (((am_up w.2.1 48 0 (w.1 44 0 x3.toNat).toNat ((w.2.1 48 0 (w.1 44 0 x3.toNat).toNat) ||| ((1 : Int64) <<< ((Int32.ofInt (w.1 45 0 x3.toNat)).toInt64 &&& 63)))) 48 0 (w.1 45 0 x3.toNat).toNat) ||| ((1 : Int64) <<< ((Int32.ofInt (w.1 44 0 x3.toNat)).toInt64 &&& 63)))), w.2.2) bc bs))))))))))))) :
    am_A (mh_G X) SC (d + 1) mX2_gather Q 52 [(0, .inr (.inr (some (5, 0)))), (1, .inl x1), (2, .inl x2), (3, .inl x3)] [] w bc bs := by
  refine am_iload_n dX2_gather_52 (List.Mem.tail _ (List.Mem.tail _ (List.Mem.tail _ (List.Mem.head _)))) ?_
  refine am_aload_n dX2_gather_53 (List.Mem.head _) ?_
  refine am_getf (f := 19) (v := .inl (w.1 5 0 19)) dX2_gather_54 hc_5 (by decide) wd_342 (by decide) rfl rfl ?_
  refine am_icmpge (tgt := 130) dX2_gather_57 (by decide) (fun c1 => ?_) (fun c1 => ?_)
  · replace h := h.1 c1
    exact am_ret (r := none) dX2_gather_130 rfl rfl h
  · replace h := h.2 c1
    refine am_aload_n dX2_gather_60 (List.Mem.head _) ?_
    refine am_getf (f := 14) (v := .inr (.inr (some (47, 0)))) dX2_gather_61 hc_5 (by decide) wd_335 (by decide) rfl rfl ?_
    refine am_iload_n dX2_gather_64 (List.Mem.tail _ (List.Mem.tail _ (List.Mem.tail _ (List.Mem.head _)))) ?_
    have o2 := h.1
    replace h := h.2
    have o3 := h.1
    replace h := h.2
    refine am_iaload (v := (w.1 47 0 x3.toNat)) dX2_gather_65 (by decide) rfl o2 o3 rfl ?_
    refine am_iload_n dX2_gather_66 (List.Mem.tail _ (List.Mem.tail _ (List.Mem.head _))) ?_
    refine am_icmpgt (tgt := 124) dX2_gather_67 (by decide) (fun c4 => ?_) (fun c4 => ?_)
    · replace h := h.1 c4
      exact h
    · replace h := h.2 c4
      refine am_aload_n dX2_gather_70 (List.Mem.head _) ?_
      refine am_getf (f := 13) (v := .inr (.inr (some (46, 0)))) dX2_gather_71 hc_5 (by decide) wd_334 (by decide) rfl rfl ?_
      refine am_iload_n dX2_gather_74 (List.Mem.tail _ (List.Mem.tail _ (List.Mem.tail _ (List.Mem.head _)))) ?_
      refine am_iaload (v := (w.1 46 0 x3.toNat)) dX2_gather_75 (by decide) rfl o2 o3 rfl ?_
      refine am_iload_n dX2_gather_76 (List.Mem.tail _ (List.Mem.head _)) ?_
      refine am_icmpgt (tgt := 124) dX2_gather_77 (by decide) (fun c5 => ?_) (fun c5 => ?_)
      · replace h := h.1 c5
        exact h
      · replace h := h.2 c5
        refine am_aload_n dX2_gather_80 (List.Mem.head _) ?_
        refine am_getf (f := 15) (v := .inr (.inr (some (48, 0)))) dX2_gather_81 hc_5 (by decide) wd_336 (by decide) rfl rfl ?_
        refine am_aload_n dX2_gather_84 (List.Mem.head _) ?_
        refine am_getf (f := 11) (v := .inr (.inr (some (44, 0)))) dX2_gather_85 hc_5 (by decide) wd_332 (by decide) rfl rfl ?_
        refine am_iload_n dX2_gather_88 (List.Mem.tail _ (List.Mem.tail _ (List.Mem.tail _ (List.Mem.head _)))) ?_
        refine am_iaload (v := (w.1 44 0 x3.toNat)) dX2_gather_89 (by decide) rfl o2 o3 rfl ?_
        refine am_dup2 dX2_gather_90 rfl rfl ?_
        have o6 := h.1
        replace h := h.2
        have o7 := h.1
        replace h := h.2
        refine am_laload (x := (w.2.1 48 0 (w.1 44 0 x3.toNat).toNat)) dX2_gather_91 (by decide) rfl o6 o7 rfl ?_
        refine am_lconst (x := 1) dX2_gather_92 rfl ?_
        refine am_aload_n dX2_gather_93 (List.Mem.head _) ?_
        refine am_getf (f := 12) (v := .inr (.inr (some (45, 0)))) dX2_gather_94 hc_5 (by decide) wd_333 (by decide) rfl rfl ?_
        refine am_iload_n dX2_gather_97 (List.Mem.tail _ (List.Mem.tail _ (List.Mem.tail _ (List.Mem.head _)))) ?_
        refine am_iaload (v := (w.1 45 0 x3.toNat)) dX2_gather_98 (by decide) rfl o2 o3 rfl ?_
        refine am_lshl dX2_gather_99 ?_
        refine am_lor dX2_gather_100 ?_
        refine am_lastore dX2_gather_101 (Or.inl (by decide)) rfl o6 o7 ?_
        refine am_aload_n dX2_gather_102 (List.Mem.head _) ?_
        refine am_getf (f := 15) (v := .inr (.inr (some (48, 0)))) dX2_gather_103 hc_5 (by decide) wd_336 (by decide) rfl rfl ?_
        refine am_aload_n dX2_gather_106 (List.Mem.head _) ?_
        refine am_getf (f := 12) (v := .inr (.inr (some (45, 0)))) dX2_gather_107 hc_5 (by decide) wd_333 (by decide) rfl rfl ?_
        refine am_iload_n dX2_gather_110 (List.Mem.tail _ (List.Mem.tail _ (List.Mem.tail _ (List.Mem.head _)))) ?_
        refine am_iaload (v := (w.1 45 0 x3.toNat)) dX2_gather_111 (by decide) rfl o2 o3 rfl ?_
        refine am_dup2 dX2_gather_112 rfl rfl ?_
        have o8 := h.1
        replace h := h.2
        have o9 := h.1
        replace h := h.2
        refine am_laload (x := ((am_up w.2.1 48 0 (w.1 44 0 x3.toNat).toNat ((w.2.1 48 0 (w.1 44 0 x3.toNat).toNat) ||| ((1 : Int64) <<< ((Int32.ofInt (w.1 45 0 x3.toNat)).toInt64 &&& 63)))) 48 0 (w.1 45 0 x3.toNat).toNat)) dX2_gather_113 (by decide) rfl o8 o9 rfl ?_
        refine am_lconst (x := 1) dX2_gather_114 rfl ?_
        refine am_aload_n dX2_gather_115 (List.Mem.head _) ?_
        refine am_getf (f := 11) (v := .inr (.inr (some (44, 0)))) dX2_gather_116 hc_5 (by decide) wd_332 (by decide) rfl rfl ?_
        refine am_iload_n dX2_gather_119 (List.Mem.tail _ (List.Mem.tail _ (List.Mem.tail _ (List.Mem.head _)))) ?_
        refine am_iaload (v := (w.1 44 0 x3.toNat)) dX2_gather_120 (by decide) rfl o2 o3 rfl ?_
        refine am_lshl dX2_gather_121 ?_
        refine am_lor dX2_gather_122 ?_
        refine am_lastore dX2_gather_123 (Or.inl (by decide)) rfl o8 o9 ?_
        exact h
theorem bX2_gather_44 {SC : Nat → Nat} {X : mh_X} {d : Nat} {Q : Option am_V → am_W → Prop} {bc bs : Nat} {w : am_W} {x1 : Int} {x2 : Int} {x3 : Int}
    (h : am_A (mh_G X) SC (d + 1) mX2_gather Q 7 [(0, .inr (.inr (some (5, 0)))), (1, .inl x1), (2, .inl x2), (3, .inl (am_w (x3 + 1)))] [] w bc bs) :
    am_A (mh_G X) SC (d + 1) mX2_gather Q 44 [(0, .inr (.inr (some (5, 0)))), (1, .inl x1), (2, .inl x2), (3, .inl x3)] [] w bc bs := by
  refine am_iinc (ls' := [(3, .inl (am_w (x3 + 1))), (0, .inr (.inr (some (5, 0)))), (1, .inl x1), (2, .inl x2)]) dX2_gather_44 (List.Mem.tail _ (List.Mem.tail _ (List.Mem.tail _ (List.Mem.head _)))) (by decide) rfl ?_
  refine am_goto (tgt := 7) dX2_gather_47 (by decide) ?_
  exact am_sub [1, 2, 3, 0] rfl h
theorem bX2_gather_124 {SC : Nat → Nat} {X : mh_X} {d : Nat} {Q : Option am_V → am_W → Prop} {bc bs : Nat} {w : am_W} {x1 : Int} {x2 : Int} {x3 : Int}
    (h : am_A (mh_G X) SC (d + 1) mX2_gather Q 52 [(0, .inr (.inr (some (5, 0)))), (1, .inl x1), (2, .inl x2), (3, .inl (am_w (x3 + 1)))] [] w bc bs) :
    am_A (mh_G X) SC (d + 1) mX2_gather Q 124 [(0, .inr (.inr (some (5, 0)))), (1, .inl x1), (2, .inl x2), (3, .inl x3)] [] w bc bs := by
  refine am_iinc (ls' := [(3, .inl (am_w (x3 + 1))), (0, .inr (.inr (some (5, 0)))), (1, .inl x1), (2, .inl x2)]) dX2_gather_124 (List.Mem.tail _ (List.Mem.tail _ (List.Mem.tail _ (List.Mem.head _)))) (by decide) rfl ?_
  refine am_goto (tgt := 52) dX2_gather_127 (by decide) ?_
  exact am_sub [1, 2, 3, 0] rfl h
-- MourningHouse$Family.relativesOf(II)J
theorem dX2_relativesOf_0 : decode mX2_relativesOf.2.1 0 = .ok (.iload_n 2, 1) := by decide +kernel
theorem dX2_relativesOf_1 : decode mX2_relativesOf.2.1 1 = .ok (.lookupswitch 56 #[(0, 35), (3, 42), (6, 49)], 35) := by decide +kernel
theorem dX2_relativesOf_36 : decode mX2_relativesOf.2.1 36 = .ok (.aload_n 0, 1) := by decide +kernel
theorem dX2_relativesOf_37 : decode mX2_relativesOf.2.1 37 = .ok (.getfield 58, 3) := by decide +kernel
theorem dX2_relativesOf_40 : decode mX2_relativesOf.2.1 40 = .ok (.iload_n 1, 1) := by decide +kernel
theorem dX2_relativesOf_41 : decode mX2_relativesOf.2.1 41 = .ok (.laload, 1) := by decide +kernel
theorem dX2_relativesOf_42 : decode mX2_relativesOf.2.1 42 = .ok (.lreturn, 1) := by decide +kernel
theorem dX2_relativesOf_43 : decode mX2_relativesOf.2.1 43 = .ok (.aload_n 0, 1) := by decide +kernel
theorem dX2_relativesOf_44 : decode mX2_relativesOf.2.1 44 = .ok (.getfield 40, 3) := by decide +kernel
theorem dX2_relativesOf_47 : decode mX2_relativesOf.2.1 47 = .ok (.iload_n 1, 1) := by decide +kernel
theorem dX2_relativesOf_48 : decode mX2_relativesOf.2.1 48 = .ok (.laload, 1) := by decide +kernel
theorem dX2_relativesOf_49 : decode mX2_relativesOf.2.1 49 = .ok (.lreturn, 1) := by decide +kernel
theorem dX2_relativesOf_50 : decode mX2_relativesOf.2.1 50 = .ok (.aload_n 0, 1) := by decide +kernel
theorem dX2_relativesOf_51 : decode mX2_relativesOf.2.1 51 = .ok (.getfield 36, 3) := by decide +kernel
theorem dX2_relativesOf_54 : decode mX2_relativesOf.2.1 54 = .ok (.iload_n 1, 1) := by decide +kernel
theorem dX2_relativesOf_55 : decode mX2_relativesOf.2.1 55 = .ok (.laload, 1) := by decide +kernel
theorem dX2_relativesOf_56 : decode mX2_relativesOf.2.1 56 = .ok (.lreturn, 1) := by decide +kernel
theorem dX2_relativesOf_57 : decode mX2_relativesOf.2.1 57 = .ok (.aload_n 0, 1) := by decide +kernel
theorem dX2_relativesOf_58 : decode mX2_relativesOf.2.1 58 = .ok (.getfield 43, 3) := by decide +kernel
theorem dX2_relativesOf_61 : decode mX2_relativesOf.2.1 61 = .ok (.iload_n 1, 1) := by decide +kernel
theorem dX2_relativesOf_62 : decode mX2_relativesOf.2.1 62 = .ok (.laload, 1) := by decide +kernel
theorem dX2_relativesOf_63 : decode mX2_relativesOf.2.1 63 = .ok (.lreturn, 1) := by decide +kernel
theorem sX2_relativesOf {SC : Nat → Nat} {X : mh_X} {d kc ks : Nat} {Q : Option am_V → am_W → Prop} {w : am_W} {x1 : Int} {x2 : Int} (Ho2 : (¬ x2 = 0 ∧ ¬ x2 = 3 ∧ ¬ x2 = 6) → 0 ≤ x1) (Ho3 : (¬ x2 = 0 ∧ ¬ x2 = 3 ∧ ¬ x2 = 6) → x1 < 40) (Ho4 : x2 = 0 → 0 ≤ x1) (Ho5 : x2 = 0 → x1 < 40) (Ho6 : x2 = 3 → 0 ≤ x1) (Ho7 : x2 = 3 → x1 < 40) (Ho8 : x2 = 6 → 0 ≤ x1) (Ho9 : x2 = 6 → x1 < 40)
    (h : Q (some (.inr (.inl (if x2 = 6 then (w.2.1 41 0 x1.toNat) else (if x2 = 3 then (w.2.1 42 0 x1.toNat) else (if x2 = 0 then (w.2.1 48 0 x1.toNat) else (w.2.1 43 0 x1.toNat))))))) w) : am_M (mh_G X) SC (d + 1) kc ks mX2_relativesOf [.inr (.inr (some (5, 0))), .inl x1, .inl x2] w Q := by
  refine am_M_of (by decide) (Nat.le_of_ble_eq_true rfl) ?_
  show am_A (mh_G X) SC (d + 1) mX2_relativesOf Q 0 [(0, .inr (.inr (some (5, 0)))), (1, .inl x1), (2, .inl x2)] [] w kc ks
  refine am_iload_n dX2_relativesOf_0 (List.Mem.tail _ (List.Mem.tail _ (List.Mem.head _))) ?_
  by_cases c1 : (¬ x2 = 0 ∧ ¬ x2 = 3 ∧ ¬ x2 = 6)
  · refine am_lsw (off := 56) (tgt := 57) dX2_relativesOf_1 (by decide) (by show Op.lookupswitch.offset [(0, 35), (3, 42), (6, 49)] 56 x2 = 56; rw [am_off1 c1.1, am_off1 c1.2.1, am_off1 c1.2.2]; rfl) (by decide) ?_
    refine am_aload_n dX2_relativesOf_57 (List.Mem.head _) ?_
    refine am_getf (f := 10) (v := .inr (.inr (some (43, 0)))) dX2_relativesOf_58 hc_5 (by decide) wd_331 (by decide) rfl rfl ?_
    refine am_iload_n dX2_relativesOf_61 (List.Mem.tail _ (List.Mem.head _)) ?_
    have o2 := Ho2 c1
    have o3 := Ho3 c1
    refine am_laload (x := (w.2.1 43 0 x1.toNat)) dX2_relativesOf_62 (by decide) rfl o2 o3 rfl ?_
    rw [show ((if x2 = 6 then (w.2.1 41 0 x1.toNat) else (if x2 = 3 then (w.2.1 42 0 x1.toNat) else (if x2 = 0 then (w.2.1 48 0 x1.toNat) else (w.2.1 43 0 x1.toNat)))) : Int64) = (w.2.1 43 0 x1.toNat) from (if_neg (show ¬ x2 = 6 by omega)).trans ((if_neg (show ¬ x2 = 3 by omega)).trans (if_neg (show ¬ x2 = 0 by omega)))] at h
    exact am_ret (r := some (.inr (.inl (w.2.1 43 0 x1.toNat)))) dX2_relativesOf_63 rfl rfl h
  · rcases (show x2 = 0 ∨ x2 = 3 ∨ x2 = 6 by omega) with c1 | c1 | c1
    · refine am_lsw (off := 35) (tgt := 36) dX2_relativesOf_1 (by decide) (by rw [c1]; decide) (by decide) ?_
      refine am_aload_n dX2_relativesOf_36 (List.Mem.head _) ?_
      refine am_getf (f := 15) (v := .inr (.inr (some (48, 0)))) dX2_relativesOf_37 hc_5 (by decide) wd_336 (by decide) rfl rfl ?_
      refine am_iload_n dX2_relativesOf_40 (List.Mem.tail _ (List.Mem.head _)) ?_
      have o4 := Ho4 c1
      have o5 := Ho5 c1
      refine am_laload (x := (w.2.1 48 0 x1.toNat)) dX2_relativesOf_41 (by decide) rfl o4 o5 rfl ?_
      rw [show ((if x2 = 6 then (w.2.1 41 0 x1.toNat) else (if x2 = 3 then (w.2.1 42 0 x1.toNat) else (if x2 = 0 then (w.2.1 48 0 x1.toNat) else (w.2.1 43 0 x1.toNat)))) : Int64) = (w.2.1 48 0 x1.toNat) from (if_neg (show ¬ x2 = 6 by omega)).trans ((if_neg (show ¬ x2 = 3 by omega)).trans (if_pos c1))] at h
      exact am_ret (r := some (.inr (.inl (w.2.1 48 0 x1.toNat)))) dX2_relativesOf_42 rfl rfl h
    · refine am_lsw (off := 42) (tgt := 43) dX2_relativesOf_1 (by decide) (by rw [c1]; decide) (by decide) ?_
      refine am_aload_n dX2_relativesOf_43 (List.Mem.head _) ?_
      refine am_getf (f := 9) (v := .inr (.inr (some (42, 0)))) dX2_relativesOf_44 hc_5 (by decide) wd_330 (by decide) rfl rfl ?_
      refine am_iload_n dX2_relativesOf_47 (List.Mem.tail _ (List.Mem.head _)) ?_
      have o6 := Ho6 c1
      have o7 := Ho7 c1
      refine am_laload (x := (w.2.1 42 0 x1.toNat)) dX2_relativesOf_48 (by decide) rfl o6 o7 rfl ?_
      rw [show ((if x2 = 6 then (w.2.1 41 0 x1.toNat) else (if x2 = 3 then (w.2.1 42 0 x1.toNat) else (if x2 = 0 then (w.2.1 48 0 x1.toNat) else (w.2.1 43 0 x1.toNat)))) : Int64) = (w.2.1 42 0 x1.toNat) from (if_neg (show ¬ x2 = 6 by omega)).trans (if_pos c1)] at h
      exact am_ret (r := some (.inr (.inl (w.2.1 42 0 x1.toNat)))) dX2_relativesOf_49 rfl rfl h
    · refine am_lsw (off := 49) (tgt := 50) dX2_relativesOf_1 (by decide) (by rw [c1]; decide) (by decide) ?_
      refine am_aload_n dX2_relativesOf_50 (List.Mem.head _) ?_
      refine am_getf (f := 8) (v := .inr (.inr (some (41, 0)))) dX2_relativesOf_51 hc_5 (by decide) wd_329 (by decide) rfl rfl ?_
      refine am_iload_n dX2_relativesOf_54 (List.Mem.tail _ (List.Mem.head _)) ?_
      have o8 := Ho8 c1
      have o9 := Ho9 c1
      refine am_laload (x := (w.2.1 41 0 x1.toNat)) dX2_relativesOf_55 (by decide) rfl o8 o9 rfl ?_
      rw [show ((if x2 = 6 then (w.2.1 41 0 x1.toNat) else (if x2 = 3 then (w.2.1 42 0 x1.toNat) else (if x2 = 0 then (w.2.1 48 0 x1.toNat) else (w.2.1 43 0 x1.toNat)))) : Int64) = (w.2.1 41 0 x1.toNat) from if_pos c1] at h
      exact am_ret (r := some (.inr (.inl (w.2.1 41 0 x1.toNat)))) dX2_relativesOf_56 rfl rfl h
-- MourningHouse$Family.kinOf(JI)J
theorem dX2_kinOf_0 : decode mX2_kinOf.2.1 0 = .ok (.lconst 0, 1) := by decide +kernel
theorem dX2_kinOf_1 : decode mX2_kinOf.2.1 1 = .ok (.lstore 4, 2) := by decide +kernel
theorem dX2_kinOf_3 : decode mX2_kinOf.2.1 3 = .ok (.iconst 0, 1) := by decide +kernel
theorem dX2_kinOf_4 : decode mX2_kinOf.2.1 4 = .ok (.istore 6, 2) := by decide +kernel
theorem dX2_kinOf_6 : decode mX2_kinOf.2.1 6 = .ok (.iload 6, 2) := by decide +kernel
theorem dX2_kinOf_8 : decode mX2_kinOf.2.1 8 = .ok (.aload_n 0, 1) := by decide +kernel
theorem dX2_kinOf_9 : decode mX2_kinOf.2.1 9 = .ok (.getfield 68, 3) := by decide +kernel
theorem dX2_kinOf_12 : decode mX2_kinOf.2.1 12 = .ok (.if_icmp .ge 36, 3) := by decide +kernel
theorem dX2_kinOf_15 : decode mX2_kinOf.2.1 15 = .ok (.lload_n 1, 1) := by decide +kernel
theorem dX2_kinOf_16 : decode mX2_kinOf.2.1 16 = .ok (.iload 6, 2) := by decide +kernel
theorem dX2_kinOf_18 : decode mX2_kinOf.2.1 18 = .ok (.lshr, 1) := by decide +kernel
theorem dX2_kinOf_19 : decode mX2_kinOf.2.1 19 = .ok (.lconst 1, 1) := by decide +kernel
theorem dX2_kinOf_20 : decode mX2_kinOf.2.1 20 = .ok (.land, 1) := by decide +kernel
theorem dX2_kinOf_21 : decode mX2_kinOf.2.1 21 = .ok (.lconst 0, 1) := by decide +kernel
theorem dX2_kinOf_22 : decode mX2_kinOf.2.1 22 = .ok (.lcmp, 1) := by decide +kernel
theorem dX2_kinOf_23 : decode mX2_kinOf.2.1 23 = .ok (.ifCond .eq 19, 3) := by decide +kernel
theorem dX2_kinOf_26 : decode mX2_kinOf.2.1 26 = .ok (.lload 4, 2) := by decide +kernel
theorem dX2_kinOf_28 : decode mX2_kinOf.2.1 28 = .ok (.aload_n 0, 1) := by decide +kernel
theorem dX2_kinOf_29 : decode mX2_kinOf.2.1 29 = .ok (.iload 6, 2) := by decide +kernel
theorem dX2_kinOf_31 : decode mX2_kinOf.2.1 31 = .ok (.iload_n 3, 1) := by decide +kernel
theorem dX2_kinOf_32 : decode mX2_kinOf.2.1 32 = .ok (.iload_n 3, 1) := by decide +kernel
theorem dX2_kinOf_33 : decode mX2_kinOf.2.1 33 = .ok (.iconst 3, 1) := by decide +kernel
theorem dX2_kinOf_34 : decode mX2_kinOf.2.1 34 = .ok (.irem, 1) := by decide +kernel
theorem dX2_kinOf_35 : decode mX2_kinOf.2.1 35 = .ok (.isub, 1) := by decide +kernel
theorem dX2_kinOf_36 : decode mX2_kinOf.2.1 36 = .ok (.invokevirtual 110, 3) := by decide +kernel
theorem dX2_kinOf_39 : decode mX2_kinOf.2.1 39 = .ok (.lor, 1) := by decide +kernel
theorem dX2_kinOf_40 : decode mX2_kinOf.2.1 40 = .ok (.lstore 4, 2) := by decide +kernel
theorem dX2_kinOf_42 : decode mX2_kinOf.2.1 42 = .ok (.iinc 6 1, 3) := by decide +kernel
theorem dX2_kinOf_45 : decode mX2_kinOf.2.1 45 = .ok (.goto (-39), 3) := by decide +kernel
theorem dX2_kinOf_48 : decode mX2_kinOf.2.1 48 = .ok (.iload_n 3, 1) := by decide +kernel
theorem dX2_kinOf_49 : decode mX2_kinOf.2.1 49 = .ok (.iconst 3, 1) := by decide +kernel
theorem dX2_kinOf_50 : decode mX2_kinOf.2.1 50 = .ok (.irem, 1) := by decide +kernel
theorem dX2_kinOf_51 : decode mX2_kinOf.2.1 51 = .ok (.istore 6, 2) := by decide +kernel
theorem dX2_kinOf_53 : decode mX2_kinOf.2.1 53 = .ok (.iload 6, 2) := by decide +kernel
theorem dX2_kinOf_55 : decode mX2_kinOf.2.1 55 = .ok (.ifCond .ne 8, 3) := by decide +kernel
theorem dX2_kinOf_58 : decode mX2_kinOf.2.1 58 = .ok (.lload 4, 2) := by decide +kernel
theorem dX2_kinOf_60 : decode mX2_kinOf.2.1 60 = .ok (.goto 30, 3) := by decide +kernel
theorem dX2_kinOf_63 : decode mX2_kinOf.2.1 63 = .ok (.iload 6, 2) := by decide +kernel
theorem dX2_kinOf_65 : decode mX2_kinOf.2.1 65 = .ok (.iconst 1, 1) := by decide +kernel
theorem dX2_kinOf_66 : decode mX2_kinOf.2.1 66 = .ok (.if_icmp .ne 13, 3) := by decide +kernel
theorem dX2_kinOf_69 : decode mX2_kinOf.2.1 69 = .ok (.lload 4, 2) := by decide +kernel
theorem dX2_kinOf_71 : decode mX2_kinOf.2.1 71 = .ok (.aload_n 0, 1) := by decide +kernel
theorem dX2_kinOf_72 : decode mX2_kinOf.2.1 72 = .ok (.getfield 61, 3) := by decide +kernel
theorem dX2_kinOf_75 : decode mX2_kinOf.2.1 75 = .ok (.land, 1) := by decide +kernel
theorem dX2_kinOf_76 : decode mX2_kinOf.2.1 76 = .ok (.goto 14, 3) := by decide +kernel
theorem dX2_kinOf_79 : decode mX2_kinOf.2.1 79 = .ok (.lload 4, 2) := by decide +kernel
theorem dX2_kinOf_81 : decode mX2_kinOf.2.1 81 = .ok (.aload_n 0, 1) := by decide +kernel
theorem dX2_kinOf_82 : decode mX2_kinOf.2.1 82 = .ok (.getfield 61, 3) := by decide +kernel
theorem dX2_kinOf_85 : decode mX2_kinOf.2.1 85 = .ok (.ldc2_w 94, 3) := by decide +kernel
theorem dX2_kinOf_88 : decode mX2_kinOf.2.1 88 = .ok (.lxor, 1) := by decide +kernel
theorem dX2_kinOf_89 : decode mX2_kinOf.2.1 89 = .ok (.land, 1) := by decide +kernel
theorem dX2_kinOf_90 : decode mX2_kinOf.2.1 90 = .ok (.lreturn, 1) := by decide +kernel
theorem bX2_kinOf_0 {SC : Nat → Nat} {X : mh_X} {d : Nat} {Q : Option am_V → am_W → Prop} {bc bs : Nat} {w : am_W} {y1 : Int64} {x3 : Int}
    (h : am_A (mh_G X) SC (d + 2) mX2_kinOf Q 6 [(0, .inr (.inr (some (5, 0)))), (1, .inr (.inl y1)), (3, .inl x3), (4, .inr (.inl (0 : Int64))), (6, .inl 0)] [] w bc bs) :
    am_A (mh_G X) SC (d + 2) mX2_kinOf Q 0 [(0, .inr (.inr (some (5, 0)))), (1, .inr (.inl y1)), (3, .inl x3)] [] w bc bs := by
  refine am_lconst (x := 0) dX2_kinOf_0 rfl ?_
  refine am_lstore (ls' := [(4, .inr (.inl (0 : Int64))), (0, .inr (.inr (some (5, 0)))), (1, .inr (.inl y1)), (3, .inl x3)]) dX2_kinOf_1 (by decide) rfl ?_
  refine am_iconst dX2_kinOf_3 (by unfold am_rg; omega) ?_
  refine am_istore (ls' := [(6, .inl 0), (4, .inr (.inl (0 : Int64))), (0, .inr (.inr (some (5, 0)))), (1, .inr (.inl y1)), (3, .inl x3)]) dX2_kinOf_4 (by decide) rfl ?_
  exact am_sub [2, 3, 4, 1, 0] rfl h
theorem bX2_kinOf_6 {SC : Nat → Nat} {X : mh_X} {d : Nat} {Q : Option am_V → am_W → Prop} {bc bs : Nat} {w : am_W} {y1 : Int64} {x3 : Int} {y4 : Int64} {x6 : Int}
    (h : (((w.1 5 0 18) ≤ x6 → ((¬ (am_w (Int.tmod x3 3)) = 0 → ((¬ (am_w (Int.tmod x3 3)) = 1 → Q (some (.inr (.inl (y4 &&& ((w.2.1 5 0 16) ^^^ (-1 : Int64)))))) w) ∧ ((am_w (Int.tmod x3 3)) = 1 → Q (some (.inr (.inl (y4 &&& (w.2.1 5 0 16))))) w))) ∧ ((am_w (Int.tmod x3 3)) = 0 → Q (some (.inr (.inl y4))) w))) ∧ (¬ (w.1 5 0 18) ≤ x6 → (((am_lcmpv ((y1 >>> ((Int32.ofInt x6).toInt64 &&& 63)) &&& (1 : Int64)) (0 : Int64)) = 0 → am_A (mh_G X) SC (d + 2) mX2_kinOf Q 42 [(0, .inr (.inr (some (5, 0)))), (1, .inr (.inl y1)), (3, .inl x3), (4, .inr (.inl y4)), (6, .inl x6)] [] w bc bs) ∧ (¬ (am_lcmpv ((y1 >>> ((Int32.ofInt x6).toInt64 &&& 63)) &&& (1 : Int64)) (0 : Int64)) = 0 → (((¬ (am_w (x3 - (am_w (Int.tmod x3 3)))) = 0 ∧ ¬ (am_w (x3 - (am_w (Int.tmod x3 3)))) = 3 ∧ ¬ (am_w (x3 - (am_w (Int.tmod x3 3)))) = 6) → 0 ≤ x6) ∧ (((¬ (am_w (x3 - (am_w (Int.tmod x3 3)))) = 0 ∧ ¬ (am_w (x3 - (am_w (Int.tmod x3 3)))) = 3 ∧ ¬ (am_w (x3 - (am_w (Int.tmod x3 3)))) = 6) → x6 < 40) ∧ (((am_w (x3 - (am_w (Int.tmod x3 3)))) = 0 → 0 ≤ x6) ∧ (((am_w (x3 - (am_w (Int.tmod x3 3)))) = 0 → x6 < 40) ∧ (((am_w (x3 - (am_w (Int.tmod x3 3)))) = 3 → 0 ≤ x6) ∧ (((am_w (x3 - (am_w (Int.tmod x3 3)))) = 3 → x6 < 40) ∧ (((am_w (x3 - (am_w (Int.tmod x3 3)))) = 6 → 0 ≤ x6) ∧ (((am_w (x3 - (am_w (Int.tmod x3 3)))) = 6 → x6 < 40) ∧ am_A (mh_G X) SC (d + 2) mX2_kinOf Q 42 [(0, .inr (.inr (some (5, 0)))), (1, .inr (.inl y1)), (3, .inl x3), (4, .inr (.inl (y4 ||| (if (am_w (x3 - (am_w (Int.tmod x3 3)))) = 6 then (w.2.1 41 0 x6.toNat) else (if (am_w (x3 - (am_w (Int.tmod x3 3)))) = 3 then (w.2.1 42 0 x6.toNat) else (if (am_w (x3 - (am_w (Int.tmod x3 3)))) = 0 then (w.2.1 48 0 x6.toNat) else (w.2.1 43 0 x6.toNat))))))), (6, .inl x6)] [] w bc bs))))))))))))) :
    am_A (mh_G X) SC (d + 2) mX2_kinOf Q 6 [(0, .inr (.inr (some (5, 0)))), (1, .inr (.inl y1)), (3, .inl x3), (4, .inr (.inl y4)), (6, .inl x6)] [] w bc bs := by
  refine am_iload dX2_kinOf_6 (List.Mem.tail _ (List.Mem.tail _ (List.Mem.tail _ (List.Mem.tail _ (List.Mem.head _))))) ?_
  refine am_aload_n dX2_kinOf_8 (List.Mem.head _) ?_
  refine am_getf (f := 18) (v := .inl (w.1 5 0 18)) dX2_kinOf_9 hc_5 (by decide) wd_339 (by decide) rfl rfl ?_
  refine am_icmpge (tgt := 48) dX2_kinOf_12 (by decide) (fun c1 => ?_) (fun c1 => ?_)
  · replace h := h.1 c1
    refine am_iload_n dX2_kinOf_48 (List.Mem.tail _ (List.Mem.tail _ (List.Mem.head _))) ?_
    refine am_iconst dX2_kinOf_49 (by unfold am_rg; omega) ?_
    refine am_irem dX2_kinOf_50 (by decide) ?_
    refine am_istore (ls' := [(6, .inl (am_w (Int.tmod x3 3))), (0, .inr (.inr (some (5, 0)))), (1, .inr (.inl y1)), (3, .inl x3), (4, .inr (.inl y4))]) dX2_kinOf_51 (by decide) rfl ?_
    refine am_iload dX2_kinOf_53 (List.Mem.head _) ?_
    refine am_ifne (tgt := 63) dX2_kinOf_55 (by decide) (fun c2 => ?_) (fun c2 => ?_)
    · replace h := h.1 c2
      refine am_iload dX2_kinOf_63 (List.Mem.head _) ?_
      refine am_iconst dX2_kinOf_65 (by unfold am_rg; omega) ?_
      refine am_icmpne (tgt := 79) dX2_kinOf_66 (by decide) (fun c3 => ?_) (fun c3 => ?_)
      · replace h := h.1 c3
        refine am_lload dX2_kinOf_79 (List.Mem.tail _ (List.Mem.tail _ (List.Mem.tail _ (List.Mem.tail _ (List.Mem.head _))))) ?_
        refine am_aload_n dX2_kinOf_81 (List.Mem.tail _ (List.Mem.head _)) ?_
        refine am_getf (f := 16) (v := .inr (.inl (w.2.1 5 0 16))) dX2_kinOf_82 hc_5 (by decide) wd_337 (by decide) rfl rfl ?_
        refine am_ldc2 (x := (-1)) dX2_kinOf_85 wd_1147 ?_
        refine am_lxor dX2_kinOf_88 ?_
        refine am_land dX2_kinOf_89 ?_
        exact am_ret (r := some (.inr (.inl (y4 &&& ((w.2.1 5 0 16) ^^^ (-1 : Int64)))))) dX2_kinOf_90 rfl rfl h
      · replace h := h.2 c3
        refine am_lload dX2_kinOf_69 (List.Mem.tail _ (List.Mem.tail _ (List.Mem.tail _ (List.Mem.tail _ (List.Mem.head _))))) ?_
        refine am_aload_n dX2_kinOf_71 (List.Mem.tail _ (List.Mem.head _)) ?_
        refine am_getf (f := 16) (v := .inr (.inl (w.2.1 5 0 16))) dX2_kinOf_72 hc_5 (by decide) wd_337 (by decide) rfl rfl ?_
        refine am_land dX2_kinOf_75 ?_
        refine am_goto (tgt := 90) dX2_kinOf_76 (by decide) ?_
        exact am_ret (r := some (.inr (.inl (y4 &&& (w.2.1 5 0 16))))) dX2_kinOf_90 rfl rfl h
    · replace h := h.2 c2
      refine am_lload dX2_kinOf_58 (List.Mem.tail _ (List.Mem.tail _ (List.Mem.tail _ (List.Mem.tail _ (List.Mem.head _))))) ?_
      refine am_goto (tgt := 90) dX2_kinOf_60 (by decide) ?_
      exact am_ret (r := some (.inr (.inl y4))) dX2_kinOf_90 rfl rfl h
  · replace h := h.2 c1
    refine am_lload_n dX2_kinOf_15 (List.Mem.tail _ (List.Mem.head _)) ?_
    refine am_iload dX2_kinOf_16 (List.Mem.tail _ (List.Mem.tail _ (List.Mem.tail _ (List.Mem.tail _ (List.Mem.head _))))) ?_
    refine am_lshr dX2_kinOf_18 ?_
    refine am_lconst (x := 1) dX2_kinOf_19 rfl ?_
    refine am_land dX2_kinOf_20 ?_
    refine am_lconst (x := 0) dX2_kinOf_21 rfl ?_
    refine am_lcmp dX2_kinOf_22 ?_
    refine am_ifeq (tgt := 42) dX2_kinOf_23 (by decide) (fun c4 => ?_) (fun c4 => ?_)
    · replace h := h.1 c4
      exact h
    · replace h := h.2 c4
      refine am_lload dX2_kinOf_26 (List.Mem.tail _ (List.Mem.tail _ (List.Mem.tail _ (List.Mem.head _)))) ?_
      refine am_aload_n dX2_kinOf_28 (List.Mem.head _) ?_
      refine am_iload dX2_kinOf_29 (List.Mem.tail _ (List.Mem.tail _ (List.Mem.tail _ (List.Mem.tail _ (List.Mem.head _))))) ?_
      refine am_iload_n dX2_kinOf_31 (List.Mem.tail _ (List.Mem.tail _ (List.Mem.head _))) ?_
      refine am_iload_n dX2_kinOf_32 (List.Mem.tail _ (List.Mem.tail _ (List.Mem.head _))) ?_
      refine am_iconst dX2_kinOf_33 (by unfold am_rg; omega) ?_
      refine am_irem dX2_kinOf_34 (by decide) ?_
      refine am_isub dX2_kinOf_35 ?_
      have o5 := h.1
      replace h := h.2
      have o6 := h.1
      replace h := h.2
      have o7 := h.1
      replace h := h.2
      have o8 := h.1
      replace h := h.2
      have o9 := h.1
      replace h := h.2
      have o10 := h.1
      replace h := h.2
      have o11 := h.1
      replace h := h.2
      have o12 := h.1
      replace h := h.2
      refine am_callv (d' := d + 1) (kc := 0) (ks := 0) (as := [.inl x6, .inl (am_w (x3 - (am_w (Int.tmod x3 3))))]) dX2_kinOf_36 wc_X2_relativesOf wd_1157 wd_1159 wd_32 wd_117 ds_X2_relativesOf (by decide) (by omega) (Nat.le_of_ble_eq_true rfl) (Nat.zero_le _) (Nat.zero_le _) hc_5 (by decide) rfl rfl (sX2_relativesOf (d := d + 0) (x1 := x6) (x2 := (am_w (x3 - (am_w (Int.tmod x3 3))))) o5 o6 o7 o8 o9 o10 o11 o12 ?_)
      show am_A (mh_G X) SC (d + 2) mX2_kinOf Q 39 [(0, .inr (.inr (some (5, 0)))), (1, .inr (.inl y1)), (3, .inl x3), (4, .inr (.inl y4)), (6, .inl x6)] [.inr (.inl (if (am_w (x3 - (am_w (Int.tmod x3 3)))) = 6 then (w.2.1 41 0 x6.toNat) else (if (am_w (x3 - (am_w (Int.tmod x3 3)))) = 3 then (w.2.1 42 0 x6.toNat) else (if (am_w (x3 - (am_w (Int.tmod x3 3)))) = 0 then (w.2.1 48 0 x6.toNat) else (w.2.1 43 0 x6.toNat))))), .inr (.inl y4)] w bc bs
      refine am_lor dX2_kinOf_39 ?_
      refine am_lstore (ls' := [(4, .inr (.inl (y4 ||| (if (am_w (x3 - (am_w (Int.tmod x3 3)))) = 6 then (w.2.1 41 0 x6.toNat) else (if (am_w (x3 - (am_w (Int.tmod x3 3)))) = 3 then (w.2.1 42 0 x6.toNat) else (if (am_w (x3 - (am_w (Int.tmod x3 3)))) = 0 then (w.2.1 48 0 x6.toNat) else (w.2.1 43 0 x6.toNat))))))), (0, .inr (.inr (some (5, 0)))), (1, .inr (.inl y1)), (3, .inl x3), (6, .inl x6)]) dX2_kinOf_40 (by decide) rfl ?_
      exact am_sub [1, 2, 3, 0, 4] rfl h
theorem bX2_kinOf_42 {SC : Nat → Nat} {X : mh_X} {d : Nat} {Q : Option am_V → am_W → Prop} {bc bs : Nat} {w : am_W} {y1 : Int64} {x3 : Int} {y4 : Int64} {x6 : Int}
    (h : am_A (mh_G X) SC (d + 2) mX2_kinOf Q 6 [(0, .inr (.inr (some (5, 0)))), (1, .inr (.inl y1)), (3, .inl x3), (4, .inr (.inl y4)), (6, .inl (am_w (x6 + 1)))] [] w bc bs) :
    am_A (mh_G X) SC (d + 2) mX2_kinOf Q 42 [(0, .inr (.inr (some (5, 0)))), (1, .inr (.inl y1)), (3, .inl x3), (4, .inr (.inl y4)), (6, .inl x6)] [] w bc bs := by
  refine am_iinc (ls' := [(6, .inl (am_w (x6 + 1))), (0, .inr (.inr (some (5, 0)))), (1, .inr (.inl y1)), (3, .inl x3), (4, .inr (.inl y4))]) dX2_kinOf_42 (List.Mem.tail _ (List.Mem.tail _ (List.Mem.tail _ (List.Mem.tail _ (List.Mem.head _))))) (by decide) rfl ?_
  refine am_goto (tgt := 6) dX2_kinOf_45 (by decide) ?_
  exact am_sub [1, 2, 3, 4, 0] rfl h
-- MourningHouse$Law.kinCount(I)I
theorem dX3_kinCount_0 : decode mX3_kinCount.2.1 0 = .ok (.aload_n 0, 1) := by decide +kernel
theorem dX3_kinCount_1 : decode mX3_kinCount.2.1 1 = .ok (.getfield 11, 3) := by decide +kernel
theorem dX3_kinCount_4 : decode mX3_kinCount.2.1 4 = .ok (.iload_n 1, 1) := by decide +kernel
theorem dX3_kinCount_5 : decode mX3_kinCount.2.1 5 = .ok (.iaload, 1) := by decide +kernel
theorem dX3_kinCount_6 : decode mX3_kinCount.2.1 6 = .ok (.ireturn, 1) := by decide +kernel
theorem sX3_kinCount {SC : Nat → Nat} {X : mh_X} {d kc ks : Nat} {Q : Option am_V → am_W → Prop} {w : am_W} {j0 : Nat} {x1 : Int} (Ho1 : 0 ≤ x1) (Ho2 : x1 < 30)
    (h : Q (some (.inl (w.1 144 j0 x1.toNat))) w) : am_M (mh_G X) SC (d + 1) kc ks mX3_kinCount [.inr (.inr (some (10, j0))), .inl x1] w Q := by
  refine am_M_of (by decide) (Nat.le_of_ble_eq_true rfl) ?_
  show am_A (mh_G X) SC (d + 1) mX3_kinCount Q 0 [(0, .inr (.inr (some (10, j0)))), (1, .inl x1)] [] w kc ks
  refine am_aload_n dX3_kinCount_0 (List.Mem.head _) ?_
  refine am_getf (f := 0) (v := .inr (.inr (some (144, j0)))) dX3_kinCount_1 hc_4 (by decide) wd_215 (by decide) rfl rfl ?_
  refine am_iload_n dX3_kinCount_4 (List.Mem.tail _ (List.Mem.head _)) ?_
  have o1 := Ho1
  have o2 := Ho2
  refine am_iaload (v := (w.1 144 j0 x1.toNat)) dX3_kinCount_5 (by decide) rfl o1 o2 rfl ?_
  exact am_ret (r := some (.inl (w.1 144 j0 x1.toNat))) dX3_kinCount_6 (Or.inl rfl) rfl h
-- MourningHouse$Law.kinWord(II)I
theorem dX3_kinWord_0 : decode mX3_kinWord.2.1 0 = .ok (.aload_n 0, 1) := by decide +kernel
theorem dX3_kinWord_1 : decode mX3_kinWord.2.1 1 = .ok (.getfield 15, 3) := by decide +kernel
theorem dX3_kinWord_4 : decode mX3_kinWord.2.1 4 = .ok (.iload_n 1, 1) := by decide +kernel
theorem dX3_kinWord_5 : decode mX3_kinWord.2.1 5 = .ok (.iconst 4, 1) := by decide +kernel
theorem dX3_kinWord_6 : decode mX3_kinWord.2.1 6 = .ok (.imul, 1) := by decide +kernel
theorem dX3_kinWord_7 : decode mX3_kinWord.2.1 7 = .ok (.iload_n 2, 1) := by decide +kernel
theorem dX3_kinWord_8 : decode mX3_kinWord.2.1 8 = .ok (.iadd, 1) := by decide +kernel
theorem dX3_kinWord_9 : decode mX3_kinWord.2.1 9 = .ok (.iaload, 1) := by decide +kernel
theorem dX3_kinWord_10 : decode mX3_kinWord.2.1 10 = .ok (.ireturn, 1) := by decide +kernel
theorem sX3_kinWord {SC : Nat → Nat} {X : mh_X} {d kc ks : Nat} {Q : Option am_V → am_W → Prop} {w : am_W} {j0 : Nat} {x1 : Int} {x2 : Int} (Ho1 : 0 ≤ (am_w ((am_w (x1 * 4)) + x2))) (Ho2 : (am_w ((am_w (x1 * 4)) + x2)) < 120)
    (h : Q (some (.inl (w.1 145 j0 (am_w ((am_w (x1 * 4)) + x2)).toNat))) w) : am_M (mh_G X) SC (d + 1) kc ks mX3_kinWord [.inr (.inr (some (10, j0))), .inl x1, .inl x2] w Q := by
  refine am_M_of (by decide) (Nat.le_of_ble_eq_true rfl) ?_
  show am_A (mh_G X) SC (d + 1) mX3_kinWord Q 0 [(0, .inr (.inr (some (10, j0)))), (1, .inl x1), (2, .inl x2)] [] w kc ks
  refine am_aload_n dX3_kinWord_0 (List.Mem.head _) ?_
  refine am_getf (f := 1) (v := .inr (.inr (some (145, j0)))) dX3_kinWord_1 hc_4 (by decide) wd_216 (by decide) rfl rfl ?_
  refine am_iload_n dX3_kinWord_4 (List.Mem.tail _ (List.Mem.head _)) ?_
  refine am_iconst dX3_kinWord_5 (by unfold am_rg; omega) ?_
  refine am_imul dX3_kinWord_6 ?_
  refine am_iload_n dX3_kinWord_7 (List.Mem.tail _ (List.Mem.tail _ (List.Mem.head _))) ?_
  refine am_iadd dX3_kinWord_8 ?_
  have o1 := Ho1
  have o2 := Ho2
  refine am_iaload (v := (w.1 145 j0 (am_w ((am_w (x1 * 4)) + x2)).toNat)) dX3_kinWord_9 (by decide) rfl o1 o2 rfl ?_
  exact am_ret (r := some (.inl (w.1 145 j0 (am_w ((am_w (x1 * 4)) + x2)).toNat))) dX3_kinWord_10 (Or.inl rfl) rfl h
-- MourningHouse$Family.isKin(LMourningHouse$Law;III)Z
theorem dX2_isKin_0 : decode mX2_isKin.2.1 0 = .ok (.aload_n 0, 1) := by decide +kernel
theorem dX2_isKin_1 : decode mX2_isKin.2.1 1 = .ok (.getfield 65, 3) := by decide +kernel
theorem dX2_isKin_4 : decode mX2_isKin.2.1 4 = .ok (.lconst 1, 1) := by decide +kernel
theorem dX2_isKin_5 : decode mX2_isKin.2.1 5 = .ok (.iload_n 3, 1) := by decide +kernel
theorem dX2_isKin_6 : decode mX2_isKin.2.1 6 = .ok (.lshl, 1) := by decide +kernel
theorem dX2_isKin_7 : decode mX2_isKin.2.1 7 = .ok (.ldc2_w 94, 3) := by decide +kernel
theorem dX2_isKin_10 : decode mX2_isKin.2.1 10 = .ok (.lxor, 1) := by decide +kernel
theorem dX2_isKin_11 : decode mX2_isKin.2.1 11 = .ok (.land, 1) := by decide +kernel
theorem dX2_isKin_12 : decode mX2_isKin.2.1 12 = .ok (.lstore 5, 2) := by decide +kernel
theorem dX2_isKin_14 : decode mX2_isKin.2.1 14 = .ok (.aload_n 0, 1) := by decide +kernel
theorem dX2_isKin_15 : decode mX2_isKin.2.1 15 = .ok (.getfield 65, 3) := by decide +kernel
theorem dX2_isKin_18 : decode mX2_isKin.2.1 18 = .ok (.lconst 1, 1) := by decide +kernel
theorem dX2_isKin_19 : decode mX2_isKin.2.1 19 = .ok (.iload_n 3, 1) := by decide +kernel
theorem dX2_isKin_20 : decode mX2_isKin.2.1 20 = .ok (.lshl, 1) := by decide +kernel
theorem dX2_isKin_21 : decode mX2_isKin.2.1 21 = .ok (.land, 1) := by decide +kernel
theorem dX2_isKin_22 : decode mX2_isKin.2.1 22 = .ok (.lstore 7, 2) := by decide +kernel
theorem dX2_isKin_24 : decode mX2_isKin.2.1 24 = .ok (.aload_n 1, 1) := by decide +kernel
theorem dX2_isKin_25 : decode mX2_isKin.2.1 25 = .ok (.iload_n 2, 1) := by decide +kernel
theorem dX2_isKin_26 : decode mX2_isKin.2.1 26 = .ok (.invokevirtual 96, 3) := by decide +kernel
theorem dX2_isKin_29 : decode mX2_isKin.2.1 29 = .ok (.iconst 1, 1) := by decide +kernel
theorem dX2_isKin_30 : decode mX2_isKin.2.1 30 = .ok (.isub, 1) := by decide +kernel
theorem dX2_isKin_31 : decode mX2_isKin.2.1 31 = .ok (.istore 9, 2) := by decide +kernel
theorem dX2_isKin_33 : decode mX2_isKin.2.1 33 = .ok (.iload 9, 2) := by decide +kernel
theorem dX2_isKin_35 : decode mX2_isKin.2.1 35 = .ok (.ifCond .lt 27, 3) := by decide +kernel
theorem dX2_isKin_38 : decode mX2_isKin.2.1 38 = .ok (.aload_n 0, 1) := by decide +kernel
theorem dX2_isKin_39 : decode mX2_isKin.2.1 39 = .ok (.lload 7, 2) := by decide +kernel
theorem dX2_isKin_41 : decode mX2_isKin.2.1 41 = .ok (.aload_n 1, 1) := by decide +kernel
theorem dX2_isKin_42 : decode mX2_isKin.2.1 42 = .ok (.iload_n 2, 1) := by decide +kernel
theorem dX2_isKin_43 : decode mX2_isKin.2.1 43 = .ok (.iload 9, 2) := by decide +kernel
theorem dX2_isKin_45 : decode mX2_isKin.2.1 45 = .ok (.invokevirtual 102, 3) := by decide +kernel
theorem dX2_isKin_48 : decode mX2_isKin.2.1 48 = .ok (.invokevirtual 106, 3) := by decide +kernel
theorem dX2_isKin_51 : decode mX2_isKin.2.1 51 = .ok (.lload 5, 2) := by decide +kernel
theorem dX2_isKin_53 : decode mX2_isKin.2.1 53 = .ok (.land, 1) := by decide +kernel
theorem dX2_isKin_54 : decode mX2_isKin.2.1 54 = .ok (.lstore 7, 2) := by decide +kernel
theorem dX2_isKin_56 : decode mX2_isKin.2.1 56 = .ok (.iinc 9 (-1), 3) := by decide +kernel
theorem dX2_isKin_59 : decode mX2_isKin.2.1 59 = .ok (.goto (-26), 3) := by decide +kernel
theorem dX2_isKin_62 : decode mX2_isKin.2.1 62 = .ok (.lload 7, 2) := by decide +kernel
theorem dX2_isKin_64 : decode mX2_isKin.2.1 64 = .ok (.iload 4, 2) := by decide +kernel
theorem dX2_isKin_66 : decode mX2_isKin.2.1 66 = .ok (.lshr, 1) := by decide +kernel
theorem dX2_isKin_67 : decode mX2_isKin.2.1 67 = .ok (.lconst 1, 1) := by decide +kernel
theorem dX2_isKin_68 : decode mX2_isKin.2.1 68 = .ok (.land, 1) := by decide +kernel
theorem dX2_isKin_69 : decode mX2_isKin.2.1 69 = .ok (.lconst 0, 1) := by decide +kernel
theorem dX2_isKin_70 : decode mX2_isKin.2.1 70 = .ok (.lcmp, 1) := by decide +kernel
theorem dX2_isKin_71 : decode mX2_isKin.2.1 71 = .ok (.ifCond .eq 7, 3) := by decide +kernel
theorem dX2_isKin_74 : decode mX2_isKin.2.1 74 = .ok (.iconst 1, 1) := by decide +kernel
theorem dX2_isKin_75 : decode mX2_isKin.2.1 75 = .ok (.goto 4, 3) := by decide +kernel
theorem dX2_isKin_78 : decode mX2_isKin.2.1 78 = .ok (.iconst 0, 1) := by decide +kernel
theorem dX2_isKin_79 : decode mX2_isKin.2.1 79 = .ok (.ireturn, 1) := by decide +kernel
theorem bX2_isKin_0 {SC : Nat → Nat} {X : mh_X} {d : Nat} {Q : Option am_V → am_W → Prop} {bc bs : Nat} {w : am_W} {j1 : Nat} {x2 : Int} {x3 : Int} {x4 : Int}
    (h : (0 ≤ x2 ∧ (x2 < 30 ∧ am_A (mh_G X) SC (d + 3) mX2_isKin Q 33 [(0, .inr (.inr (some (5, 0)))), (1, .inr (.inr (some (10, j1)))), (2, .inl x2), (4, .inl x4), (5, .inr (.inl ((w.2.1 5 0 17) &&& (((1 : Int64) <<< ((Int32.ofInt x3).toInt64 &&& 63)) ^^^ (-1 : Int64))))), (7, .inr (.inl ((w.2.1 5 0 17) &&& ((1 : Int64) <<< ((Int32.ofInt x3).toInt64 &&& 63))))), (9, .inl (am_w ((w.1 144 j1 x2.toNat) - 1)))] [] w bc bs))) :
    am_A (mh_G X) SC (d + 3) mX2_isKin Q 0 [(0, .inr (.inr (some (5, 0)))), (1, .inr (.inr (some (10, j1)))), (2, .inl x2), (3, .inl x3), (4, .inl x4)] [] w bc bs := by
  refine am_aload_n dX2_isKin_0 (List.Mem.head _) ?_
  refine am_getf (f := 17) (v := .inr (.inl (w.2.1 5 0 17))) dX2_isKin_1 hc_5 (by decide) wd_338 (by decide) rfl rfl ?_
  refine am_lconst (x := 1) dX2_isKin_4 rfl ?_
  refine am_iload_n dX2_isKin_5 (List.Mem.tail _ (List.Mem.tail _ (List.Mem.tail _ (List.Mem.head _)))) ?_
  refine am_lshl dX2_isKin_6 ?_
  refine am_ldc2 (x := (-1)) dX2_isKin_7 wd_1147 ?_
  refine am_lxor dX2_isKin_10 ?_
  refine am_land dX2_isKin_11 ?_
  refine am_lstore (ls' := [(5, .inr (.inl ((w.2.1 5 0 17) &&& (((1 : Int64) <<< ((Int32.ofInt x3).toInt64 &&& 63)) ^^^ (-1 : Int64))))), (0, .inr (.inr (some (5, 0)))), (1, .inr (.inr (some (10, j1)))), (2, .inl x2), (3, .inl x3), (4, .inl x4)]) dX2_isKin_12 (by decide) rfl ?_
  refine am_aload_n dX2_isKin_14 (List.Mem.tail _ (List.Mem.head _)) ?_
  refine am_getf (f := 17) (v := .inr (.inl (w.2.1 5 0 17))) dX2_isKin_15 hc_5 (by decide) wd_338 (by decide) rfl rfl ?_
  refine am_lconst (x := 1) dX2_isKin_18 rfl ?_
  refine am_iload_n dX2_isKin_19 (List.Mem.tail _ (List.Mem.tail _ (List.Mem.tail _ (List.Mem.tail _ (List.Mem.head _))))) ?_
  refine am_lshl dX2_isKin_20 ?_
  refine am_land dX2_isKin_21 ?_
  refine am_lstore (ls' := [(7, .inr (.inl ((w.2.1 5 0 17) &&& ((1 : Int64) <<< ((Int32.ofInt x3).toInt64 &&& 63))))), (5, .inr (.inl ((w.2.1 5 0 17) &&& (((1 : Int64) <<< ((Int32.ofInt x3).toInt64 &&& 63)) ^^^ (-1 : Int64))))), (0, .inr (.inr (some (5, 0)))), (1, .inr (.inr (some (10, j1)))), (2, .inl x2), (3, .inl x3), (4, .inl x4)]) dX2_isKin_22 (by decide) rfl ?_
  refine am_aload_n dX2_isKin_24 (List.Mem.tail _ (List.Mem.tail _ (List.Mem.tail _ (List.Mem.head _)))) ?_
  refine am_iload_n dX2_isKin_25 (List.Mem.tail _ (List.Mem.tail _ (List.Mem.tail _ (List.Mem.tail _ (List.Mem.head _))))) ?_
  have o1 := h.1
  replace h := h.2
  have o2 := h.1
  replace h := h.2
  refine am_callv (d' := d + 2) (kc := 0) (ks := 0) (as := [.inl x2]) dX2_isKin_26 wc_X3_kinCount wd_1148 wd_1149 wd_1150 wd_116 ds_X3_kinCount (by decide) (by omega) (Nat.le_of_ble_eq_true rfl) (Nat.zero_le _) (Nat.zero_le _) hc_4 (by decide) rfl rfl (sX3_kinCount (d := d + 1) (j0 := j1) (x1 := x2) o1 o2 ?_)
  show am_A (mh_G X) SC (d + 3) mX2_isKin Q 29 [(7, .inr (.inl ((w.2.1 5 0 17) &&& ((1 : Int64) <<< ((Int32.ofInt x3).toInt64 &&& 63))))), (5, .inr (.inl ((w.2.1 5 0 17) &&& (((1 : Int64) <<< ((Int32.ofInt x3).toInt64 &&& 63)) ^^^ (-1 : Int64))))), (0, .inr (.inr (some (5, 0)))), (1, .inr (.inr (some (10, j1)))), (2, .inl x2), (3, .inl x3), (4, .inl x4)] [.inl (w.1 144 j1 x2.toNat)] w bc bs
  refine am_iconst dX2_isKin_29 (by unfold am_rg; omega) ?_
  refine am_isub dX2_isKin_30 ?_
  refine am_istore (ls' := [(9, .inl (am_w ((w.1 144 j1 x2.toNat) - 1))), (7, .inr (.inl ((w.2.1 5 0 17) &&& ((1 : Int64) <<< ((Int32.ofInt x3).toInt64 &&& 63))))), (5, .inr (.inl ((w.2.1 5 0 17) &&& (((1 : Int64) <<< ((Int32.ofInt x3).toInt64 &&& 63)) ^^^ (-1 : Int64))))), (0, .inr (.inr (some (5, 0)))), (1, .inr (.inr (some (10, j1)))), (2, .inl x2), (3, .inl x3), (4, .inl x4)]) dX2_isKin_31 (by decide) rfl ?_
  exact am_sub [3, 4, 5, 7, 2, 1, 0] rfl h
theorem bX2_isKin_33 {SC : Nat → Nat} {X : mh_X} {d : Nat} {Q : Option am_V → am_W → Prop} {bc bs : Nat} {w : am_W} {j1 : Nat} {x2 : Int} {x4 : Int} {y5 : Int64} {y7 : Int64} {x9 : Int}
    (h : ((x9 < 0 → (((am_lcmpv ((y7 >>> ((Int32.ofInt x4).toInt64 &&& 63)) &&& (1 : Int64)) (0 : Int64)) = 0 → Q (some (.inl 0)) w) ∧ (¬ (am_lcmpv ((y7 >>> ((Int32.ofInt x4).toInt64 &&& 63)) &&& (1 : Int64)) (0 : Int64)) = 0 → Q (some (.inl 1)) w))) ∧ (¬ x9 < 0 → (0 ≤ (am_w ((am_w (x2 * 4)) + x9)) ∧ ((am_w ((am_w (x2 * 4)) + x9)) < 120 ∧ am_M (mh_G X) SC (d + 2) 0 0 mX2_kinOf [.inr (.inr (some (5, 0))), .inr (.inl y7), .inl (w.1 145 j1 (am_w ((am_w (x2 * 4)) + x9)).toNat)] w (fun r w1 => am_A (mh_G X) SC (d + 3) mX2_isKin Q 51 [(0, .inr (.inr (some (5, 0)))), (1, .inr (.inr (some (10, j1)))), (2, .inl x2), (4, .inl x4), (5, .inr (.inl y5)), (7, .inr (.inl y7)), (9, .inl x9)] (r.toList ++ []) w1 bc bs)))))) :
    am_A (mh_G X) SC (d + 3) mX2_isKin Q 33 [(0, .inr (.inr (some (5, 0)))), (1, .inr (.inr (some (10, j1)))), (2, .inl x2), (4, .inl x4), (5, .inr (.inl y5)), (7, .inr (.inl y7)), (9, .inl x9)] [] w bc bs := by
  refine am_iload dX2_isKin_33 (List.Mem.tail _ (List.Mem.tail _ (List.Mem.tail _ (List.Mem.tail _ (List.Mem.tail _ (List.Mem.tail _ (List.Mem.head _))))))) ?_
  refine am_iflt (tgt := 62) dX2_isKin_35 (by decide) (fun c1 => ?_) (fun c1 => ?_)
  · replace h := h.1 c1
    refine am_lload dX2_isKin_62 (List.Mem.tail _ (List.Mem.tail _ (List.Mem.tail _ (List.Mem.tail _ (List.Mem.tail _ (List.Mem.head _)))))) ?_
    refine am_iload dX2_isKin_64 (List.Mem.tail _ (List.Mem.tail _ (List.Mem.tail _ (List.Mem.head _)))) ?_
    refine am_lshr dX2_isKin_66 ?_
    refine am_lconst (x := 1) dX2_isKin_67 rfl ?_
    refine am_land dX2_isKin_68 ?_
    refine am_lconst (x := 0) dX2_isKin_69 rfl ?_
    refine am_lcmp dX2_isKin_70 ?_
    refine am_ifeq (tgt := 78) dX2_isKin_71 (by decide) (fun c2 => ?_) (fun c2 => ?_)
    · replace h := h.1 c2
      refine am_iconst dX2_isKin_78 (by unfold am_rg; omega) ?_
      exact am_ret (r := some (.inl 0)) dX2_isKin_79 (Or.inr (Or.inl ⟨rfl, (Or.inl rfl)⟩)) rfl h
    · replace h := h.2 c2
      refine am_iconst dX2_isKin_74 (by unfold am_rg; omega) ?_
      refine am_goto (tgt := 79) dX2_isKin_75 (by decide) ?_
      exact am_ret (r := some (.inl 1)) dX2_isKin_79 (Or.inr (Or.inl ⟨rfl, (Or.inr rfl)⟩)) rfl h
  · replace h := h.2 c1
    refine am_aload_n dX2_isKin_38 (List.Mem.head _) ?_
    refine am_lload dX2_isKin_39 (List.Mem.tail _ (List.Mem.tail _ (List.Mem.tail _ (List.Mem.tail _ (List.Mem.tail _ (List.Mem.head _)))))) ?_
    refine am_aload_n dX2_isKin_41 (List.Mem.tail _ (List.Mem.head _)) ?_
    refine am_iload_n dX2_isKin_42 (List.Mem.tail _ (List.Mem.tail _ (List.Mem.head _))) ?_
    refine am_iload dX2_isKin_43 (List.Mem.tail _ (List.Mem.tail _ (List.Mem.tail _ (List.Mem.tail _ (List.Mem.tail _ (List.Mem.tail _ (List.Mem.head _))))))) ?_
    have o3 := h.1
    replace h := h.2
    have o4 := h.1
    replace h := h.2
    refine am_callv (d' := d + 2) (kc := 0) (ks := 0) (as := [.inl x2, .inl x9]) dX2_isKin_45 wc_X3_kinWord wd_1152 wd_960 wd_961 wd_116 ds_X3_kinWord (by decide) (by omega) (Nat.le_of_ble_eq_true rfl) (Nat.zero_le _) (Nat.zero_le _) hc_4 (by decide) rfl rfl (sX3_kinWord (d := d + 1) (j0 := j1) (x1 := x2) (x2 := x9) o3 o4 ?_)
    show am_A (mh_G X) SC (d + 3) mX2_isKin Q 48 [(0, .inr (.inr (some (5, 0)))), (1, .inr (.inr (some (10, j1)))), (2, .inl x2), (4, .inl x4), (5, .inr (.inl y5)), (7, .inr (.inl y7)), (9, .inl x9)] [.inl (w.1 145 j1 (am_w ((am_w (x2 * 4)) + x9)).toNat), .inr (.inl y7), .inr (.inr (some (5, 0)))] w bc bs
    exact am_callv (d' := d + 2) (kc := 0) (ks := 0) (as := [.inr (.inl y7), .inl (w.1 145 j1 (am_w ((am_w (x2 * 4)) + x9)).toNat)]) dX2_isKin_48 wc_X2_kinOf wd_1153 wd_1155 wd_31 wd_117 ds_X2_kinOf (by decide) (by omega) (Nat.le_of_ble_eq_true rfl) (Nat.zero_le _) (Nat.zero_le _) hc_5 (by decide) rfl rfl h
theorem bX2_isKin_51 {SC : Nat → Nat} {X : mh_X} {d : Nat} {Q : Option am_V → am_W → Prop} {bc bs : Nat} {w : am_W} {j1 : Nat} {x2 : Int} {x4 : Int} {y5 : Int64} {y7 : Int64} {x9 : Int} {ys0 : Int64}
    (h : am_A (mh_G X) SC (d + 3) mX2_isKin Q 33 [(0, .inr (.inr (some (5, 0)))), (1, .inr (.inr (some (10, j1)))), (2, .inl x2), (4, .inl x4), (5, .inr (.inl y5)), (7, .inr (.inl (ys0 &&& y5))), (9, .inl (am_w (x9 + (-1))))] [] w bc bs) :
    am_A (mh_G X) SC (d + 3) mX2_isKin Q 51 [(0, .inr (.inr (some (5, 0)))), (1, .inr (.inr (some (10, j1)))), (2, .inl x2), (4, .inl x4), (5, .inr (.inl y5)), (7, .inr (.inl y7)), (9, .inl x9)] [.inr (.inl ys0)] w bc bs := by
  refine am_lload dX2_isKin_51 (List.Mem.tail _ (List.Mem.tail _ (List.Mem.tail _ (List.Mem.tail _ (List.Mem.head _))))) ?_
  refine am_land dX2_isKin_53 ?_
  refine am_lstore (ls' := [(7, .inr (.inl (ys0 &&& y5))), (0, .inr (.inr (some (5, 0)))), (1, .inr (.inr (some (10, j1)))), (2, .inl x2), (4, .inl x4), (5, .inr (.inl y5)), (9, .inl x9)]) dX2_isKin_54 (by decide) rfl ?_
  refine am_iinc (ls' := [(9, .inl (am_w (x9 + (-1)))), (7, .inr (.inl (ys0 &&& y5))), (0, .inr (.inr (some (5, 0)))), (1, .inr (.inr (some (10, j1)))), (2, .inl x2), (4, .inl x4), (5, .inr (.inl y5))]) dX2_isKin_56 (List.Mem.tail _ (List.Mem.tail _ (List.Mem.tail _ (List.Mem.tail _ (List.Mem.tail _ (List.Mem.tail _ (List.Mem.head _))))))) (by decide) rfl ?_
  refine am_goto (tgt := 33) dX2_isKin_59 (by decide) ?_
  exact am_sub [2, 3, 4, 5, 6, 1, 0] rfl h
-- MourningHouse$Family.factOf(II)I
theorem dX2_factOf_0 : decode mX2_factOf.2.1 0 = .ok (.iload_n 2, 1) := by decide +kernel
theorem dX2_factOf_1 : decode mX2_factOf.2.1 1 = .ok (.tableswitch 148 0 6 #[43, 50, 57, 79, 101, 108, 128], 43) := by decide +kernel
theorem dX2_factOf_44 : decode mX2_factOf.2.1 44 = .ok (.aload_n 0, 1) := by decide +kernel
theorem dX2_factOf_45 : decode mX2_factOf.2.1 45 = .ok (.getfield 11, 3) := by decide +kernel
theorem dX2_factOf_48 : decode mX2_factOf.2.1 48 = .ok (.iload_n 1, 1) := by decide +kernel
theorem dX2_factOf_49 : decode mX2_factOf.2.1 49 = .ok (.iaload, 1) := by decide +kernel
theorem dX2_factOf_50 : decode mX2_factOf.2.1 50 = .ok (.ireturn, 1) := by decide +kernel
theorem dX2_factOf_51 : decode mX2_factOf.2.1 51 = .ok (.aload_n 0, 1) := by decide +kernel
theorem dX2_factOf_52 : decode mX2_factOf.2.1 52 = .ok (.getfield 15, 3) := by decide +kernel
theorem dX2_factOf_55 : decode mX2_factOf.2.1 55 = .ok (.iload_n 1, 1) := by decide +kernel
theorem dX2_factOf_56 : decode mX2_factOf.2.1 56 = .ok (.iaload, 1) := by decide +kernel
theorem dX2_factOf_57 : decode mX2_factOf.2.1 57 = .ok (.ireturn, 1) := by decide +kernel
theorem dX2_factOf_58 : decode mX2_factOf.2.1 58 = .ok (.aload_n 0, 1) := by decide +kernel
theorem dX2_factOf_59 : decode mX2_factOf.2.1 59 = .ok (.getfield 18, 3) := by decide +kernel
theorem dX2_factOf_62 : decode mX2_factOf.2.1 62 = .ok (.iload_n 1, 1) := by decide +kernel
theorem dX2_factOf_63 : decode mX2_factOf.2.1 63 = .ok (.iaload, 1) := by decide +kernel
theorem dX2_factOf_64 : decode mX2_factOf.2.1 64 = .ok (.iconst (-1), 1) := by decide +kernel
theorem dX2_factOf_65 : decode mX2_factOf.2.1 65 = .ok (.if_icmp .ne 8, 3) := by decide +kernel
theorem dX2_factOf_68 : decode mX2_factOf.2.1 68 = .ok (.ldc 114, 2) := by decide +kernel
theorem dX2_factOf_70 : decode mX2_factOf.2.1 70 = .ok (.goto 9, 3) := by decide +kernel
theorem dX2_factOf_73 : decode mX2_factOf.2.1 73 = .ok (.aload_n 0, 1) := by decide +kernel
theorem dX2_factOf_74 : decode mX2_factOf.2.1 74 = .ok (.getfield 18, 3) := by decide +kernel
theorem dX2_factOf_77 : decode mX2_factOf.2.1 77 = .ok (.iload_n 1, 1) := by decide +kernel
theorem dX2_factOf_78 : decode mX2_factOf.2.1 78 = .ok (.iaload, 1) := by decide +kernel
theorem dX2_factOf_79 : decode mX2_factOf.2.1 79 = .ok (.ireturn, 1) := by decide +kernel
theorem dX2_factOf_80 : decode mX2_factOf.2.1 80 = .ok (.aload_n 0, 1) := by decide +kernel
theorem dX2_factOf_81 : decode mX2_factOf.2.1 81 = .ok (.getfield 21, 3) := by decide +kernel
theorem dX2_factOf_84 : decode mX2_factOf.2.1 84 = .ok (.iload_n 1, 1) := by decide +kernel
theorem dX2_factOf_85 : decode mX2_factOf.2.1 85 = .ok (.iaload, 1) := by decide +kernel
theorem dX2_factOf_86 : decode mX2_factOf.2.1 86 = .ok (.iconst (-1), 1) := by decide +kernel
theorem dX2_factOf_87 : decode mX2_factOf.2.1 87 = .ok (.if_icmp .ne 8, 3) := by decide +kernel
theorem dX2_factOf_90 : decode mX2_factOf.2.1 90 = .ok (.ldc 114, 2) := by decide +kernel
theorem dX2_factOf_92 : decode mX2_factOf.2.1 92 = .ok (.goto 9, 3) := by decide +kernel
theorem dX2_factOf_95 : decode mX2_factOf.2.1 95 = .ok (.aload_n 0, 1) := by decide +kernel
theorem dX2_factOf_96 : decode mX2_factOf.2.1 96 = .ok (.getfield 21, 3) := by decide +kernel
theorem dX2_factOf_99 : decode mX2_factOf.2.1 99 = .ok (.iload_n 1, 1) := by decide +kernel
theorem dX2_factOf_100 : decode mX2_factOf.2.1 100 = .ok (.iaload, 1) := by decide +kernel
theorem dX2_factOf_101 : decode mX2_factOf.2.1 101 = .ok (.ireturn, 1) := by decide +kernel
theorem dX2_factOf_102 : decode mX2_factOf.2.1 102 = .ok (.aload_n 0, 1) := by decide +kernel
theorem dX2_factOf_103 : decode mX2_factOf.2.1 103 = .ok (.getfield 24, 3) := by decide +kernel
theorem dX2_factOf_106 : decode mX2_factOf.2.1 106 = .ok (.iload_n 1, 1) := by decide +kernel
theorem dX2_factOf_107 : decode mX2_factOf.2.1 107 = .ok (.iaload, 1) := by decide +kernel
theorem dX2_factOf_108 : decode mX2_factOf.2.1 108 = .ok (.ireturn, 1) := by decide +kernel
theorem dX2_factOf_109 : decode mX2_factOf.2.1 109 = .ok (.aload_n 0, 1) := by decide +kernel
theorem dX2_factOf_110 : decode mX2_factOf.2.1 110 = .ok (.iload_n 1, 1) := by decide +kernel
theorem dX2_factOf_111 : decode mX2_factOf.2.1 111 = .ok (.invokevirtual 91, 3) := by decide +kernel
theorem dX2_factOf_114 : decode mX2_factOf.2.1 114 = .ok (.ifCond .eq 12, 3) := by decide +kernel
theorem dX2_factOf_117 : decode mX2_factOf.2.1 117 = .ok (.aload_n 0, 1) := by decide +kernel
theorem dX2_factOf_118 : decode mX2_factOf.2.1 118 = .ok (.getfield 30, 3) := by decide +kernel
theorem dX2_factOf_121 : decode mX2_factOf.2.1 121 = .ok (.iload_n 1, 1) := by decide +kernel
theorem dX2_factOf_122 : decode mX2_factOf.2.1 122 = .ok (.iaload, 1) := by decide +kernel
theorem dX2_factOf_123 : decode mX2_factOf.2.1 123 = .ok (.goto 5, 3) := by decide +kernel
theorem dX2_factOf_126 : decode mX2_factOf.2.1 126 = .ok (.ldc 114, 2) := by decide +kernel
theorem dX2_factOf_128 : decode mX2_factOf.2.1 128 = .ok (.ireturn, 1) := by decide +kernel
theorem dX2_factOf_129 : decode mX2_factOf.2.1 129 = .ok (.aload_n 0, 1) := by decide +kernel
theorem dX2_factOf_130 : decode mX2_factOf.2.1 130 = .ok (.iload_n 1, 1) := by decide +kernel
theorem dX2_factOf_131 : decode mX2_factOf.2.1 131 = .ok (.invokevirtual 91, 3) := by decide +kernel
theorem dX2_factOf_134 : decode mX2_factOf.2.1 134 = .ok (.ifCond .eq 12, 3) := by decide +kernel
theorem dX2_factOf_137 : decode mX2_factOf.2.1 137 = .ok (.aload_n 0, 1) := by decide +kernel
theorem dX2_factOf_138 : decode mX2_factOf.2.1 138 = .ok (.getfield 33, 3) := by decide +kernel
theorem dX2_factOf_141 : decode mX2_factOf.2.1 141 = .ok (.iload_n 1, 1) := by decide +kernel
theorem dX2_factOf_142 : decode mX2_factOf.2.1 142 = .ok (.iaload, 1) := by decide +kernel
theorem dX2_factOf_143 : decode mX2_factOf.2.1 143 = .ok (.goto 5, 3) := by decide +kernel
theorem dX2_factOf_146 : decode mX2_factOf.2.1 146 = .ok (.ldc 114, 2) := by decide +kernel
theorem dX2_factOf_148 : decode mX2_factOf.2.1 148 = .ok (.ireturn, 1) := by decide +kernel
theorem dX2_factOf_149 : decode mX2_factOf.2.1 149 = .ok (.ldc 114, 2) := by decide +kernel
theorem dX2_factOf_151 : decode mX2_factOf.2.1 151 = .ok (.ireturn, 1) := by decide +kernel
theorem sX2_factOf {SC : Nat → Nat} {X : mh_X} {d kc ks : Nat} {Q : Option am_V → am_W → Prop} {w : am_W} {x1 : Int} {x2 : Int} (Ho2 : x2 = 0 → 0 ≤ x1) (Ho3 : x2 = 0 → x1 < 40) (Ho4 : x2 = 1 → 0 ≤ x1) (Ho5 : x2 = 1 → x1 < 40) (Ho6 : x2 = 2 → 0 ≤ x1) (Ho7 : x2 = 2 → x1 < 40) (Ho9 : x2 = 3 → 0 ≤ x1) (Ho10 : x2 = 3 → x1 < 40) (Ho12 : x2 = 4 → 0 ≤ x1) (Ho13 : x2 = 4 → x1 < 40) (Ho14 : x2 = 5 → 0 ≤ x1) (Ho15 : x2 = 5 → x1 < 40) (Ho17 : x2 = 6 → 0 ≤ x1) (Ho18 : x2 = 6 → x1 < 40)
    (h : Q (some (.inl (if x2 = 6 then (if (¬ (w.1 40 0 x1.toNat) = 2147483647) then (w.1 40 0 x1.toNat) else (-2147483648)) else (if x2 = 5 then (if (¬ (w.1 40 0 x1.toNat) = 2147483647) then (w.1 39 0 x1.toNat) else (-2147483648)) else (if x2 = 4 then (w.1 37 0 x1.toNat) else (if x2 = 3 then (if (w.1 36 0 x1.toNat) = (-1) then (-2147483648) else (w.1 36 0 x1.toNat)) else (if x2 = 2 then (if (w.1 35 0 x1.toNat) = (-1) then (-2147483648) else (w.1 35 0 x1.toNat)) else (if x2 = 1 then (w.1 34 0 x1.toNat) else (if x2 = 0 then (w.1 33 0 x1.toNat) else (-2147483648)))))))))) w) : am_M (mh_G X) SC (d + 2) kc ks mX2_factOf [.inr (.inr (some (5, 0))), .inl x1, .inl x2] w Q := by
  refine am_M_of (by decide) (Nat.le_of_ble_eq_true rfl) ?_
  show am_A (mh_G X) SC (d + 2) mX2_factOf Q 0 [(0, .inr (.inr (some (5, 0)))), (1, .inl x1), (2, .inl x2)] [] w kc ks
  refine am_iload_n dX2_factOf_0 (List.Mem.tail _ (List.Mem.tail _ (List.Mem.head _))) ?_
  by_cases c1 : (x2 < 0 ∨ 6 < x2)
  · refine am_tswOut (tgt := 149) dX2_factOf_1 c1 (by decide) ?_
    refine am_ldcV (n := (-2147483648)) dX2_factOf_149 (by decide) wd_1499 (by unfold am_rg; omega) ?_
    rw [show ((if x2 = 6 then (if (¬ (w.1 40 0 x1.toNat) = 2147483647) then (w.1 40 0 x1.toNat) else (-2147483648)) else (if x2 = 5 then (if (¬ (w.1 40 0 x1.toNat) = 2147483647) then (w.1 39 0 x1.toNat) else (-2147483648)) else (if x2 = 4 then (w.1 37 0 x1.toNat) else (if x2 = 3 then (if (w.1 36 0 x1.toNat) = (-1) then (-2147483648) else (w.1 36 0 x1.toNat)) else (if x2 = 2 then (if (w.1 35 0 x1.toNat) = (-1) then (-2147483648) else (w.1 35 0 x1.toNat)) else (if x2 = 1 then (w.1 34 0 x1.toNat) else (if x2 = 0 then (w.1 33 0 x1.toNat) else (-2147483648)))))))) : Int) = (-2147483648) from (if_neg (show ¬ x2 = 6 by omega)).trans ((if_neg (show ¬ x2 = 5 by omega)).trans ((if_neg (show ¬ x2 = 4 by omega)).trans ((if_neg (show ¬ x2 = 3 by omega)).trans ((if_neg (show ¬ x2 = 2 by omega)).trans ((if_neg (show ¬ x2 = 1 by omega)).trans (if_neg (show ¬ x2 = 0 by omega)))))))] at h
    exact am_ret (r := some (.inl (-2147483648))) dX2_factOf_151 (Or.inl rfl) rfl h
  · rcases (show x2 = 0 ∨ x2 = 1 ∨ x2 = 2 ∨ x2 = 3 ∨ x2 = 4 ∨ x2 = 5 ∨ x2 = 6 by omega) with c1 | c1 | c1 | c1 | c1 | c1 | c1
    · refine am_tswIn (off := 43) (tgt := 44) dX2_factOf_1 (by omega) (by omega) (by rw [c1]; decide) (by decide) ?_
      refine am_aload_n dX2_factOf_44 (List.Mem.head _) ?_
      refine am_getf (f := 0) (v := .inr (.inr (some (33, 0)))) dX2_factOf_45 hc_5 (by decide) wd_315 (by decide) rfl rfl ?_
      refine am_iload_n dX2_factOf_48 (List.Mem.tail _ (List.Mem.head _)) ?_
      have o2 := Ho2 c1
      have o3 := Ho3 c1
      refine am_iaload (v := (w.1 33 0 x1.toNat)) dX2_factOf_49 (by decide) rfl o2 o3 rfl ?_
      rw [show ((if x2 = 6 then (if (¬ (w.1 40 0 x1.toNat) = 2147483647) then (w.1 40 0 x1.toNat) else (-2147483648)) else (if x2 = 5 then (if (¬ (w.1 40 0 x1.toNat) = 2147483647) then (w.1 39 0 x1.toNat) else (-2147483648)) else (if x2 = 4 then (w.1 37 0 x1.toNat) else (if x2 = 3 then (if (w.1 36 0 x1.toNat) = (-1) then (-2147483648) else (w.1 36 0 x1.toNat)) else (if x2 = 2 then (if (w.1 35 0 x1.toNat) = (-1) then (-2147483648) else (w.1 35 0 x1.toNat)) else (if x2 = 1 then (w.1 34 0 x1.toNat) else (if x2 = 0 then (w.1 33 0 x1.toNat) else (-2147483648)))))))) : Int) = (w.1 33 0 x1.toNat) from (if_neg (show ¬ x2 = 6 by omega)).trans ((if_neg (show ¬ x2 = 5 by omega)).trans ((if_neg (show ¬ x2 = 4 by omega)).trans ((if_neg (show ¬ x2 = 3 by omega)).trans ((if_neg (show ¬ x2 = 2 by omega)).trans ((if_neg (show ¬ x2 = 1 by omega)).trans (if_pos c1))))))] at h
      exact am_ret (r := some (.inl (w.1 33 0 x1.toNat))) dX2_factOf_50 (Or.inl rfl) rfl h
    · refine am_tswIn (off := 50) (tgt := 51) dX2_factOf_1 (by omega) (by omega) (by rw [c1]; decide) (by decide) ?_
      refine am_aload_n dX2_factOf_51 (List.Mem.head _) ?_
      refine am_getf (f := 1) (v := .inr (.inr (some (34, 0)))) dX2_factOf_52 hc_5 (by decide) wd_316 (by decide) rfl rfl ?_
      refine am_iload_n dX2_factOf_55 (List.Mem.tail _ (List.Mem.head _)) ?_
      have o4 := Ho4 c1
      have o5 := Ho5 c1
      refine am_iaload (v := (w.1 34 0 x1.toNat)) dX2_factOf_56 (by decide) rfl o4 o5 rfl ?_
      rw [show ((if x2 = 6 then (if (¬ (w.1 40 0 x1.toNat) = 2147483647) then (w.1 40 0 x1.toNat) else (-2147483648)) else (if x2 = 5 then (if (¬ (w.1 40 0 x1.toNat) = 2147483647) then (w.1 39 0 x1.toNat) else (-2147483648)) else (if x2 = 4 then (w.1 37 0 x1.toNat) else (if x2 = 3 then (if (w.1 36 0 x1.toNat) = (-1) then (-2147483648) else (w.1 36 0 x1.toNat)) else (if x2 = 2 then (if (w.1 35 0 x1.toNat) = (-1) then (-2147483648) else (w.1 35 0 x1.toNat)) else (if x2 = 1 then (w.1 34 0 x1.toNat) else (if x2 = 0 then (w.1 33 0 x1.toNat) else (-2147483648)))))))) : Int) = (w.1 34 0 x1.toNat) from (if_neg (show ¬ x2 = 6 by omega)).trans ((if_neg (show ¬ x2 = 5 by omega)).trans ((if_neg (show ¬ x2 = 4 by omega)).trans ((if_neg (show ¬ x2 = 3 by omega)).trans ((if_neg (show ¬ x2 = 2 by omega)).trans (if_pos c1)))))] at h
      exact am_ret (r := some (.inl (w.1 34 0 x1.toNat))) dX2_factOf_57 (Or.inl rfl) rfl h
    · refine am_tswIn (off := 57) (tgt := 58) dX2_factOf_1 (by omega) (by omega) (by rw [c1]; decide) (by decide) ?_
      refine am_aload_n dX2_factOf_58 (List.Mem.head _) ?_
      refine am_getf (f := 2) (v := .inr (.inr (some (35, 0)))) dX2_factOf_59 hc_5 (by decide) wd_318 (by decide) rfl rfl ?_
      refine am_iload_n dX2_factOf_62 (List.Mem.tail _ (List.Mem.head _)) ?_
      have o6 := Ho6 c1
      have o7 := Ho7 c1
      refine am_iaload (v := (w.1 35 0 x1.toNat)) dX2_factOf_63 (by decide) rfl o6 o7 rfl ?_
      refine am_iconst dX2_factOf_64 (by unfold am_rg; omega) ?_
      refine am_icmpne (tgt := 73) dX2_factOf_65 (by decide) (fun c8 => ?_) (fun c8 => ?_)
      · refine am_aload_n dX2_factOf_73 (List.Mem.head _) ?_
        refine am_getf (f := 2) (v := .inr (.inr (some (35, 0)))) dX2_factOf_74 hc_5 (by decide) wd_318 (by decide) rfl rfl ?_
        refine am_iload_n dX2_factOf_77 (List.Mem.tail _ (List.Mem.head _)) ?_
        refine am_iaload (v := (w.1 35 0 x1.toNat)) dX2_factOf_78 (by decide) rfl o6 o7 rfl ?_
        rw [show ((if x2 = 6 then (if (¬ (w.1 40 0 x1.toNat) = 2147483647) then (w.1 40 0 x1.toNat) else (-2147483648)) else (if x2 = 5 then (if (¬ (w.1 40 0 x1.toNat) = 2147483647) then (w.1 39 0 x1.toNat) else (-2147483648)) else (if x2 = 4 then (w.1 37 0 x1.toNat) else (if x2 = 3 then (if (w.1 36 0 x1.toNat) = (-1) then (-2147483648) else (w.1 36 0 x1.toNat)) else (if x2 = 2 then (if (w.1 35 0 x1.toNat) = (-1) then (-2147483648) else (w.1 35 0 x1.toNat)) else (if x2 = 1 then (w.1 34 0 x1.toNat) else (if x2 = 0 then (w.1 33 0 x1.toNat) else (-2147483648)))))))) : Int) = (w.1 35 0 x1.toNat) from (if_neg (show ¬ x2 = 6 by omega)).trans ((if_neg (show ¬ x2 = 5 by omega)).trans ((if_neg (show ¬ x2 = 4 by omega)).trans ((if_neg (show ¬ x2 = 3 by omega)).trans ((if_pos c1).trans (if_neg c8)))))] at h
        exact am_ret (r := some (.inl (w.1 35 0 x1.toNat))) dX2_factOf_79 (Or.inl rfl) rfl h
      · refine am_ldcV (n := (-2147483648)) dX2_factOf_68 (by decide) wd_1499 (by unfold am_rg; omega) ?_
        refine am_goto (tgt := 79) dX2_factOf_70 (by decide) ?_
        rw [show ((if x2 = 6 then (if (¬ (w.1 40 0 x1.toNat) = 2147483647) then (w.1 40 0 x1.toNat) else (-2147483648)) else (if x2 = 5 then (if (¬ (w.1 40 0 x1.toNat) = 2147483647) then (w.1 39 0 x1.toNat) else (-2147483648)) else (if x2 = 4 then (w.1 37 0 x1.toNat) else (if x2 = 3 then (if (w.1 36 0 x1.toNat) = (-1) then (-2147483648) else (w.1 36 0 x1.toNat)) else (if x2 = 2 then (if (w.1 35 0 x1.toNat) = (-1) then (-2147483648) else (w.1 35 0 x1.toNat)) else (if x2 = 1 then (w.1 34 0 x1.toNat) else (if x2 = 0 then (w.1 33 0 x1.toNat) else (-2147483648)))))))) : Int) = (-2147483648) from (if_neg (show ¬ x2 = 6 by omega)).trans ((if_neg (show ¬ x2 = 5 by omega)).trans ((if_neg (show ¬ x2 = 4 by omega)).trans ((if_neg (show ¬ x2 = 3 by omega)).trans ((if_pos c1).trans (if_pos c8)))))] at h
        exact am_ret (r := some (.inl (-2147483648))) dX2_factOf_79 (Or.inl rfl) rfl h
    · refine am_tswIn (off := 79) (tgt := 80) dX2_factOf_1 (by omega) (by omega) (by rw [c1]; decide) (by decide) ?_
      refine am_aload_n dX2_factOf_80 (List.Mem.head _) ?_
      refine am_getf (f := 3) (v := .inr (.inr (some (36, 0)))) dX2_factOf_81 hc_5 (by decide) wd_319 (by decide) rfl rfl ?_
      refine am_iload_n dX2_factOf_84 (List.Mem.tail _ (List.Mem.head _)) ?_
      have o9 := Ho9 c1
      have o10 := Ho10 c1
      refine am_iaload (v := (w.1 36 0 x1.toNat)) dX2_factOf_85 (by decide) rfl o9 o10 rfl ?_
      refine am_iconst dX2_factOf_86 (by unfold am_rg; omega) ?_
      refine am_icmpne (tgt := 95) dX2_factOf_87 (by decide) (fun c11 => ?_) (fun c11 => ?_)
      · refine am_aload_n dX2_factOf_95 (List.Mem.head _) ?_
        refine am_getf (f := 3) (v := .inr (.inr (some (36, 0)))) dX2_factOf_96 hc_5 (by decide) wd_319 (by decide) rfl rfl ?_
        refine am_iload_n dX2_factOf_99 (List.Mem.tail _ (List.Mem.head _)) ?_
        refine am_iaload (v := (w.1 36 0 x1.toNat)) dX2_factOf_100 (by decide) rfl o9 o10 rfl ?_
        rw [show ((if x2 = 6 then (if (¬ (w.1 40 0 x1.toNat) = 2147483647) then (w.1 40 0 x1.toNat) else (-2147483648)) else (if x2 = 5 then (if (¬ (w.1 40 0 x1.toNat) = 2147483647) then (w.1 39 0 x1.toNat) else (-2147483648)) else (if x2 = 4 then (w.1 37 0 x1.toNat) else (if x2 = 3 then (if (w.1 36 0 x1.toNat) = (-1) then (-2147483648) else (w.1 36 0 x1.toNat)) else (if x2 = 2 then (if (w.1 35 0 x1.toNat) = (-1) then (-2147483648) else (w.1 35 0 x1.toNat)) else (if x2 = 1 then (w.1 34 0 x1.toNat) else (if x2 = 0 then (w.1 33 0 x1.toNat) else (-2147483648)))))))) : Int) = (w.1 36 0 x1.toNat) from (if_neg (show ¬ x2 = 6 by omega)).trans ((if_neg (show ¬ x2 = 5 by omega)).trans ((if_neg (show ¬ x2 = 4 by omega)).trans ((if_pos c1).trans (if_neg c11))))] at h
        exact am_ret (r := some (.inl (w.1 36 0 x1.toNat))) dX2_factOf_101 (Or.inl rfl) rfl h
      · refine am_ldcV (n := (-2147483648)) dX2_factOf_90 (by decide) wd_1499 (by unfold am_rg; omega) ?_
        refine am_goto (tgt := 101) dX2_factOf_92 (by decide) ?_
        rw [show ((if x2 = 6 then (if (¬ (w.1 40 0 x1.toNat) = 2147483647) then (w.1 40 0 x1.toNat) else (-2147483648)) else (if x2 = 5 then (if (¬ (w.1 40 0 x1.toNat) = 2147483647) then (w.1 39 0 x1.toNat) else (-2147483648)) else (if x2 = 4 then (w.1 37 0 x1.toNat) else (if x2 = 3 then (if (w.1 36 0 x1.toNat) = (-1) then (-2147483648) else (w.1 36 0 x1.toNat)) else (if x2 = 2 then (if (w.1 35 0 x1.toNat) = (-1) then (-2147483648) else (w.1 35 0 x1.toNat)) else (if x2 = 1 then (w.1 34 0 x1.toNat) else (if x2 = 0 then (w.1 33 0 x1.toNat) else (-2147483648)))))))) : Int) = (-2147483648) from (if_neg (show ¬ x2 = 6 by omega)).trans ((if_neg (show ¬ x2 = 5 by omega)).trans ((if_neg (show ¬ x2 = 4 by omega)).trans ((if_pos c1).trans (if_pos c11))))] at h
        exact am_ret (r := some (.inl (-2147483648))) dX2_factOf_101 (Or.inl rfl) rfl h
    · refine am_tswIn (off := 101) (tgt := 102) dX2_factOf_1 (by omega) (by omega) (by rw [c1]; decide) (by decide) ?_
      refine am_aload_n dX2_factOf_102 (List.Mem.head _) ?_
      refine am_getf (f := 4) (v := .inr (.inr (some (37, 0)))) dX2_factOf_103 hc_5 (by decide) wd_320 (by decide) rfl rfl ?_
      refine am_iload_n dX2_factOf_106 (List.Mem.tail _ (List.Mem.head _)) ?_
      have o12 := Ho12 c1
      have o13 := Ho13 c1
      refine am_iaload (v := (w.1 37 0 x1.toNat)) dX2_factOf_107 (by decide) rfl o12 o13 rfl ?_
      rw [show ((if x2 = 6 then (if (¬ (w.1 40 0 x1.toNat) = 2147483647) then (w.1 40 0 x1.toNat) else (-2147483648)) else (if x2 = 5 then (if (¬ (w.1 40 0 x1.toNat) = 2147483647) then (w.1 39 0 x1.toNat) else (-2147483648)) else (if x2 = 4 then (w.1 37 0 x1.toNat) else (if x2 = 3 then (if (w.1 36 0 x1.toNat) = (-1) then (-2147483648) else (w.1 36 0 x1.toNat)) else (if x2 = 2 then (if (w.1 35 0 x1.toNat) = (-1) then (-2147483648) else (w.1 35 0 x1.toNat)) else (if x2 = 1 then (w.1 34 0 x1.toNat) else (if x2 = 0 then (w.1 33 0 x1.toNat) else (-2147483648)))))))) : Int) = (w.1 37 0 x1.toNat) from (if_neg (show ¬ x2 = 6 by omega)).trans ((if_neg (show ¬ x2 = 5 by omega)).trans (if_pos c1))] at h
      exact am_ret (r := some (.inl (w.1 37 0 x1.toNat))) dX2_factOf_108 (Or.inl rfl) rfl h
    · refine am_tswIn (off := 108) (tgt := 109) dX2_factOf_1 (by omega) (by omega) (by rw [c1]; decide) (by decide) ?_
      refine am_aload_n dX2_factOf_109 (List.Mem.head _) ?_
      refine am_iload_n dX2_factOf_110 (List.Mem.tail _ (List.Mem.head _)) ?_
      have o14 := Ho14 c1
      have o15 := Ho15 c1
      refine am_callv (d' := d + 1) (kc := 0) (ks := 0) (as := [.inl x1]) dX2_factOf_111 wc_X2_isToldDead wd_1420 wd_1104 wd_1105 wd_117 ds_X2_isToldDead (by decide) (by omega) (Nat.le_of_ble_eq_true rfl) (Nat.zero_le _) (Nat.zero_le _) hc_5 (by decide) rfl rfl (sX2_isToldDead (d := d + 0) (x1 := x1) o14 o15 ?_)
      show am_A (mh_G X) SC (d + 2) mX2_factOf Q 114 [(0, .inr (.inr (some (5, 0)))), (1, .inl x1), (2, .inl x2)] [.inl (if (¬ (w.1 40 0 x1.toNat) = 2147483647) then 1 else 0)] w kc ks
      refine am_ifeq (tgt := 126) dX2_factOf_114 (by decide) (fun c16 => ?_) (fun c16 => ?_)
      · replace c16 := am_beq1 c16
        refine am_ldcV (n := (-2147483648)) dX2_factOf_126 (by decide) wd_1499 (by unfold am_rg; omega) ?_
        rw [show ((if x2 = 6 then (if (¬ (w.1 40 0 x1.toNat) = 2147483647) then (w.1 40 0 x1.toNat) else (-2147483648)) else (if x2 = 5 then (if (¬ (w.1 40 0 x1.toNat) = 2147483647) then (w.1 39 0 x1.toNat) else (-2147483648)) else (if x2 = 4 then (w.1 37 0 x1.toNat) else (if x2 = 3 then (if (w.1 36 0 x1.toNat) = (-1) then (-2147483648) else (w.1 36 0 x1.toNat)) else (if x2 = 2 then (if (w.1 35 0 x1.toNat) = (-1) then (-2147483648) else (w.1 35 0 x1.toNat)) else (if x2 = 1 then (w.1 34 0 x1.toNat) else (if x2 = 0 then (w.1 33 0 x1.toNat) else (-2147483648)))))))) : Int) = (-2147483648) from (if_neg (show ¬ x2 = 6 by omega)).trans ((if_pos c1).trans (if_neg c16))] at h
        exact am_ret (r := some (.inl (-2147483648))) dX2_factOf_128 (Or.inl rfl) rfl h
      · replace c16 := am_beq2 c16
        refine am_aload_n dX2_factOf_117 (List.Mem.head _) ?_
        refine am_getf (f := 6) (v := .inr (.inr (some (39, 0)))) dX2_factOf_118 hc_5 (by decide) wd_325 (by decide) rfl rfl ?_
        refine am_iload_n dX2_factOf_121 (List.Mem.tail _ (List.Mem.head _)) ?_
        refine am_iaload (v := (w.1 39 0 x1.toNat)) dX2_factOf_122 (by decide) rfl o14 o15 rfl ?_
        refine am_goto (tgt := 128) dX2_factOf_123 (by decide) ?_
        rw [show ((if x2 = 6 then (if (¬ (w.1 40 0 x1.toNat) = 2147483647) then (w.1 40 0 x1.toNat) else (-2147483648)) else (if x2 = 5 then (if (¬ (w.1 40 0 x1.toNat) = 2147483647) then (w.1 39 0 x1.toNat) else (-2147483648)) else (if x2 = 4 then (w.1 37 0 x1.toNat) else (if x2 = 3 then (if (w.1 36 0 x1.toNat) = (-1) then (-2147483648) else (w.1 36 0 x1.toNat)) else (if x2 = 2 then (if (w.1 35 0 x1.toNat) = (-1) then (-2147483648) else (w.1 35 0 x1.toNat)) else (if x2 = 1 then (w.1 34 0 x1.toNat) else (if x2 = 0 then (w.1 33 0 x1.toNat) else (-2147483648)))))))) : Int) = (w.1 39 0 x1.toNat) from (if_neg (show ¬ x2 = 6 by omega)).trans ((if_pos c1).trans (if_pos c16))] at h
        exact am_ret (r := some (.inl (w.1 39 0 x1.toNat))) dX2_factOf_128 (Or.inl rfl) rfl h
    · refine am_tswIn (off := 128) (tgt := 129) dX2_factOf_1 (by omega) (by omega) (by rw [c1]; decide) (by decide) ?_
      refine am_aload_n dX2_factOf_129 (List.Mem.head _) ?_
      refine am_iload_n dX2_factOf_130 (List.Mem.tail _ (List.Mem.head _)) ?_
      have o17 := Ho17 c1
      have o18 := Ho18 c1
      refine am_callv (d' := d + 1) (kc := 0) (ks := 0) (as := [.inl x1]) dX2_factOf_131 wc_X2_isToldDead wd_1420 wd_1104 wd_1105 wd_117 ds_X2_isToldDead (by decide) (by omega) (Nat.le_of_ble_eq_true rfl) (Nat.zero_le _) (Nat.zero_le _) hc_5 (by decide) rfl rfl (sX2_isToldDead (d := d + 0) (x1 := x1) o17 o18 ?_)
      show am_A (mh_G X) SC (d + 2) mX2_factOf Q 134 [(0, .inr (.inr (some (5, 0)))), (1, .inl x1), (2, .inl x2)] [.inl (if (¬ (w.1 40 0 x1.toNat) = 2147483647) then 1 else 0)] w kc ks
      refine am_ifeq (tgt := 146) dX2_factOf_134 (by decide) (fun c19 => ?_) (fun c19 => ?_)
      · replace c19 := am_beq1 c19
        refine am_ldcV (n := (-2147483648)) dX2_factOf_146 (by decide) wd_1499 (by unfold am_rg; omega) ?_
        rw [show ((if x2 = 6 then (if (¬ (w.1 40 0 x1.toNat) = 2147483647) then (w.1 40 0 x1.toNat) else (-2147483648)) else (if x2 = 5 then (if (¬ (w.1 40 0 x1.toNat) = 2147483647) then (w.1 39 0 x1.toNat) else (-2147483648)) else (if x2 = 4 then (w.1 37 0 x1.toNat) else (if x2 = 3 then (if (w.1 36 0 x1.toNat) = (-1) then (-2147483648) else (w.1 36 0 x1.toNat)) else (if x2 = 2 then (if (w.1 35 0 x1.toNat) = (-1) then (-2147483648) else (w.1 35 0 x1.toNat)) else (if x2 = 1 then (w.1 34 0 x1.toNat) else (if x2 = 0 then (w.1 33 0 x1.toNat) else (-2147483648)))))))) : Int) = (-2147483648) from (if_pos c1).trans (if_neg c19)] at h
        exact am_ret (r := some (.inl (-2147483648))) dX2_factOf_148 (Or.inl rfl) rfl h
      · replace c19 := am_beq2 c19
        refine am_aload_n dX2_factOf_137 (List.Mem.head _) ?_
        refine am_getf (f := 7) (v := .inr (.inr (some (40, 0)))) dX2_factOf_138 hc_5 (by decide) wd_327 (by decide) rfl rfl ?_
        refine am_iload_n dX2_factOf_141 (List.Mem.tail _ (List.Mem.head _)) ?_
        refine am_iaload (v := (w.1 40 0 x1.toNat)) dX2_factOf_142 (by decide) rfl o17 o18 rfl ?_
        refine am_goto (tgt := 148) dX2_factOf_143 (by decide) ?_
        rw [show ((if x2 = 6 then (if (¬ (w.1 40 0 x1.toNat) = 2147483647) then (w.1 40 0 x1.toNat) else (-2147483648)) else (if x2 = 5 then (if (¬ (w.1 40 0 x1.toNat) = 2147483647) then (w.1 39 0 x1.toNat) else (-2147483648)) else (if x2 = 4 then (w.1 37 0 x1.toNat) else (if x2 = 3 then (if (w.1 36 0 x1.toNat) = (-1) then (-2147483648) else (w.1 36 0 x1.toNat)) else (if x2 = 2 then (if (w.1 35 0 x1.toNat) = (-1) then (-2147483648) else (w.1 35 0 x1.toNat)) else (if x2 = 1 then (w.1 34 0 x1.toNat) else (if x2 = 0 then (w.1 33 0 x1.toNat) else (-2147483648)))))))) : Int) = (w.1 40 0 x1.toNat) from (if_pos c1).trans (if_pos c19)] at h
        exact am_ret (r := some (.inl (w.1 40 0 x1.toNat))) dX2_factOf_148 (Or.inl rfl) rfl h
-- MourningHouse$Law.clear()V
theorem dX3_clear_0 : decode mX3_clear.2.1 0 = .ok (.aload_n 0, 1) := by decide +kernel
theorem dX3_clear_1 : decode mX3_clear.2.1 1 = .ok (.iconst 0, 1) := by decide +kernel
theorem dX3_clear_2 : decode mX3_clear.2.1 2 = .ok (.putfield 42, 3) := by decide +kernel
theorem dX3_clear_5 : decode mX3_clear.2.1 5 = .ok (.aload_n 0, 1) := by decide +kernel
theorem dX3_clear_6 : decode mX3_clear.2.1 6 = .ok (.iconst 0, 1) := by decide +kernel
theorem dX3_clear_7 : decode mX3_clear.2.1 7 = .ok (.putfield 46, 3) := by decide +kernel
theorem dX3_clear_10 : decode mX3_clear.2.1 10 = .ok (.iconst 0, 1) := by decide +kernel
theorem dX3_clear_11 : decode mX3_clear.2.1 11 = .ok (.istore_n 1, 1) := by decide +kernel
theorem dX3_clear_12 : decode mX3_clear.2.1 12 = .ok (.iload_n 1, 1) := by decide +kernel
theorem dX3_clear_13 : decode mX3_clear.2.1 13 = .ok (.iconst 4, 1) := by decide +kernel
theorem dX3_clear_14 : decode mX3_clear.2.1 14 = .ok (.if_icmp .ge 16, 3) := by decide +kernel
theorem dX3_clear_17 : decode mX3_clear.2.1 17 = .ok (.aload_n 0, 1) := by decide +kernel
theorem dX3_clear_18 : decode mX3_clear.2.1 18 = .ok (.getfield 39, 3) := by decide +kernel
theorem dX3_clear_21 : decode mX3_clear.2.1 21 = .ok (.iload_n 1, 1) := by decide +kernel
theorem dX3_clear_22 : decode mX3_clear.2.1 22 = .ok (.iconst 0, 1) := by decide +kernel
theorem dX3_clear_23 : decode mX3_clear.2.1 23 = .ok (.iastore, 1) := by decide +kernel
theorem dX3_clear_24 : decode mX3_clear.2.1 24 = .ok (.iinc 1 1, 3) := by decide +kernel
theorem dX3_clear_27 : decode mX3_clear.2.1 27 = .ok (.goto (-15), 3) := by decide +kernel
theorem dX3_clear_30 : decode mX3_clear.2.1 30 = .ok (.aload_n 0, 1) := by decide +kernel
theorem dX3_clear_31 : decode mX3_clear.2.1 31 = .ok (.iconst 0, 1) := by decide +kernel
theorem dX3_clear_32 : decode mX3_clear.2.1 32 = .ok (.putfield 49, 3) := by decide +kernel
theorem dX3_clear_35 : decode mX3_clear.2.1 35 = .ok (.aload_n 0, 1) := by decide +kernel
theorem dX3_clear_36 : decode mX3_clear.2.1 36 = .ok (.iconst 0, 1) := by decide +kernel
theorem dX3_clear_37 : decode mX3_clear.2.1 37 = .ok (.putfield 52, 3) := by decide +kernel
theorem dX3_clear_40 : decode mX3_clear.2.1 40 = .ok (.aload_n 0, 1) := by decide +kernel
theorem dX3_clear_41 : decode mX3_clear.2.1 41 = .ok (.iconst 0, 1) := by decide +kernel
theorem dX3_clear_42 : decode mX3_clear.2.1 42 = .ok (.putfield 55, 3) := by decide +kernel
theorem dX3_clear_45 : decode mX3_clear.2.1 45 = .ok (.aload_n 0, 1) := by decide +kernel
theorem dX3_clear_46 : decode mX3_clear.2.1 46 = .ok (.iconst 0, 1) := by decide +kernel
theorem dX3_clear_47 : decode mX3_clear.2.1 47 = .ok (.putfield 58, 3) := by decide +kernel
theorem dX3_clear_50 : decode mX3_clear.2.1 50 = .ok (.aload_n 0, 1) := by decide +kernel
theorem dX3_clear_51 : decode mX3_clear.2.1 51 = .ok (.iconst 0, 1) := by decide +kernel
theorem dX3_clear_52 : decode mX3_clear.2.1 52 = .ok (.putfield 61, 3) := by decide +kernel
theorem dX3_clear_55 : decode mX3_clear.2.1 55 = .ok (.return_, 1) := by decide +kernel
theorem bX3_clear_0 {SC : Nat → Nat} {X : mh_X} {d : Nat} {Q : Option am_V → am_W → Prop} {bc bs : Nat} {w : am_W} {j0 : Nat}
    (h : am_A (mh_G X) SC (d + 1) mX3_clear Q 12 [(0, .inr (.inr (some (10, j0)))), (1, .inl 0)] [] ((am_up (am_up w.1 10 j0 10 0) 10 j0 11 0), w.2) bc bs) :
    am_A (mh_G X) SC (d + 1) mX3_clear Q 0 [(0, .inr (.inr (some (10, j0))))] [] w bc bs := by
  refine am_aload_n dX3_clear_0 (List.Mem.head _) ?_
  refine am_iconst dX3_clear_1 (by unfold am_rg; omega) ?_
  refine am_putf (f := 10) dX3_clear_2 hc_4 (by decide) wd_227 rfl (Or.inl rfl) (Or.inl (by decide)) rfl ?_
  refine am_aload_n dX3_clear_5 (List.Mem.head _) ?_
  refine am_iconst dX3_clear_6 (by unfold am_rg; omega) ?_
  refine am_putf (f := 11) dX3_clear_7 hc_4 (by decide) wd_230 rfl (Or.inl rfl) (Or.inl (by decide)) rfl ?_
  refine am_iconst dX3_clear_10 (by unfold am_rg; omega) ?_
  refine am_istore_n (ls' := [(1, .inl 0), (0, .inr (.inr (some (10, j0))))]) dX3_clear_11 (by decide) rfl ?_
  exact am_sub [1, 0] rfl h
theorem bX3_clear_12 {SC : Nat → Nat} {X : mh_X} {d : Nat} {Q : Option am_V → am_W → Prop} {bc bs : Nat} {w : am_W} {j0 : Nat} {x1 : Int}
    (h : ((4 ≤ x1 → Q none ((am_up (am_up (am_up (am_up (am_up w.1 10 j0 12 0) 10 j0 13 0) 10 j0 14 0) 10 j0 15 0) 10 j0 16 0), w.2)) ∧ (¬ 4 ≤ x1 → (0 ≤ x1 ∧ (x1 < 4 ∧ am_A (mh_G X) SC (d + 1) mX3_clear Q 12 [(0, .inr (.inr (some (10, j0)))), (1, .inl (am_w (x1 + 1)))] [] ((am_up w.1 153 j0 x1.toNat 0), w.2) bc bs))))) :
    am_A (mh_G X) SC (d + 1) mX3_clear Q 12 [(0, .inr (.inr (some (10, j0)))), (1, .inl x1)] [] w bc bs := by
  refine am_iload_n dX3_clear_12 (List.Mem.tail _ (List.Mem.head _)) ?_
  refine am_iconst dX3_clear_13 (by unfold am_rg; omega) ?_
  refine am_icmpge (tgt := 30) dX3_clear_14 (by decide) (fun c1 => ?_) (fun c1 => ?_)
  · replace h := h.1 c1
    refine am_aload_n dX3_clear_30 (List.Mem.head _) ?_
    refine am_iconst dX3_clear_31 (by unfold am_rg; omega) ?_
    refine am_putf (f := 12) dX3_clear_32 hc_4 (by decide) wd_231 rfl (Or.inl rfl) (Or.inl (by decide)) rfl ?_
    refine am_aload_n dX3_clear_35 (List.Mem.head _) ?_
    refine am_iconst dX3_clear_36 (by unfold am_rg; omega) ?_
    refine am_putf (f := 13) dX3_clear_37 hc_4 (by decide) wd_234 rfl (Or.inl rfl) (Or.inl (by decide)) rfl ?_
    refine am_aload_n dX3_clear_40 (List.Mem.head _) ?_
    refine am_iconst dX3_clear_41 (by unfold am_rg; omega) ?_
    refine am_putf (f := 14) dX3_clear_42 hc_4 (by decide) wd_237 rfl (Or.inl rfl) (Or.inl (by decide)) rfl ?_
    refine am_aload_n dX3_clear_45 (List.Mem.head _) ?_
    refine am_iconst dX3_clear_46 (by unfold am_rg; omega) ?_
    refine am_putf (f := 15) dX3_clear_47 hc_4 (by decide) wd_240 rfl (Or.inl rfl) (Or.inl (by decide)) rfl ?_
    refine am_aload_n dX3_clear_50 (List.Mem.head _) ?_
    refine am_iconst dX3_clear_51 (by unfold am_rg; omega) ?_
    refine am_putf (f := 16) dX3_clear_52 hc_4 (by decide) wd_243 rfl (Or.inl rfl) (Or.inl (by decide)) rfl ?_
    exact am_ret (r := none) dX3_clear_55 rfl rfl h
  · replace h := h.2 c1
    refine am_aload_n dX3_clear_17 (List.Mem.head _) ?_
    refine am_getf (f := 9) (v := .inr (.inr (some (153, j0)))) dX3_clear_18 hc_4 (by decide) wd_224 (by decide) rfl rfl ?_
    refine am_iload_n dX3_clear_21 (List.Mem.tail _ (List.Mem.head _)) ?_
    refine am_iconst dX3_clear_22 (by unfold am_rg; omega) ?_
    have o2 := h.1
    replace h := h.2
    have o3 := h.1
    replace h := h.2
    refine am_iastore dX3_clear_23 (Or.inl (by decide)) rfl o2 o3 ?_
    refine am_iinc (ls' := [(1, .inl (am_w (x1 + 1))), (0, .inr (.inr (some (10, j0))))]) dX3_clear_24 (List.Mem.tail _ (List.Mem.head _)) (by decide) rfl ?_
    refine am_goto (tgt := 12) dX3_clear_27 (by decide) ?_
    exact am_sub [1, 0] rfl h
-- MourningHouse$Law.hasRoomForRule()Z
theorem dX3_hasRoomForRule_0 : decode mX3_hasRoomForRule.2.1 0 = .ok (.aload_n 0, 1) := by decide +kernel
theorem dX3_hasRoomForRule_1 : decode mX3_hasRoomForRule.2.1 1 = .ok (.getfield 42, 3) := by decide +kernel
theorem dX3_hasRoomForRule_4 : decode mX3_hasRoomForRule.2.1 4 = .ok (.bipush 30, 2) := by decide +kernel
theorem dX3_hasRoomForRule_6 : decode mX3_hasRoomForRule.2.1 6 = .ok (.if_icmp .ge 7, 3) := by decide +kernel
theorem dX3_hasRoomForRule_9 : decode mX3_hasRoomForRule.2.1 9 = .ok (.iconst 1, 1) := by decide +kernel
theorem dX3_hasRoomForRule_10 : decode mX3_hasRoomForRule.2.1 10 = .ok (.goto 4, 3) := by decide +kernel
theorem dX3_hasRoomForRule_13 : decode mX3_hasRoomForRule.2.1 13 = .ok (.iconst 0, 1) := by decide +kernel
theorem dX3_hasRoomForRule_14 : decode mX3_hasRoomForRule.2.1 14 = .ok (.ireturn, 1) := by decide +kernel
theorem sX3_hasRoomForRule {SC : Nat → Nat} {X : mh_X} {d kc ks : Nat} {Q : Option am_V → am_W → Prop} {w : am_W} {j0 : Nat}
    (h : Q (some (.inl (if (¬ 30 ≤ (w.1 10 j0 10)) then 1 else 0))) w) : am_M (mh_G X) SC (d + 1) kc ks mX3_hasRoomForRule [.inr (.inr (some (10, j0)))] w Q := by
  refine am_M_of (by decide) (Nat.le_of_ble_eq_true rfl) ?_
  show am_A (mh_G X) SC (d + 1) mX3_hasRoomForRule Q 0 [(0, .inr (.inr (some (10, j0))))] [] w kc ks
  refine am_aload_n dX3_hasRoomForRule_0 (List.Mem.head _) ?_
  refine am_getf (f := 10) (v := .inl (w.1 10 j0 10)) dX3_hasRoomForRule_1 hc_4 (by decide) wd_227 (by decide) rfl rfl ?_
  refine am_bipush dX3_hasRoomForRule_4 (by decide) (by unfold am_rg; omega) ?_
  refine am_icmpge (tgt := 13) dX3_hasRoomForRule_6 (by decide) (fun c1 => ?_) (fun c1 => ?_)
  · refine am_iconst dX3_hasRoomForRule_13 (by unfold am_rg; omega) ?_
    rw [if_neg (by omega)] at h
    exact am_ret (r := some (.inl 0)) dX3_hasRoomForRule_14 (Or.inr (Or.inl ⟨rfl, (Or.inl rfl)⟩)) rfl h
  · refine am_iconst dX3_hasRoomForRule_9 (by unfold am_rg; omega) ?_
    refine am_goto (tgt := 14) dX3_hasRoomForRule_10 (by decide) ?_
    rw [if_pos (by omega)] at h
    exact am_ret (r := some (.inl 1)) dX3_hasRoomForRule_14 (Or.inr (Or.inl ⟨rfl, (Or.inr rfl)⟩)) rfl h
-- MourningHouse$Law.openRule()V
theorem dX3_openRule_0 : decode mX3_openRule.2.1 0 = .ok (.aload_n 0, 1) := by decide +kernel
theorem dX3_openRule_1 : decode mX3_openRule.2.1 1 = .ok (.getfield 11, 3) := by decide +kernel
theorem dX3_openRule_4 : decode mX3_openRule.2.1 4 = .ok (.aload_n 0, 1) := by decide +kernel
theorem dX3_openRule_5 : decode mX3_openRule.2.1 5 = .ok (.getfield 42, 3) := by decide +kernel
theorem dX3_openRule_8 : decode mX3_openRule.2.1 8 = .ok (.iconst 0, 1) := by decide +kernel
theorem dX3_openRule_9 : decode mX3_openRule.2.1 9 = .ok (.iastore, 1) := by decide +kernel
theorem dX3_openRule_10 : decode mX3_openRule.2.1 10 = .ok (.aload_n 0, 1) := by decide +kernel
theorem dX3_openRule_11 : decode mX3_openRule.2.1 11 = .ok (.getfield 18, 3) := by decide +kernel
theorem dX3_openRule_14 : decode mX3_openRule.2.1 14 = .ok (.aload_n 0, 1) := by decide +kernel
theorem dX3_openRule_15 : decode mX3_openRule.2.1 15 = .ok (.getfield 42, 3) := by decide +kernel
theorem dX3_openRule_18 : decode mX3_openRule.2.1 18 = .ok (.iconst 0, 1) := by decide +kernel
theorem dX3_openRule_19 : decode mX3_openRule.2.1 19 = .ok (.iastore, 1) := by decide +kernel
theorem dX3_openRule_20 : decode mX3_openRule.2.1 20 = .ok (.aload_n 0, 1) := by decide +kernel
theorem dX3_openRule_21 : decode mX3_openRule.2.1 21 = .ok (.getfield 30, 3) := by decide +kernel
theorem dX3_openRule_24 : decode mX3_openRule.2.1 24 = .ok (.aload_n 0, 1) := by decide +kernel
theorem dX3_openRule_25 : decode mX3_openRule.2.1 25 = .ok (.getfield 42, 3) := by decide +kernel
theorem dX3_openRule_28 : decode mX3_openRule.2.1 28 = .ok (.iconst 0, 1) := by decide +kernel
theorem dX3_openRule_29 : decode mX3_openRule.2.1 29 = .ok (.iastore, 1) := by decide +kernel
theorem dX3_openRule_30 : decode mX3_openRule.2.1 30 = .ok (.aload_n 0, 1) := by decide +kernel
theorem dX3_openRule_31 : decode mX3_openRule.2.1 31 = .ok (.dup, 1) := by decide +kernel
theorem dX3_openRule_32 : decode mX3_openRule.2.1 32 = .ok (.getfield 42, 3) := by decide +kernel
theorem dX3_openRule_35 : decode mX3_openRule.2.1 35 = .ok (.iconst 1, 1) := by decide +kernel
theorem dX3_openRule_36 : decode mX3_openRule.2.1 36 = .ok (.iadd, 1) := by decide +kernel
theorem dX3_openRule_37 : decode mX3_openRule.2.1 37 = .ok (.putfield 42, 3) := by decide +kernel
theorem dX3_openRule_40 : decode mX3_openRule.2.1 40 = .ok (.return_, 1) := by decide +kernel
theorem sX3_openRule {SC : Nat → Nat} {X : mh_X} {d kc ks : Nat} {Q : Option am_V → am_W → Prop} {w : am_W} {j0 : Nat} (Ho1 : 0 ≤ (w.1 10 j0 10)) (Ho2 : (w.1 10 j0 10) < 30)
    (h : Q none ((am_up (am_up (am_up (am_up w.1 144 j0 (w.1 10 j0 10).toNat 0) 146 j0 (w.1 10 j0 10).toNat 0) 150 j0 (w.1 10 j0 10).toNat 0) 10 j0 10 (am_w ((w.1 10 j0 10) + 1))), w.2)) : am_M (mh_G X) SC (d + 1) kc ks mX3_openRule [.inr (.inr (some (10, j0)))] w Q := by
  refine am_M_of (by decide) (Nat.le_of_ble_eq_true rfl) ?_
  show am_A (mh_G X) SC (d + 1) mX3_openRule Q 0 [(0, .inr (.inr (some (10, j0))))] [] w kc ks
  refine am_aload_n dX3_openRule_0 (List.Mem.head _) ?_
  refine am_getf (f := 0) (v := .inr (.inr (some (144, j0)))) dX3_openRule_1 hc_4 (by decide) wd_215 (by decide) rfl rfl ?_
  refine am_aload_n dX3_openRule_4 (List.Mem.head _) ?_
  refine am_getf (f := 10) (v := .inl (w.1 10 j0 10)) dX3_openRule_5 hc_4 (by decide) wd_227 (by decide) rfl rfl ?_
  refine am_iconst dX3_openRule_8 (by unfold am_rg; omega) ?_
  have o1 := Ho1
  have o2 := Ho2
  refine am_iastore dX3_openRule_9 (Or.inl (by decide)) rfl o1 o2 ?_
  refine am_aload_n dX3_openRule_10 (List.Mem.head _) ?_
  refine am_getf (f := 2) (v := .inr (.inr (some (146, j0)))) dX3_openRule_11 hc_4 (by decide) wd_217 (by decide) rfl rfl ?_
  refine am_aload_n dX3_openRule_14 (List.Mem.head _) ?_
  refine am_getf (f := 10) (v := .inl (w.1 10 j0 10)) dX3_openRule_15 hc_4 (by decide) wd_227 (by decide) rfl rfl ?_
  refine am_iconst dX3_openRule_18 (by unfold am_rg; omega) ?_
  refine am_iastore dX3_openRule_19 (Or.inl (by decide)) rfl o1 o2 ?_
  refine am_aload_n dX3_openRule_20 (List.Mem.head _) ?_
  refine am_getf (f := 6) (v := .inr (.inr (some (150, j0)))) dX3_openRule_21 hc_4 (by decide) wd_221 (by decide) rfl rfl ?_
  refine am_aload_n dX3_openRule_24 (List.Mem.head _) ?_
  refine am_getf (f := 10) (v := .inl (w.1 10 j0 10)) dX3_openRule_25 hc_4 (by decide) wd_227 (by decide) rfl rfl ?_
  refine am_iconst dX3_openRule_28 (by unfold am_rg; omega) ?_
  refine am_iastore dX3_openRule_29 (Or.inl (by decide)) rfl o1 o2 ?_
  refine am_aload_n dX3_openRule_30 (List.Mem.head _) ?_
  refine am_dup dX3_openRule_31 rfl ?_
  refine am_getf (f := 10) (v := .inl (w.1 10 j0 10)) dX3_openRule_32 hc_4 (by decide) wd_227 (by decide) rfl rfl ?_
  refine am_iconst dX3_openRule_35 (by unfold am_rg; omega) ?_
  refine am_iadd dX3_openRule_36 ?_
  refine am_putf (f := 10) dX3_openRule_37 hc_4 (by decide) wd_227 rfl (Or.inl rfl) (Or.inl (by decide)) rfl ?_
  exact am_ret (r := none) dX3_openRule_40 rfl rfl h
-- MourningHouse$Law.addKin(I)Z
theorem dX3_addKin_0 : decode mX3_addKin.2.1 0 = .ok (.aload_n 0, 1) := by decide +kernel
theorem dX3_addKin_1 : decode mX3_addKin.2.1 1 = .ok (.getfield 11, 3) := by decide +kernel
theorem dX3_addKin_4 : decode mX3_addKin.2.1 4 = .ok (.aload_n 0, 1) := by decide +kernel
theorem dX3_addKin_5 : decode mX3_addKin.2.1 5 = .ok (.getfield 42, 3) := by decide +kernel
theorem dX3_addKin_8 : decode mX3_addKin.2.1 8 = .ok (.iconst 1, 1) := by decide +kernel
theorem dX3_addKin_9 : decode mX3_addKin.2.1 9 = .ok (.isub, 1) := by decide +kernel
theorem dX3_addKin_10 : decode mX3_addKin.2.1 10 = .ok (.iaload, 1) := by decide +kernel
theorem dX3_addKin_11 : decode mX3_addKin.2.1 11 = .ok (.istore_n 2, 1) := by decide +kernel
theorem dX3_addKin_12 : decode mX3_addKin.2.1 12 = .ok (.iload_n 2, 1) := by decide +kernel
theorem dX3_addKin_13 : decode mX3_addKin.2.1 13 = .ok (.iconst 4, 1) := by decide +kernel
theorem dX3_addKin_14 : decode mX3_addKin.2.1 14 = .ok (.if_icmp .lt 5, 3) := by decide +kernel
theorem dX3_addKin_17 : decode mX3_addKin.2.1 17 = .ok (.iconst 0, 1) := by decide +kernel
theorem dX3_addKin_18 : decode mX3_addKin.2.1 18 = .ok (.ireturn, 1) := by decide +kernel
theorem dX3_addKin_19 : decode mX3_addKin.2.1 19 = .ok (.aload_n 0, 1) := by decide +kernel
theorem dX3_addKin_20 : decode mX3_addKin.2.1 20 = .ok (.getfield 15, 3) := by decide +kernel
theorem dX3_addKin_23 : decode mX3_addKin.2.1 23 = .ok (.aload_n 0, 1) := by decide +kernel
theorem dX3_addKin_24 : decode mX3_addKin.2.1 24 = .ok (.getfield 42, 3) := by decide +kernel
theorem dX3_addKin_27 : decode mX3_addKin.2.1 27 = .ok (.iconst 1, 1) := by decide +kernel
theorem dX3_addKin_28 : decode mX3_addKin.2.1 28 = .ok (.isub, 1) := by decide +kernel
theorem dX3_addKin_29 : decode mX3_addKin.2.1 29 = .ok (.iconst 4, 1) := by decide +kernel
theorem dX3_addKin_30 : decode mX3_addKin.2.1 30 = .ok (.imul, 1) := by decide +kernel
theorem dX3_addKin_31 : decode mX3_addKin.2.1 31 = .ok (.iload_n 2, 1) := by decide +kernel
theorem dX3_addKin_32 : decode mX3_addKin.2.1 32 = .ok (.iadd, 1) := by decide +kernel
theorem dX3_addKin_33 : decode mX3_addKin.2.1 33 = .ok (.iload_n 1, 1) := by decide +kernel
theorem dX3_addKin_34 : decode mX3_addKin.2.1 34 = .ok (.iastore, 1) := by decide +kernel
theorem dX3_addKin_35 : decode mX3_addKin.2.1 35 = .ok (.aload_n 0, 1) := by decide +kernel
theorem dX3_addKin_36 : decode mX3_addKin.2.1 36 = .ok (.getfield 11, 3) := by decide +kernel
theorem dX3_addKin_39 : decode mX3_addKin.2.1 39 = .ok (.aload_n 0, 1) := by decide +kernel
theorem dX3_addKin_40 : decode mX3_addKin.2.1 40 = .ok (.getfield 42, 3) := by decide +kernel
theorem dX3_addKin_43 : decode mX3_addKin.2.1 43 = .ok (.iconst 1, 1) := by decide +kernel
theorem dX3_addKin_44 : decode mX3_addKin.2.1 44 = .ok (.isub, 1) := by decide +kernel
theorem dX3_addKin_45 : decode mX3_addKin.2.1 45 = .ok (.iload_n 2, 1) := by decide +kernel
theorem dX3_addKin_46 : decode mX3_addKin.2.1 46 = .ok (.iconst 1, 1) := by decide +kernel
theorem dX3_addKin_47 : decode mX3_addKin.2.1 47 = .ok (.iadd, 1) := by decide +kernel
theorem dX3_addKin_48 : decode mX3_addKin.2.1 48 = .ok (.iastore, 1) := by decide +kernel
theorem dX3_addKin_49 : decode mX3_addKin.2.1 49 = .ok (.iconst 1, 1) := by decide +kernel
theorem dX3_addKin_50 : decode mX3_addKin.2.1 50 = .ok (.ireturn, 1) := by decide +kernel
theorem bX3_addKin_0 {SC : Nat → Nat} {X : mh_X} {d : Nat} {Q : Option am_V → am_W → Prop} {bc bs : Nat} {w : am_W} {j0 : Nat} {x1 : Int}
    (h : (0 ≤ (am_w ((w.1 10 j0 10) - 1)) ∧ ((am_w ((w.1 10 j0 10) - 1)) < 30 ∧ (((w.1 144 j0 (am_w ((w.1 10 j0 10) - 1)).toNat) < 4 → (0 ≤ (am_w ((am_w ((am_w ((w.1 10 j0 10) - 1)) * 4)) + (w.1 144 j0 (am_w ((w.1 10 j0 10) - 1)).toNat))) ∧ ((am_w ((am_w ((am_w ((w.1 10 j0 10) - 1)) * 4)) + (w.1 144 j0 (am_w ((w.1 10 j0 10) - 1)).toNat))) < 120 ∧ Q (some (.inl 1)) ((am_up (am_up w.1 145 j0 (am_w ((am_w ((am_w ((w.1 10 j0 10) - 1)) * 4)) + (w.1 144 j0 (am_w ((w.1 10 j0 10) - 1)).toNat))).toNat x1) 144 j0 (am_w ((w.1 10 j0 10) - 1)).toNat (am_w ((w.1 144 j0 (am_w ((w.1 10 j0 10) - 1)).toNat) + 1))), w.2)))) ∧ (¬ (w.1 144 j0 (am_w ((w.1 10 j0 10) - 1)).toNat) < 4 → Q (some (.inl 0)) w))))) :
    am_A (mh_G X) SC (d + 1) mX3_addKin Q 0 [(0, .inr (.inr (some (10, j0)))), (1, .inl x1)] [] w bc bs := by
  refine am_aload_n dX3_addKin_0 (List.Mem.head _) ?_
  refine am_getf (f := 0) (v := .inr (.inr (some (144, j0)))) dX3_addKin_1 hc_4 (by decide) wd_215 (by decide) rfl rfl ?_
  refine am_aload_n dX3_addKin_4 (List.Mem.head _) ?_
  refine am_getf (f := 10) (v := .inl (w.1 10 j0 10)) dX3_addKin_5 hc_4 (by decide) wd_227 (by decide) rfl rfl ?_
  refine am_iconst dX3_addKin_8 (by unfold am_rg; omega) ?_
  refine am_isub dX3_addKin_9 ?_
  have o1 := h.1
  replace h := h.2
  have o2 := h.1
  replace h := h.2
  refine am_iaload (v := (w.1 144 j0 (am_w ((w.1 10 j0 10) - 1)).toNat)) dX3_addKin_10 (by decide) rfl o1 o2 rfl ?_
  refine am_istore_n (ls' := [(2, .inl (w.1 144 j0 (am_w ((w.1 10 j0 10) - 1)).toNat)), (0, .inr (.inr (some (10, j0)))), (1, .inl x1)]) dX3_addKin_11 (by decide) rfl ?_
  refine am_iload_n dX3_addKin_12 (List.Mem.head _) ?_
  refine am_iconst dX3_addKin_13 (by unfold am_rg; omega) ?_
  refine am_icmplt (tgt := 19) dX3_addKin_14 (by decide) (fun c3 => ?_) (fun c3 => ?_)
  · replace h := h.1 c3
    refine am_aload_n dX3_addKin_19 (List.Mem.tail _ (List.Mem.head _)) ?_
    refine am_getf (f := 1) (v := .inr (.inr (some (145, j0)))) dX3_addKin_20 hc_4 (by decide) wd_216 (by decide) rfl rfl ?_
    refine am_aload_n dX3_addKin_23 (List.Mem.tail _ (List.Mem.head _)) ?_
    refine am_getf (f := 10) (v := .inl (w.1 10 j0 10)) dX3_addKin_24 hc_4 (by decide) wd_227 (by decide) rfl rfl ?_
    refine am_iconst dX3_addKin_27 (by unfold am_rg; omega) ?_
    refine am_isub dX3_addKin_28 ?_
    refine am_iconst dX3_addKin_29 (by unfold am_rg; omega) ?_
    refine am_imul dX3_addKin_30 ?_
    refine am_iload_n dX3_addKin_31 (List.Mem.head _) ?_
    refine am_iadd dX3_addKin_32 ?_
    refine am_iload_n dX3_addKin_33 (List.Mem.tail _ (List.Mem.tail _ (List.Mem.head _))) ?_
    have o4 := h.1
    replace h := h.2
    have o5 := h.1
    replace h := h.2
    refine am_iastore dX3_addKin_34 (Or.inl (by decide)) rfl o4 o5 ?_
    refine am_aload_n dX3_addKin_35 (List.Mem.tail _ (List.Mem.head _)) ?_
    refine am_getf (f := 0) (v := .inr (.inr (some (144, j0)))) dX3_addKin_36 hc_4 (by decide) wd_215 (by decide) rfl rfl ?_
    refine am_aload_n dX3_addKin_39 (List.Mem.tail _ (List.Mem.head _)) ?_
    refine am_getf (f := 10) (v := .inl (w.1 10 j0 10)) dX3_addKin_40 hc_4 (by decide) wd_227 (by decide) rfl rfl ?_
    refine am_iconst dX3_addKin_43 (by unfold am_rg; omega) ?_
    refine am_isub dX3_addKin_44 ?_
    refine am_iload_n dX3_addKin_45 (List.Mem.head _) ?_
    refine am_iconst dX3_addKin_46 (by unfold am_rg; omega) ?_
    refine am_iadd dX3_addKin_47 ?_
    refine am_iastore dX3_addKin_48 (Or.inl (by decide)) rfl o1 o2 ?_
    refine am_iconst dX3_addKin_49 (by unfold am_rg; omega) ?_
    exact am_ret (r := some (.inl 1)) dX3_addKin_50 (Or.inr (Or.inl ⟨rfl, (Or.inr rfl)⟩)) rfl h
  · replace h := h.2 c3
    refine am_iconst dX3_addKin_17 (by unfold am_rg; omega) ?_
    exact am_ret (r := some (.inl 0)) dX3_addKin_18 (Or.inr (Or.inl ⟨rfl, (Or.inl rfl)⟩)) rfl h
