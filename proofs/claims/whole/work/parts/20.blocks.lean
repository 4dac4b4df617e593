-- MourningHouseModel.best(IIII)I
theorem dX12_best_0 : decode mX12_best.2.1 0 = .ok (.iload_n 1, 1) := by decide +kernel
theorem dX12_best_1 : decode mX12_best.2.1 1 = .ok (.invokestatic 567, 3) := by decide +kernel
theorem dX12_best_4 : decode mX12_best.2.1 4 = .ok (.ifCond .eq 40, 3) := by decide +kernel
theorem dX12_best_7 : decode mX12_best.2.1 7 = .ok (.iload_n 2, 1) := by decide +kernel
theorem dX12_best_8 : decode mX12_best.2.1 8 = .ok (.invokestatic 322, 3) := by decide +kernel
theorem dX12_best_11 : decode mX12_best.2.1 11 = .ok (.ifCond .eq 33, 3) := by decide +kernel
theorem dX12_best_14 : decode mX12_best.2.1 14 = .ok (.iload_n 3, 1) := by decide +kernel
theorem dX12_best_15 : decode mX12_best.2.1 15 = .ok (.invokestatic 322, 3) := by decide +kernel
theorem dX12_best_18 : decode mX12_best.2.1 18 = .ok (.ifCond .eq 26, 3) := by decide +kernel
theorem dX12_best_21 : decode mX12_best.2.1 21 = .ok (.iload_n 3, 1) := by decide +kernel
theorem dX12_best_22 : decode mX12_best.2.1 22 = .ok (.iload_n 2, 1) := by decide +kernel
theorem dX12_best_23 : decode mX12_best.2.1 23 = .ok (.if_icmp .lt 21, 3) := by decide +kernel
theorem dX12_best_26 : decode mX12_best.2.1 26 = .ok (.iload_n 3, 1) := by decide +kernel
theorem dX12_best_27 : decode mX12_best.2.1 27 = .ok (.iload_n 2, 1) := by decide +kernel
theorem dX12_best_28 : decode mX12_best.2.1 28 = .ok (.isub, 1) := by decide +kernel
theorem dX12_best_29 : decode mX12_best.2.1 29 = .ok (.bipush 59, 2) := by decide +kernel
theorem dX12_best_31 : decode mX12_best.2.1 31 = .ok (.if_icmp .gt 13, 3) := by decide +kernel
theorem dX12_best_34 : decode mX12_best.2.1 34 = .ok (.iload 4, 2) := by decide +kernel
theorem dX12_best_36 : decode mX12_best.2.1 36 = .ok (.iconst 0, 1) := by decide +kernel
theorem dX12_best_37 : decode mX12_best.2.1 37 = .ok (.iconst 1, 1) := by decide +kernel
theorem dX12_best_38 : decode mX12_best.2.1 38 = .ok (.invokestatic 318, 3) := by decide +kernel
theorem dX12_best_41 : decode mX12_best.2.1 41 = .ok (.ifCond .ne 7, 3) := by decide +kernel
theorem dX12_best_44 : decode mX12_best.2.1 44 = .ok (.ldc_w 325, 3) := by decide +kernel
theorem dX12_best_47 : decode mX12_best.2.1 47 = .ok (.ireturn, 1) := by decide +kernel
theorem dX12_best_48 : decode mX12_best.2.1 48 = .ok (.iconst 0, 1) := by decide +kernel
theorem dX12_best_49 : decode mX12_best.2.1 49 = .ok (.istore 5, 2) := by decide +kernel
theorem dX12_best_51 : decode mX12_best.2.1 51 = .ok (.iload 5, 2) := by decide +kernel
theorem dX12_best_53 : decode mX12_best.2.1 53 = .ok (.bipush 60, 2) := by decide +kernel
theorem dX12_best_55 : decode mX12_best.2.1 55 = .ok (.if_icmp .ge 17, 3) := by decide +kernel
theorem dX12_best_58 : decode mX12_best.2.1 58 = .ok (.aload_n 0, 1) := by decide +kernel
theorem dX12_best_59 : decode mX12_best.2.1 59 = .ok (.getfield 234, 3) := by decide +kernel
theorem dX12_best_62 : decode mX12_best.2.1 62 = .ok (.iload 5, 2) := by decide +kernel
theorem dX12_best_64 : decode mX12_best.2.1 64 = .ok (.iconst 0, 1) := by decide +kernel
theorem dX12_best_65 : decode mX12_best.2.1 65 = .ok (.iastore, 1) := by decide +kernel
theorem dX12_best_66 : decode mX12_best.2.1 66 = .ok (.iinc 5 1, 3) := by decide +kernel
theorem dX12_best_69 : decode mX12_best.2.1 69 = .ok (.goto (-18), 3) := by decide +kernel
theorem dX12_best_72 : decode mX12_best.2.1 72 = .ok (.iconst 0, 1) := by decide +kernel
theorem dX12_best_73 : decode mX12_best.2.1 73 = .ok (.istore 5, 2) := by decide +kernel
theorem dX12_best_75 : decode mX12_best.2.1 75 = .ok (.iload 5, 2) := by decide +kernel
theorem dX12_best_77 : decode mX12_best.2.1 77 = .ok (.aload_n 0, 1) := by decide +kernel
theorem dX12_best_78 : decode mX12_best.2.1 78 = .ok (.getfield 447, 3) := by decide +kernel
theorem dX12_best_81 : decode mX12_best.2.1 81 = .ok (.if_icmp .ge 81, 3) := by decide +kernel
theorem dX12_best_84 : decode mX12_best.2.1 84 = .ok (.aload_n 0, 1) := by decide +kernel
theorem dX12_best_85 : decode mX12_best.2.1 85 = .ok (.iload 5, 2) := by decide +kernel
theorem dX12_best_87 : decode mX12_best.2.1 87 = .ok (.aload_n 0, 1) := by decide +kernel
theorem dX12_best_88 : decode mX12_best.2.1 88 = .ok (.getfield 444, 3) := by decide +kernel
theorem dX12_best_91 : decode mX12_best.2.1 91 = .ok (.invokevirtual 551, 3) := by decide +kernel
theorem dX12_best_94 : decode mX12_best.2.1 94 = .ok (.iload_n 2, 1) := by decide +kernel
theorem dX12_best_95 : decode mX12_best.2.1 95 = .ok (.istore 6, 2) := by decide +kernel
theorem dX12_best_97 : decode mX12_best.2.1 97 = .ok (.iload 6, 2) := by decide +kernel
theorem dX12_best_99 : decode mX12_best.2.1 99 = .ok (.iload_n 3, 1) := by decide +kernel
theorem dX12_best_100 : decode mX12_best.2.1 100 = .ok (.if_icmp .gt 56, 3) := by decide +kernel
theorem dX12_best_103 : decode mX12_best.2.1 103 = .ok (.aload_n 0, 1) := by decide +kernel
theorem dX12_best_104 : decode mX12_best.2.1 104 = .ok (.iload 5, 2) := by decide +kernel
theorem dX12_best_106 : decode mX12_best.2.1 106 = .ok (.iload 6, 2) := by decide +kernel
theorem dX12_best_108 : decode mX12_best.2.1 108 = .ok (.aload_n 0, 1) := by decide +kernel
theorem dX12_best_109 : decode mX12_best.2.1 109 = .ok (.getfield 444, 3) := by decide +kernel
theorem dX12_best_112 : decode mX12_best.2.1 112 = .ok (.invokevirtual 548, 3) := by decide +kernel
theorem dX12_best_115 : decode mX12_best.2.1 115 = .ok (.ifCond .ne 6, 3) := by decide +kernel
theorem dX12_best_118 : decode mX12_best.2.1 118 = .ok (.goto 32, 3) := by decide +kernel
theorem dX12_best_121 : decode mX12_best.2.1 121 = .ok (.aload_n 0, 1) := by decide +kernel
theorem dX12_best_122 : decode mX12_best.2.1 122 = .ok (.iload 6, 2) := by decide +kernel
theorem dX12_best_124 : decode mX12_best.2.1 124 = .ok (.invokevirtual 554, 3) := by decide +kernel
theorem dX12_best_127 : decode mX12_best.2.1 127 = .ok (.aload_n 0, 1) := by decide +kernel
theorem dX12_best_128 : decode mX12_best.2.1 128 = .ok (.iload_n 1, 1) := by decide +kernel
theorem dX12_best_129 : decode mX12_best.2.1 129 = .ok (.iload 6, 2) := by decide +kernel
theorem dX12_best_131 : decode mX12_best.2.1 131 = .ok (.invokevirtual 564, 3) := by decide +kernel
theorem dX12_best_134 : decode mX12_best.2.1 134 = .ok (.ifCond .eq 16, 3) := by decide +kernel
theorem dX12_best_137 : decode mX12_best.2.1 137 = .ok (.aload_n 0, 1) := by decide +kernel
theorem dX12_best_138 : decode mX12_best.2.1 138 = .ok (.getfield 234, 3) := by decide +kernel
theorem dX12_best_141 : decode mX12_best.2.1 141 = .ok (.iload 6, 2) := by decide +kernel
theorem dX12_best_143 : decode mX12_best.2.1 143 = .ok (.iload_n 2, 1) := by decide +kernel
theorem dX12_best_144 : decode mX12_best.2.1 144 = .ok (.isub, 1) := by decide +kernel
theorem dX12_best_145 : decode mX12_best.2.1 145 = .ok (.dup2, 1) := by decide +kernel
theorem dX12_best_146 : decode mX12_best.2.1 146 = .ok (.iaload, 1) := by decide +kernel
theorem dX12_best_147 : decode mX12_best.2.1 147 = .ok (.iconst 1, 1) := by decide +kernel
theorem dX12_best_148 : decode mX12_best.2.1 148 = .ok (.iadd, 1) := by decide +kernel
theorem dX12_best_149 : decode mX12_best.2.1 149 = .ok (.iastore, 1) := by decide +kernel
theorem dX12_best_150 : decode mX12_best.2.1 150 = .ok (.iinc 6 1, 3) := by decide +kernel
theorem dX12_best_153 : decode mX12_best.2.1 153 = .ok (.goto (-56), 3) := by decide +kernel
theorem dX12_best_156 : decode mX12_best.2.1 156 = .ok (.iinc 5 1, 3) := by decide +kernel
theorem dX12_best_159 : decode mX12_best.2.1 159 = .ok (.goto (-84), 3) := by decide +kernel
theorem dX12_best_162 : decode mX12_best.2.1 162 = .ok (.iconst 0, 1) := by decide +kernel
theorem dX12_best_163 : decode mX12_best.2.1 163 = .ok (.istore 5, 2) := by decide +kernel
theorem dX12_best_165 : decode mX12_best.2.1 165 = .ok (.iconst 1, 1) := by decide +kernel
theorem dX12_best_166 : decode mX12_best.2.1 166 = .ok (.istore 6, 2) := by decide +kernel
theorem dX12_best_168 : decode mX12_best.2.1 168 = .ok (.iload 6, 2) := by decide +kernel
theorem dX12_best_170 : decode mX12_best.2.1 170 = .ok (.iload_n 3, 1) := by decide +kernel
theorem dX12_best_171 : decode mX12_best.2.1 171 = .ok (.iload_n 2, 1) := by decide +kernel
theorem dX12_best_172 : decode mX12_best.2.1 172 = .ok (.isub, 1) := by decide +kernel
theorem dX12_best_173 : decode mX12_best.2.1 173 = .ok (.if_icmp .gt 30, 3) := by decide +kernel
theorem dX12_best_176 : decode mX12_best.2.1 176 = .ok (.aload_n 0, 1) := by decide +kernel
theorem dX12_best_177 : decode mX12_best.2.1 177 = .ok (.getfield 234, 3) := by decide +kernel
theorem dX12_best_180 : decode mX12_best.2.1 180 = .ok (.iload 6, 2) := by decide +kernel
theorem dX12_best_182 : decode mX12_best.2.1 182 = .ok (.iaload, 1) := by decide +kernel
theorem dX12_best_183 : decode mX12_best.2.1 183 = .ok (.aload_n 0, 1) := by decide +kernel
theorem dX12_best_184 : decode mX12_best.2.1 184 = .ok (.getfield 234, 3) := by decide +kernel
theorem dX12_best_187 : decode mX12_best.2.1 187 = .ok (.iload 5, 2) := by decide +kernel
theorem dX12_best_189 : decode mX12_best.2.1 189 = .ok (.iaload, 1) := by decide +kernel
theorem dX12_best_190 : decode mX12_best.2.1 190 = .ok (.if_icmp .le 7, 3) := by decide +kernel
theorem dX12_best_193 : decode mX12_best.2.1 193 = .ok (.iload 6, 2) := by decide +kernel
theorem dX12_best_195 : decode mX12_best.2.1 195 = .ok (.istore 5, 2) := by decide +kernel
theorem dX12_best_197 : decode mX12_best.2.1 197 = .ok (.iinc 6 1, 3) := by decide +kernel
theorem dX12_best_200 : decode mX12_best.2.1 200 = .ok (.goto (-32), 3) := by decide +kernel
theorem dX12_best_203 : decode mX12_best.2.1 203 = .ok (.iload 4, 2) := by decide +kernel
theorem dX12_best_205 : decode mX12_best.2.1 205 = .ok (.ifCond .ne 10, 3) := by decide +kernel
theorem dX12_best_208 : decode mX12_best.2.1 208 = .ok (.iload_n 2, 1) := by decide +kernel
theorem dX12_best_209 : decode mX12_best.2.1 209 = .ok (.iload 5, 2) := by decide +kernel
theorem dX12_best_211 : decode mX12_best.2.1 211 = .ok (.iadd, 1) := by decide +kernel
theorem dX12_best_212 : decode mX12_best.2.1 212 = .ok (.goto 10, 3) := by decide +kernel
theorem dX12_best_215 : decode mX12_best.2.1 215 = .ok (.aload_n 0, 1) := by decide +kernel
theorem dX12_best_216 : decode mX12_best.2.1 216 = .ok (.getfield 234, 3) := by decide +kernel
theorem dX12_best_219 : decode mX12_best.2.1 219 = .ok (.iload 5, 2) := by decide +kernel
theorem dX12_best_221 : decode mX12_best.2.1 221 = .ok (.iaload, 1) := by decide +kernel
theorem dX12_best_222 : decode mX12_best.2.1 222 = .ok (.ireturn, 1) := by decide +kernel
theorem bX12_best_0 {SC : Nat → Nat} {X : mh_X} {d : Nat} {Q : Option am_V → am_W → Prop} {bc bs : Nat} {w : am_W} {x1 : Int} {x2 : Int} {x3 : Int} {x4 : Int}
    (h : ((¬ (¬ x1 < (0 : Int) ∧ (¬ (3 : Int) < x1)) → Q (some (.inl (-2147483648))) w) ∧ ((¬ x1 < (0 : Int) ∧ (¬ (3 : Int) < x1)) → ((¬ (¬ x2 < ((-36524) : Int) ∧ (¬ (73047 : Int) < x2)) → Q (some (.inl (-2147483648))) w) ∧ ((¬ x2 < ((-36524) : Int) ∧ (¬ (73047 : Int) < x2)) → ((¬ (¬ x3 < ((-36524) : Int) ∧ (¬ (73047 : Int) < x3)) → Q (some (.inl (-2147483648))) w) ∧ ((¬ x3 < ((-36524) : Int) ∧ (¬ (73047 : Int) < x3)) → ((x3 < x2 → Q (some (.inl (-2147483648))) w) ∧ (¬ x3 < x2 → ((59 < (am_w (x3 - x2)) → Q (some (.inl (-2147483648))) w) ∧ (¬ 59 < (am_w (x3 - x2)) → (((¬ x4 < (0 : Int) ∧ (¬ (1 : Int) < x4)) → am_A (mh_G X) SC (d + 11) mX12_best Q 51 [(0, .inr (.inr (some (9, 0)))), (1, .inl x1), (2, .inl x2), (3, .inl x3), (4, .inl x4), (5, .inl 0)] [] w bc bs) ∧ (¬ (¬ x4 < (0 : Int) ∧ (¬ (1 : Int) < x4)) → Q (some (.inl (-2147483648))) w))))))))))))) :
    am_A (mh_G X) SC (d + 11) mX12_best Q 0 [(0, .inr (.inr (some (9, 0)))), (1, .inl x1), (2, .inl x2), (3, .inl x3), (4, .inl x4)] [] w bc bs := by
  refine am_iload_n dX12_best_0 (List.Mem.tail _ (List.Mem.head _)) ?_
  refine am_calls (d' := d + 10) (kc := 0) (ks := 0) (as := [.inl x1]) dX12_best_1 wc_X12_isAct wd_2152 wd_2153 wd_122 ds_X12_isAct (by decide) (by omega) (Nat.le_of_ble_eq_true rfl) (Nat.zero_le _) (Nat.zero_le _) rfl (sX12_isAct (d := d + 8) (x0 := x1)  ?_)
  show am_A (mh_G X) SC (d + 11) mX12_best Q 4 [(0, .inr (.inr (some (9, 0)))), (1, .inl x1), (2, .inl x2), (3, .inl x3), (4, .inl x4)] [.inl (if (¬ x1 < (0 : Int) ∧ (¬ (3 : Int) < x1)) then 1 else 0)] w bc bs
  refine am_ifeq (tgt := 44) dX12_best_4 (by decide) (fun c1 => ?_) (fun c1 => ?_)
  · replace c1 := am_beq1 c1
    replace h := h.1 c1
    refine am_ldcwV (n := (-2147483648)) dX12_best_44 (by decide) wd_1887 (by unfold am_rg; omega) ?_
    exact am_ret (r := some (.inl (-2147483648))) dX12_best_47 (Or.inl rfl) rfl h
  · replace c1 := am_beq2 c1
    replace h := h.2 c1
    refine am_iload_n dX12_best_7 (List.Mem.tail _ (List.Mem.tail _ (List.Mem.head _))) ?_
    refine am_calls (d' := d + 10) (kc := 0) (ks := 0) (as := [.inl x2]) dX12_best_8 wc_X12_isDay wd_1854 wd_1855 wd_122 ds_X12_isDay (by decide) (by omega) (Nat.le_of_ble_eq_true rfl) (Nat.zero_le _) (Nat.zero_le _) rfl (sX12_isDay (d := d + 8) (x0 := x2)  ?_)
    show am_A (mh_G X) SC (d + 11) mX12_best Q 11 [(0, .inr (.inr (some (9, 0)))), (1, .inl x1), (2, .inl x2), (3, .inl x3), (4, .inl x4)] [.inl (if (¬ x2 < ((-36524) : Int) ∧ (¬ (73047 : Int) < x2)) then 1 else 0)] w bc bs
    refine am_ifeq (tgt := 44) dX12_best_11 (by decide) (fun c2 => ?_) (fun c2 => ?_)
    · replace c2 := am_beq1 c2
      replace h := h.1 c2
      refine am_ldcwV (n := (-2147483648)) dX12_best_44 (by decide) wd_1887 (by unfold am_rg; omega) ?_
      exact am_ret (r := some (.inl (-2147483648))) dX12_best_47 (Or.inl rfl) rfl h
    · replace c2 := am_beq2 c2
      replace h := h.2 c2
      refine am_iload_n dX12_best_14 (List.Mem.tail _ (List.Mem.tail _ (List.Mem.tail _ (List.Mem.head _)))) ?_
      refine am_calls (d' := d + 10) (kc := 0) (ks := 0) (as := [.inl x3]) dX12_best_15 wc_X12_isDay wd_1854 wd_1855 wd_122 ds_X12_isDay (by decide) (by omega) (Nat.le_of_ble_eq_true rfl) (Nat.zero_le _) (Nat.zero_le _) rfl (sX12_isDay (d := d + 8) (x0 := x3)  ?_)
      show am_A (mh_G X) SC (d + 11) mX12_best Q 18 [(0, .inr (.inr (some (9, 0)))), (1, .inl x1), (2, .inl x2), (3, .inl x3), (4, .inl x4)] [.inl (if (¬ x3 < ((-36524) : Int) ∧ (¬ (73047 : Int) < x3)) then 1 else 0)] w bc bs
      refine am_ifeq (tgt := 44) dX12_best_18 (by decide) (fun c3 => ?_) (fun c3 => ?_)
      · replace c3 := am_beq1 c3
        replace h := h.1 c3
        refine am_ldcwV (n := (-2147483648)) dX12_best_44 (by decide) wd_1887 (by unfold am_rg; omega) ?_
        exact am_ret (r := some (.inl (-2147483648))) dX12_best_47 (Or.inl rfl) rfl h
      · replace c3 := am_beq2 c3
        replace h := h.2 c3
        refine am_iload_n dX12_best_21 (List.Mem.tail _ (List.Mem.tail _ (List.Mem.tail _ (List.Mem.head _)))) ?_
        refine am_iload_n dX12_best_22 (List.Mem.tail _ (List.Mem.tail _ (List.Mem.head _))) ?_
        refine am_icmplt (tgt := 44) dX12_best_23 (by decide) (fun c4 => ?_) (fun c4 => ?_)
        · replace h := h.1 c4
          refine am_ldcwV (n := (-2147483648)) dX12_best_44 (by decide) wd_1887 (by unfold am_rg; omega) ?_
          exact am_ret (r := some (.inl (-2147483648))) dX12_best_47 (Or.inl rfl) rfl h
        · replace h := h.2 c4
          refine am_iload_n dX12_best_26 (List.Mem.tail _ (List.Mem.tail _ (List.Mem.tail _ (List.Mem.head _)))) ?_
          refine am_iload_n dX12_best_27 (List.Mem.tail _ (List.Mem.tail _ (List.Mem.head _))) ?_
          refine am_isub dX12_best_28 ?_
          refine am_bipush dX12_best_29 (by decide) (by unfold am_rg; omega) ?_
          refine am_icmpgt (tgt := 44) dX12_best_31 (by decide) (fun c5 => ?_) (fun c5 => ?_)
          · replace h := h.1 c5
            refine am_ldcwV (n := (-2147483648)) dX12_best_44 (by decide) wd_1887 (by unfold am_rg; omega) ?_
            exact am_ret (r := some (.inl (-2147483648))) dX12_best_47 (Or.inl rfl) rfl h
          · replace h := h.2 c5
            refine am_iload dX12_best_34 (List.Mem.tail _ (List.Mem.tail _ (List.Mem.tail _ (List.Mem.tail _ (List.Mem.head _))))) ?_
            refine am_iconst dX12_best_36 (by unfold am_rg; omega) ?_
            refine am_iconst dX12_best_37 (by unfold am_rg; omega) ?_
            refine am_calls (d' := d + 10) (kc := 0) (ks := 0) (as := [.inl x4, .inl 0, .inl 1]) dX12_best_38 wc_X12_in wd_1859 wd_1860 wd_122 ds_X12_in (by decide) (by omega) (Nat.le_of_ble_eq_true rfl) (Nat.zero_le _) (Nat.zero_le _) rfl (sX12_in (d := d + 9) (x0 := x4) (x1 := 0) (x2 := 1)  ?_)
            show am_A (mh_G X) SC (d + 11) mX12_best Q 41 [(0, .inr (.inr (some (9, 0)))), (1, .inl x1), (2, .inl x2), (3, .inl x3), (4, .inl x4)] [.inl (if (¬ x4 < (0 : Int) ∧ (¬ (1 : Int) < x4)) then 1 else 0)] w bc bs
            refine am_ifne (tgt := 48) dX12_best_41 (by decide) (fun c6 => ?_) (fun c6 => ?_)
            · replace c6 := am_bne1 c6
              replace h := h.1 c6
              refine am_iconst dX12_best_48 (by unfold am_rg; omega) ?_
              refine am_istore (ls' := [(5, .inl 0), (0, .inr (.inr (some (9, 0)))), (1, .inl x1), (2, .inl x2), (3, .inl x3), (4, .inl x4)]) dX12_best_49 (by decide) rfl ?_
              exact am_sub [1, 2, 3, 4, 5, 0] rfl h
            · replace c6 := am_bne2 c6
              replace h := h.2 c6
              refine am_ldcwV (n := (-2147483648)) dX12_best_44 (by decide) wd_1887 (by unfold am_rg; omega) ?_
              exact am_ret (r := some (.inl (-2147483648))) dX12_best_47 (Or.inl rfl) rfl h
theorem bX12_best_51 {SC : Nat → Nat} {X : mh_X} {d : Nat} {Q : Option am_V → am_W → Prop} {bc bs : Nat} {w : am_W} {x1 : Int} {x2 : Int} {x3 : Int} {x4 : Int} {x5 : Int}
    (h : ((60 ≤ x5 → am_A (mh_G X) SC (d + 11) mX12_best Q 75 [(0, .inr (.inr (some (9, 0)))), (1, .inl x1), (2, .inl x2), (3, .inl x3), (4, .inl x4), (5, .inl 0)] [] w bc bs) ∧ (¬ 60 ≤ x5 → (0 ≤ x5 ∧ (x5 < 60 ∧ am_A (mh_G X) SC (d + 11) mX12_best Q 51 [(0, .inr (.inr (some (9, 0)))), (1, .inl x1), (2, .inl x2), (3, .inl x3), (4, .inl x4), (5, .inl (am_w (x5 + 1)))] [] ((am_up w.1 125 0 x5.toNat 0), w.2) bc bs))))) :
    am_A (mh_G X) SC (d + 11) mX12_best Q 51 [(0, .inr (.inr (some (9, 0)))), (1, .inl x1), (2, .inl x2), (3, .inl x3), (4, .inl x4), (5, .inl x5)] [] w bc bs := by
  refine am_iload dX12_best_51 (List.Mem.tail _ (List.Mem.tail _ (List.Mem.tail _ (List.Mem.tail _ (List.Mem.tail _ (List.Mem.head _)))))) ?_
  refine am_bipush dX12_best_53 (by decide) (by unfold am_rg; omega) ?_
  refine am_icmpge (tgt := 72) dX12_best_55 (by decide) (fun c1 => ?_) (fun c1 => ?_)
  · replace h := h.1 c1
    refine am_iconst dX12_best_72 (by unfold am_rg; omega) ?_
    refine am_istore (ls' := [(5, .inl 0), (0, .inr (.inr (some (9, 0)))), (1, .inl x1), (2, .inl x2), (3, .inl x3), (4, .inl x4)]) dX12_best_73 (by decide) rfl ?_
    exact am_sub [1, 2, 3, 4, 5, 0] rfl h
  · replace h := h.2 c1
    refine am_aload_n dX12_best_58 (List.Mem.head _) ?_
    refine am_getf (f := 71) (v := .inr (.inr (some (125, 0)))) dX12_best_59 hc_10 (by decide) wd_1620 (by decide) rfl rfl ?_
    refine am_iload dX12_best_62 (List.Mem.tail _ (List.Mem.tail _ (List.Mem.tail _ (List.Mem.tail _ (List.Mem.tail _ (List.Mem.head _)))))) ?_
    refine am_iconst dX12_best_64 (by unfold am_rg; omega) ?_
    have o2 := h.1
    replace h := h.2
    have o3 := h.1
    replace h := h.2
    refine am_iastore dX12_best_65 (Or.inl (by decide)) rfl o2 o3 ?_
    refine am_iinc (ls' := [(5, .inl (am_w (x5 + 1))), (0, .inr (.inr (some (9, 0)))), (1, .inl x1), (2, .inl x2), (3, .inl x3), (4, .inl x4)]) dX12_best_66 (List.Mem.tail _ (List.Mem.tail _ (List.Mem.tail _ (List.Mem.tail _ (List.Mem.tail _ (List.Mem.head _)))))) (by decide) rfl ?_
    refine am_goto (tgt := 51) dX12_best_69 (by decide) ?_
    exact am_sub [1, 2, 3, 4, 5, 0] rfl h
theorem bX12_best_75 {SC : Nat → Nat} {X : mh_X} {d : Nat} {Q : Option am_V → am_W → Prop} {bc bs : Nat} {w : am_W} {x1 : Int} {x2 : Int} {x3 : Int} {x4 : Int} {x5 : Int}
    (h : (((w.1 9 0 42) ≤ x5 → am_A (mh_G X) SC (d + 11) mX12_best Q 168 [(0, .inr (.inr (some (9, 0)))), (2, .inl x2), (3, .inl x3), (4, .inl x4), (5, .inl 0), (6, .inl 1)] [] w bc bs) ∧ (¬ (w.1 9 0 42) ≤ x5 → am_M (mh_G X) SC (d + 10) 0 0 mX12_prepares [.inr (.inr (some (9, 0))), .inl x5, .inl (w.1 9 0 33)] w (fun r w1 => am_A (mh_G X) SC (d + 11) mX12_best Q 94 [(0, .inr (.inr (some (9, 0)))), (1, .inl x1), (2, .inl x2), (3, .inl x3), (4, .inl x4), (5, .inl x5)] (r.toList ++ []) w1 bc bs)))) :
    am_A (mh_G X) SC (d + 11) mX12_best Q 75 [(0, .inr (.inr (some (9, 0)))), (1, .inl x1), (2, .inl x2), (3, .inl x3), (4, .inl x4), (5, .inl x5)] [] w bc bs := by
  refine am_iload dX12_best_75 (List.Mem.tail _ (List.Mem.tail _ (List.Mem.tail _ (List.Mem.tail _ (List.Mem.tail _ (List.Mem.head _)))))) ?_
  refine am_aload_n dX12_best_77 (List.Mem.head _) ?_
  refine am_getf (f := 42) (v := .inl (w.1 9 0 42)) dX12_best_78 hc_10 (by decide) wd_1591 (by decide) rfl rfl ?_
  refine am_icmpge (tgt := 162) dX12_best_81 (by decide) (fun c1 => ?_) (fun c1 => ?_)
  · replace h := h.1 c1
    refine am_iconst dX12_best_162 (by unfold am_rg; omega) ?_
    refine am_istore (ls' := [(5, .inl 0), (0, .inr (.inr (some (9, 0)))), (1, .inl x1), (2, .inl x2), (3, .inl x3), (4, .inl x4)]) dX12_best_163 (by decide) rfl ?_
    refine am_iconst dX12_best_165 (by unfold am_rg; omega) ?_
    refine am_istore (ls' := [(6, .inl 1), (5, .inl 0), (0, .inr (.inr (some (9, 0)))), (1, .inl x1), (2, .inl x2), (3, .inl x3), (4, .inl x4)]) dX12_best_166 (by decide) rfl ?_
    exact am_sub [2, 4, 5, 6, 1, 0] rfl h
  · replace h := h.2 c1
    refine am_aload_n dX12_best_84 (List.Mem.head _) ?_
    refine am_iload dX12_best_85 (List.Mem.tail _ (List.Mem.tail _ (List.Mem.tail _ (List.Mem.tail _ (List.Mem.tail _ (List.Mem.head _)))))) ?_
    refine am_aload_n dX12_best_87 (List.Mem.head _) ?_
    refine am_getf (f := 33) (v := .inl (w.1 9 0 33)) dX12_best_88 hc_10 (by decide) wd_1582 (by decide) rfl rfl ?_
    exact am_callv (d' := d + 10) (kc := 0) (ks := 0) (as := [.inl x5, .inl (w.1 9 0 33)]) dX12_best_91 wc_X12_prepares wd_2093 wd_2095 wd_85 wd_122 ds_X12_prepares (by decide) (by omega) (Nat.le_of_ble_eq_true rfl) (Nat.zero_le _) (Nat.zero_le _) hc_10 (by decide) rfl rfl h
theorem bX12_best_168 {SC : Nat → Nat} {X : mh_X} {d : Nat} {Q : Option am_V → am_W → Prop} {bc bs : Nat} {w : am_W} {x2 : Int} {x3 : Int} {x4 : Int} {x5 : Int} {x6 : Int}
    (h : (((am_w (x3 - x2)) < x6 → ((¬ x4 = 0 → (0 ≤ x5 ∧ (x5 < 60 ∧ Q (some (.inl (w.1 125 0 x5.toNat))) w))) ∧ (x4 = 0 → Q (some (.inl (am_w (x2 + x5)))) w))) ∧ (¬ (am_w (x3 - x2)) < x6 → (0 ≤ x6 ∧ (x6 < 60 ∧ (0 ≤ x5 ∧ (x5 < 60 ∧ (((w.1 125 0 x6.toNat) ≤ (w.1 125 0 x5.toNat) → am_A (mh_G X) SC (d + 11) mX12_best Q 197 [(0, .inr (.inr (some (9, 0)))), (2, .inl x2), (3, .inl x3), (4, .inl x4), (5, .inl x5), (6, .inl x6)] [] w bc bs) ∧ (¬ (w.1 125 0 x6.toNat) ≤ (w.1 125 0 x5.toNat) → am_A (mh_G X) SC (d + 11) mX12_best Q 197 [(0, .inr (.inr (some (9, 0)))), (2, .inl x2), (3, .inl x3), (4, .inl x4), (5, .inl x6), (6, .inl x6)] [] w bc bs))))))))) :
    am_A (mh_G X) SC (d + 11) mX12_best Q 168 [(0, .inr (.inr (some (9, 0)))), (2, .inl x2), (3, .inl x3), (4, .inl x4), (5, .inl x5), (6, .inl x6)] [] w bc bs := by
  refine am_iload dX12_best_168 (List.Mem.tail _ (List.Mem.tail _ (List.Mem.tail _ (List.Mem.tail _ (List.Mem.tail _ (List.Mem.head _)))))) ?_
  refine am_iload_n dX12_best_170 (List.Mem.tail _ (List.Mem.tail _ (List.Mem.head _))) ?_
  refine am_iload_n dX12_best_171 (List.Mem.tail _ (List.Mem.head _)) ?_
  refine am_isub dX12_best_172 ?_
  refine am_icmpgt (tgt := 203) dX12_best_173 (by decide) (fun c1 => ?_) (fun c1 => ?_)
  · replace h := h.1 c1
    refine am_iload dX12_best_203 (List.Mem.tail _ (List.Mem.tail _ (List.Mem.tail _ (List.Mem.head _)))) ?_
    refine am_ifne (tgt := 215) dX12_best_205 (by decide) (fun c2 => ?_) (fun c2 => ?_)
    · replace h := h.1 c2
      refine am_aload_n dX12_best_215 (List.Mem.head _) ?_
      refine am_getf (f := 71) (v := .inr (.inr (some (125, 0)))) dX12_best_216 hc_10 (by decide) wd_1620 (by decide) rfl rfl ?_
      refine am_iload dX12_best_219 (List.Mem.tail _ (List.Mem.tail _ (List.Mem.tail _ (List.Mem.tail _ (List.Mem.head _))))) ?_
      have o3 := h.1
      replace h := h.2
      have o4 := h.1
      replace h := h.2
      refine am_iaload (v := (w.1 125 0 x5.toNat)) dX12_best_221 (by decide) rfl o3 o4 rfl ?_
      exact am_ret (r := some (.inl (w.1 125 0 x5.toNat))) dX12_best_222 (Or.inl rfl) rfl h
    · replace h := h.2 c2
      refine am_iload_n dX12_best_208 (List.Mem.tail _ (List.Mem.head _)) ?_
      refine am_iload dX12_best_209 (List.Mem.tail _ (List.Mem.tail _ (List.Mem.tail _ (List.Mem.tail _ (List.Mem.head _))))) ?_
      refine am_iadd dX12_best_211 ?_
      refine am_goto (tgt := 222) dX12_best_212 (by decide) ?_
      exact am_ret (r := some (.inl (am_w (x2 + x5)))) dX12_best_222 (Or.inl rfl) rfl h
  · replace h := h.2 c1
    refine am_aload_n dX12_best_176 (List.Mem.head _) ?_
    refine am_getf (f := 71) (v := .inr (.inr (some (125, 0)))) dX12_best_177 hc_10 (by decide) wd_1620 (by decide) rfl rfl ?_
    refine am_iload dX12_best_180 (List.Mem.tail _ (List.Mem.tail _ (List.Mem.tail _ (List.Mem.tail _ (List.Mem.tail _ (List.Mem.head _)))))) ?_
    have o5 := h.1
    replace h := h.2
    have o6 := h.1
    replace h := h.2
    refine am_iaload (v := (w.1 125 0 x6.toNat)) dX12_best_182 (by decide) rfl o5 o6 rfl ?_
    refine am_aload_n dX12_best_183 (List.Mem.head _) ?_
    refine am_getf (f := 71) (v := .inr (.inr (some (125, 0)))) dX12_best_184 hc_10 (by decide) wd_1620 (by decide) rfl rfl ?_
    refine am_iload dX12_best_187 (List.Mem.tail _ (List.Mem.tail _ (List.Mem.tail _ (List.Mem.tail _ (List.Mem.head _))))) ?_
    have o7 := h.1
    replace h := h.2
    have o8 := h.1
    replace h := h.2
    refine am_iaload (v := (w.1 125 0 x5.toNat)) dX12_best_189 (by decide) rfl o7 o8 rfl ?_
    refine am_icmple (tgt := 197) dX12_best_190 (by decide) (fun c9 => ?_) (fun c9 => ?_)
    · replace h := h.1 c9
      exact h
    · replace h := h.2 c9
      refine am_iload dX12_best_193 (List.Mem.tail _ (List.Mem.tail _ (List.Mem.tail _ (List.Mem.tail _ (List.Mem.tail _ (List.Mem.head _)))))) ?_
      refine am_istore (ls' := [(5, .inl x6), (0, .inr (.inr (some (9, 0)))), (2, .inl x2), (3, .inl x3), (4, .inl x4), (6, .inl x6)]) dX12_best_195 (by decide) rfl ?_
      exact am_sub [1, 2, 3, 4, 0, 5] rfl h
theorem bX12_best_94 {SC : Nat → Nat} {X : mh_X} {d : Nat} {Q : Option am_V → am_W → Prop} {bc bs : Nat} {w : am_W} {x1 : Int} {x2 : Int} {x3 : Int} {x4 : Int} {x5 : Int}
    (h : am_A (mh_G X) SC (d + 11) mX12_best Q 97 [(0, .inr (.inr (some (9, 0)))), (1, .inl x1), (2, .inl x2), (3, .inl x3), (4, .inl x4), (5, .inl x5), (6, .inl x2)] [] w bc bs) :
    am_A (mh_G X) SC (d + 11) mX12_best Q 94 [(0, .inr (.inr (some (9, 0)))), (1, .inl x1), (2, .inl x2), (3, .inl x3), (4, .inl x4), (5, .inl x5)] [] w bc bs := by
  refine am_iload_n dX12_best_94 (List.Mem.tail _ (List.Mem.tail _ (List.Mem.head _))) ?_
  refine am_istore (ls' := [(6, .inl x2), (0, .inr (.inr (some (9, 0)))), (1, .inl x1), (2, .inl x2), (3, .inl x3), (4, .inl x4), (5, .inl x5)]) dX12_best_95 (by decide) rfl ?_
  exact am_sub [1, 2, 3, 4, 5, 6, 0] rfl h
theorem bX12_best_197 {SC : Nat → Nat} {X : mh_X} {d : Nat} {Q : Option am_V → am_W → Prop} {bc bs : Nat} {w : am_W} {x2 : Int} {x3 : Int} {x4 : Int} {x5 : Int} {x6 : Int}
    (h : am_A (mh_G X) SC (d + 11) mX12_best Q 168 [(0, .inr (.inr (some (9, 0)))), (2, .inl x2), (3, .inl x3), (4, .inl x4), (5, .inl x5), (6, .inl (am_w (x6 + 1)))] [] w bc bs) :
    am_A (mh_G X) SC (d + 11) mX12_best Q 197 [(0, .inr (.inr (some (9, 0)))), (2, .inl x2), (3, .inl x3), (4, .inl x4), (5, .inl x5), (6, .inl x6)] [] w bc bs := by
  refine am_iinc (ls' := [(6, .inl (am_w (x6 + 1))), (0, .inr (.inr (some (9, 0)))), (2, .inl x2), (3, .inl x3), (4, .inl x4), (5, .inl x5)]) dX12_best_197 (List.Mem.tail _ (List.Mem.tail _ (List.Mem.tail _ (List.Mem.tail _ (List.Mem.tail _ (List.Mem.head _)))))) (by decide) rfl ?_
  refine am_goto (tgt := 168) dX12_best_200 (by decide) ?_
  exact am_sub [1, 2, 3, 4, 5, 0] rfl h
theorem bX12_best_97 {SC : Nat → Nat} {X : mh_X} {d : Nat} {Q : Option am_V → am_W → Prop} {bc bs : Nat} {w : am_W} {x1 : Int} {x2 : Int} {x3 : Int} {x4 : Int} {x5 : Int} {x6 : Int}
    (h : ((x3 < x6 → am_A (mh_G X) SC (d + 11) mX12_best Q 75 [(0, .inr (.inr (some (9, 0)))), (1, .inl x1), (2, .inl x2), (3, .inl x3), (4, .inl x4), (5, .inl (am_w (x5 + 1)))] [] w bc bs) ∧ (¬ x3 < x6 → am_M (mh_G X) SC (d + 10) 0 0 mX12_isAlive [.inr (.inr (some (9, 0))), .inl x5, .inl x6, .inl (w.1 9 0 33)] w (fun r w1 => am_A (mh_G X) SC (d + 11) mX12_best Q 115 [(0, .inr (.inr (some (9, 0)))), (1, .inl x1), (2, .inl x2), (3, .inl x3), (4, .inl x4), (5, .inl x5), (6, .inl x6)] (r.toList ++ []) w1 bc bs)))) :
    am_A (mh_G X) SC (d + 11) mX12_best Q 97 [(0, .inr (.inr (some (9, 0)))), (1, .inl x1), (2, .inl x2), (3, .inl x3), (4, .inl x4), (5, .inl x5), (6, .inl x6)] [] w bc bs := by
  refine am_iload dX12_best_97 (List.Mem.tail _ (List.Mem.tail _ (List.Mem.tail _ (List.Mem.tail _ (List.Mem.tail _ (List.Mem.tail _ (List.Mem.head _))))))) ?_
  refine am_iload_n dX12_best_99 (List.Mem.tail _ (List.Mem.tail _ (List.Mem.tail _ (List.Mem.head _)))) ?_
  refine am_icmpgt (tgt := 156) dX12_best_100 (by decide) (fun c1 => ?_) (fun c1 => ?_)
  · replace h := h.1 c1
    refine am_iinc (ls' := [(5, .inl (am_w (x5 + 1))), (0, .inr (.inr (some (9, 0)))), (1, .inl x1), (2, .inl x2), (3, .inl x3), (4, .inl x4), (6, .inl x6)]) dX12_best_156 (List.Mem.tail _ (List.Mem.tail _ (List.Mem.tail _ (List.Mem.tail _ (List.Mem.tail _ (List.Mem.head _)))))) (by decide) rfl ?_
    refine am_goto (tgt := 75) dX12_best_159 (by decide) ?_
    exact am_sub [1, 2, 3, 4, 5, 0] rfl h
  · replace h := h.2 c1
    refine am_aload_n dX12_best_103 (List.Mem.head _) ?_
    refine am_iload dX12_best_104 (List.Mem.tail _ (List.Mem.tail _ (List.Mem.tail _ (List.Mem.tail _ (List.Mem.tail _ (List.Mem.head _)))))) ?_
    refine am_iload dX12_best_106 (List.Mem.tail _ (List.Mem.tail _ (List.Mem.tail _ (List.Mem.tail _ (List.Mem.tail _ (List.Mem.tail _ (List.Mem.head _))))))) ?_
    refine am_aload_n dX12_best_108 (List.Mem.head _) ?_
    refine am_getf (f := 33) (v := .inl (w.1 9 0 33)) dX12_best_109 hc_10 (by decide) wd_1582 (by decide) rfl rfl ?_
    exact am_callv (d' := d + 10) (kc := 0) (ks := 0) (as := [.inl x5, .inl x6, .inl (w.1 9 0 33)]) dX12_best_112 wc_X12_isAlive wd_2089 wd_2091 wd_84 wd_122 ds_X12_isAlive (by decide) (by omega) (Nat.le_of_ble_eq_true rfl) (Nat.zero_le _) (Nat.zero_le _) hc_10 (by decide) rfl rfl h
theorem bX12_best_115 {SC : Nat → Nat} {X : mh_X} {d : Nat} {Q : Option am_V → am_W → Prop} {bc bs : Nat} {w : am_W} {x1 : Int} {x2 : Int} {x3 : Int} {x4 : Int} {x5 : Int} {x6 : Int} {xs0 : Int}
    (h : ((¬ xs0 = 0 → am_M (mh_G X) SC (d + 10) 0 0 mX12_goesTo [.inr (.inr (some (9, 0))), .inl x6] w (fun r w1 => am_A (mh_G X) SC (d + 11) mX12_best Q 127 [(0, .inr (.inr (some (9, 0)))), (1, .inl x1), (2, .inl x2), (3, .inl x3), (4, .inl x4), (5, .inl x5), (6, .inl x6)] (r.toList ++ []) w1 bc bs)) ∧ (xs0 = 0 → am_A (mh_G X) SC (d + 11) mX12_best Q 150 [(0, .inr (.inr (some (9, 0)))), (1, .inl x1), (2, .inl x2), (3, .inl x3), (4, .inl x4), (5, .inl x5), (6, .inl x6)] [] w bc bs))) :
    am_A (mh_G X) SC (d + 11) mX12_best Q 115 [(0, .inr (.inr (some (9, 0)))), (1, .inl x1), (2, .inl x2), (3, .inl x3), (4, .inl x4), (5, .inl x5), (6, .inl x6)] [.inl xs0] w bc bs := by
  refine am_ifne (tgt := 121) dX12_best_115 (by decide) (fun c1 => ?_) (fun c1 => ?_)
  · replace h := h.1 c1
    refine am_aload_n dX12_best_121 (List.Mem.head _) ?_
    refine am_iload dX12_best_122 (List.Mem.tail _ (List.Mem.tail _ (List.Mem.tail _ (List.Mem.tail _ (List.Mem.tail _ (List.Mem.tail _ (List.Mem.head _))))))) ?_
    exact am_callv (d' := d + 10) (kc := 0) (ks := 0) (as := [.inl x6]) dX12_best_124 wc_X12_goesTo wd_2104 wd_2106 wd_87 wd_122 ds_X12_goesTo (by decide) (by omega) (Nat.le_of_ble_eq_true rfl) (Nat.zero_le _) (Nat.zero_le _) hc_10 (by decide) rfl rfl h
  · replace h := h.2 c1
    refine am_goto (tgt := 150) dX12_best_118 (by decide) ?_
    exact h
theorem bX12_best_127 {SC : Nat → Nat} {X : mh_X} {d : Nat} {Q : Option am_V → am_W → Prop} {bc bs : Nat} {w : am_W} {x1 : Int} {x2 : Int} {x3 : Int} {x4 : Int} {x5 : Int} {x6 : Int}
    (h : am_M (mh_G X) SC (d + 10) 0 0 mX12_mayBe [.inr (.inr (some (9, 0))), .inl x1, .inl x6] w (fun r w1 => am_A (mh_G X) SC (d + 11) mX12_best Q 134 [(0, .inr (.inr (some (9, 0)))), (1, .inl x1), (2, .inl x2), (3, .inl x3), (4, .inl x4), (5, .inl x5), (6, .inl x6)] (r.toList ++ []) w1 bc bs)) :
    am_A (mh_G X) SC (d + 11) mX12_best Q 127 [(0, .inr (.inr (some (9, 0)))), (1, .inl x1), (2, .inl x2), (3, .inl x3), (4, .inl x4), (5, .inl x5), (6, .inl x6)] [] w bc bs := by
  refine am_aload_n dX12_best_127 (List.Mem.head _) ?_
  refine am_iload_n dX12_best_128 (List.Mem.tail _ (List.Mem.head _)) ?_
  refine am_iload dX12_best_129 (List.Mem.tail _ (List.Mem.tail _ (List.Mem.tail _ (List.Mem.tail _ (List.Mem.tail _ (List.Mem.tail _ (List.Mem.head _))))))) ?_
  exact am_callv (d' := d + 10) (kc := 0) (ks := 0) (as := [.inl x1, .inl x6]) dX12_best_131 wc_X12_mayBe wd_2159 wd_2161 wd_96 wd_122 ds_X12_mayBe (by decide) (by omega) (Nat.le_of_ble_eq_true rfl) (Nat.zero_le _) (Nat.zero_le _) hc_10 (by decide) rfl rfl h
theorem bX12_best_150 {SC : Nat → Nat} {X : mh_X} {d : Nat} {Q : Option am_V → am_W → Prop} {bc bs : Nat} {w : am_W} {x1 : Int} {x2 : Int} {x3 : Int} {x4 : Int} {x5 : Int} {x6 : Int}
    (h : am_A (mh_G X) SC (d + 11) mX12_best Q 97 [(0, .inr (.inr (some (9, 0)))), (1, .inl x1), (2, .inl x2), (3, .inl x3), (4, .inl x4), (5, .inl x5), (6, .inl (am_w (x6 + 1)))] [] w bc bs) :
    am_A (mh_G X) SC (d + 11) mX12_best Q 150 [(0, .inr (.inr (some (9, 0)))), (1, .inl x1), (2, .inl x2), (3, .inl x3), (4, .inl x4), (5, .inl x5), (6, .inl x6)] [] w bc bs := by
  refine am_iinc (ls' := [(6, .inl (am_w (x6 + 1))), (0, .inr (.inr (some (9, 0)))), (1, .inl x1), (2, .inl x2), (3, .inl x3), (4, .inl x4), (5, .inl x5)]) dX12_best_150 (List.Mem.tail _ (List.Mem.tail _ (List.Mem.tail _ (List.Mem.tail _ (List.Mem.tail _ (List.Mem.tail _ (List.Mem.head _))))))) (by decide) rfl ?_
  refine am_goto (tgt := 97) dX12_best_153 (by decide) ?_
  exact am_sub [1, 2, 3, 4, 5, 6, 0] rfl h
theorem bX12_best_134 {SC : Nat → Nat} {X : mh_X} {d : Nat} {Q : Option am_V → am_W → Prop} {bc bs : Nat} {w : am_W} {x1 : Int} {x2 : Int} {x3 : Int} {x4 : Int} {x5 : Int} {x6 : Int} {xs0 : Int}
    (h : ((xs0 = 0 → am_A (mh_G X) SC (d + 11) mX12_best Q 150 [(0, .inr (.inr (some (9, 0)))), (1, .inl x1), (2, .inl x2), (3, .inl x3), (4, .inl x4), (5, .inl x5), (6, .inl x6)] [] w bc bs) ∧ (¬ xs0 = 0 → (0 ≤ (am_w (x6 - x2)) ∧ ((am_w (x6 - x2)) < 60 ∧ am_A (mh_G X) SC (d + 11) mX12_best Q 150 [(0, .inr (.inr (some (9, 0)))), (1, .inl x1), (2, .inl x2), (3, .inl x3), (4, .inl x4), (5, .inl x5), (6, .inl x6)] [] ((am_up w.1 125 0 (am_w (x6 - x2)).toNat (am_w ((w.1 125 0 (am_w (x6 - x2)).toNat) + 1))), w.2) bc bs))))) :
    am_A (mh_G X) SC (d + 11) mX12_best Q 134 [(0, .inr (.inr (some (9, 0)))), (1, .inl x1), (2, .inl x2), (3, .inl x3), (4, .inl x4), (5, .inl x5), (6, .inl x6)] [.inl xs0] w bc bs := by
  refine am_ifeq (tgt := 150) dX12_best_134 (by decide) (fun c1 => ?_) (fun c1 => ?_)
  · replace h := h.1 c1
    exact h
  · replace h := h.2 c1
    refine am_aload_n dX12_best_137 (List.Mem.head _) ?_
    refine am_getf (f := 71) (v := .inr (.inr (some (125, 0)))) dX12_best_138 hc_10 (by decide) wd_1620 (by decide) rfl rfl ?_
    refine am_iload dX12_best_141 (List.Mem.tail _ (List.Mem.tail _ (List.Mem.tail _ (List.Mem.tail _ (List.Mem.tail _ (List.Mem.tail _ (List.Mem.head _))))))) ?_
    refine am_iload_n dX12_best_143 (List.Mem.tail _ (List.Mem.tail _ (List.Mem.head _))) ?_
    refine am_isub dX12_best_144 ?_
    refine am_dup2 dX12_best_145 rfl rfl ?_
    have o2 := h.1
    replace h := h.2
    have o3 := h.1
    replace h := h.2
    refine am_iaload (v := (w.1 125 0 (am_w (x6 - x2)).toNat)) dX12_best_146 (by decide) rfl o2 o3 rfl ?_
    refine am_iconst dX12_best_147 (by unfold am_rg; omega) ?_
    refine am_iadd dX12_best_148 ?_
    refine am_iastore dX12_best_149 (Or.inl (by decide)) rfl o2 o3 ?_
    exact h
-- MourningHouseModel.first(III)I
theorem dX12_first_0 : decode mX12_first.2.1 0 = .ok (.aload_n 0, 1) := by decide +kernel
theorem dX12_first_1 : decode mX12_first.2.1 1 = .ok (.iload_n 1, 1) := by decide +kernel
theorem dX12_first_2 : decode mX12_first.2.1 2 = .ok (.invokevirtual 453, 3) := by decide +kernel
theorem dX12_first_5 : decode mX12_first.2.1 5 = .ok (.ifCond .eq 17, 3) := by decide +kernel
theorem dX12_first_8 : decode mX12_first.2.1 8 = .ok (.iload_n 2, 1) := by decide +kernel
theorem dX12_first_9 : decode mX12_first.2.1 9 = .ok (.invokestatic 567, 3) := by decide +kernel
theorem dX12_first_12 : decode mX12_first.2.1 12 = .ok (.ifCond .eq 10, 3) := by decide +kernel
theorem dX12_first_15 : decode mX12_first.2.1 15 = .ok (.iload_n 3, 1) := by decide +kernel
theorem dX12_first_16 : decode mX12_first.2.1 16 = .ok (.invokestatic 322, 3) := by decide +kernel
theorem dX12_first_19 : decode mX12_first.2.1 19 = .ok (.ifCond .ne 7, 3) := by decide +kernel
theorem dX12_first_22 : decode mX12_first.2.1 22 = .ok (.ldc_w 325, 3) := by decide +kernel
theorem dX12_first_25 : decode mX12_first.2.1 25 = .ok (.ireturn, 1) := by decide +kernel
theorem dX12_first_26 : decode mX12_first.2.1 26 = .ok (.aload_n 0, 1) := by decide +kernel
theorem dX12_first_27 : decode mX12_first.2.1 27 = .ok (.iload_n 1, 1) := by decide +kernel
theorem dX12_first_28 : decode mX12_first.2.1 28 = .ok (.aload_n 0, 1) := by decide +kernel
theorem dX12_first_29 : decode mX12_first.2.1 29 = .ok (.getfield 444, 3) := by decide +kernel
theorem dX12_first_32 : decode mX12_first.2.1 32 = .ok (.invokevirtual 551, 3) := by decide +kernel
theorem dX12_first_35 : decode mX12_first.2.1 35 = .ok (.iconst 0, 1) := by decide +kernel
theorem dX12_first_36 : decode mX12_first.2.1 36 = .ok (.istore 4, 2) := by decide +kernel
theorem dX12_first_38 : decode mX12_first.2.1 38 = .ok (.iload 4, 2) := by decide +kernel
theorem dX12_first_40 : decode mX12_first.2.1 40 = .ok (.sipush 3000, 3) := by decide +kernel
theorem dX12_first_43 : decode mX12_first.2.1 43 = .ok (.if_icmp .gt 61, 3) := by decide +kernel
theorem dX12_first_46 : decode mX12_first.2.1 46 = .ok (.iload_n 3, 1) := by decide +kernel
theorem dX12_first_47 : decode mX12_first.2.1 47 = .ok (.iload 4, 2) := by decide +kernel
theorem dX12_first_49 : decode mX12_first.2.1 49 = .ok (.iadd, 1) := by decide +kernel
theorem dX12_first_50 : decode mX12_first.2.1 50 = .ok (.ldc_w 317, 3) := by decide +kernel
theorem dX12_first_53 : decode mX12_first.2.1 53 = .ok (.if_icmp .gt 51, 3) := by decide +kernel
theorem dX12_first_56 : decode mX12_first.2.1 56 = .ok (.iload_n 3, 1) := by decide +kernel
theorem dX12_first_57 : decode mX12_first.2.1 57 = .ok (.iload 4, 2) := by decide +kernel
theorem dX12_first_59 : decode mX12_first.2.1 59 = .ok (.iadd, 1) := by decide +kernel
theorem dX12_first_60 : decode mX12_first.2.1 60 = .ok (.istore 5, 2) := by decide +kernel
theorem dX12_first_62 : decode mX12_first.2.1 62 = .ok (.aload_n 0, 1) := by decide +kernel
theorem dX12_first_63 : decode mX12_first.2.1 63 = .ok (.iload_n 1, 1) := by decide +kernel
theorem dX12_first_64 : decode mX12_first.2.1 64 = .ok (.iload 5, 2) := by decide +kernel
theorem dX12_first_66 : decode mX12_first.2.1 66 = .ok (.aload_n 0, 1) := by decide +kernel
theorem dX12_first_67 : decode mX12_first.2.1 67 = .ok (.getfield 444, 3) := by decide +kernel
theorem dX12_first_70 : decode mX12_first.2.1 70 = .ok (.invokevirtual 548, 3) := by decide +kernel
theorem dX12_first_73 : decode mX12_first.2.1 73 = .ok (.ifCond .ne 6, 3) := by decide +kernel
theorem dX12_first_76 : decode mX12_first.2.1 76 = .ok (.goto 22, 3) := by decide +kernel
theorem dX12_first_79 : decode mX12_first.2.1 79 = .ok (.aload_n 0, 1) := by decide +kernel
theorem dX12_first_80 : decode mX12_first.2.1 80 = .ok (.iload 5, 2) := by decide +kernel
theorem dX12_first_82 : decode mX12_first.2.1 82 = .ok (.invokevirtual 554, 3) := by decide +kernel
theorem dX12_first_85 : decode mX12_first.2.1 85 = .ok (.aload_n 0, 1) := by decide +kernel
theorem dX12_first_86 : decode mX12_first.2.1 86 = .ok (.iload_n 2, 1) := by decide +kernel
theorem dX12_first_87 : decode mX12_first.2.1 87 = .ok (.iload 5, 2) := by decide +kernel
theorem dX12_first_89 : decode mX12_first.2.1 89 = .ok (.invokevirtual 564, 3) := by decide +kernel
theorem dX12_first_92 : decode mX12_first.2.1 92 = .ok (.ifCond .eq 6, 3) := by decide +kernel
theorem dX12_first_95 : decode mX12_first.2.1 95 = .ok (.iload 5, 2) := by decide +kernel
theorem dX12_first_97 : decode mX12_first.2.1 97 = .ok (.ireturn, 1) := by decide +kernel
theorem dX12_first_98 : decode mX12_first.2.1 98 = .ok (.iinc 4 1, 3) := by decide +kernel
theorem dX12_first_101 : decode mX12_first.2.1 101 = .ok (.goto (-63), 3) := by decide +kernel
theorem dX12_first_104 : decode mX12_first.2.1 104 = .ok (.ldc_w 325, 3) := by decide +kernel
theorem dX12_first_107 : decode mX12_first.2.1 107 = .ok (.ireturn, 1) := by decide +kernel
theorem bX12_first_0 {SC : Nat → Nat} {X : mh_X} {d : Nat} {Q : Option am_V → am_W → Prop} {bc bs : Nat} {w : am_W} {x1 : Int} {x2 : Int} {x3 : Int}
    (h : ((¬ (¬ x1 < (0 : Int) ∧ (¬ (am_w ((w.1 9 0 42) - 1)) < x1)) → Q (some (.inl (-2147483648))) w) ∧ ((¬ x1 < (0 : Int) ∧ (¬ (am_w ((w.1 9 0 42) - 1)) < x1)) → ((¬ (¬ x2 < (0 : Int) ∧ (¬ (3 : Int) < x2)) → Q (some (.inl (-2147483648))) w) ∧ ((¬ x2 < (0 : Int) ∧ (¬ (3 : Int) < x2)) → (((¬ x3 < ((-36524) : Int) ∧ (¬ (73047 : Int) < x3)) → am_M (mh_G X) SC (d + 10) 0 0 mX12_prepares [.inr (.inr (some (9, 0))), .inl x1, .inl (w.1 9 0 33)] w (fun r w1 => am_A (mh_G X) SC (d + 11) mX12_first Q 35 [(0, .inr (.inr (some (9, 0)))), (1, .inl x1), (2, .inl x2), (3, .inl x3)] (r.toList ++ []) w1 bc bs)) ∧ (¬ (¬ x3 < ((-36524) : Int) ∧ (¬ (73047 : Int) < x3)) → Q (some (.inl (-2147483648))) w))))))) :
    am_A (mh_G X) SC (d + 11) mX12_first Q 0 [(0, .inr (.inr (some (9, 0)))), (1, .inl x1), (2, .inl x2), (3, .inl x3)] [] w bc bs := by
  refine am_aload_n dX12_first_0 (List.Mem.head _) ?_
  refine am_iload_n dX12_first_1 (List.Mem.tail _ (List.Mem.head _)) ?_
  refine am_callv (d' := d + 10) (kc := 0) (ks := 0) (as := [.inl x1]) dX12_first_2 wc_X12_isPerson wd_2018 wd_2020 wd_73 wd_122 ds_X12_isPerson (by decide) (by omega) (Nat.le_of_ble_eq_true rfl) (Nat.zero_le _) (Nat.zero_le _) hc_10 (by decide) rfl rfl (sX12_isPerson (d := d + 8) (x1 := x1)  ?_)
  show am_A (mh_G X) SC (d + 11) mX12_first Q 5 [(0, .inr (.inr (some (9, 0)))), (1, .inl x1), (2, .inl x2), (3, .inl x3)] [.inl (if (¬ x1 < (0 : Int) ∧ (¬ (am_w ((w.1 9 0 42) - 1)) < x1)) then 1 else 0)] w bc bs
  refine am_ifeq (tgt := 22) dX12_first_5 (by decide) (fun c1 => ?_) (fun c1 => ?_)
  · replace c1 := am_beq1 c1
    replace h := h.1 c1
    refine am_ldcwV (n := (-2147483648)) dX12_first_22 (by decide) wd_1887 (by unfold am_rg; omega) ?_
    exact am_ret (r := some (.inl (-2147483648))) dX12_first_25 (Or.inl rfl) rfl h
  · replace c1 := am_beq2 c1
    replace h := h.2 c1
    refine am_iload_n dX12_first_8 (List.Mem.tail _ (List.Mem.tail _ (List.Mem.head _))) ?_
    refine am_calls (d' := d + 10) (kc := 0) (ks := 0) (as := [.inl x2]) dX12_first_9 wc_X12_isAct wd_2152 wd_2153 wd_122 ds_X12_isAct (by decide) (by omega) (Nat.le_of_ble_eq_true rfl) (Nat.zero_le _) (Nat.zero_le _) rfl (sX12_isAct (d := d + 8) (x0 := x2)  ?_)
    show am_A (mh_G X) SC (d + 11) mX12_first Q 12 [(0, .inr (.inr (some (9, 0)))), (1, .inl x1), (2, .inl x2), (3, .inl x3)] [.inl (if (¬ x2 < (0 : Int) ∧ (¬ (3 : Int) < x2)) then 1 else 0)] w bc bs
    refine am_ifeq (tgt := 22) dX12_first_12 (by decide) (fun c2 => ?_) (fun c2 => ?_)
    · replace c2 := am_beq1 c2
      replace h := h.1 c2
      refine am_ldcwV (n := (-2147483648)) dX12_first_22 (by decide) wd_1887 (by unfold am_rg; omega) ?_
      exact am_ret (r := some (.inl (-2147483648))) dX12_first_25 (Or.inl rfl) rfl h
    · replace c2 := am_beq2 c2
      replace h := h.2 c2
      refine am_iload_n dX12_first_15 (List.Mem.tail _ (List.Mem.tail _ (List.Mem.tail _ (List.Mem.head _)))) ?_
      refine am_calls (d' := d + 10) (kc := 0) (ks := 0) (as := [.inl x3]) dX12_first_16 wc_X12_isDay wd_1854 wd_1855 wd_122 ds_X12_isDay (by decide) (by omega) (Nat.le_of_ble_eq_true rfl) (Nat.zero_le _) (Nat.zero_le _) rfl (sX12_isDay (d := d + 8) (x0 := x3)  ?_)
      show am_A (mh_G X) SC (d + 11) mX12_first Q 19 [(0, .inr (.inr (some (9, 0)))), (1, .inl x1), (2, .inl x2), (3, .inl x3)] [.inl (if (¬ x3 < ((-36524) : Int) ∧ (¬ (73047 : Int) < x3)) then 1 else 0)] w bc bs
      refine am_ifne (tgt := 26) dX12_first_19 (by decide) (fun c3 => ?_) (fun c3 => ?_)
      · replace c3 := am_bne1 c3
        replace h := h.1 c3
        refine am_aload_n dX12_first_26 (List.Mem.head _) ?_
        refine am_iload_n dX12_first_27 (List.Mem.tail _ (List.Mem.head _)) ?_
        refine am_aload_n dX12_first_28 (List.Mem.head _) ?_
        refine am_getf (f := 33) (v := .inl (w.1 9 0 33)) dX12_first_29 hc_10 (by decide) wd_1582 (by decide) rfl rfl ?_
        exact am_callv (d' := d + 10) (kc := 0) (ks := 0) (as := [.inl x1, .inl (w.1 9 0 33)]) dX12_first_32 wc_X12_prepares wd_2093 wd_2095 wd_85 wd_122 ds_X12_prepares (by decide) (by omega) (Nat.le_of_ble_eq_true rfl) (Nat.zero_le _) (Nat.zero_le _) hc_10 (by decide) rfl rfl h
      · replace c3 := am_bne2 c3
        replace h := h.2 c3
        refine am_ldcwV (n := (-2147483648)) dX12_first_22 (by decide) wd_1887 (by unfold am_rg; omega) ?_
        exact am_ret (r := some (.inl (-2147483648))) dX12_first_25 (Or.inl rfl) rfl h
theorem bX12_first_35 {SC : Nat → Nat} {X : mh_X} {d : Nat} {Q : Option am_V → am_W → Prop} {bc bs : Nat} {w : am_W} {x1 : Int} {x2 : Int} {x3 : Int}
    (h : am_A (mh_G X) SC (d + 11) mX12_first Q 38 [(0, .inr (.inr (some (9, 0)))), (1, .inl x1), (2, .inl x2), (3, .inl x3), (4, .inl 0)] [] w bc bs) :
    am_A (mh_G X) SC (d + 11) mX12_first Q 35 [(0, .inr (.inr (some (9, 0)))), (1, .inl x1), (2, .inl x2), (3, .inl x3)] [] w bc bs := by
  refine am_iconst dX12_first_35 (by unfold am_rg; omega) ?_
  refine am_istore (ls' := [(4, .inl 0), (0, .inr (.inr (some (9, 0)))), (1, .inl x1), (2, .inl x2), (3, .inl x3)]) dX12_first_36 (by decide) rfl ?_
  exact am_sub [1, 2, 3, 4, 0] rfl h
theorem bX12_first_38 {SC : Nat → Nat} {X : mh_X} {d : Nat} {Q : Option am_V → am_W → Prop} {bc bs : Nat} {w : am_W} {x1 : Int} {x2 : Int} {x3 : Int} {x4 : Int}
    (h : ((3000 < x4 → Q (some (.inl (-2147483648))) w) ∧ (¬ 3000 < x4 → ((73047 < (am_w (x3 + x4)) → Q (some (.inl (-2147483648))) w) ∧ (¬ 73047 < (am_w (x3 + x4)) → am_M (mh_G X) SC (d + 10) 0 0 mX12_isAlive [.inr (.inr (some (9, 0))), .inl x1, .inl (am_w (x3 + x4)), .inl (w.1 9 0 33)] w (fun r w1 => am_A (mh_G X) SC (d + 11) mX12_first Q 73 [(5, .inl (am_w (x3 + x4))), (0, .inr (.inr (some (9, 0)))), (1, .inl x1), (2, .inl x2), (3, .inl x3), (4, .inl x4)] (r.toList ++ []) w1 bc bs)))))) :
    am_A (mh_G X) SC (d + 11) mX12_first Q 38 [(0, .inr (.inr (some (9, 0)))), (1, .inl x1), (2, .inl x2), (3, .inl x3), (4, .inl x4)] [] w bc bs := by
  refine am_iload dX12_first_38 (List.Mem.tail _ (List.Mem.tail _ (List.Mem.tail _ (List.Mem.tail _ (List.Mem.head _))))) ?_
  refine am_sipush dX12_first_40 (by decide) (by unfold am_rg; omega) ?_
  refine am_icmpgt (tgt := 104) dX12_first_43 (by decide) (fun c1 => ?_) (fun c1 => ?_)
  · replace h := h.1 c1
    refine am_ldcwV (n := (-2147483648)) dX12_first_104 (by decide) wd_1887 (by unfold am_rg; omega) ?_
    exact am_ret (r := some (.inl (-2147483648))) dX12_first_107 (Or.inl rfl) rfl h
  · replace h := h.2 c1
    refine am_iload_n dX12_first_46 (List.Mem.tail _ (List.Mem.tail _ (List.Mem.tail _ (List.Mem.head _)))) ?_
    refine am_iload dX12_first_47 (List.Mem.tail _ (List.Mem.tail _ (List.Mem.tail _ (List.Mem.tail _ (List.Mem.head _))))) ?_
    refine am_iadd dX12_first_49 ?_
    refine am_ldcwV (n := 73047) dX12_first_50 (by decide) wd_1858 (by unfold am_rg; omega) ?_
    refine am_icmpgt (tgt := 104) dX12_first_53 (by decide) (fun c2 => ?_) (fun c2 => ?_)
    · replace h := h.1 c2
      refine am_ldcwV (n := (-2147483648)) dX12_first_104 (by decide) wd_1887 (by unfold am_rg; omega) ?_
      exact am_ret (r := some (.inl (-2147483648))) dX12_first_107 (Or.inl rfl) rfl h
    · replace h := h.2 c2
      refine am_iload_n dX12_first_56 (List.Mem.tail _ (List.Mem.tail _ (List.Mem.tail _ (List.Mem.head _)))) ?_
      refine am_iload dX12_first_57 (List.Mem.tail _ (List.Mem.tail _ (List.Mem.tail _ (List.Mem.tail _ (List.Mem.head _))))) ?_
      refine am_iadd dX12_first_59 ?_
      refine am_istore (ls' := [(5, .inl (am_w (x3 + x4))), (0, .inr (.inr (some (9, 0)))), (1, .inl x1), (2, .inl x2), (3, .inl x3), (4, .inl x4)]) dX12_first_60 (by decide) rfl ?_
      refine am_aload_n dX12_first_62 (List.Mem.tail _ (List.Mem.head _)) ?_
      refine am_iload_n dX12_first_63 (List.Mem.tail _ (List.Mem.tail _ (List.Mem.head _))) ?_
      refine am_iload dX12_first_64 (List.Mem.head _) ?_
      refine am_aload_n dX12_first_66 (List.Mem.tail _ (List.Mem.head _)) ?_
      refine am_getf (f := 33) (v := .inl (w.1 9 0 33)) dX12_first_67 hc_10 (by decide) wd_1582 (by decide) rfl rfl ?_
      exact am_callv (d' := d + 10) (kc := 0) (ks := 0) (as := [.inl x1, .inl (am_w (x3 + x4)), .inl (w.1 9 0 33)]) dX12_first_70 wc_X12_isAlive wd_2089 wd_2091 wd_84 wd_122 ds_X12_isAlive (by decide) (by omega) (Nat.le_of_ble_eq_true rfl) (Nat.zero_le _) (Nat.zero_le _) hc_10 (by decide) rfl rfl h
theorem bX12_first_73 {SC : Nat → Nat} {X : mh_X} {d : Nat} {Q : Option am_V → am_W → Prop} {bc bs : Nat} {w : am_W} {x5 : Int} {x1 : Int} {x2 : Int} {x3 : Int} {x4 : Int} {xs0 : Int}
    (h : ((¬ xs0 = 0 → am_M (mh_G X) SC (d + 10) 0 0 mX12_goesTo [.inr (.inr (some (9, 0))), .inl x5] w (fun r w1 => am_A (mh_G X) SC (d + 11) mX12_first Q 85 [(5, .inl x5), (0, .inr (.inr (some (9, 0)))), (1, .inl x1), (2, .inl x2), (3, .inl x3), (4, .inl x4)] (r.toList ++ []) w1 bc bs)) ∧ (xs0 = 0 → am_A (mh_G X) SC (d + 11) mX12_first Q 98 [(0, .inr (.inr (some (9, 0)))), (1, .inl x1), (2, .inl x2), (3, .inl x3), (4, .inl x4)] [] w bc bs))) :
    am_A (mh_G X) SC (d + 11) mX12_first Q 73 [(5, .inl x5), (0, .inr (.inr (some (9, 0)))), (1, .inl x1), (2, .inl x2), (3, .inl x3), (4, .inl x4)] [.inl xs0] w bc bs := by
  refine am_ifne (tgt := 79) dX12_first_73 (by decide) (fun c1 => ?_) (fun c1 => ?_)
  · replace h := h.1 c1
    refine am_aload_n dX12_first_79 (List.Mem.tail _ (List.Mem.head _)) ?_
    refine am_iload dX12_first_80 (List.Mem.head _) ?_
    exact am_callv (d' := d + 10) (kc := 0) (ks := 0) (as := [.inl x5]) dX12_first_82 wc_X12_goesTo wd_2104 wd_2106 wd_87 wd_122 ds_X12_goesTo (by decide) (by omega) (Nat.le_of_ble_eq_true rfl) (Nat.zero_le _) (Nat.zero_le _) hc_10 (by decide) rfl rfl h
  · replace h := h.2 c1
    refine am_goto (tgt := 98) dX12_first_76 (by decide) ?_
    exact am_sub [1, 2, 3, 4, 5] rfl h
theorem bX12_first_85 {SC : Nat → Nat} {X : mh_X} {d : Nat} {Q : Option am_V → am_W → Prop} {bc bs : Nat} {w : am_W} {x5 : Int} {x1 : Int} {x2 : Int} {x3 : Int} {x4 : Int}
    (h : am_M (mh_G X) SC (d + 10) 0 0 mX12_mayBe [.inr (.inr (some (9, 0))), .inl x2, .inl x5] w (fun r w1 => am_A (mh_G X) SC (d + 11) mX12_first Q 92 [(5, .inl x5), (0, .inr (.inr (some (9, 0)))), (1, .inl x1), (2, .inl x2), (3, .inl x3), (4, .inl x4)] (r.toList ++ []) w1 bc bs)) :
    am_A (mh_G X) SC (d + 11) mX12_first Q 85 [(5, .inl x5), (0, .inr (.inr (some (9, 0)))), (1, .inl x1), (2, .inl x2), (3, .inl x3), (4, .inl x4)] [] w bc bs := by
  refine am_aload_n dX12_first_85 (List.Mem.tail _ (List.Mem.head _)) ?_
  refine am_iload_n dX12_first_86 (List.Mem.tail _ (List.Mem.tail _ (List.Mem.tail _ (List.Mem.head _)))) ?_
  refine am_iload dX12_first_87 (List.Mem.head _) ?_
  exact am_callv (d' := d + 10) (kc := 0) (ks := 0) (as := [.inl x2, .inl x5]) dX12_first_89 wc_X12_mayBe wd_2159 wd_2161 wd_96 wd_122 ds_X12_mayBe (by decide) (by omega) (Nat.le_of_ble_eq_true rfl) (Nat.zero_le _) (Nat.zero_le _) hc_10 (by decide) rfl rfl h
theorem bX12_first_98 {SC : Nat → Nat} {X : mh_X} {d : Nat} {Q : Option am_V → am_W → Prop} {bc bs : Nat} {w : am_W} {x1 : Int} {x2 : Int} {x3 : Int} {x4 : Int}
    (h : am_A (mh_G X) SC (d + 11) mX12_first Q 38 [(0, .inr (.inr (some (9, 0)))), (1, .inl x1), (2, .inl x2), (3, .inl x3), (4, .inl (am_w (x4 + 1)))] [] w bc bs) :
    am_A (mh_G X) SC (d + 11) mX12_first Q 98 [(0, .inr (.inr (some (9, 0)))), (1, .inl x1), (2, .inl x2), (3, .inl x3), (4, .inl x4)] [] w bc bs := by
  refine am_iinc (ls' := [(4, .inl (am_w (x4 + 1))), (0, .inr (.inr (some (9, 0)))), (1, .inl x1), (2, .inl x2), (3, .inl x3)]) dX12_first_98 (List.Mem.tail _ (List.Mem.tail _ (List.Mem.tail _ (List.Mem.tail _ (List.Mem.head _))))) (by decide) rfl ?_
  refine am_goto (tgt := 38) dX12_first_101 (by decide) ?_
  exact am_sub [1, 2, 3, 4, 0] rfl h
theorem bX12_first_92 {SC : Nat → Nat} {X : mh_X} {d : Nat} {Q : Option am_V → am_W → Prop} {bc bs : Nat} {w : am_W} {x5 : Int} {x1 : Int} {x2 : Int} {x3 : Int} {x4 : Int} {xs0 : Int}
    (h : ((xs0 = 0 → am_A (mh_G X) SC (d + 11) mX12_first Q 98 [(0, .inr (.inr (some (9, 0)))), (1, .inl x1), (2, .inl x2), (3, .inl x3), (4, .inl x4)] [] w bc bs) ∧ (¬ xs0 = 0 → Q (some (.inl x5)) w))) :
    am_A (mh_G X) SC (d + 11) mX12_first Q 92 [(5, .inl x5), (0, .inr (.inr (some (9, 0)))), (1, .inl x1), (2, .inl x2), (3, .inl x3), (4, .inl x4)] [.inl xs0] w bc bs := by
  refine am_ifeq (tgt := 98) dX12_first_92 (by decide) (fun c1 => ?_) (fun c1 => ?_)
  · replace h := h.1 c1
    exact am_sub [1, 2, 3, 4, 5] rfl h
  · replace h := h.2 c1
    refine am_iload dX12_first_95 (List.Mem.head _) ?_
    exact am_ret (r := some (.inl x5)) dX12_first_97 (Or.inl rfl) rfl h
-- MourningHouseModel.hasTask(I)Z
theorem dX12_hasTask_0 : decode mX12_hasTask.2.1 0 = .ok (.iconst 0, 1) := by decide +kernel
theorem dX12_hasTask_1 : decode mX12_hasTask.2.1 1 = .ok (.istore_n 2, 1) := by decide +kernel
theorem dX12_hasTask_2 : decode mX12_hasTask.2.1 2 = .ok (.iload_n 2, 1) := by decide +kernel
theorem dX12_hasTask_3 : decode mX12_hasTask.2.1 3 = .ok (.aload_n 0, 1) := by decide +kernel
theorem dX12_hasTask_4 : decode mX12_hasTask.2.1 4 = .ok (.getfield 576, 3) := by decide +kernel
theorem dX12_hasTask_7 : decode mX12_hasTask.2.1 7 = .ok (.if_icmp .ge 21, 3) := by decide +kernel
theorem dX12_hasTask_10 : decode mX12_hasTask.2.1 10 = .ok (.aload_n 0, 1) := by decide +kernel
theorem dX12_hasTask_11 : decode mX12_hasTask.2.1 11 = .ok (.getfield 246, 3) := by decide +kernel
theorem dX12_hasTask_14 : decode mX12_hasTask.2.1 14 = .ok (.iload_n 2, 1) := by decide +kernel
theorem dX12_hasTask_15 : decode mX12_hasTask.2.1 15 = .ok (.iaload, 1) := by decide +kernel
theorem dX12_hasTask_16 : decode mX12_hasTask.2.1 16 = .ok (.iload_n 1, 1) := by decide +kernel
theorem dX12_hasTask_17 : decode mX12_hasTask.2.1 17 = .ok (.if_icmp .ne 5, 3) := by decide +kernel
theorem dX12_hasTask_20 : decode mX12_hasTask.2.1 20 = .ok (.iconst 1, 1) := by decide +kernel
theorem dX12_hasTask_21 : decode mX12_hasTask.2.1 21 = .ok (.ireturn, 1) := by decide +kernel
theorem dX12_hasTask_22 : decode mX12_hasTask.2.1 22 = .ok (.iinc 2 1, 3) := by decide +kernel
theorem dX12_hasTask_25 : decode mX12_hasTask.2.1 25 = .ok (.goto (-23), 3) := by decide +kernel
theorem dX12_hasTask_28 : decode mX12_hasTask.2.1 28 = .ok (.iconst 0, 1) := by decide +kernel
theorem dX12_hasTask_29 : decode mX12_hasTask.2.1 29 = .ok (.ireturn, 1) := by decide +kernel
theorem bX12_hasTask_0 {SC : Nat → Nat} {X : mh_X} {d : Nat} {Q : Option am_V → am_W → Prop} {bc bs : Nat} {w : am_W} {x1 : Int}
    (h : am_A (mh_G X) SC (d + 1) mX12_hasTask Q 2 [(0, .inr (.inr (some (9, 0)))), (1, .inl x1), (2, .inl 0)] [] w bc bs) :
    am_A (mh_G X) SC (d + 1) mX12_hasTask Q 0 [(0, .inr (.inr (some (9, 0)))), (1, .inl x1)] [] w bc bs := by
  refine am_iconst dX12_hasTask_0 (by unfold am_rg; omega) ?_
  refine am_istore_n (ls' := [(2, .inl 0), (0, .inr (.inr (some (9, 0)))), (1, .inl x1)]) dX12_hasTask_1 (by decide) rfl ?_
  exact am_sub [1, 2, 0] rfl h
theorem bX12_hasTask_2 {SC : Nat → Nat} {X : mh_X} {d : Nat} {Q : Option am_V → am_W → Prop} {bc bs : Nat} {w : am_W} {x1 : Int} {x2 : Int}
    (h : (((w.1 9 0 81) ≤ x2 → Q (some (.inl 0)) w) ∧ (¬ (w.1 9 0 81) ≤ x2 → (0 ≤ x2 ∧ (x2 < 20 ∧ ((¬ (w.1 129 0 x2.toNat) = x1 → am_A (mh_G X) SC (d + 1) mX12_hasTask Q 2 [(0, .inr (.inr (some (9, 0)))), (1, .inl x1), (2, .inl (am_w (x2 + 1)))] [] w bc bs) ∧ ((w.1 129 0 x2.toNat) = x1 → Q (some (.inl 1)) w))))))) :
    am_A (mh_G X) SC (d + 1) mX12_hasTask Q 2 [(0, .inr (.inr (some (9, 0)))), (1, .inl x1), (2, .inl x2)] [] w bc bs := by
  refine am_iload_n dX12_hasTask_2 (List.Mem.tail _ (List.Mem.tail _ (List.Mem.head _))) ?_
  refine am_aload_n dX12_hasTask_3 (List.Mem.head _) ?_
  refine am_getf (f := 81) (v := .inl (w.1 9 0 81)) dX12_hasTask_4 hc_10 (by decide) wd_1630 (by decide) rfl rfl ?_
  refine am_icmpge (tgt := 28) dX12_hasTask_7 (by decide) (fun c1 => ?_) (fun c1 => ?_)
  · replace h := h.1 c1
    refine am_iconst dX12_hasTask_28 (by unfold am_rg; omega) ?_
    exact am_ret (r := some (.inl 0)) dX12_hasTask_29 (Or.inr (Or.inl ⟨rfl, (Or.inl rfl)⟩)) rfl h
  · replace h := h.2 c1
    refine am_aload_n dX12_hasTask_10 (List.Mem.head _) ?_
    refine am_getf (f := 77) (v := .inr (.inr (some (129, 0)))) dX12_hasTask_11 hc_10 (by decide) wd_1626 (by decide) rfl rfl ?_
    refine am_iload_n dX12_hasTask_14 (List.Mem.tail _ (List.Mem.tail _ (List.Mem.head _))) ?_
    have o2 := h.1
    replace h := h.2
    have o3 := h.1
    replace h := h.2
    refine am_iaload (v := (w.1 129 0 x2.toNat)) dX12_hasTask_15 (by decide) rfl o2 o3 rfl ?_
    refine am_iload_n dX12_hasTask_16 (List.Mem.tail _ (List.Mem.head _)) ?_
    refine am_icmpne (tgt := 22) dX12_hasTask_17 (by decide) (fun c4 => ?_) (fun c4 => ?_)
    · replace h := h.1 c4
      refine am_iinc (ls' := [(2, .inl (am_w (x2 + 1))), (0, .inr (.inr (some (9, 0)))), (1, .inl x1)]) dX12_hasTask_22 (List.Mem.tail _ (List.Mem.tail _ (List.Mem.head _))) (by decide) rfl ?_
      refine am_goto (tgt := 2) dX12_hasTask_25 (by decide) ?_
      exact am_sub [1, 2, 0] rfl h
    · replace h := h.2 c4
      refine am_iconst dX12_hasTask_20 (by unfold am_rg; omega) ?_
      exact am_ret (r := some (.inl 1)) dX12_hasTask_21 (Or.inr (Or.inl ⟨rfl, (Or.inr rfl)⟩)) rfl h
-- MourningHouseModel.making()I
theorem dX12_making_0 : decode mX12_making.2.1 0 = .ok (.iconst 0, 1) := by decide +kernel
theorem dX12_making_1 : decode mX12_making.2.1 1 = .ok (.istore_n 1, 1) := by decide +kernel
theorem dX12_making_2 : decode mX12_making.2.1 2 = .ok (.iconst 0, 1) := by decide +kernel
theorem dX12_making_3 : decode mX12_making.2.1 3 = .ok (.istore_n 2, 1) := by decide +kernel
theorem dX12_making_4 : decode mX12_making.2.1 4 = .ok (.iload_n 2, 1) := by decide +kernel
theorem dX12_making_5 : decode mX12_making.2.1 5 = .ok (.aload_n 0, 1) := by decide +kernel
theorem dX12_making_6 : decode mX12_making.2.1 6 = .ok (.getfield 576, 3) := by decide +kernel
theorem dX12_making_9 : decode mX12_making.2.1 9 = .ok (.if_icmp .ge 27, 3) := by decide +kernel
theorem dX12_making_12 : decode mX12_making.2.1 12 = .ok (.iload_n 1, 1) := by decide +kernel
theorem dX12_making_13 : decode mX12_making.2.1 13 = .ok (.aload_n 0, 1) := by decide +kernel
theorem dX12_making_14 : decode mX12_making.2.1 14 = .ok (.getfield 246, 3) := by decide +kernel
theorem dX12_making_17 : decode mX12_making.2.1 17 = .ok (.iload_n 2, 1) := by decide +kernel
theorem dX12_making_18 : decode mX12_making.2.1 18 = .ok (.iaload, 1) := by decide +kernel
theorem dX12_making_19 : decode mX12_making.2.1 19 = .ok (.iconst (-1), 1) := by decide +kernel
theorem dX12_making_20 : decode mX12_making.2.1 20 = .ok (.if_icmp .ne 7, 3) := by decide +kernel
theorem dX12_making_23 : decode mX12_making.2.1 23 = .ok (.iconst 1, 1) := by decide +kernel
theorem dX12_making_24 : decode mX12_making.2.1 24 = .ok (.goto 4, 3) := by decide +kernel
theorem dX12_making_27 : decode mX12_making.2.1 27 = .ok (.iconst 0, 1) := by decide +kernel
theorem dX12_making_28 : decode mX12_making.2.1 28 = .ok (.iadd, 1) := by decide +kernel
theorem dX12_making_29 : decode mX12_making.2.1 29 = .ok (.istore_n 1, 1) := by decide +kernel
theorem dX12_making_30 : decode mX12_making.2.1 30 = .ok (.iinc 2 1, 3) := by decide +kernel
theorem dX12_making_33 : decode mX12_making.2.1 33 = .ok (.goto (-29), 3) := by decide +kernel
theorem dX12_making_36 : decode mX12_making.2.1 36 = .ok (.iload_n 1, 1) := by decide +kernel
theorem dX12_making_37 : decode mX12_making.2.1 37 = .ok (.ireturn, 1) := by decide +kernel
theorem bX12_making_0 {SC : Nat → Nat} {X : mh_X} {d : Nat} {Q : Option am_V → am_W → Prop} {bc bs : Nat} {w : am_W} 
    (h : am_A (mh_G X) SC (d + 1) mX12_making Q 4 [(0, .inr (.inr (some (9, 0)))), (1, .inl 0), (2, .inl 0)] [] w bc bs) :
    am_A (mh_G X) SC (d + 1) mX12_making Q 0 [(0, .inr (.inr (some (9, 0))))] [] w bc bs := by
  refine am_iconst dX12_making_0 (by unfold am_rg; omega) ?_
  refine am_istore_n (ls' := [(1, .inl 0), (0, .inr (.inr (some (9, 0))))]) dX12_making_1 (by decide) rfl ?_
  refine am_iconst dX12_making_2 (by unfold am_rg; omega) ?_
  refine am_istore_n (ls' := [(2, .inl 0), (1, .inl 0), (0, .inr (.inr (some (9, 0))))]) dX12_making_3 (by decide) rfl ?_
  exact am_sub [2, 1, 0] rfl h
theorem bX12_making_4 {SC : Nat → Nat} {X : mh_X} {d : Nat} {Q : Option am_V → am_W → Prop} {bc bs : Nat} {w : am_W} {x1 : Int} {x2 : Int}
    (h : (((w.1 9 0 81) ≤ x2 → Q (some (.inl x1)) w) ∧ (¬ (w.1 9 0 81) ≤ x2 → (0 ≤ x2 ∧ (x2 < 20 ∧ ((¬ (w.1 129 0 x2.toNat) = (-1) → am_A (mh_G X) SC (d + 1) mX12_making Q 28 [(0, .inr (.inr (some (9, 0)))), (2, .inl x2)] [.inl 0, .inl x1] w bc bs) ∧ ((w.1 129 0 x2.toNat) = (-1) → am_A (mh_G X) SC (d + 1) mX12_making Q 28 [(0, .inr (.inr (some (9, 0)))), (2, .inl x2)] [.inl 1, .inl x1] w bc bs))))))) :
    am_A (mh_G X) SC (d + 1) mX12_making Q 4 [(0, .inr (.inr (some (9, 0)))), (1, .inl x1), (2, .inl x2)] [] w bc bs := by
  refine am_iload_n dX12_making_4 (List.Mem.tail _ (List.Mem.tail _ (List.Mem.head _))) ?_
  refine am_aload_n dX12_making_5 (List.Mem.head _) ?_
  refine am_getf (f := 81) (v := .inl (w.1 9 0 81)) dX12_making_6 hc_10 (by decide) wd_1630 (by decide) rfl rfl ?_
  refine am_icmpge (tgt := 36) dX12_making_9 (by decide) (fun c1 => ?_) (fun c1 => ?_)
  · replace h := h.1 c1
    refine am_iload_n dX12_making_36 (List.Mem.tail _ (List.Mem.head _)) ?_
    exact am_ret (r := some (.inl x1)) dX12_making_37 (Or.inl rfl) rfl h
  · replace h := h.2 c1
    refine am_iload_n dX12_making_12 (List.Mem.tail _ (List.Mem.head _)) ?_
    refine am_aload_n dX12_making_13 (List.Mem.head _) ?_
    refine am_getf (f := 77) (v := .inr (.inr (some (129, 0)))) dX12_making_14 hc_10 (by decide) wd_1626 (by decide) rfl rfl ?_
    refine am_iload_n dX12_making_17 (List.Mem.tail _ (List.Mem.tail _ (List.Mem.head _))) ?_
    have o2 := h.1
    replace h := h.2
    have o3 := h.1
    replace h := h.2
    refine am_iaload (v := (w.1 129 0 x2.toNat)) dX12_making_18 (by decide) rfl o2 o3 rfl ?_
    refine am_iconst dX12_making_19 (by unfold am_rg; omega) ?_
    refine am_icmpne (tgt := 27) dX12_making_20 (by decide) (fun c4 => ?_) (fun c4 => ?_)
    · replace h := h.1 c4
      refine am_iconst dX12_making_27 (by unfold am_rg; omega) ?_
      exact am_sub [0, 2] rfl h
    · replace h := h.2 c4
      refine am_iconst dX12_making_23 (by unfold am_rg; omega) ?_
      refine am_goto (tgt := 28) dX12_making_24 (by decide) ?_
      exact am_sub [0, 2] rfl h
theorem bX12_making_28 {SC : Nat → Nat} {X : mh_X} {d : Nat} {Q : Option am_V → am_W → Prop} {bc bs : Nat} {w : am_W} {x2 : Int} {xs0 : Int} {xs1 : Int}
    (h : am_A (mh_G X) SC (d + 1) mX12_making Q 4 [(0, .inr (.inr (some (9, 0)))), (1, .inl (am_w (xs1 + xs0))), (2, .inl (am_w (x2 + 1)))] [] w bc bs) :
    am_A (mh_G X) SC (d + 1) mX12_making Q 28 [(0, .inr (.inr (some (9, 0)))), (2, .inl x2)] [.inl xs0, .inl xs1] w bc bs := by
  refine am_iadd dX12_making_28 ?_
  refine am_istore_n (ls' := [(1, .inl (am_w (xs1 + xs0))), (0, .inr (.inr (some (9, 0)))), (2, .inl x2)]) dX12_making_29 (by decide) rfl ?_
  refine am_iinc (ls' := [(2, .inl (am_w (x2 + 1))), (1, .inl (am_w (xs1 + xs0))), (0, .inr (.inr (some (9, 0))))]) dX12_making_30 (List.Mem.tail _ (List.Mem.tail _ (List.Mem.head _))) (by decide) rfl ?_
  refine am_goto (tgt := 4) dX12_making_33 (by decide) ?_
  exact am_sub [2, 1, 0] rfl h
-- MourningHouseModel.isStuff(I)Z
theorem dX12_isStuff_0 : decode mX12_isStuff.2.1 0 = .ok (.iload_n 0, 1) := by decide +kernel
theorem dX12_isStuff_1 : decode mX12_isStuff.2.1 1 = .ok (.iconst 0, 1) := by decide +kernel
theorem dX12_isStuff_2 : decode mX12_isStuff.2.1 2 = .ok (.iconst 4, 1) := by decide +kernel
theorem dX12_isStuff_3 : decode mX12_isStuff.2.1 3 = .ok (.invokestatic 318, 3) := by decide +kernel
theorem dX12_isStuff_6 : decode mX12_isStuff.2.1 6 = .ok (.ireturn, 1) := by decide +kernel
theorem sX12_isStuff {SC : Nat → Nat} {X : mh_X} {d kc ks : Nat} {Q : Option am_V → am_W → Prop} {w : am_W} {x0 : Int}
    (h : Q (some (.inl (if (¬ x0 < (0 : Int) ∧ (¬ (4 : Int) < x0)) then 1 else 0))) w) : am_M (mh_G X) SC (d + 2) kc ks mX12_isStuff [.inl x0] w Q := by
  refine am_M_of (by decide) (Nat.le_of_ble_eq_true rfl) ?_
  show am_A (mh_G X) SC (d + 2) mX12_isStuff Q 0 [(0, .inl x0)] [] w kc ks
  refine am_iload_n dX12_isStuff_0 (List.Mem.head _) ?_
  refine am_iconst dX12_isStuff_1 (by unfold am_rg; omega) ?_
  refine am_iconst dX12_isStuff_2 (by unfold am_rg; omega) ?_
  refine am_calls (d' := d + 1) (kc := 0) (ks := 0) (as := [.inl x0, .inl 0, .inl 4]) dX12_isStuff_3 wc_X12_in wd_1859 wd_1860 wd_122 ds_X12_in (by decide) (by omega) (Nat.le_of_ble_eq_true rfl) (Nat.zero_le _) (Nat.zero_le _) rfl (sX12_in (d := d + 0) (x0 := x0) (x1 := 0) (x2 := 4)  ?_)
  show am_A (mh_G X) SC (d + 2) mX12_isStuff Q 6 [(0, .inl x0)] [.inl (if (¬ x0 < (0 : Int) ∧ (¬ (4 : Int) < x0)) then 1 else 0)] w kc ks
  exact am_ret (r := some (.inl (if (¬ x0 < (0 : Int) ∧ (¬ (4 : Int) < x0)) then 1 else 0))) dX12_isStuff_6 (Or.inr (Or.inl ⟨rfl, am_b01⟩)) rfl h
-- MourningHouseModel.dress(II)I
theorem dX12_dress_0 : decode mX12_dress.2.1 0 = .ok (.iload_n 1, 1) := by decide +kernel
theorem dX12_dress_1 : decode mX12_dress.2.1 1 = .ok (.iconst 0, 1) := by decide +kernel
theorem dX12_dress_2 : decode mX12_dress.2.1 2 = .ok (.iconst 4, 1) := by decide +kernel
theorem dX12_dress_3 : decode mX12_dress.2.1 3 = .ok (.invokestatic 318, 3) := by decide +kernel
theorem dX12_dress_6 : decode mX12_dress.2.1 6 = .ok (.ifCond .eq 24, 3) := by decide +kernel
theorem dX12_dress_9 : decode mX12_dress.2.1 9 = .ok (.iload_n 2, 1) := by decide +kernel
theorem dX12_dress_10 : decode mX12_dress.2.1 10 = .ok (.invokestatic 579, 3) := by decide +kernel
theorem dX12_dress_13 : decode mX12_dress.2.1 13 = .ok (.ifCond .eq 17, 3) := by decide +kernel
theorem dX12_dress_16 : decode mX12_dress.2.1 16 = .ok (.aload_n 0, 1) := by decide +kernel
theorem dX12_dress_17 : decode mX12_dress.2.1 17 = .ok (.getfield 582, 3) := by decide +kernel
theorem dX12_dress_20 : decode mX12_dress.2.1 20 = .ok (.aload_n 0, 1) := by decide +kernel
theorem dX12_dress_21 : decode mX12_dress.2.1 21 = .ok (.invokevirtual 585, 3) := by decide +kernel
theorem dX12_dress_24 : decode mX12_dress.2.1 24 = .ok (.iadd, 1) := by decide +kernel
theorem dX12_dress_25 : decode mX12_dress.2.1 25 = .ok (.bipush 40, 2) := by decide +kernel
theorem dX12_dress_27 : decode mX12_dress.2.1 27 = .ok (.if_icmp .lt 5, 3) := by decide +kernel
theorem dX12_dress_30 : decode mX12_dress.2.1 30 = .ok (.iconst (-1), 1) := by decide +kernel
theorem dX12_dress_31 : decode mX12_dress.2.1 31 = .ok (.ireturn, 1) := by decide +kernel
theorem dX12_dress_32 : decode mX12_dress.2.1 32 = .ok (.aload_n 0, 1) := by decide +kernel
theorem dX12_dress_33 : decode mX12_dress.2.1 33 = .ok (.getfield 237, 3) := by decide +kernel
theorem dX12_dress_36 : decode mX12_dress.2.1 36 = .ok (.aload_n 0, 1) := by decide +kernel
theorem dX12_dress_37 : decode mX12_dress.2.1 37 = .ok (.getfield 582, 3) := by decide +kernel
theorem dX12_dress_40 : decode mX12_dress.2.1 40 = .ok (.iload_n 1, 1) := by decide +kernel
theorem dX12_dress_41 : decode mX12_dress.2.1 41 = .ok (.iastore, 1) := by decide +kernel
theorem dX12_dress_42 : decode mX12_dress.2.1 42 = .ok (.aload_n 0, 1) := by decide +kernel
theorem dX12_dress_43 : decode mX12_dress.2.1 43 = .ok (.getfield 240, 3) := by decide +kernel
theorem dX12_dress_46 : decode mX12_dress.2.1 46 = .ok (.aload_n 0, 1) := by decide +kernel
theorem dX12_dress_47 : decode mX12_dress.2.1 47 = .ok (.getfield 582, 3) := by decide +kernel
theorem dX12_dress_50 : decode mX12_dress.2.1 50 = .ok (.iload_n 2, 1) := by decide +kernel
theorem dX12_dress_51 : decode mX12_dress.2.1 51 = .ok (.iastore, 1) := by decide +kernel
theorem dX12_dress_52 : decode mX12_dress.2.1 52 = .ok (.aload_n 0, 1) := by decide +kernel
theorem dX12_dress_53 : decode mX12_dress.2.1 53 = .ok (.dup, 1) := by decide +kernel
theorem dX12_dress_54 : decode mX12_dress.2.1 54 = .ok (.getfield 582, 3) := by decide +kernel
theorem dX12_dress_57 : decode mX12_dress.2.1 57 = .ok (.iconst 1, 1) := by decide +kernel
theorem dX12_dress_58 : decode mX12_dress.2.1 58 = .ok (.iadd, 1) := by decide +kernel
theorem dX12_dress_59 : decode mX12_dress.2.1 59 = .ok (.putfield 582, 3) := by decide +kernel
theorem dX12_dress_62 : decode mX12_dress.2.1 62 = .ok (.aload_n 0, 1) := by decide +kernel
theorem dX12_dress_63 : decode mX12_dress.2.1 63 = .ok (.getfield 582, 3) := by decide +kernel
theorem dX12_dress_66 : decode mX12_dress.2.1 66 = .ok (.iconst 1, 1) := by decide +kernel
theorem dX12_dress_67 : decode mX12_dress.2.1 67 = .ok (.isub, 1) := by decide +kernel
theorem dX12_dress_68 : decode mX12_dress.2.1 68 = .ok (.ireturn, 1) := by decide +kernel
theorem bX12_dress_0 {SC : Nat → Nat} {X : mh_X} {d : Nat} {Q : Option am_V → am_W → Prop} {bc bs : Nat} {w : am_W} {x1 : Int} {x2 : Int}
    (h : ((¬ (¬ x1 < (0 : Int) ∧ (¬ (4 : Int) < x1)) → Q (some (.inl (-1))) w) ∧ ((¬ x1 < (0 : Int) ∧ (¬ (4 : Int) < x1)) → ((¬ (¬ x2 < (0 : Int) ∧ (¬ (4 : Int) < x2)) → Q (some (.inl (-1))) w) ∧ ((¬ x2 < (0 : Int) ∧ (¬ (4 : Int) < x2)) → am_M (mh_G X) SC (d + 2) 0 0 mX12_making [.inr (.inr (some (9, 0)))] w (fun r w1 => am_A (mh_G X) SC (d + 3) mX12_dress Q 24 [(0, .inr (.inr (some (9, 0)))), (1, .inl x1), (2, .inl x2)] (r.toList ++ [.inl (w.1 9 0 75)]) w1 bc bs)))))) :
    am_A (mh_G X) SC (d + 3) mX12_dress Q 0 [(0, .inr (.inr (some (9, 0)))), (1, .inl x1), (2, .inl x2)] [] w bc bs := by
  refine am_iload_n dX12_dress_0 (List.Mem.tail _ (List.Mem.head _)) ?_
  refine am_iconst dX12_dress_1 (by unfold am_rg; omega) ?_
  refine am_iconst dX12_dress_2 (by unfold am_rg; omega) ?_
  refine am_calls (d' := d + 2) (kc := 0) (ks := 0) (as := [.inl x1, .inl 0, .inl 4]) dX12_dress_3 wc_X12_in wd_1859 wd_1860 wd_122 ds_X12_in (by decide) (by omega) (Nat.le_of_ble_eq_true rfl) (Nat.zero_le _) (Nat.zero_le _) rfl (sX12_in (d := d + 1) (x0 := x1) (x1 := 0) (x2 := 4)  ?_)
  show am_A (mh_G X) SC (d + 3) mX12_dress Q 6 [(0, .inr (.inr (some (9, 0)))), (1, .inl x1), (2, .inl x2)] [.inl (if (¬ x1 < (0 : Int) ∧ (¬ (4 : Int) < x1)) then 1 else 0)] w bc bs
  refine am_ifeq (tgt := 30) dX12_dress_6 (by decide) (fun c1 => ?_) (fun c1 => ?_)
  · replace c1 := am_beq1 c1
    replace h := h.1 c1
    refine am_iconst dX12_dress_30 (by unfold am_rg; omega) ?_
    exact am_ret (r := some (.inl (-1))) dX12_dress_31 (Or.inl rfl) rfl h
  · replace c1 := am_beq2 c1
    replace h := h.2 c1
    refine am_iload_n dX12_dress_9 (List.Mem.tail _ (List.Mem.tail _ (List.Mem.head _))) ?_
    refine am_calls (d' := d + 2) (kc := 0) (ks := 0) (as := [.inl x2]) dX12_dress_10 wc_X12_isStuff wd_2183 wd_2184 wd_122 ds_X12_isStuff (by decide) (by omega) (Nat.le_of_ble_eq_true rfl) (Nat.zero_le _) (Nat.zero_le _) rfl (sX12_isStuff (d := d + 0) (x0 := x2)  ?_)
    show am_A (mh_G X) SC (d + 3) mX12_dress Q 13 [(0, .inr (.inr (some (9, 0)))), (1, .inl x1), (2, .inl x2)] [.inl (if (¬ x2 < (0 : Int) ∧ (¬ (4 : Int) < x2)) then 1 else 0)] w bc bs
    refine am_ifeq (tgt := 30) dX12_dress_13 (by decide) (fun c2 => ?_) (fun c2 => ?_)
    · replace c2 := am_beq1 c2
      replace h := h.1 c2
      refine am_iconst dX12_dress_30 (by unfold am_rg; omega) ?_
      exact am_ret (r := some (.inl (-1))) dX12_dress_31 (Or.inl rfl) rfl h
    · replace c2 := am_beq2 c2
      replace h := h.2 c2
      refine am_aload_n dX12_dress_16 (List.Mem.head _) ?_
      refine am_getf (f := 75) (v := .inl (w.1 9 0 75)) dX12_dress_17 hc_10 (by decide) wd_1624 (by decide) rfl rfl ?_
      refine am_aload_n dX12_dress_20 (List.Mem.head _) ?_
      exact am_callv (d' := d + 2) (kc := 0) (ks := 0) (as := []) dX12_dress_21 wc_X12_making wd_2186 wd_2188 wd_97 wd_122 ds_X12_making (by decide) (by omega) (Nat.le_of_ble_eq_true rfl) (Nat.zero_le _) (Nat.zero_le _) hc_10 (by decide) rfl rfl h
theorem bX12_dress_24 {SC : Nat → Nat} {X : mh_X} {d : Nat} {Q : Option am_V → am_W → Prop} {bc bs : Nat} {w : am_W} {x1 : Int} {x2 : Int} {xs0 : Int} {xs1 : Int}
    (h : (((am_w (xs1 + xs0)) < 40 → (0 ≤ (w.1 9 0 75) ∧ ((w.1 9 0 75) < 40 ∧ Q (some (.inl (am_w (((am_up w.1 9 0 75 (am_w ((w.1 9 0 75) + 1))) 9 0 75) - 1)))) ((am_up (am_up (am_up w.1 126 0 (w.1 9 0 75).toNat x1) 127 0 (w.1 9 0 75).toNat x2) 9 0 75 (am_w ((w.1 9 0 75) + 1))), w.2)))) ∧ (¬ (am_w (xs1 + xs0)) < 40 → Q (some (.inl (-1))) w))) :
    am_A (mh_G X) SC (d + 3) mX12_dress Q 24 [(0, .inr (.inr (some (9, 0)))), (1, .inl x1), (2, .inl x2)] [.inl xs0, .inl xs1] w bc bs := by
  refine am_iadd dX12_dress_24 ?_
  refine am_bipush dX12_dress_25 (by decide) (by unfold am_rg; omega) ?_
  refine am_icmplt (tgt := 32) dX12_dress_27 (by decide) (fun c1 => ?_) (fun c1 => ?_)
  · replace h := h.1 c1
    refine am_aload_n dX12_dress_32 (List.Mem.head _) ?_
    refine am_getf (f := 72) (v := .inr (.inr (some (126, 0)))) dX12_dress_33 hc_10 (by decide) wd_1621 (by decide) rfl rfl ?_
    refine am_aload_n dX12_dress_36 (List.Mem.head _) ?_
    refine am_getf (f := 75) (v := .inl (w.1 9 0 75)) dX12_dress_37 hc_10 (by decide) wd_1624 (by decide) rfl rfl ?_
    refine am_iload_n dX12_dress_40 (List.Mem.tail _ (List.Mem.head _)) ?_
    have o2 := h.1
    replace h := h.2
    have o3 := h.1
    replace h := h.2
    refine am_iastore dX12_dress_41 (Or.inl (by decide)) rfl o2 o3 ?_
    refine am_aload_n dX12_dress_42 (List.Mem.head _) ?_
    refine am_getf (f := 73) (v := .inr (.inr (some (127, 0)))) dX12_dress_43 hc_10 (by decide) wd_1622 (by decide) rfl rfl ?_
    refine am_aload_n dX12_dress_46 (List.Mem.head _) ?_
    refine am_getf (f := 75) (v := .inl (w.1 9 0 75)) dX12_dress_47 hc_10 (by decide) wd_1624 (by decide) rfl rfl ?_
    refine am_iload_n dX12_dress_50 (List.Mem.tail _ (List.Mem.tail _ (List.Mem.head _))) ?_
    refine am_iastore dX12_dress_51 (Or.inl (by decide)) rfl o2 o3 ?_
    refine am_aload_n dX12_dress_52 (List.Mem.head _) ?_
    refine am_dup dX12_dress_53 rfl ?_
    refine am_getf (f := 75) (v := .inl (w.1 9 0 75)) dX12_dress_54 hc_10 (by decide) wd_1624 (by decide) rfl rfl ?_
    refine am_iconst dX12_dress_57 (by unfold am_rg; omega) ?_
    refine am_iadd dX12_dress_58 ?_
    refine am_putf (f := 75) dX12_dress_59 hc_10 (by decide) wd_1624 rfl (Or.inl rfl) (Or.inl (by decide)) rfl ?_
    refine am_aload_n dX12_dress_62 (List.Mem.head _) ?_
    refine am_getf (f := 75) (v := .inl ((am_up w.1 9 0 75 (am_w ((w.1 9 0 75) + 1))) 9 0 75)) dX12_dress_63 hc_10 (by decide) wd_1624 (by decide) rfl rfl ?_
    refine am_iconst dX12_dress_66 (by unfold am_rg; omega) ?_
    refine am_isub dX12_dress_67 ?_
    exact am_ret (r := some (.inl (am_w (((am_up w.1 9 0 75 (am_w ((w.1 9 0 75) + 1))) 9 0 75) - 1)))) dX12_dress_68 (Or.inl rfl) rfl h
  · replace h := h.2 c1
    refine am_iconst dX12_dress_30 (by unfold am_rg; omega) ?_
    exact am_ret (r := some (.inl (-1))) dX12_dress_31 (Or.inl rfl) rfl h
-- MourningHouseModel.cloth(II)I
theorem dX12_cloth_0 : decode mX12_cloth.2.1 0 = .ok (.iload_n 1, 1) := by decide +kernel
theorem dX12_cloth_1 : decode mX12_cloth.2.1 1 = .ok (.invokestatic 579, 3) := by decide +kernel
theorem dX12_cloth_4 : decode mX12_cloth.2.1 4 = .ok (.ifCond .eq 27, 3) := by decide +kernel
theorem dX12_cloth_7 : decode mX12_cloth.2.1 7 = .ok (.iload_n 2, 1) := by decide +kernel
theorem dX12_cloth_8 : decode mX12_cloth.2.1 8 = .ok (.iconst 1, 1) := by decide +kernel
theorem dX12_cloth_9 : decode mX12_cloth.2.1 9 = .ok (.bipush 99, 2) := by decide +kernel
theorem dX12_cloth_11 : decode mX12_cloth.2.1 11 = .ok (.invokestatic 318, 3) := by decide +kernel
theorem dX12_cloth_14 : decode mX12_cloth.2.1 14 = .ok (.ifCond .eq 17, 3) := by decide +kernel
theorem dX12_cloth_17 : decode mX12_cloth.2.1 17 = .ok (.aload_n 0, 1) := by decide +kernel
theorem dX12_cloth_18 : decode mX12_cloth.2.1 18 = .ok (.getfield 243, 3) := by decide +kernel
theorem dX12_cloth_21 : decode mX12_cloth.2.1 21 = .ok (.iload_n 1, 1) := by decide +kernel
theorem dX12_cloth_22 : decode mX12_cloth.2.1 22 = .ok (.iaload, 1) := by decide +kernel
theorem dX12_cloth_23 : decode mX12_cloth.2.1 23 = .ok (.iload_n 2, 1) := by decide +kernel
theorem dX12_cloth_24 : decode mX12_cloth.2.1 24 = .ok (.iadd, 1) := by decide +kernel
theorem dX12_cloth_25 : decode mX12_cloth.2.1 25 = .ok (.sipush 999, 3) := by decide +kernel
theorem dX12_cloth_28 : decode mX12_cloth.2.1 28 = .ok (.if_icmp .le 5, 3) := by decide +kernel
theorem dX12_cloth_31 : decode mX12_cloth.2.1 31 = .ok (.iconst (-1), 1) := by decide +kernel
theorem dX12_cloth_32 : decode mX12_cloth.2.1 32 = .ok (.ireturn, 1) := by decide +kernel
theorem dX12_cloth_33 : decode mX12_cloth.2.1 33 = .ok (.aload_n 0, 1) := by decide +kernel
theorem dX12_cloth_34 : decode mX12_cloth.2.1 34 = .ok (.getfield 243, 3) := by decide +kernel
theorem dX12_cloth_37 : decode mX12_cloth.2.1 37 = .ok (.iload_n 1, 1) := by decide +kernel
theorem dX12_cloth_38 : decode mX12_cloth.2.1 38 = .ok (.dup2, 1) := by decide +kernel
theorem dX12_cloth_39 : decode mX12_cloth.2.1 39 = .ok (.iaload, 1) := by decide +kernel
theorem dX12_cloth_40 : decode mX12_cloth.2.1 40 = .ok (.iload_n 2, 1) := by decide +kernel
theorem dX12_cloth_41 : decode mX12_cloth.2.1 41 = .ok (.iadd, 1) := by decide +kernel
theorem dX12_cloth_42 : decode mX12_cloth.2.1 42 = .ok (.iastore, 1) := by decide +kernel
theorem dX12_cloth_43 : decode mX12_cloth.2.1 43 = .ok (.aload_n 0, 1) := by decide +kernel
theorem dX12_cloth_44 : decode mX12_cloth.2.1 44 = .ok (.getfield 243, 3) := by decide +kernel
theorem dX12_cloth_47 : decode mX12_cloth.2.1 47 = .ok (.iload_n 1, 1) := by decide +kernel
theorem dX12_cloth_48 : decode mX12_cloth.2.1 48 = .ok (.iaload, 1) := by decide +kernel
theorem dX12_cloth_49 : decode mX12_cloth.2.1 49 = .ok (.ireturn, 1) := by decide +kernel
theorem bX12_cloth_0 {SC : Nat → Nat} {X : mh_X} {d : Nat} {Q : Option am_V → am_W → Prop} {bc bs : Nat} {w : am_W} {x1 : Int} {x2 : Int}
    (h : ((¬ (¬ x1 < (0 : Int) ∧ (¬ (4 : Int) < x1)) → Q (some (.inl (-1))) w) ∧ ((¬ x1 < (0 : Int) ∧ (¬ (4 : Int) < x1)) → ((¬ (¬ x2 < (1 : Int) ∧ (¬ (99 : Int) < x2)) → Q (some (.inl (-1))) w) ∧ ((¬ x2 < (1 : Int) ∧ (¬ (99 : Int) < x2)) → (0 ≤ x1 ∧ (x1 < 5 ∧ (((am_w ((w.1 128 0 x1.toNat) + x2)) ≤ 999 → Q (some (.inl ((am_up w.1 128 0 x1.toNat (am_w ((w.1 128 0 x1.toNat) + x2))) 128 0 x1.toNat))) ((am_up w.1 128 0 x1.toNat (am_w ((w.1 128 0 x1.toNat) + x2))), w.2)) ∧ (¬ (am_w ((w.1 128 0 x1.toNat) + x2)) ≤ 999 → Q (some (.inl (-1))) w))))))))) :
    am_A (mh_G X) SC (d + 3) mX12_cloth Q 0 [(0, .inr (.inr (some (9, 0)))), (1, .inl x1), (2, .inl x2)] [] w bc bs := by
  refine am_iload_n dX12_cloth_0 (List.Mem.tail _ (List.Mem.head _)) ?_
  refine am_calls (d' := d + 2) (kc := 0) (ks := 0) (as := [.inl x1]) dX12_cloth_1 wc_X12_isStuff wd_2183 wd_2184 wd_122 ds_X12_isStuff (by decide) (by omega) (Nat.le_of_ble_eq_true rfl) (Nat.zero_le _) (Nat.zero_le _) rfl (sX12_isStuff (d := d + 0) (x0 := x1)  ?_)
  show am_A (mh_G X) SC (d + 3) mX12_cloth Q 4 [(0, .inr (.inr (some (9, 0)))), (1, .inl x1), (2, .inl x2)] [.inl (if (¬ x1 < (0 : Int) ∧ (¬ (4 : Int) < x1)) then 1 else 0)] w bc bs
  refine am_ifeq (tgt := 31) dX12_cloth_4 (by decide) (fun c1 => ?_) (fun c1 => ?_)
  · replace c1 := am_beq1 c1
    replace h := h.1 c1
    refine am_iconst dX12_cloth_31 (by unfold am_rg; omega) ?_
    exact am_ret (r := some (.inl (-1))) dX12_cloth_32 (Or.inl rfl) rfl h
  · replace c1 := am_beq2 c1
    replace h := h.2 c1
    refine am_iload_n dX12_cloth_7 (List.Mem.tail _ (List.Mem.tail _ (List.Mem.head _))) ?_
    refine am_iconst dX12_cloth_8 (by unfold am_rg; omega) ?_
    refine am_bipush dX12_cloth_9 (by decide) (by unfold am_rg; omega) ?_
    refine am_calls (d' := d + 2) (kc := 0) (ks := 0) (as := [.inl x2, .inl 1, .inl 99]) dX12_cloth_11 wc_X12_in wd_1859 wd_1860 wd_122 ds_X12_in (by decide) (by omega) (Nat.le_of_ble_eq_true rfl) (Nat.zero_le _) (Nat.zero_le _) rfl (sX12_in (d := d + 1) (x0 := x2) (x1 := 1) (x2 := 99)  ?_)
    show am_A (mh_G X) SC (d + 3) mX12_cloth Q 14 [(0, .inr (.inr (some (9, 0)))), (1, .inl x1), (2, .inl x2)] [.inl (if (¬ x2 < (1 : Int) ∧ (¬ (99 : Int) < x2)) then 1 else 0)] w bc bs
    refine am_ifeq (tgt := 31) dX12_cloth_14 (by decide) (fun c2 => ?_) (fun c2 => ?_)
    · replace c2 := am_beq1 c2
      replace h := h.1 c2
      refine am_iconst dX12_cloth_31 (by unfold am_rg; omega) ?_
      exact am_ret (r := some (.inl (-1))) dX12_cloth_32 (Or.inl rfl) rfl h
    · replace c2 := am_beq2 c2
      replace h := h.2 c2
      refine am_aload_n dX12_cloth_17 (List.Mem.head _) ?_
      refine am_getf (f := 74) (v := .inr (.inr (some (128, 0)))) dX12_cloth_18 hc_10 (by decide) wd_1623 (by decide) rfl rfl ?_
      refine am_iload_n dX12_cloth_21 (List.Mem.tail _ (List.Mem.head _)) ?_
      have o3 := h.1
      replace h := h.2
      have o4 := h.1
      replace h := h.2
      refine am_iaload (v := (w.1 128 0 x1.toNat)) dX12_cloth_22 (by decide) rfl o3 o4 rfl ?_
      refine am_iload_n dX12_cloth_23 (List.Mem.tail _ (List.Mem.tail _ (List.Mem.head _))) ?_
      refine am_iadd dX12_cloth_24 ?_
      refine am_sipush dX12_cloth_25 (by decide) (by unfold am_rg; omega) ?_
      refine am_icmple (tgt := 33) dX12_cloth_28 (by decide) (fun c5 => ?_) (fun c5 => ?_)
      · replace h := h.1 c5
        refine am_aload_n dX12_cloth_33 (List.Mem.head _) ?_
        refine am_getf (f := 74) (v := .inr (.inr (some (128, 0)))) dX12_cloth_34 hc_10 (by decide) wd_1623 (by decide) rfl rfl ?_
        refine am_iload_n dX12_cloth_37 (List.Mem.tail _ (List.Mem.head _)) ?_
        refine am_dup2 dX12_cloth_38 rfl rfl ?_
        refine am_iaload (v := (w.1 128 0 x1.toNat)) dX12_cloth_39 (by decide) rfl o3 o4 rfl ?_
        refine am_iload_n dX12_cloth_40 (List.Mem.tail _ (List.Mem.tail _ (List.Mem.head _))) ?_
        refine am_iadd dX12_cloth_41 ?_
        refine am_iastore dX12_cloth_42 (Or.inl (by decide)) rfl o3 o4 ?_
        refine am_aload_n dX12_cloth_43 (List.Mem.head _) ?_
        refine am_getf (f := 74) (v := .inr (.inr (some (128, 0)))) dX12_cloth_44 hc_10 (by decide) wd_1623 (by decide) rfl rfl ?_
        refine am_iload_n dX12_cloth_47 (List.Mem.tail _ (List.Mem.head _)) ?_
        refine am_iaload (v := ((am_up w.1 128 0 x1.toNat (am_w ((w.1 128 0 x1.toNat) + x2))) 128 0 x1.toNat)) dX12_cloth_48 (by decide) rfl o3 o4 rfl ?_
        exact am_ret (r := some (.inl ((am_up w.1 128 0 x1.toNat (am_w ((w.1 128 0 x1.toNat) + x2))) 128 0 x1.toNat))) dX12_cloth_49 (Or.inl rfl) rfl h
      · replace h := h.2 c5
        refine am_iconst dX12_cloth_31 (by unfold am_rg; omega) ?_
        exact am_ret (r := some (.inl (-1))) dX12_cloth_32 (Or.inl rfl) rfl h
-- MourningHouseModel.hands(I)Z
theorem dX12_hands_0 : decode mX12_hands.2.1 0 = .ok (.iload_n 1, 1) := by decide +kernel
theorem dX12_hands_1 : decode mX12_hands.2.1 1 = .ok (.iconst 0, 1) := by decide +kernel
theorem dX12_hands_2 : decode mX12_hands.2.1 2 = .ok (.iconst 4, 1) := by decide +kernel
theorem dX12_hands_3 : decode mX12_hands.2.1 3 = .ok (.invokestatic 318, 3) := by decide +kernel
theorem dX12_hands_6 : decode mX12_hands.2.1 6 = .ok (.ifCond .ne 5, 3) := by decide +kernel
theorem dX12_hands_9 : decode mX12_hands.2.1 9 = .ok (.iconst 0, 1) := by decide +kernel
theorem dX12_hands_10 : decode mX12_hands.2.1 10 = .ok (.ireturn, 1) := by decide +kernel
theorem dX12_hands_11 : decode mX12_hands.2.1 11 = .ok (.aload_n 0, 1) := by decide +kernel
theorem dX12_hands_12 : decode mX12_hands.2.1 12 = .ok (.iload_n 1, 1) := by decide +kernel
theorem dX12_hands_13 : decode mX12_hands.2.1 13 = .ok (.putfield 588, 3) := by decide +kernel
theorem dX12_hands_16 : decode mX12_hands.2.1 16 = .ok (.iconst 1, 1) := by decide +kernel
theorem dX12_hands_17 : decode mX12_hands.2.1 17 = .ok (.ireturn, 1) := by decide +kernel
theorem bX12_hands_0 {SC : Nat → Nat} {X : mh_X} {d : Nat} {Q : Option am_V → am_W → Prop} {bc bs : Nat} {w : am_W} {x1 : Int}
    (h : (((¬ x1 < (0 : Int) ∧ (¬ (4 : Int) < x1)) → Q (some (.inl 1)) ((am_up w.1 9 0 76 x1), w.2)) ∧ (¬ (¬ x1 < (0 : Int) ∧ (¬ (4 : Int) < x1)) → Q (some (.inl 0)) w))) :
    am_A (mh_G X) SC (d + 2) mX12_hands Q 0 [(0, .inr (.inr (some (9, 0)))), (1, .inl x1)] [] w bc bs := by
  refine am_iload_n dX12_hands_0 (List.Mem.tail _ (List.Mem.head _)) ?_
  refine am_iconst dX12_hands_1 (by unfold am_rg; omega) ?_
  refine am_iconst dX12_hands_2 (by unfold am_rg; omega) ?_
  refine am_calls (d' := d + 1) (kc := 0) (ks := 0) (as := [.inl x1, .inl 0, .inl 4]) dX12_hands_3 wc_X12_in wd_1859 wd_1860 wd_122 ds_X12_in (by decide) (by omega) (Nat.le_of_ble_eq_true rfl) (Nat.zero_le _) (Nat.zero_le _) rfl (sX12_in (d := d + 0) (x0 := x1) (x1 := 0) (x2 := 4)  ?_)
  show am_A (mh_G X) SC (d + 2) mX12_hands Q 6 [(0, .inr (.inr (some (9, 0)))), (1, .inl x1)] [.inl (if (¬ x1 < (0 : Int) ∧ (¬ (4 : Int) < x1)) then 1 else 0)] w bc bs
  refine am_ifne (tgt := 11) dX12_hands_6 (by decide) (fun c1 => ?_) (fun c1 => ?_)
  · replace c1 := am_bne1 c1
    replace h := h.1 c1
    refine am_aload_n dX12_hands_11 (List.Mem.head _) ?_
    refine am_iload_n dX12_hands_12 (List.Mem.tail _ (List.Mem.head _)) ?_
    refine am_putf (f := 76) dX12_hands_13 hc_10 (by decide) wd_1625 rfl (Or.inl rfl) (Or.inl (by decide)) rfl ?_
    refine am_iconst dX12_hands_16 (by unfold am_rg; omega) ?_
    exact am_ret (r := some (.inl 1)) dX12_hands_17 (Or.inr (Or.inl ⟨rfl, (Or.inr rfl)⟩)) rfl h
  · replace c1 := am_bne2 c1
    replace h := h.2 c1
    refine am_iconst dX12_hands_9 (by unfold am_rg; omega) ?_
    exact am_ret (r := some (.inl 0)) dX12_hands_10 (Or.inr (Or.inl ⟨rfl, (Or.inl rfl)⟩)) rfl h
-- MourningHouseModel.asks(IIII)V
theorem dX12_asks_0 : decode mX12_asks.2.1 0 = .ok (.aload_n 0, 1) := by decide +kernel
theorem dX12_asks_1 : decode mX12_asks.2.1 1 = .ok (.getfield 246, 3) := by decide +kernel
theorem dX12_asks_4 : decode mX12_asks.2.1 4 = .ok (.aload_n 0, 1) := by decide +kernel
theorem dX12_asks_5 : decode mX12_asks.2.1 5 = .ok (.getfield 576, 3) := by decide +kernel
theorem dX12_asks_8 : decode mX12_asks.2.1 8 = .ok (.iload_n 1, 1) := by decide +kernel
theorem dX12_asks_9 : decode mX12_asks.2.1 9 = .ok (.iastore, 1) := by decide +kernel
theorem dX12_asks_10 : decode mX12_asks.2.1 10 = .ok (.aload_n 0, 1) := by decide +kernel
theorem dX12_asks_11 : decode mX12_asks.2.1 11 = .ok (.getfield 249, 3) := by decide +kernel
theorem dX12_asks_14 : decode mX12_asks.2.1 14 = .ok (.aload_n 0, 1) := by decide +kernel
theorem dX12_asks_15 : decode mX12_asks.2.1 15 = .ok (.getfield 576, 3) := by decide +kernel
theorem dX12_asks_18 : decode mX12_asks.2.1 18 = .ok (.iload_n 2, 1) := by decide +kernel
theorem dX12_asks_19 : decode mX12_asks.2.1 19 = .ok (.iastore, 1) := by decide +kernel
theorem dX12_asks_20 : decode mX12_asks.2.1 20 = .ok (.aload_n 0, 1) := by decide +kernel
theorem dX12_asks_21 : decode mX12_asks.2.1 21 = .ok (.getfield 252, 3) := by decide +kernel
theorem dX12_asks_24 : decode mX12_asks.2.1 24 = .ok (.aload_n 0, 1) := by decide +kernel
theorem dX12_asks_25 : decode mX12_asks.2.1 25 = .ok (.getfield 576, 3) := by decide +kernel
theorem dX12_asks_28 : decode mX12_asks.2.1 28 = .ok (.iload_n 3, 1) := by decide +kernel
theorem dX12_asks_29 : decode mX12_asks.2.1 29 = .ok (.iastore, 1) := by decide +kernel
theorem dX12_asks_30 : decode mX12_asks.2.1 30 = .ok (.aload_n 0, 1) := by decide +kernel
theorem dX12_asks_31 : decode mX12_asks.2.1 31 = .ok (.getfield 255, 3) := by decide +kernel
theorem dX12_asks_34 : decode mX12_asks.2.1 34 = .ok (.aload_n 0, 1) := by decide +kernel
theorem dX12_asks_35 : decode mX12_asks.2.1 35 = .ok (.getfield 576, 3) := by decide +kernel
theorem dX12_asks_38 : decode mX12_asks.2.1 38 = .ok (.iload 4, 2) := by decide +kernel
theorem dX12_asks_40 : decode mX12_asks.2.1 40 = .ok (.iastore, 1) := by decide +kernel
theorem dX12_asks_41 : decode mX12_asks.2.1 41 = .ok (.aload_n 0, 1) := by decide +kernel
theorem dX12_asks_42 : decode mX12_asks.2.1 42 = .ok (.dup, 1) := by decide +kernel
theorem dX12_asks_43 : decode mX12_asks.2.1 43 = .ok (.getfield 576, 3) := by decide +kernel
theorem dX12_asks_46 : decode mX12_asks.2.1 46 = .ok (.iconst 1, 1) := by decide +kernel
theorem dX12_asks_47 : decode mX12_asks.2.1 47 = .ok (.iadd, 1) := by decide +kernel
theorem dX12_asks_48 : decode mX12_asks.2.1 48 = .ok (.putfield 576, 3) := by decide +kernel
theorem dX12_asks_51 : decode mX12_asks.2.1 51 = .ok (.return_, 1) := by decide +kernel
theorem sX12_asks {SC : Nat → Nat} {X : mh_X} {d kc ks : Nat} {Q : Option am_V → am_W → Prop} {w : am_W} {x1 : Int} {x2 : Int} {x3 : Int} {x4 : Int} (Ho1 : 0 ≤ (w.1 9 0 81)) (Ho2 : (w.1 9 0 81) < 20)
    (h : Q none ((am_up (am_up (am_up (am_up (am_up w.1 129 0 (w.1 9 0 81).toNat x1) 130 0 (w.1 9 0 81).toNat x2) 131 0 (w.1 9 0 81).toNat x3) 132 0 (w.1 9 0 81).toNat x4) 9 0 81 (am_w ((w.1 9 0 81) + 1))), w.2)) : am_M (mh_G X) SC (d + 1) kc ks mX12_asks [.inr (.inr (some (9, 0))), .inl x1, .inl x2, .inl x3, .inl x4] w Q := by
  refine am_M_of (by decide) (Nat.le_of_ble_eq_true rfl) ?_
  show am_A (mh_G X) SC (d + 1) mX12_asks Q 0 [(0, .inr (.inr (some (9, 0)))), (1, .inl x1), (2, .inl x2), (3, .inl x3), (4, .inl x4)] [] w kc ks
  refine am_aload_n dX12_asks_0 (List.Mem.head _) ?_
  refine am_getf (f := 77) (v := .inr (.inr (some (129, 0)))) dX12_asks_1 hc_10 (by decide) wd_1626 (by decide) rfl rfl ?_
  refine am_aload_n dX12_asks_4 (List.Mem.head _) ?_
  refine am_getf (f := 81) (v := .inl (w.1 9 0 81)) dX12_asks_5 hc_10 (by decide) wd_1630 (by decide) rfl rfl ?_
  refine am_iload_n dX12_asks_8 (List.Mem.tail _ (List.Mem.head _)) ?_
  have o1 := Ho1
  have o2 := Ho2
  refine am_iastore dX12_asks_9 (Or.inl (by decide)) rfl o1 o2 ?_
  refine am_aload_n dX12_asks_10 (List.Mem.head _) ?_
  refine am_getf (f := 78) (v := .inr (.inr (some (130, 0)))) dX12_asks_11 hc_10 (by decide) wd_1627 (by decide) rfl rfl ?_
  refine am_aload_n dX12_asks_14 (List.Mem.head _) ?_
  refine am_getf (f := 81) (v := .inl (w.1 9 0 81)) dX12_asks_15 hc_10 (by decide) wd_1630 (by decide) rfl rfl ?_
  refine am_iload_n dX12_asks_18 (List.Mem.tail _ (List.Mem.tail _ (List.Mem.head _))) ?_
  refine am_iastore dX12_asks_19 (Or.inl (by decide)) rfl o1 o2 ?_
  refine am_aload_n dX12_asks_20 (List.Mem.head _) ?_
  refine am_getf (f := 79) (v := .inr (.inr (some (131, 0)))) dX12_asks_21 hc_10 (by decide) wd_1628 (by decide) rfl rfl ?_
  refine am_aload_n dX12_asks_24 (List.Mem.head _) ?_
  refine am_getf (f := 81) (v := .inl (w.1 9 0 81)) dX12_asks_25 hc_10 (by decide) wd_1630 (by decide) rfl rfl ?_
  refine am_iload_n dX12_asks_28 (List.Mem.tail _ (List.Mem.tail _ (List.Mem.tail _ (List.Mem.head _)))) ?_
  refine am_iastore dX12_asks_29 (Or.inl (by decide)) rfl o1 o2 ?_
  refine am_aload_n dX12_asks_30 (List.Mem.head _) ?_
  refine am_getf (f := 80) (v := .inr (.inr (some (132, 0)))) dX12_asks_31 hc_10 (by decide) wd_1629 (by decide) rfl rfl ?_
  refine am_aload_n dX12_asks_34 (List.Mem.head _) ?_
  refine am_getf (f := 81) (v := .inl (w.1 9 0 81)) dX12_asks_35 hc_10 (by decide) wd_1630 (by decide) rfl rfl ?_
  refine am_iload dX12_asks_38 (List.Mem.tail _ (List.Mem.tail _ (List.Mem.tail _ (List.Mem.tail _ (List.Mem.head _))))) ?_
  refine am_iastore dX12_asks_40 (Or.inl (by decide)) rfl o1 o2 ?_
  refine am_aload_n dX12_asks_41 (List.Mem.head _) ?_
  refine am_dup dX12_asks_42 rfl ?_
  refine am_getf (f := 81) (v := .inl (w.1 9 0 81)) dX12_asks_43 hc_10 (by decide) wd_1630 (by decide) rfl rfl ?_
  refine am_iconst dX12_asks_46 (by unfold am_rg; omega) ?_
  refine am_iadd dX12_asks_47 ?_
  refine am_putf (f := 81) dX12_asks_48 hc_10 (by decide) wd_1630 rfl (Or.inl rfl) (Or.inl (by decide)) rfl ?_
  exact am_ret (r := none) dX12_asks_51 rfl rfl h
-- MourningHouseModel.dye(II)I
theorem dX12_dye_0 : decode mX12_dye.2.1 0 = .ok (.iload_n 1, 1) := by decide +kernel
theorem dX12_dye_1 : decode mX12_dye.2.1 1 = .ok (.iconst 0, 1) := by decide +kernel
theorem dX12_dye_2 : decode mX12_dye.2.1 2 = .ok (.aload_n 0, 1) := by decide +kernel
theorem dX12_dye_3 : decode mX12_dye.2.1 3 = .ok (.getfield 582, 3) := by decide +kernel
theorem dX12_dye_6 : decode mX12_dye.2.1 6 = .ok (.iconst 1, 1) := by decide +kernel
theorem dX12_dye_7 : decode mX12_dye.2.1 7 = .ok (.isub, 1) := by decide +kernel
theorem dX12_dye_8 : decode mX12_dye.2.1 8 = .ok (.invokestatic 318, 3) := by decide +kernel
theorem dX12_dye_11 : decode mX12_dye.2.1 11 = .ok (.ifCond .eq 37, 3) := by decide +kernel
theorem dX12_dye_14 : decode mX12_dye.2.1 14 = .ok (.aload_n 0, 1) := by decide +kernel
theorem dX12_dye_15 : decode mX12_dye.2.1 15 = .ok (.iload_n 1, 1) := by decide +kernel
theorem dX12_dye_16 : decode mX12_dye.2.1 16 = .ok (.invokevirtual 591, 3) := by decide +kernel
theorem dX12_dye_19 : decode mX12_dye.2.1 19 = .ok (.ifCond .ne 29, 3) := by decide +kernel
theorem dX12_dye_22 : decode mX12_dye.2.1 22 = .ok (.iload_n 2, 1) := by decide +kernel
theorem dX12_dye_23 : decode mX12_dye.2.1 23 = .ok (.invokestatic 579, 3) := by decide +kernel
theorem dX12_dye_26 : decode mX12_dye.2.1 26 = .ok (.ifCond .eq 22, 3) := by decide +kernel
theorem dX12_dye_29 : decode mX12_dye.2.1 29 = .ok (.iload_n 2, 1) := by decide +kernel
theorem dX12_dye_30 : decode mX12_dye.2.1 30 = .ok (.aload_n 0, 1) := by decide +kernel
theorem dX12_dye_31 : decode mX12_dye.2.1 31 = .ok (.getfield 240, 3) := by decide +kernel
theorem dX12_dye_34 : decode mX12_dye.2.1 34 = .ok (.iload_n 1, 1) := by decide +kernel
theorem dX12_dye_35 : decode mX12_dye.2.1 35 = .ok (.iaload, 1) := by decide +kernel
theorem dX12_dye_36 : decode mX12_dye.2.1 36 = .ok (.if_icmp .le 12, 3) := by decide +kernel
theorem dX12_dye_39 : decode mX12_dye.2.1 39 = .ok (.aload_n 0, 1) := by decide +kernel
theorem dX12_dye_40 : decode mX12_dye.2.1 40 = .ok (.getfield 576, 3) := by decide +kernel
theorem dX12_dye_43 : decode mX12_dye.2.1 43 = .ok (.bipush 20, 2) := by decide +kernel
theorem dX12_dye_45 : decode mX12_dye.2.1 45 = .ok (.if_icmp .ne 5, 3) := by decide +kernel
theorem dX12_dye_48 : decode mX12_dye.2.1 48 = .ok (.iconst (-1), 1) := by decide +kernel
theorem dX12_dye_49 : decode mX12_dye.2.1 49 = .ok (.ireturn, 1) := by decide +kernel
theorem dX12_dye_50 : decode mX12_dye.2.1 50 = .ok (.aload_n 0, 1) := by decide +kernel
theorem dX12_dye_51 : decode mX12_dye.2.1 51 = .ok (.iload_n 1, 1) := by decide +kernel
theorem dX12_dye_52 : decode mX12_dye.2.1 52 = .ok (.aload_n 0, 1) := by decide +kernel
theorem dX12_dye_53 : decode mX12_dye.2.1 53 = .ok (.getfield 237, 3) := by decide +kernel
theorem dX12_dye_56 : decode mX12_dye.2.1 56 = .ok (.iload_n 1, 1) := by decide +kernel
theorem dX12_dye_57 : decode mX12_dye.2.1 57 = .ok (.iaload, 1) := by decide +kernel
theorem dX12_dye_58 : decode mX12_dye.2.1 58 = .ok (.iload_n 2, 1) := by decide +kernel
theorem dX12_dye_59 : decode mX12_dye.2.1 59 = .ok (.iconst 2, 1) := by decide +kernel
theorem dX12_dye_60 : decode mX12_dye.2.1 60 = .ok (.invokevirtual 594, 3) := by decide +kernel
theorem dX12_dye_63 : decode mX12_dye.2.1 63 = .ok (.aload_n 0, 1) := by decide +kernel
theorem dX12_dye_64 : decode mX12_dye.2.1 64 = .ok (.getfield 576, 3) := by decide +kernel
theorem dX12_dye_67 : decode mX12_dye.2.1 67 = .ok (.ireturn, 1) := by decide +kernel
theorem bX12_dye_0 {SC : Nat → Nat} {X : mh_X} {d : Nat} {Q : Option am_V → am_W → Prop} {bc bs : Nat} {w : am_W} {x1 : Int} {x2 : Int}
    (h : ((¬ (¬ x1 < (0 : Int) ∧ (¬ (am_w ((w.1 9 0 75) - 1)) < x1)) → Q (some (.inl (-1))) w) ∧ ((¬ x1 < (0 : Int) ∧ (¬ (am_w ((w.1 9 0 75) - 1)) < x1)) → am_M (mh_G X) SC (d + 2) 0 0 mX12_hasTask [.inr (.inr (some (9, 0))), .inl x1] w (fun r w1 => am_A (mh_G X) SC (d + 3) mX12_dye Q 19 [(0, .inr (.inr (some (9, 0)))), (1, .inl x1), (2, .inl x2)] (r.toList ++ []) w1 bc bs)))) :
    am_A (mh_G X) SC (d + 3) mX12_dye Q 0 [(0, .inr (.inr (some (9, 0)))), (1, .inl x1), (2, .inl x2)] [] w bc bs := by
  refine am_iload_n dX12_dye_0 (List.Mem.tail _ (List.Mem.head _)) ?_
  refine am_iconst dX12_dye_1 (by unfold am_rg; omega) ?_
  refine am_aload_n dX12_dye_2 (List.Mem.head _) ?_
  refine am_getf (f := 75) (v := .inl (w.1 9 0 75)) dX12_dye_3 hc_10 (by decide) wd_1624 (by decide) rfl rfl ?_
  refine am_iconst dX12_dye_6 (by unfold am_rg; omega) ?_
  refine am_isub dX12_dye_7 ?_
  refine am_calls (d' := d + 2) (kc := 0) (ks := 0) (as := [.inl x1, .inl 0, .inl (am_w ((w.1 9 0 75) - 1))]) dX12_dye_8 wc_X12_in wd_1859 wd_1860 wd_122 ds_X12_in (by decide) (by omega) (Nat.le_of_ble_eq_true rfl) (Nat.zero_le _) (Nat.zero_le _) rfl (sX12_in (d := d + 1) (x0 := x1) (x1 := 0) (x2 := (am_w ((w.1 9 0 75) - 1)))  ?_)
  show am_A (mh_G X) SC (d + 3) mX12_dye Q 11 [(0, .inr (.inr (some (9, 0)))), (1, .inl x1), (2, .inl x2)] [.inl (if (¬ x1 < (0 : Int) ∧ (¬ (am_w ((w.1 9 0 75) - 1)) < x1)) then 1 else 0)] w bc bs
  refine am_ifeq (tgt := 48) dX12_dye_11 (by decide) (fun c1 => ?_) (fun c1 => ?_)
  · replace c1 := am_beq1 c1
    replace h := h.1 c1
    refine am_iconst dX12_dye_48 (by unfold am_rg; omega) ?_
    exact am_ret (r := some (.inl (-1))) dX12_dye_49 (Or.inl rfl) rfl h
  · replace c1 := am_beq2 c1
    replace h := h.2 c1
    refine am_aload_n dX12_dye_14 (List.Mem.head _) ?_
    refine am_iload_n dX12_dye_15 (List.Mem.tail _ (List.Mem.head _)) ?_
    exact am_callv (d' := d + 2) (kc := 0) (ks := 0) (as := [.inl x1]) dX12_dye_16 wc_X12_hasTask wd_2202 wd_2204 wd_98 wd_122 ds_X12_hasTask (by decide) (by omega) (Nat.le_of_ble_eq_true rfl) (Nat.zero_le _) (Nat.zero_le _) hc_10 (by decide) rfl rfl h
theorem bX12_dye_19 {SC : Nat → Nat} {X : mh_X} {d : Nat} {Q : Option am_V → am_W → Prop} {bc bs : Nat} {w : am_W} {x1 : Int} {x2 : Int} {xs0 : Int}
    (h : ((¬ xs0 = 0 → Q (some (.inl (-1))) w) ∧ (xs0 = 0 → ((¬ (¬ x2 < (0 : Int) ∧ (¬ (4 : Int) < x2)) → Q (some (.inl (-1))) w) ∧ ((¬ x2 < (0 : Int) ∧ (¬ (4 : Int) < x2)) → (0 ≤ x1 ∧ (x1 < 40 ∧ ((x2 ≤ (w.1 127 0 x1.toNat) → Q (some (.inl (-1))) w) ∧ (¬ x2 ≤ (w.1 127 0 x1.toNat) → ((¬ (w.1 9 0 81) = 20 → (0 ≤ (w.1 9 0 81) ∧ ((w.1 9 0 81) < 20 ∧ Q (some (.inl ((am_up w.1 9 0 81 (am_w ((w.1 9 0 81) + 1))) 9 0 81))) ((am_up (am_up (am_up (am_up (am_up w.1 129 0 (w.1 9 0 81).toNat x1) 130 0 (w.1 9 0 81).toNat (w.1 126 0 x1.toNat)) 131 0 (w.1 9 0 81).toNat x2) 132 0 (w.1 9 0 81).toNat (2 : Int)) 9 0 81 (am_w ((w.1 9 0 81) + 1))), w.2)))) ∧ ((w.1 9 0 81) = 20 → Q (some (.inl (-1))) w))))))))))) :
    am_A (mh_G X) SC (d + 3) mX12_dye Q 19 [(0, .inr (.inr (some (9, 0)))), (1, .inl x1), (2, .inl x2)] [.inl xs0] w bc bs := by
  refine am_ifne (tgt := 48) dX12_dye_19 (by decide) (fun c1 => ?_) (fun c1 => ?_)
  · replace h := h.1 c1
    refine am_iconst dX12_dye_48 (by unfold am_rg; omega) ?_
    exact am_ret (r := some (.inl (-1))) dX12_dye_49 (Or.inl rfl) rfl h
  · replace h := h.2 c1
    refine am_iload_n dX12_dye_22 (List.Mem.tail _ (List.Mem.tail _ (List.Mem.head _))) ?_
    refine am_calls (d' := d + 2) (kc := 0) (ks := 0) (as := [.inl x2]) dX12_dye_23 wc_X12_isStuff wd_2183 wd_2184 wd_122 ds_X12_isStuff (by decide) (by omega) (Nat.le_of_ble_eq_true rfl) (Nat.zero_le _) (Nat.zero_le _) rfl (sX12_isStuff (d := d + 0) (x0 := x2)  ?_)
    show am_A (mh_G X) SC (d + 3) mX12_dye Q 26 [(0, .inr (.inr (some (9, 0)))), (1, .inl x1), (2, .inl x2)] [.inl (if (¬ x2 < (0 : Int) ∧ (¬ (4 : Int) < x2)) then 1 else 0)] w bc bs
    refine am_ifeq (tgt := 48) dX12_dye_26 (by decide) (fun c2 => ?_) (fun c2 => ?_)
    · replace c2 := am_beq1 c2
      replace h := h.1 c2
      refine am_iconst dX12_dye_48 (by unfold am_rg; omega) ?_
      exact am_ret (r := some (.inl (-1))) dX12_dye_49 (Or.inl rfl) rfl h
    · replace c2 := am_beq2 c2
      replace h := h.2 c2
      refine am_iload_n dX12_dye_29 (List.Mem.tail _ (List.Mem.tail _ (List.Mem.head _))) ?_
      refine am_aload_n dX12_dye_30 (List.Mem.head _) ?_
      refine am_getf (f := 73) (v := .inr (.inr (some (127, 0)))) dX12_dye_31 hc_10 (by decide) wd_1622 (by decide) rfl rfl ?_
      refine am_iload_n dX12_dye_34 (List.Mem.tail _ (List.Mem.head _)) ?_
      have o3 := h.1
      replace h := h.2
      have o4 := h.1
      replace h := h.2
      refine am_iaload (v := (w.1 127 0 x1.toNat)) dX12_dye_35 (by decide) rfl o3 o4 rfl ?_
      refine am_icmple (tgt := 48) dX12_dye_36 (by decide) (fun c5 => ?_) (fun c5 => ?_)
      · replace h := h.1 c5
        refine am_iconst dX12_dye_48 (by unfold am_rg; omega) ?_
        exact am_ret (r := some (.inl (-1))) dX12_dye_49 (Or.inl rfl) rfl h
      · replace h := h.2 c5
        refine am_aload_n dX12_dye_39 (List.Mem.head _) ?_
        refine am_getf (f := 81) (v := .inl (w.1 9 0 81)) dX12_dye_40 hc_10 (by decide) wd_1630 (by decide) rfl rfl ?_
        refine am_bipush dX12_dye_43 (by decide) (by unfold am_rg; omega) ?_
        refine am_icmpne (tgt := 50) dX12_dye_45 (by decide) (fun c6 => ?_) (fun c6 => ?_)
        · replace h := h.1 c6
          refine am_aload_n dX12_dye_50 (List.Mem.head _) ?_
          refine am_iload_n dX12_dye_51 (List.Mem.tail _ (List.Mem.head _)) ?_
          refine am_aload_n dX12_dye_52 (List.Mem.head _) ?_
          refine am_getf (f := 72) (v := .inr (.inr (some (126, 0)))) dX12_dye_53 hc_10 (by decide) wd_1621 (by decide) rfl rfl ?_
          refine am_iload_n dX12_dye_56 (List.Mem.tail _ (List.Mem.head _)) ?_
          refine am_iaload (v := (w.1 126 0 x1.toNat)) dX12_dye_57 (by decide) rfl o3 o4 rfl ?_
          refine am_iload_n dX12_dye_58 (List.Mem.tail _ (List.Mem.tail _ (List.Mem.head _))) ?_
          refine am_iconst dX12_dye_59 (by unfold am_rg; omega) ?_
          have o7 := h.1
          replace h := h.2
          have o8 := h.1
          replace h := h.2
          refine am_callv (d' := d + 2) (kc := 0) (ks := 0) (as := [.inl x1, .inl (w.1 126 0 x1.toNat), .inl x2, .inl 2]) dX12_dye_60 wc_X12_asks wd_2206 wd_2208 wd_99 wd_122 ds_X12_asks (by decide) (by omega) (Nat.le_of_ble_eq_true rfl) (Nat.zero_le _) (Nat.zero_le _) hc_10 (by decide) rfl rfl (sX12_asks (d := d + 1) (x1 := x1) (x2 := (w.1 126 0 x1.toNat)) (x3 := x2) (x4 := 2) o7 o8 ?_)
          show am_A (mh_G X) SC (d + 3) mX12_dye Q 63 [(0, .inr (.inr (some (9, 0)))), (1, .inl x1), (2, .inl x2)] [] ((am_up (am_up (am_up (am_up (am_up w.1 129 0 (w.1 9 0 81).toNat x1) 130 0 (w.1 9 0 81).toNat (w.1 126 0 x1.toNat)) 131 0 (w.1 9 0 81).toNat x2) 132 0 (w.1 9 0 81).toNat (2 : Int)) 9 0 81 (am_w ((w.1 9 0 81) + 1))), w.2) bc bs
          refine am_aload_n dX12_dye_63 (List.Mem.head _) ?_
          refine am_getf (f := 81) (v := .inl ((am_up w.1 9 0 81 (am_w ((w.1 9 0 81) + 1))) 9 0 81)) dX12_dye_64 hc_10 (by decide) wd_1630 (by decide) rfl rfl ?_
          exact am_ret (r := some (.inl ((am_up w.1 9 0 81 (am_w ((w.1 9 0 81) + 1))) 9 0 81))) dX12_dye_67 (Or.inl rfl) rfl h
        · replace h := h.2 c6
          refine am_iconst dX12_dye_48 (by unfold am_rg; omega) ?_
          exact am_ret (r := some (.inl (-1))) dX12_dye_49 (Or.inl rfl) rfl h
-- MourningHouseModel.make(II)I
theorem dX12_make_0 : decode mX12_make.2.1 0 = .ok (.iload_n 1, 1) := by decide +kernel
theorem dX12_make_1 : decode mX12_make.2.1 1 = .ok (.iconst 0, 1) := by decide +kernel
theorem dX12_make_2 : decode mX12_make.2.1 2 = .ok (.iconst 4, 1) := by decide +kernel
theorem dX12_make_3 : decode mX12_make.2.1 3 = .ok (.invokestatic 318, 3) := by decide +kernel
theorem dX12_make_6 : decode mX12_make.2.1 6 = .ok (.ifCond .eq 42, 3) := by decide +kernel
theorem dX12_make_9 : decode mX12_make.2.1 9 = .ok (.iload_n 2, 1) := by decide +kernel
theorem dX12_make_10 : decode mX12_make.2.1 10 = .ok (.invokestatic 579, 3) := by decide +kernel
theorem dX12_make_13 : decode mX12_make.2.1 13 = .ok (.ifCond .eq 35, 3) := by decide +kernel
theorem dX12_make_16 : decode mX12_make.2.1 16 = .ok (.aload_n 0, 1) := by decide +kernel
theorem dX12_make_17 : decode mX12_make.2.1 17 = .ok (.getfield 243, 3) := by decide +kernel
theorem dX12_make_20 : decode mX12_make.2.1 20 = .ok (.iload_n 2, 1) := by decide +kernel
theorem dX12_make_21 : decode mX12_make.2.1 21 = .ok (.iaload, 1) := by decide +kernel
theorem dX12_make_22 : decode mX12_make.2.1 22 = .ok (.ifCond .eq 26, 3) := by decide +kernel
theorem dX12_make_25 : decode mX12_make.2.1 25 = .ok (.aload_n 0, 1) := by decide +kernel
theorem dX12_make_26 : decode mX12_make.2.1 26 = .ok (.getfield 576, 3) := by decide +kernel
theorem dX12_make_29 : decode mX12_make.2.1 29 = .ok (.bipush 20, 2) := by decide +kernel
theorem dX12_make_31 : decode mX12_make.2.1 31 = .ok (.if_icmp .eq 17, 3) := by decide +kernel
theorem dX12_make_34 : decode mX12_make.2.1 34 = .ok (.aload_n 0, 1) := by decide +kernel
theorem dX12_make_35 : decode mX12_make.2.1 35 = .ok (.getfield 582, 3) := by decide +kernel
theorem dX12_make_38 : decode mX12_make.2.1 38 = .ok (.aload_n 0, 1) := by decide +kernel
theorem dX12_make_39 : decode mX12_make.2.1 39 = .ok (.invokevirtual 585, 3) := by decide +kernel
theorem dX12_make_42 : decode mX12_make.2.1 42 = .ok (.iadd, 1) := by decide +kernel
theorem dX12_make_43 : decode mX12_make.2.1 43 = .ok (.bipush 40, 2) := by decide +kernel
theorem dX12_make_45 : decode mX12_make.2.1 45 = .ok (.if_icmp .lt 5, 3) := by decide +kernel
theorem dX12_make_48 : decode mX12_make.2.1 48 = .ok (.iconst (-1), 1) := by decide +kernel
theorem dX12_make_49 : decode mX12_make.2.1 49 = .ok (.ireturn, 1) := by decide +kernel
theorem dX12_make_50 : decode mX12_make.2.1 50 = .ok (.aload_n 0, 1) := by decide +kernel
theorem dX12_make_51 : decode mX12_make.2.1 51 = .ok (.getfield 243, 3) := by decide +kernel
theorem dX12_make_54 : decode mX12_make.2.1 54 = .ok (.iload_n 2, 1) := by decide +kernel
theorem dX12_make_55 : decode mX12_make.2.1 55 = .ok (.dup2, 1) := by decide +kernel
theorem dX12_make_56 : decode mX12_make.2.1 56 = .ok (.iaload, 1) := by decide +kernel
theorem dX12_make_57 : decode mX12_make.2.1 57 = .ok (.iconst 1, 1) := by decide +kernel
theorem dX12_make_58 : decode mX12_make.2.1 58 = .ok (.isub, 1) := by decide +kernel
theorem dX12_make_59 : decode mX12_make.2.1 59 = .ok (.iastore, 1) := by decide +kernel
theorem dX12_make_60 : decode mX12_make.2.1 60 = .ok (.aload_n 0, 1) := by decide +kernel
theorem dX12_make_61 : decode mX12_make.2.1 61 = .ok (.iconst (-1), 1) := by decide +kernel
theorem dX12_make_62 : decode mX12_make.2.1 62 = .ok (.iload_n 1, 1) := by decide +kernel
theorem dX12_make_63 : decode mX12_make.2.1 63 = .ok (.iload_n 2, 1) := by decide +kernel
theorem dX12_make_64 : decode mX12_make.2.1 64 = .ok (.iconst 3, 1) := by decide +kernel
theorem dX12_make_65 : decode mX12_make.2.1 65 = .ok (.invokevirtual 594, 3) := by decide +kernel
theorem dX12_make_68 : decode mX12_make.2.1 68 = .ok (.aload_n 0, 1) := by decide +kernel
theorem dX12_make_69 : decode mX12_make.2.1 69 = .ok (.getfield 576, 3) := by decide +kernel
theorem dX12_make_72 : decode mX12_make.2.1 72 = .ok (.ireturn, 1) := by decide +kernel
theorem bX12_make_0 {SC : Nat → Nat} {X : mh_X} {d : Nat} {Q : Option am_V → am_W → Prop} {bc bs : Nat} {w : am_W} {x1 : Int} {x2 : Int}
    (h : ((¬ (¬ x1 < (0 : Int) ∧ (¬ (4 : Int) < x1)) → Q (some (.inl (-1))) w) ∧ ((¬ x1 < (0 : Int) ∧ (¬ (4 : Int) < x1)) → ((¬ (¬ x2 < (0 : Int) ∧ (¬ (4 : Int) < x2)) → Q (some (.inl (-1))) w) ∧ ((¬ x2 < (0 : Int) ∧ (¬ (4 : Int) < x2)) → (0 ≤ x2 ∧ (x2 < 5 ∧ (((w.1 128 0 x2.toNat) = 0 → Q (some (.inl (-1))) w) ∧ (¬ (w.1 128 0 x2.toNat) = 0 → (((w.1 9 0 81) = 20 → Q (some (.inl (-1))) w) ∧ (¬ (w.1 9 0 81) = 20 → am_M (mh_G X) SC (d + 2) 0 0 mX12_making [.inr (.inr (some (9, 0)))] w (fun r w1 => am_A (mh_G X) SC (d + 3) mX12_make Q 42 [(0, .inr (.inr (some (9, 0)))), (1, .inl x1), (2, .inl x2)] (r.toList ++ [.inl (w.1 9 0 75)]) w1 bc bs)))))))))))) :
    am_A (mh_G X) SC (d + 3) mX12_make Q 0 [(0, .inr (.inr (some (9, 0)))), (1, .inl x1), (2, .inl x2)] [] w bc bs := by
  refine am_iload_n dX12_make_0 (List.Mem.tail _ (List.Mem.head _)) ?_
  refine am_iconst dX12_make_1 (by unfold am_rg; omega) ?_
  refine am_iconst dX12_make_2 (by unfold am_rg; omega) ?_
  refine am_calls (d' := d + 2) (kc := 0) (ks := 0) (as := [.inl x1, .inl 0, .inl 4]) dX12_make_3 wc_X12_in wd_1859 wd_1860 wd_122 ds_X12_in (by decide) (by omega) (Nat.le_of_ble_eq_true rfl) (Nat.zero_le _) (Nat.zero_le _) rfl (sX12_in (d := d + 1) (x0 := x1) (x1 := 0) (x2 := 4)  ?_)
  show am_A (mh_G X) SC (d + 3) mX12_make Q 6 [(0, .inr (.inr (some (9, 0)))), (1, .inl x1), (2, .inl x2)] [.inl (if (¬ x1 < (0 : Int) ∧ (¬ (4 : Int) < x1)) then 1 else 0)] w bc bs
  refine am_ifeq (tgt := 48) dX12_make_6 (by decide) (fun c1 => ?_) (fun c1 => ?_)
  · replace c1 := am_beq1 c1
    replace h := h.1 c1
    refine am_iconst dX12_make_48 (by unfold am_rg; omega) ?_
    exact am_ret (r := some (.inl (-1))) dX12_make_49 (Or.inl rfl) rfl h
  · replace c1 := am_beq2 c1
    replace h := h.2 c1
    refine am_iload_n dX12_make_9 (List.Mem.tail _ (List.Mem.tail _ (List.Mem.head _))) ?_
    refine am_calls (d' := d + 2) (kc := 0) (ks := 0) (as := [.inl x2]) dX12_make_10 wc_X12_isStuff wd_2183 wd_2184 wd_122 ds_X12_isStuff (by decide) (by omega) (Nat.le_of_ble_eq_true rfl) (Nat.zero_le _) (Nat.zero_le _) rfl (sX12_isStuff (d := d + 0) (x0 := x2)  ?_)
    show am_A (mh_G X) SC (d + 3) mX12_make Q 13 [(0, .inr (.inr (some (9, 0)))), (1, .inl x1), (2, .inl x2)] [.inl (if (¬ x2 < (0 : Int) ∧ (¬ (4 : Int) < x2)) then 1 else 0)] w bc bs
    refine am_ifeq (tgt := 48) dX12_make_13 (by decide) (fun c2 => ?_) (fun c2 => ?_)
    · replace c2 := am_beq1 c2
      replace h := h.1 c2
      refine am_iconst dX12_make_48 (by unfold am_rg; omega) ?_
      exact am_ret (r := some (.inl (-1))) dX12_make_49 (Or.inl rfl) rfl h
    · replace c2 := am_beq2 c2
      replace h := h.2 c2
      refine am_aload_n dX12_make_16 (List.Mem.head _) ?_
      refine am_getf (f := 74) (v := .inr (.inr (some (128, 0)))) dX12_make_17 hc_10 (by decide) wd_1623 (by decide) rfl rfl ?_
      refine am_iload_n dX12_make_20 (List.Mem.tail _ (List.Mem.tail _ (List.Mem.head _))) ?_
      have o3 := h.1
      replace h := h.2
      have o4 := h.1
      replace h := h.2
      refine am_iaload (v := (w.1 128 0 x2.toNat)) dX12_make_21 (by decide) rfl o3 o4 rfl ?_
      refine am_ifeq (tgt := 48) dX12_make_22 (by decide) (fun c5 => ?_) (fun c5 => ?_)
      · replace h := h.1 c5
        refine am_iconst dX12_make_48 (by unfold am_rg; omega) ?_
        exact am_ret (r := some (.inl (-1))) dX12_make_49 (Or.inl rfl) rfl h
      · replace h := h.2 c5
        refine am_aload_n dX12_make_25 (List.Mem.head _) ?_
        refine am_getf (f := 81) (v := .inl (w.1 9 0 81)) dX12_make_26 hc_10 (by decide) wd_1630 (by decide) rfl rfl ?_
        refine am_bipush dX12_make_29 (by decide) (by unfold am_rg; omega) ?_
        refine am_icmpeq (tgt := 48) dX12_make_31 (by decide) (fun c6 => ?_) (fun c6 => ?_)
        · replace h := h.1 c6
          refine am_iconst dX12_make_48 (by unfold am_rg; omega) ?_
          exact am_ret (r := some (.inl (-1))) dX12_make_49 (Or.inl rfl) rfl h
        · replace h := h.2 c6
          refine am_aload_n dX12_make_34 (List.Mem.head _) ?_
          refine am_getf (f := 75) (v := .inl (w.1 9 0 75)) dX12_make_35 hc_10 (by decide) wd_1624 (by decide) rfl rfl ?_
          refine am_aload_n dX12_make_38 (List.Mem.head _) ?_
          exact am_callv (d' := d + 2) (kc := 0) (ks := 0) (as := []) dX12_make_39 wc_X12_making wd_2186 wd_2188 wd_97 wd_122 ds_X12_making (by decide) (by omega) (Nat.le_of_ble_eq_true rfl) (Nat.zero_le _) (Nat.zero_le _) hc_10 (by decide) rfl rfl h
theorem bX12_make_42 {SC : Nat → Nat} {X : mh_X} {d : Nat} {Q : Option am_V → am_W → Prop} {bc bs : Nat} {w : am_W} {x1 : Int} {x2 : Int} {xs0 : Int} {xs1 : Int}
    (h : (((am_w (xs1 + xs0)) < 40 → (0 ≤ x2 ∧ (x2 < 5 ∧ (0 ≤ (w.1 9 0 81) ∧ ((w.1 9 0 81) < 20 ∧ Q (some (.inl ((am_up w.1 9 0 81 (am_w ((w.1 9 0 81) + 1))) 9 0 81))) ((am_up (am_up (am_up (am_up (am_up (am_up w.1 128 0 x2.toNat (am_w ((w.1 128 0 x2.toNat) - 1))) 129 0 (w.1 9 0 81).toNat ((-1) : Int)) 130 0 (w.1 9 0 81).toNat x1) 131 0 (w.1 9 0 81).toNat x2) 132 0 (w.1 9 0 81).toNat (3 : Int)) 9 0 81 (am_w ((w.1 9 0 81) + 1))), w.2)))))) ∧ (¬ (am_w (xs1 + xs0)) < 40 → Q (some (.inl (-1))) w))) :
    am_A (mh_G X) SC (d + 3) mX12_make Q 42 [(0, .inr (.inr (some (9, 0)))), (1, .inl x1), (2, .inl x2)] [.inl xs0, .inl xs1] w bc bs := by
  refine am_iadd dX12_make_42 ?_
  refine am_bipush dX12_make_43 (by decide) (by unfold am_rg; omega) ?_
  refine am_icmplt (tgt := 50) dX12_make_45 (by decide) (fun c1 => ?_) (fun c1 => ?_)
  · replace h := h.1 c1
    refine am_aload_n dX12_make_50 (List.Mem.head _) ?_
    refine am_getf (f := 74) (v := .inr (.inr (some (128, 0)))) dX12_make_51 hc_10 (by decide) wd_1623 (by decide) rfl rfl ?_
    refine am_iload_n dX12_make_54 (List.Mem.tail _ (List.Mem.tail _ (List.Mem.head _))) ?_
    refine am_dup2 dX12_make_55 rfl rfl ?_
    have o2 := h.1
    replace h := h.2
    have o3 := h.1
    replace h := h.2
    refine am_iaload (v := (w.1 128 0 x2.toNat)) dX12_make_56 (by decide) rfl o2 o3 rfl ?_
    refine am_iconst dX12_make_57 (by unfold am_rg; omega) ?_
    refine am_isub dX12_make_58 ?_
    refine am_iastore dX12_make_59 (Or.inl (by decide)) rfl o2 o3 ?_
    refine am_aload_n dX12_make_60 (List.Mem.head _) ?_
    refine am_iconst dX12_make_61 (by unfold am_rg; omega) ?_
    refine am_iload_n dX12_make_62 (List.Mem.tail _ (List.Mem.head _)) ?_
    refine am_iload_n dX12_make_63 (List.Mem.tail _ (List.Mem.tail _ (List.Mem.head _))) ?_
    refine am_iconst dX12_make_64 (by unfold am_rg; omega) ?_
    have o4 := h.1
    replace h := h.2
    have o5 := h.1
    replace h := h.2
    refine am_callv (d' := d + 2) (kc := 0) (ks := 0) (as := [.inl (-1), .inl x1, .inl x2, .inl 3]) dX12_make_65 wc_X12_asks wd_2206 wd_2208 wd_99 wd_122 ds_X12_asks (by decide) (by omega) (Nat.le_of_ble_eq_true rfl) (Nat.zero_le _) (Nat.zero_le _) hc_10 (by decide) rfl rfl (sX12_asks (d := d + 1) (x1 := (-1)) (x2 := x1) (x3 := x2) (x4 := 3) o4 o5 ?_)
    show am_A (mh_G X) SC (d + 3) mX12_make Q 68 [(0, .inr (.inr (some (9, 0)))), (1, .inl x1), (2, .inl x2)] [] ((am_up (am_up (am_up (am_up (am_up (am_up w.1 128 0 x2.toNat (am_w ((w.1 128 0 x2.toNat) - 1))) 129 0 (w.1 9 0 81).toNat ((-1) : Int)) 130 0 (w.1 9 0 81).toNat x1) 131 0 (w.1 9 0 81).toNat x2) 132 0 (w.1 9 0 81).toNat (3 : Int)) 9 0 81 (am_w ((w.1 9 0 81) + 1))), w.2) bc bs
    refine am_aload_n dX12_make_68 (List.Mem.head _) ?_
    refine am_getf (f := 81) (v := .inl ((am_up w.1 9 0 81 (am_w ((w.1 9 0 81) + 1))) 9 0 81)) dX12_make_69 hc_10 (by decide) wd_1630 (by decide) rfl rfl ?_
    exact am_ret (r := some (.inl ((am_up w.1 9 0 81 (am_w ((w.1 9 0 81) + 1))) 9 0 81))) dX12_make_72 (Or.inl rfl) rfl h
  · replace h := h.2 c1
    refine am_iconst dX12_make_48 (by unfold am_rg; omega) ?_
    exact am_ret (r := some (.inl (-1))) dX12_make_49 (Or.inl rfl) rfl h
-- MourningHouseModel.isInTime()Z
theorem dX12_isInTime_0 : decode mX12_isInTime.2.1 0 = .ok (.iconst 0, 1) := by decide +kernel
theorem dX12_isInTime_1 : decode mX12_isInTime.2.1 1 = .ok (.istore_n 1, 1) := by decide +kernel
theorem dX12_isInTime_2 : decode mX12_isInTime.2.1 2 = .ok (.iconst 0, 1) := by decide +kernel
theorem dX12_isInTime_3 : decode mX12_isInTime.2.1 3 = .ok (.istore_n 2, 1) := by decide +kernel
theorem dX12_isInTime_4 : decode mX12_isInTime.2.1 4 = .ok (.iload_n 2, 1) := by decide +kernel
theorem dX12_isInTime_5 : decode mX12_isInTime.2.1 5 = .ok (.aload_n 0, 1) := by decide +kernel
theorem dX12_isInTime_6 : decode mX12_isInTime.2.1 6 = .ok (.getfield 576, 3) := by decide +kernel
theorem dX12_isInTime_9 : decode mX12_isInTime.2.1 9 = .ok (.if_icmp .ge 24, 3) := by decide +kernel
theorem dX12_isInTime_12 : decode mX12_isInTime.2.1 12 = .ok (.aload_n 0, 1) := by decide +kernel
theorem dX12_isInTime_13 : decode mX12_isInTime.2.1 13 = .ok (.getfield 282, 3) := by decide +kernel
theorem dX12_isInTime_16 : decode mX12_isInTime.2.1 16 = .ok (.iload_n 1, 1) := by decide +kernel
theorem dX12_isInTime_17 : decode mX12_isInTime.2.1 17 = .ok (.iinc 1 1, 3) := by decide +kernel
theorem dX12_isInTime_20 : decode mX12_isInTime.2.1 20 = .ok (.aload_n 0, 1) := by decide +kernel
theorem dX12_isInTime_21 : decode mX12_isInTime.2.1 21 = .ok (.getfield 255, 3) := by decide +kernel
theorem dX12_isInTime_24 : decode mX12_isInTime.2.1 24 = .ok (.iload_n 2, 1) := by decide +kernel
theorem dX12_isInTime_25 : decode mX12_isInTime.2.1 25 = .ok (.iaload, 1) := by decide +kernel
theorem dX12_isInTime_26 : decode mX12_isInTime.2.1 26 = .ok (.iastore, 1) := by decide +kernel
theorem dX12_isInTime_27 : decode mX12_isInTime.2.1 27 = .ok (.iinc 2 1, 3) := by decide +kernel
theorem dX12_isInTime_30 : decode mX12_isInTime.2.1 30 = .ok (.goto (-26), 3) := by decide +kernel
theorem dX12_isInTime_33 : decode mX12_isInTime.2.1 33 = .ok (.iconst 0, 1) := by decide +kernel
theorem dX12_isInTime_34 : decode mX12_isInTime.2.1 34 = .ok (.istore_n 2, 1) := by decide +kernel
theorem dX12_isInTime_35 : decode mX12_isInTime.2.1 35 = .ok (.iload_n 2, 1) := by decide +kernel
theorem dX12_isInTime_36 : decode mX12_isInTime.2.1 36 = .ok (.aload_n 0, 1) := by decide +kernel
theorem dX12_isInTime_37 : decode mX12_isInTime.2.1 37 = .ok (.getfield 600, 3) := by decide +kernel
theorem dX12_isInTime_40 : decode mX12_isInTime.2.1 40 = .ok (.if_icmp .ge 53, 3) := by decide +kernel
theorem dX12_isInTime_43 : decode mX12_isInTime.2.1 43 = .ok (.aload_n 0, 1) := by decide +kernel
theorem dX12_isInTime_44 : decode mX12_isInTime.2.1 44 = .ok (.getfield 264, 3) := by decide +kernel
theorem dX12_isInTime_47 : decode mX12_isInTime.2.1 47 = .ok (.iload_n 2, 1) := by decide +kernel
theorem dX12_isInTime_48 : decode mX12_isInTime.2.1 48 = .ok (.iaload, 1) := by decide +kernel
theorem dX12_isInTime_49 : decode mX12_isInTime.2.1 49 = .ok (.iconst 2, 1) := by decide +kernel
theorem dX12_isInTime_50 : decode mX12_isInTime.2.1 50 = .ok (.if_icmp .eq 13, 3) := by decide +kernel
theorem dX12_isInTime_53 : decode mX12_isInTime.2.1 53 = .ok (.aload_n 0, 1) := by decide +kernel
theorem dX12_isInTime_54 : decode mX12_isInTime.2.1 54 = .ok (.getfield 264, 3) := by decide +kernel
theorem dX12_isInTime_57 : decode mX12_isInTime.2.1 57 = .ok (.iload_n 2, 1) := by decide +kernel
theorem dX12_isInTime_58 : decode mX12_isInTime.2.1 58 = .ok (.iaload, 1) := by decide +kernel
theorem dX12_isInTime_59 : decode mX12_isInTime.2.1 59 = .ok (.iconst 3, 1) := by decide +kernel
theorem dX12_isInTime_60 : decode mX12_isInTime.2.1 60 = .ok (.if_icmp .ne 27, 3) := by decide +kernel
theorem dX12_isInTime_63 : decode mX12_isInTime.2.1 63 = .ok (.aload_n 0, 1) := by decide +kernel
theorem dX12_isInTime_64 : decode mX12_isInTime.2.1 64 = .ok (.getfield 282, 3) := by decide +kernel
theorem dX12_isInTime_67 : decode mX12_isInTime.2.1 67 = .ok (.iload_n 1, 1) := by decide +kernel
theorem dX12_isInTime_68 : decode mX12_isInTime.2.1 68 = .ok (.iinc 1 1, 3) := by decide +kernel
theorem dX12_isInTime_71 : decode mX12_isInTime.2.1 71 = .ok (.aload_n 0, 1) := by decide +kernel
theorem dX12_isInTime_72 : decode mX12_isInTime.2.1 72 = .ok (.getfield 264, 3) := by decide +kernel
theorem dX12_isInTime_75 : decode mX12_isInTime.2.1 75 = .ok (.iload_n 2, 1) := by decide +kernel
theorem dX12_isInTime_76 : decode mX12_isInTime.2.1 76 = .ok (.iaload, 1) := by decide +kernel
theorem dX12_isInTime_77 : decode mX12_isInTime.2.1 77 = .ok (.iconst 2, 1) := by decide +kernel
theorem dX12_isInTime_78 : decode mX12_isInTime.2.1 78 = .ok (.if_icmp .ne 7, 3) := by decide +kernel
theorem dX12_isInTime_81 : decode mX12_isInTime.2.1 81 = .ok (.iconst 2, 1) := by decide +kernel
theorem dX12_isInTime_82 : decode mX12_isInTime.2.1 82 = .ok (.goto 4, 3) := by decide +kernel
theorem dX12_isInTime_85 : decode mX12_isInTime.2.1 85 = .ok (.iconst 3, 1) := by decide +kernel
theorem dX12_isInTime_86 : decode mX12_isInTime.2.1 86 = .ok (.iastore, 1) := by decide +kernel
theorem dX12_isInTime_87 : decode mX12_isInTime.2.1 87 = .ok (.iinc 2 1, 3) := by decide +kernel
theorem dX12_isInTime_90 : decode mX12_isInTime.2.1 90 = .ok (.goto (-55), 3) := by decide +kernel
theorem dX12_isInTime_93 : decode mX12_isInTime.2.1 93 = .ok (.iload_n 1, 1) := by decide +kernel
theorem dX12_isInTime_94 : decode mX12_isInTime.2.1 94 = .ok (.aload_n 0, 1) := by decide +kernel
theorem dX12_isInTime_95 : decode mX12_isInTime.2.1 95 = .ok (.getfield 576, 3) := by decide +kernel
theorem dX12_isInTime_98 : decode mX12_isInTime.2.1 98 = .ok (.isub, 1) := by decide +kernel
theorem dX12_isInTime_99 : decode mX12_isInTime.2.1 99 = .ok (.istore_n 2, 1) := by decide +kernel
theorem dX12_isInTime_100 : decode mX12_isInTime.2.1 100 = .ok (.iconst 0, 1) := by decide +kernel
theorem dX12_isInTime_101 : decode mX12_isInTime.2.1 101 = .ok (.istore_n 3, 1) := by decide +kernel
theorem dX12_isInTime_102 : decode mX12_isInTime.2.1 102 = .ok (.iload_n 3, 1) := by decide +kernel
theorem dX12_isInTime_103 : decode mX12_isInTime.2.1 103 = .ok (.aload_n 0, 1) := by decide +kernel
theorem dX12_isInTime_104 : decode mX12_isInTime.2.1 104 = .ok (.getfield 603, 3) := by decide +kernel
theorem dX12_isInTime_107 : decode mX12_isInTime.2.1 107 = .ok (.if_icmp .ge 62, 3) := by decide +kernel
theorem dX12_isInTime_110 : decode mX12_isInTime.2.1 110 = .ok (.aload_n 0, 1) := by decide +kernel
theorem dX12_isInTime_111 : decode mX12_isInTime.2.1 111 = .ok (.getfield 588, 3) := by decide +kernel
theorem dX12_isInTime_114 : decode mX12_isInTime.2.1 114 = .ok (.istore 4, 2) := by decide +kernel
theorem dX12_isInTime_116 : decode mX12_isInTime.2.1 116 = .ok (.iconst 0, 1) := by decide +kernel
theorem dX12_isInTime_117 : decode mX12_isInTime.2.1 117 = .ok (.istore 5, 2) := by decide +kernel
theorem dX12_isInTime_119 : decode mX12_isInTime.2.1 119 = .ok (.iload 5, 2) := by decide +kernel
theorem dX12_isInTime_121 : decode mX12_isInTime.2.1 121 = .ok (.iload_n 1, 1) := by decide +kernel
theorem dX12_isInTime_122 : decode mX12_isInTime.2.1 122 = .ok (.if_icmp .ge 41, 3) := by decide +kernel
theorem dX12_isInTime_125 : decode mX12_isInTime.2.1 125 = .ok (.iload 4, 2) := by decide +kernel
theorem dX12_isInTime_127 : decode mX12_isInTime.2.1 127 = .ok (.ifCond .le 36, 3) := by decide +kernel
theorem dX12_isInTime_130 : decode mX12_isInTime.2.1 130 = .ok (.aload_n 0, 1) := by decide +kernel
theorem dX12_isInTime_131 : decode mX12_isInTime.2.1 131 = .ok (.getfield 282, 3) := by decide +kernel
theorem dX12_isInTime_134 : decode mX12_isInTime.2.1 134 = .ok (.iload 5, 2) := by decide +kernel
theorem dX12_isInTime_136 : decode mX12_isInTime.2.1 136 = .ok (.iaload, 1) := by decide +kernel
theorem dX12_isInTime_137 : decode mX12_isInTime.2.1 137 = .ok (.ifCond .ne 6, 3) := by decide +kernel
theorem dX12_isInTime_140 : decode mX12_isInTime.2.1 140 = .ok (.goto 17, 3) := by decide +kernel
theorem dX12_isInTime_143 : decode mX12_isInTime.2.1 143 = .ok (.aload_n 0, 1) := by decide +kernel
theorem dX12_isInTime_144 : decode mX12_isInTime.2.1 144 = .ok (.getfield 282, 3) := by decide +kernel
theorem dX12_isInTime_147 : decode mX12_isInTime.2.1 147 = .ok (.iload 5, 2) := by decide +kernel
theorem dX12_isInTime_149 : decode mX12_isInTime.2.1 149 = .ok (.dup2, 1) := by decide +kernel
theorem dX12_isInTime_150 : decode mX12_isInTime.2.1 150 = .ok (.iaload, 1) := by decide +kernel
theorem dX12_isInTime_151 : decode mX12_isInTime.2.1 151 = .ok (.iconst 1, 1) := by decide +kernel
theorem dX12_isInTime_152 : decode mX12_isInTime.2.1 152 = .ok (.isub, 1) := by decide +kernel
theorem dX12_isInTime_153 : decode mX12_isInTime.2.1 153 = .ok (.iastore, 1) := by decide +kernel
theorem dX12_isInTime_154 : decode mX12_isInTime.2.1 154 = .ok (.iinc 4 (-1), 3) := by decide +kernel
theorem dX12_isInTime_157 : decode mX12_isInTime.2.1 157 = .ok (.iinc 5 1, 3) := by decide +kernel
theorem dX12_isInTime_160 : decode mX12_isInTime.2.1 160 = .ok (.goto (-41), 3) := by decide +kernel
theorem dX12_isInTime_163 : decode mX12_isInTime.2.1 163 = .ok (.iinc 3 1, 3) := by decide +kernel
theorem dX12_isInTime_166 : decode mX12_isInTime.2.1 166 = .ok (.goto (-64), 3) := by decide +kernel
theorem dX12_isInTime_169 : decode mX12_isInTime.2.1 169 = .ok (.iconst 0, 1) := by decide +kernel
theorem dX12_isInTime_170 : decode mX12_isInTime.2.1 170 = .ok (.istore_n 3, 1) := by decide +kernel
theorem dX12_isInTime_171 : decode mX12_isInTime.2.1 171 = .ok (.iload_n 1, 1) := by decide +kernel
theorem dX12_isInTime_172 : decode mX12_isInTime.2.1 172 = .ok (.iload_n 2, 1) := by decide +kernel
theorem dX12_isInTime_173 : decode mX12_isInTime.2.1 173 = .ok (.isub, 1) := by decide +kernel
theorem dX12_isInTime_174 : decode mX12_isInTime.2.1 174 = .ok (.istore 4, 2) := by decide +kernel
theorem dX12_isInTime_176 : decode mX12_isInTime.2.1 176 = .ok (.iload 4, 2) := by decide +kernel
theorem dX12_isInTime_178 : decode mX12_isInTime.2.1 178 = .ok (.iload_n 1, 1) := by decide +kernel
theorem dX12_isInTime_179 : decode mX12_isInTime.2.1 179 = .ok (.if_icmp .ge 19, 3) := by decide +kernel
theorem dX12_isInTime_182 : decode mX12_isInTime.2.1 182 = .ok (.iload_n 3, 1) := by decide +kernel
theorem dX12_isInTime_183 : decode mX12_isInTime.2.1 183 = .ok (.aload_n 0, 1) := by decide +kernel
theorem dX12_isInTime_184 : decode mX12_isInTime.2.1 184 = .ok (.getfield 282, 3) := by decide +kernel
theorem dX12_isInTime_187 : decode mX12_isInTime.2.1 187 = .ok (.iload 4, 2) := by decide +kernel
theorem dX12_isInTime_189 : decode mX12_isInTime.2.1 189 = .ok (.iaload, 1) := by decide +kernel
theorem dX12_isInTime_190 : decode mX12_isInTime.2.1 190 = .ok (.iadd, 1) := by decide +kernel
theorem dX12_isInTime_191 : decode mX12_isInTime.2.1 191 = .ok (.istore_n 3, 1) := by decide +kernel
theorem dX12_isInTime_192 : decode mX12_isInTime.2.1 192 = .ok (.iinc 4 1, 3) := by decide +kernel
theorem dX12_isInTime_195 : decode mX12_isInTime.2.1 195 = .ok (.goto (-19), 3) := by decide +kernel
theorem dX12_isInTime_198 : decode mX12_isInTime.2.1 198 = .ok (.iload_n 3, 1) := by decide +kernel
theorem dX12_isInTime_199 : decode mX12_isInTime.2.1 199 = .ok (.ifCond .ne 7, 3) := by decide +kernel
theorem dX12_isInTime_202 : decode mX12_isInTime.2.1 202 = .ok (.iconst 1, 1) := by decide +kernel
theorem dX12_isInTime_203 : decode mX12_isInTime.2.1 203 = .ok (.goto 4, 3) := by decide +kernel
theorem dX12_isInTime_206 : decode mX12_isInTime.2.1 206 = .ok (.iconst 0, 1) := by decide +kernel
theorem dX12_isInTime_207 : decode mX12_isInTime.2.1 207 = .ok (.ireturn, 1) := by decide +kernel
theorem bX12_isInTime_0 {SC : Nat → Nat} {X : mh_X} {d : Nat} {Q : Option am_V → am_W → Prop} {bc bs : Nat} {w : am_W} 
    (h : am_A (mh_G X) SC (d + 1) mX12_isInTime Q 4 [(0, .inr (.inr (some (9, 0)))), (1, .inl 0), (2, .inl 0)] [] w bc bs) :
    am_A (mh_G X) SC (d + 1) mX12_isInTime Q 0 [(0, .inr (.inr (some (9, 0))))] [] w bc bs := by
  refine am_iconst dX12_isInTime_0 (by unfold am_rg; omega) ?_
  refine am_istore_n (ls' := [(1, .inl 0), (0, .inr (.inr (some (9, 0))))]) dX12_isInTime_1 (by decide) rfl ?_
  refine am_iconst dX12_isInTime_2 (by unfold am_rg; omega) ?_
  refine am_istore_n (ls' := [(2, .inl 0), (1, .inl 0), (0, .inr (.inr (some (9, 0))))]) dX12_isInTime_3 (by decide) rfl ?_
  exact am_sub [2, 1, 0] rfl h
theorem bX12_isInTime_4 {SC : Nat → Nat} {X : mh_X} {d : Nat} {Q : Option am_V → am_W → Prop} {bc bs : Nat} {w : am_W} {x1 : Int} {x2 : Int}
    (h : (((w.1 9 0 81) ≤ x2 → am_A (mh_G X) SC (d + 1) mX12_isInTime Q 35 [(0, .inr (.inr (some (9, 0)))), (1, .inl x1), (2, .inl 0)] [] w bc bs) ∧ (¬ (w.1 9 0 81) ≤ x2 → (0 ≤ x2 ∧ (x2 < 20 ∧ (0 ≤ x1 ∧ (x1 < 25 ∧ am_A (mh_G X) SC (d + 1) mX12_isInTime Q 4 [(0, .inr (.inr (some (9, 0)))), (1, .inl (am_w (x1 + 1))), (2, .inl (am_w (x2 + 1)))] [] ((am_up w.1 141 0 x1.toNat (w.1 132 0 x2.toNat)), w.2) bc bs))))))) :
    am_A (mh_G X) SC (d + 1) mX12_isInTime Q 4 [(0, .inr (.inr (some (9, 0)))), (1, .inl x1), (2, .inl x2)] [] w bc bs := by
  refine am_iload_n dX12_isInTime_4 (List.Mem.tail _ (List.Mem.tail _ (List.Mem.head _))) ?_
  refine am_aload_n dX12_isInTime_5 (List.Mem.head _) ?_
  refine am_getf (f := 81) (v := .inl (w.1 9 0 81)) dX12_isInTime_6 hc_10 (by decide) wd_1630 (by decide) rfl rfl ?_
  refine am_icmpge (tgt := 33) dX12_isInTime_9 (by decide) (fun c1 => ?_) (fun c1 => ?_)
  · replace h := h.1 c1
    refine am_iconst dX12_isInTime_33 (by unfold am_rg; omega) ?_
    refine am_istore_n (ls' := [(2, .inl 0), (0, .inr (.inr (some (9, 0)))), (1, .inl x1)]) dX12_isInTime_34 (by decide) rfl ?_
    exact am_sub [1, 2, 0] rfl h
  · replace h := h.2 c1
    refine am_aload_n dX12_isInTime_12 (List.Mem.head _) ?_
    refine am_getf (f := 90) (v := .inr (.inr (some (141, 0)))) dX12_isInTime_13 hc_10 (by decide) wd_1639 (by decide) rfl rfl ?_
    refine am_iload_n dX12_isInTime_16 (List.Mem.tail _ (List.Mem.head _)) ?_
    refine am_iinc (ls' := [(1, .inl (am_w (x1 + 1))), (0, .inr (.inr (some (9, 0)))), (2, .inl x2)]) dX12_isInTime_17 (List.Mem.tail _ (List.Mem.head _)) (by decide) rfl ?_
    refine am_aload_n dX12_isInTime_20 (List.Mem.tail _ (List.Mem.head _)) ?_
    refine am_getf (f := 80) (v := .inr (.inr (some (132, 0)))) dX12_isInTime_21 hc_10 (by decide) wd_1629 (by decide) rfl rfl ?_
    refine am_iload_n dX12_isInTime_24 (List.Mem.tail _ (List.Mem.tail _ (List.Mem.head _))) ?_
    have o2 := h.1
    replace h := h.2
    have o3 := h.1
    replace h := h.2
    refine am_iaload (v := (w.1 132 0 x2.toNat)) dX12_isInTime_25 (by decide) rfl o2 o3 rfl ?_
    have o4 := h.1
    replace h := h.2
    have o5 := h.1
    replace h := h.2
    refine am_iastore dX12_isInTime_26 (Or.inl (by decide)) rfl o4 o5 ?_
    refine am_iinc (ls' := [(2, .inl (am_w (x2 + 1))), (1, .inl (am_w (x1 + 1))), (0, .inr (.inr (some (9, 0))))]) dX12_isInTime_27 (List.Mem.tail _ (List.Mem.tail _ (List.Mem.head _))) (by decide) rfl ?_
    refine am_goto (tgt := 4) dX12_isInTime_30 (by decide) ?_
    exact am_sub [2, 1, 0] rfl h
theorem bX12_isInTime_35 {SC : Nat → Nat} {X : mh_X} {d : Nat} {Q : Option am_V → am_W → Prop} {bc bs : Nat} {w : am_W} {x1 : Int} {x2 : Int}
    (h : (((w.1 9 0 91) ≤ x2 → am_A (mh_G X) SC (d + 1) mX12_isInTime Q 102 [(0, .inr (.inr (some (9, 0)))), (1, .inl x1), (2, .inl (am_w (x1 - (w.1 9 0 81)))), (3, .inl 0)] [] w bc bs) ∧ (¬ (w.1 9 0 91) ≤ x2 → (0 ≤ x2 ∧ (x2 < 5 ∧ (((w.1 135 0 x2.toNat) = 2 → am_A (mh_G X) SC (d + 1) mX12_isInTime Q 63 [(0, .inr (.inr (some (9, 0)))), (1, .inl x1), (2, .inl x2)] [] w bc bs) ∧ (¬ (w.1 135 0 x2.toNat) = 2 → ((¬ (w.1 135 0 x2.toNat) = 3 → am_A (mh_G X) SC (d + 1) mX12_isInTime Q 87 [(0, .inr (.inr (some (9, 0)))), (1, .inl x1), (2, .inl x2)] [] w bc bs) ∧ ((w.1 135 0 x2.toNat) = 3 → am_A (mh_G X) SC (d + 1) mX12_isInTime Q 63 [(0, .inr (.inr (some (9, 0)))), (1, .inl x1), (2, .inl x2)] [] w bc bs))))))))) :
    am_A (mh_G X) SC (d + 1) mX12_isInTime Q 35 [(0, .inr (.inr (some (9, 0)))), (1, .inl x1), (2, .inl x2)] [] w bc bs := by
  refine am_iload_n dX12_isInTime_35 (List.Mem.tail _ (List.Mem.tail _ (List.Mem.head _))) ?_
  refine am_aload_n dX12_isInTime_36 (List.Mem.head _) ?_
  refine am_getf (f := 91) (v := .inl (w.1 9 0 91)) dX12_isInTime_37 hc_10 (by decide) wd_1640 (by decide) rfl rfl ?_
  refine am_icmpge (tgt := 93) dX12_isInTime_40 (by decide) (fun c1 => ?_) (fun c1 => ?_)
  · replace h := h.1 c1
    refine am_iload_n dX12_isInTime_93 (List.Mem.tail _ (List.Mem.head _)) ?_
    refine am_aload_n dX12_isInTime_94 (List.Mem.head _) ?_
    refine am_getf (f := 81) (v := .inl (w.1 9 0 81)) dX12_isInTime_95 hc_10 (by decide) wd_1630 (by decide) rfl rfl ?_
    refine am_isub dX12_isInTime_98 ?_
    refine am_istore_n (ls' := [(2, .inl (am_w (x1 - (w.1 9 0 81)))), (0, .inr (.inr (some (9, 0)))), (1, .inl x1)]) dX12_isInTime_99 (by decide) rfl ?_
    refine am_iconst dX12_isInTime_100 (by unfold am_rg; omega) ?_
    refine am_istore_n (ls' := [(3, .inl 0), (2, .inl (am_w (x1 - (w.1 9 0 81)))), (0, .inr (.inr (some (9, 0)))), (1, .inl x1)]) dX12_isInTime_101 (by decide) rfl ?_
    exact am_sub [2, 3, 1, 0] rfl h
  · replace h := h.2 c1
    refine am_aload_n dX12_isInTime_43 (List.Mem.head _) ?_
    refine am_getf (f := 84) (v := .inr (.inr (some (135, 0)))) dX12_isInTime_44 hc_10 (by decide) wd_1633 (by decide) rfl rfl ?_
    refine am_iload_n dX12_isInTime_47 (List.Mem.tail _ (List.Mem.tail _ (List.Mem.head _))) ?_
    have o2 := h.1
    replace h := h.2
    have o3 := h.1
    replace h := h.2
    refine am_iaload (v := (w.1 135 0 x2.toNat)) dX12_isInTime_48 (by decide) rfl o2 o3 rfl ?_
    refine am_iconst dX12_isInTime_49 (by unfold am_rg; omega) ?_
    refine am_icmpeq (tgt := 63) dX12_isInTime_50 (by decide) (fun c4 => ?_) (fun c4 => ?_)
    · replace h := h.1 c4
      exact h
    · replace h := h.2 c4
      refine am_aload_n dX12_isInTime_53 (List.Mem.head _) ?_
      refine am_getf (f := 84) (v := .inr (.inr (some (135, 0)))) dX12_isInTime_54 hc_10 (by decide) wd_1633 (by decide) rfl rfl ?_
      refine am_iload_n dX12_isInTime_57 (List.Mem.tail _ (List.Mem.tail _ (List.Mem.head _))) ?_
      refine am_iaload (v := (w.1 135 0 x2.toNat)) dX12_isInTime_58 (by decide) rfl o2 o3 rfl ?_
      refine am_iconst dX12_isInTime_59 (by unfold am_rg; omega) ?_
      refine am_icmpne (tgt := 87) dX12_isInTime_60 (by decide) (fun c5 => ?_) (fun c5 => ?_)
      · replace h := h.1 c5
        exact h
      · replace h := h.2 c5
        exact h
theorem bX12_isInTime_102 {SC : Nat → Nat} {X : mh_X} {d : Nat} {Q : Option am_V → am_W → Prop} {bc bs : Nat} {w : am_W} {x1 : Int} {x2 : Int} {x3 : Int}
    (h : (((w.1 9 0 95) ≤ x3 → am_A (mh_G X) SC (d + 1) mX12_isInTime Q 176 [(0, .inr (.inr (some (9, 0)))), (1, .inl x1), (3, .inl 0), (4, .inl (am_w (x1 - x2)))] [] w bc bs) ∧ (¬ (w.1 9 0 95) ≤ x3 → am_A (mh_G X) SC (d + 1) mX12_isInTime Q 119 [(0, .inr (.inr (some (9, 0)))), (1, .inl x1), (2, .inl x2), (3, .inl x3), (4, .inl (w.1 9 0 76)), (5, .inl 0)] [] w bc bs))) :
    am_A (mh_G X) SC (d + 1) mX12_isInTime Q 102 [(0, .inr (.inr (some (9, 0)))), (1, .inl x1), (2, .inl x2), (3, .inl x3)] [] w bc bs := by
  refine am_iload_n dX12_isInTime_102 (List.Mem.tail _ (List.Mem.tail _ (List.Mem.tail _ (List.Mem.head _)))) ?_
  refine am_aload_n dX12_isInTime_103 (List.Mem.head _) ?_
  refine am_getf (f := 95) (v := .inl (w.1 9 0 95)) dX12_isInTime_104 hc_10 (by decide) wd_1644 (by decide) rfl rfl ?_
  refine am_icmpge (tgt := 169) dX12_isInTime_107 (by decide) (fun c1 => ?_) (fun c1 => ?_)
  · replace h := h.1 c1
    refine am_iconst dX12_isInTime_169 (by unfold am_rg; omega) ?_
    refine am_istore_n (ls' := [(3, .inl 0), (0, .inr (.inr (some (9, 0)))), (1, .inl x1), (2, .inl x2)]) dX12_isInTime_170 (by decide) rfl ?_
    refine am_iload_n dX12_isInTime_171 (List.Mem.tail _ (List.Mem.tail _ (List.Mem.head _))) ?_
    refine am_iload_n dX12_isInTime_172 (List.Mem.tail _ (List.Mem.tail _ (List.Mem.tail _ (List.Mem.head _)))) ?_
    refine am_isub dX12_isInTime_173 ?_
    refine am_istore (ls' := [(4, .inl (am_w (x1 - x2))), (3, .inl 0), (0, .inr (.inr (some (9, 0)))), (1, .inl x1), (2, .inl x2)]) dX12_isInTime_174 (by decide) rfl ?_
    exact am_sub [2, 3, 1, 0] rfl h
  · replace h := h.2 c1
    refine am_aload_n dX12_isInTime_110 (List.Mem.head _) ?_
    refine am_getf (f := 76) (v := .inl (w.1 9 0 76)) dX12_isInTime_111 hc_10 (by decide) wd_1625 (by decide) rfl rfl ?_
    refine am_istore (ls' := [(4, .inl (w.1 9 0 76)), (0, .inr (.inr (some (9, 0)))), (1, .inl x1), (2, .inl x2), (3, .inl x3)]) dX12_isInTime_114 (by decide) rfl ?_
    refine am_iconst dX12_isInTime_116 (by unfold am_rg; omega) ?_
    refine am_istore (ls' := [(5, .inl 0), (4, .inl (w.1 9 0 76)), (0, .inr (.inr (some (9, 0)))), (1, .inl x1), (2, .inl x2), (3, .inl x3)]) dX12_isInTime_117 (by decide) rfl ?_
    exact am_sub [2, 3, 4, 5, 1, 0] rfl h
theorem bX12_isInTime_63 {SC : Nat → Nat} {X : mh_X} {d : Nat} {Q : Option am_V → am_W → Prop} {bc bs : Nat} {w : am_W} {x1 : Int} {x2 : Int}
    (h : (0 ≤ x2 ∧ (x2 < 5 ∧ ((¬ (w.1 135 0 x2.toNat) = 2 → am_A (mh_G X) SC (d + 1) mX12_isInTime Q 86 [(0, .inr (.inr (some (9, 0)))), (1, .inl (am_w (x1 + 1))), (2, .inl x2)] [.inl 3, .inl x1, .inr (.inr (some (141, 0)))] w bc bs) ∧ ((w.1 135 0 x2.toNat) = 2 → am_A (mh_G X) SC (d + 1) mX12_isInTime Q 86 [(0, .inr (.inr (some (9, 0)))), (1, .inl (am_w (x1 + 1))), (2, .inl x2)] [.inl 2, .inl x1, .inr (.inr (some (141, 0)))] w bc bs))))) :
    am_A (mh_G X) SC (d + 1) mX12_isInTime Q 63 [(0, .inr (.inr (some (9, 0)))), (1, .inl x1), (2, .inl x2)] [] w bc bs := by
  refine am_aload_n dX12_isInTime_63 (List.Mem.head _) ?_
  refine am_getf (f := 90) (v := .inr (.inr (some (141, 0)))) dX12_isInTime_64 hc_10 (by decide) wd_1639 (by decide) rfl rfl ?_
  refine am_iload_n dX12_isInTime_67 (List.Mem.tail _ (List.Mem.head _)) ?_
  refine am_iinc (ls' := [(1, .inl (am_w (x1 + 1))), (0, .inr (.inr (some (9, 0)))), (2, .inl x2)]) dX12_isInTime_68 (List.Mem.tail _ (List.Mem.head _)) (by decide) rfl ?_
  refine am_aload_n dX12_isInTime_71 (List.Mem.tail _ (List.Mem.head _)) ?_
  refine am_getf (f := 84) (v := .inr (.inr (some (135, 0)))) dX12_isInTime_72 hc_10 (by decide) wd_1633 (by decide) rfl rfl ?_
  refine am_iload_n dX12_isInTime_75 (List.Mem.tail _ (List.Mem.tail _ (List.Mem.head _))) ?_
  have o1 := h.1
  replace h := h.2
  have o2 := h.1
  replace h := h.2
  refine am_iaload (v := (w.1 135 0 x2.toNat)) dX12_isInTime_76 (by decide) rfl o1 o2 rfl ?_
  refine am_iconst dX12_isInTime_77 (by unfold am_rg; omega) ?_
  refine am_icmpne (tgt := 85) dX12_isInTime_78 (by decide) (fun c3 => ?_) (fun c3 => ?_)
  · replace h := h.1 c3
    refine am_iconst dX12_isInTime_85 (by unfold am_rg; omega) ?_
    exact am_sub [1, 0, 2] rfl h
  · replace h := h.2 c3
    refine am_iconst dX12_isInTime_81 (by unfold am_rg; omega) ?_
    refine am_goto (tgt := 86) dX12_isInTime_82 (by decide) ?_
    exact am_sub [1, 0, 2] rfl h
theorem bX12_isInTime_87 {SC : Nat → Nat} {X : mh_X} {d : Nat} {Q : Option am_V → am_W → Prop} {bc bs : Nat} {w : am_W} {x1 : Int} {x2 : Int}
    (h : am_A (mh_G X) SC (d + 1) mX12_isInTime Q 35 [(0, .inr (.inr (some (9, 0)))), (1, .inl x1), (2, .inl (am_w (x2 + 1)))] [] w bc bs) :
    am_A (mh_G X) SC (d + 1) mX12_isInTime Q 87 [(0, .inr (.inr (some (9, 0)))), (1, .inl x1), (2, .inl x2)] [] w bc bs := by
  refine am_iinc (ls' := [(2, .inl (am_w (x2 + 1))), (0, .inr (.inr (some (9, 0)))), (1, .inl x1)]) dX12_isInTime_87 (List.Mem.tail _ (List.Mem.tail _ (List.Mem.head _))) (by decide) rfl ?_
  refine am_goto (tgt := 35) dX12_isInTime_90 (by decide) ?_
  exact am_sub [1, 2, 0] rfl h
theorem bX12_isInTime_176 {SC : Nat → Nat} {X : mh_X} {d : Nat} {Q : Option am_V → am_W → Prop} {bc bs : Nat} {w : am_W} {x1 : Int} {x3 : Int} {x4 : Int}
    (h : ((x1 ≤ x4 → ((¬ x3 = 0 → Q (some (.inl 0)) w) ∧ (x3 = 0 → Q (some (.inl 1)) w))) ∧ (¬ x1 ≤ x4 → (0 ≤ x4 ∧ (x4 < 25 ∧ am_A (mh_G X) SC (d + 1) mX12_isInTime Q 176 [(0, .inr (.inr (some (9, 0)))), (1, .inl x1), (3, .inl (am_w (x3 + (w.1 141 0 x4.toNat)))), (4, .inl (am_w (x4 + 1)))] [] w bc bs))))) :
    am_A (mh_G X) SC (d + 1) mX12_isInTime Q 176 [(0, .inr (.inr (some (9, 0)))), (1, .inl x1), (3, .inl x3), (4, .inl x4)] [] w bc bs := by
  refine am_iload dX12_isInTime_176 (List.Mem.tail _ (List.Mem.tail _ (List.Mem.tail _ (List.Mem.head _)))) ?_
  refine am_iload_n dX12_isInTime_178 (List.Mem.tail _ (List.Mem.head _)) ?_
  refine am_icmpge (tgt := 198) dX12_isInTime_179 (by decide) (fun c1 => ?_) (fun c1 => ?_)
  · replace h := h.1 c1
    refine am_iload_n dX12_isInTime_198 (List.Mem.tail _ (List.Mem.tail _ (List.Mem.head _))) ?_
    refine am_ifne (tgt := 206) dX12_isInTime_199 (by decide) (fun c2 => ?_) (fun c2 => ?_)
    · replace h := h.1 c2
      refine am_iconst dX12_isInTime_206 (by unfold am_rg; omega) ?_
      exact am_ret (r := some (.inl 0)) dX12_isInTime_207 (Or.inr (Or.inl ⟨rfl, (Or.inl rfl)⟩)) rfl h
    · replace h := h.2 c2
      refine am_iconst dX12_isInTime_202 (by unfold am_rg; omega) ?_
      refine am_goto (tgt := 207) dX12_isInTime_203 (by decide) ?_
      exact am_ret (r := some (.inl 1)) dX12_isInTime_207 (Or.inr (Or.inl ⟨rfl, (Or.inr rfl)⟩)) rfl h
  · replace h := h.2 c1
    refine am_iload_n dX12_isInTime_182 (List.Mem.tail _ (List.Mem.tail _ (List.Mem.head _))) ?_
    refine am_aload_n dX12_isInTime_183 (List.Mem.head _) ?_
    refine am_getf (f := 90) (v := .inr (.inr (some (141, 0)))) dX12_isInTime_184 hc_10 (by decide) wd_1639 (by decide) rfl rfl ?_
    refine am_iload dX12_isInTime_187 (List.Mem.tail _ (List.Mem.tail _ (List.Mem.tail _ (List.Mem.head _)))) ?_
    have o3 := h.1
    replace h := h.2
    have o4 := h.1
    replace h := h.2
    refine am_iaload (v := (w.1 141 0 x4.toNat)) dX12_isInTime_189 (by decide) rfl o3 o4 rfl ?_
    refine am_iadd dX12_isInTime_190 ?_
    refine am_istore_n (ls' := [(3, .inl (am_w (x3 + (w.1 141 0 x4.toNat)))), (0, .inr (.inr (some (9, 0)))), (1, .inl x1), (4, .inl x4)]) dX12_isInTime_191 (by decide) rfl ?_
    refine am_iinc (ls' := [(4, .inl (am_w (x4 + 1))), (3, .inl (am_w (x3 + (w.1 141 0 x4.toNat)))), (0, .inr (.inr (some (9, 0)))), (1, .inl x1)]) dX12_isInTime_192 (List.Mem.tail _ (List.Mem.tail _ (List.Mem.tail _ (List.Mem.head _)))) (by decide) rfl ?_
    refine am_goto (tgt := 176) dX12_isInTime_195 (by decide) ?_
    exact am_sub [2, 3, 1, 0] rfl h
theorem bX12_isInTime_119 {SC : Nat → Nat} {X : mh_X} {d : Nat} {Q : Option am_V → am_W → Prop} {bc bs : Nat} {w : am_W} {x1 : Int} {x2 : Int} {x3 : Int} {x4 : Int} {x5 : Int}
    (h : ((x1 ≤ x5 → am_A (mh_G X) SC (d + 1) mX12_isInTime Q 163 [(0, .inr (.inr (some (9, 0)))), (1, .inl x1), (2, .inl x2), (3, .inl x3)] [] w bc bs) ∧ (¬ x1 ≤ x5 → ((x4 ≤ 0 → am_A (mh_G X) SC (d + 1) mX12_isInTime Q 163 [(0, .inr (.inr (some (9, 0)))), (1, .inl x1), (2, .inl x2), (3, .inl x3)] [] w bc bs) ∧ (¬ x4 ≤ 0 → (0 ≤ x5 ∧ (x5 < 25 ∧ ((¬ (w.1 141 0 x5.toNat) = 0 → am_A (mh_G X) SC (d + 1) mX12_isInTime Q 157 [(0, .inr (.inr (some (9, 0)))), (1, .inl x1), (2, .inl x2), (3, .inl x3), (4, .inl (am_w (x4 + (-1)))), (5, .inl x5)] [] ((am_up w.1 141 0 x5.toNat (am_w ((w.1 141 0 x5.toNat) - 1))), w.2) bc bs) ∧ ((w.1 141 0 x5.toNat) = 0 → am_A (mh_G X) SC (d + 1) mX12_isInTime Q 157 [(0, .inr (.inr (some (9, 0)))), (1, .inl x1), (2, .inl x2), (3, .inl x3), (4, .inl x4), (5, .inl x5)] [] w bc bs))))))))) :
    am_A (mh_G X) SC (d + 1) mX12_isInTime Q 119 [(0, .inr (.inr (some (9, 0)))), (1, .inl x1), (2, .inl x2), (3, .inl x3), (4, .inl x4), (5, .inl x5)] [] w bc bs := by
  refine am_iload dX12_isInTime_119 (List.Mem.tail _ (List.Mem.tail _ (List.Mem.tail _ (List.Mem.tail _ (List.Mem.tail _ (List.Mem.head _)))))) ?_
  refine am_iload_n dX12_isInTime_121 (List.Mem.tail _ (List.Mem.head _)) ?_
  refine am_icmpge (tgt := 163) dX12_isInTime_122 (by decide) (fun c1 => ?_) (fun c1 => ?_)
  · replace h := h.1 c1
    exact am_sub [0, 1, 2, 3] rfl h
  · replace h := h.2 c1
    refine am_iload dX12_isInTime_125 (List.Mem.tail _ (List.Mem.tail _ (List.Mem.tail _ (List.Mem.tail _ (List.Mem.head _))))) ?_
    refine am_ifle (tgt := 163) dX12_isInTime_127 (by decide) (fun c2 => ?_) (fun c2 => ?_)
    · replace h := h.1 c2
      exact am_sub [0, 1, 2, 3] rfl h
    · replace h := h.2 c2
      refine am_aload_n dX12_isInTime_130 (List.Mem.head _) ?_
      refine am_getf (f := 90) (v := .inr (.inr (some (141, 0)))) dX12_isInTime_131 hc_10 (by decide) wd_1639 (by decide) rfl rfl ?_
      refine am_iload dX12_isInTime_134 (List.Mem.tail _ (List.Mem.tail _ (List.Mem.tail _ (List.Mem.tail _ (List.Mem.tail _ (List.Mem.head _)))))) ?_
      have o3 := h.1
      replace h := h.2
      have o4 := h.1
      replace h := h.2
      refine am_iaload (v := (w.1 141 0 x5.toNat)) dX12_isInTime_136 (by decide) rfl o3 o4 rfl ?_
      refine am_ifne (tgt := 143) dX12_isInTime_137 (by decide) (fun c5 => ?_) (fun c5 => ?_)
      · replace h := h.1 c5
        refine am_aload_n dX12_isInTime_143 (List.Mem.head _) ?_
        refine am_getf (f := 90) (v := .inr (.inr (some (141, 0)))) dX12_isInTime_144 hc_10 (by decide) wd_1639 (by decide) rfl rfl ?_
        refine am_iload dX12_isInTime_147 (List.Mem.tail _ (List.Mem.tail _ (List.Mem.tail _ (List.Mem.tail _ (List.Mem.tail _ (List.Mem.head _)))))) ?_
        refine am_dup2 dX12_isInTime_149 rfl rfl ?_
        refine am_iaload (v := (w.1 141 0 x5.toNat)) dX12_isInTime_150 (by decide) rfl o3 o4 rfl ?_
        refine am_iconst dX12_isInTime_151 (by unfold am_rg; omega) ?_
        refine am_isub dX12_isInTime_152 ?_
        refine am_iastore dX12_isInTime_153 (Or.inl (by decide)) rfl o3 o4 ?_
        refine am_iinc (ls' := [(4, .inl (am_w (x4 + (-1)))), (0, .inr (.inr (some (9, 0)))), (1, .inl x1), (2, .inl x2), (3, .inl x3), (5, .inl x5)]) dX12_isInTime_154 (List.Mem.tail _ (List.Mem.tail _ (List.Mem.tail _ (List.Mem.tail _ (List.Mem.head _))))) (by decide) rfl ?_
        exact am_sub [1, 2, 3, 4, 0, 5] rfl h
      · replace h := h.2 c5
        refine am_goto (tgt := 157) dX12_isInTime_140 (by decide) ?_
        exact h
theorem bX12_isInTime_86 {SC : Nat → Nat} {X : mh_X} {d : Nat} {Q : Option am_V → am_W → Prop} {bc bs : Nat} {w : am_W} {x1 : Int} {x2 : Int} {xs0 : Int} {xs1 : Int}
    (h : (0 ≤ xs1 ∧ (xs1 < 25 ∧ am_A (mh_G X) SC (d + 1) mX12_isInTime Q 87 [(0, .inr (.inr (some (9, 0)))), (1, .inl x1), (2, .inl x2)] [] ((am_up w.1 141 0 xs1.toNat xs0), w.2) bc bs))) :
    am_A (mh_G X) SC (d + 1) mX12_isInTime Q 86 [(0, .inr (.inr (some (9, 0)))), (1, .inl x1), (2, .inl x2)] [.inl xs0, .inl xs1, .inr (.inr (some (141, 0)))] w bc bs := by
  have o1 := h.1
  replace h := h.2
  have o2 := h.1
  replace h := h.2
  refine am_iastore dX12_isInTime_86 (Or.inl (by decide)) rfl o1 o2 ?_
  exact h
theorem bX12_isInTime_163 {SC : Nat → Nat} {X : mh_X} {d : Nat} {Q : Option am_V → am_W → Prop} {bc bs : Nat} {w : am_W} {x1 : Int} {x2 : Int} {x3 : Int}
    (h : am_A (mh_G X) SC (d + 1) mX12_isInTime Q 102 [(0, .inr (.inr (some (9, 0)))), (1, .inl x1), (2, .inl x2), (3, .inl (am_w (x3 + 1)))] [] w bc bs) :
    am_A (mh_G X) SC (d + 1) mX12_isInTime Q 163 [(0, .inr (.inr (some (9, 0)))), (1, .inl x1), (2, .inl x2), (3, .inl x3)] [] w bc bs := by
  refine am_iinc (ls' := [(3, .inl (am_w (x3 + 1))), (0, .inr (.inr (some (9, 0)))), (1, .inl x1), (2, .inl x2)]) dX12_isInTime_163 (List.Mem.tail _ (List.Mem.tail _ (List.Mem.tail _ (List.Mem.head _)))) (by decide) rfl ?_
  refine am_goto (tgt := 102) dX12_isInTime_166 (by decide) ?_
  exact am_sub [1, 2, 3, 0] rfl h
theorem bX12_isInTime_157 {SC : Nat → Nat} {X : mh_X} {d : Nat} {Q : Option am_V → am_W → Prop} {bc bs : Nat} {w : am_W} {x1 : Int} {x2 : Int} {x3 : Int} {x4 : Int} {x5 : Int}
    (h : am_A (mh_G X) SC (d + 1) mX12_isInTime Q 119 [(0, .inr (.inr (some (9, 0)))), (1, .inl x1), (2, .inl x2), (3, .inl x3), (4, .inl x4), (5, .inl (am_w (x5 + 1)))] [] w bc bs) :
    am_A (mh_G X) SC (d + 1) mX12_isInTime Q 157 [(0, .inr (.inr (some (9, 0)))), (1, .inl x1), (2, .inl x2), (3, .inl x3), (4, .inl x4), (5, .inl x5)] [] w bc bs := by
  refine am_iinc (ls' := [(5, .inl (am_w (x5 + 1))), (0, .inr (.inr (some (9, 0)))), (1, .inl x1), (2, .inl x2), (3, .inl x3), (4, .inl x4)]) dX12_isInTime_157 (List.Mem.tail _ (List.Mem.tail _ (List.Mem.tail _ (List.Mem.tail _ (List.Mem.tail _ (List.Mem.head _)))))) (by decide) rfl ?_
  refine am_goto (tgt := 119) dX12_isInTime_160 (by decide) ?_
  exact am_sub [1, 2, 3, 4, 5, 0] rfl h
-- MourningHouseModel.looks()V
theorem dX12_looks_0 : decode mX12_looks.2.1 0 = .ok (.iconst 0, 1) := by decide +kernel
theorem dX12_looks_1 : decode mX12_looks.2.1 1 = .ok (.istore_n 1, 1) := by decide +kernel
theorem dX12_looks_2 : decode mX12_looks.2.1 2 = .ok (.iconst 0, 1) := by decide +kernel
theorem dX12_looks_3 : decode mX12_looks.2.1 3 = .ok (.istore_n 2, 1) := by decide +kernel
theorem dX12_looks_4 : decode mX12_looks.2.1 4 = .ok (.iconst 0, 1) := by decide +kernel
theorem dX12_looks_5 : decode mX12_looks.2.1 5 = .ok (.istore_n 3, 1) := by decide +kernel
theorem dX12_looks_6 : decode mX12_looks.2.1 6 = .ok (.iconst 0, 1) := by decide +kernel
theorem dX12_looks_7 : decode mX12_looks.2.1 7 = .ok (.istore 4, 2) := by decide +kernel
theorem dX12_looks_9 : decode mX12_looks.2.1 9 = .ok (.iload 4, 2) := by decide +kernel
theorem dX12_looks_11 : decode mX12_looks.2.1 11 = .ok (.aload_n 0, 1) := by decide +kernel
theorem dX12_looks_12 : decode mX12_looks.2.1 12 = .ok (.getfield 600, 3) := by decide +kernel
theorem dX12_looks_15 : decode mX12_looks.2.1 15 = .ok (.if_icmp .ge 66, 3) := by decide +kernel
theorem dX12_looks_18 : decode mX12_looks.2.1 18 = .ok (.iload_n 1, 1) := by decide +kernel
theorem dX12_looks_19 : decode mX12_looks.2.1 19 = .ok (.aload_n 0, 1) := by decide +kernel
theorem dX12_looks_20 : decode mX12_looks.2.1 20 = .ok (.getfield 264, 3) := by decide +kernel
theorem dX12_looks_23 : decode mX12_looks.2.1 23 = .ok (.iload 4, 2) := by decide +kernel
theorem dX12_looks_25 : decode mX12_looks.2.1 25 = .ok (.iaload, 1) := by decide +kernel
theorem dX12_looks_26 : decode mX12_looks.2.1 26 = .ok (.iconst 4, 1) := by decide +kernel
theorem dX12_looks_27 : decode mX12_looks.2.1 27 = .ok (.if_icmp .ne 7, 3) := by decide +kernel
theorem dX12_looks_30 : decode mX12_looks.2.1 30 = .ok (.iconst 1, 1) := by decide +kernel
theorem dX12_looks_31 : decode mX12_looks.2.1 31 = .ok (.goto 4, 3) := by decide +kernel
theorem dX12_looks_34 : decode mX12_looks.2.1 34 = .ok (.iconst 0, 1) := by decide +kernel
theorem dX12_looks_35 : decode mX12_looks.2.1 35 = .ok (.iadd, 1) := by decide +kernel
theorem dX12_looks_36 : decode mX12_looks.2.1 36 = .ok (.istore_n 1, 1) := by decide +kernel
theorem dX12_looks_37 : decode mX12_looks.2.1 37 = .ok (.iload_n 2, 1) := by decide +kernel
theorem dX12_looks_38 : decode mX12_looks.2.1 38 = .ok (.aload_n 0, 1) := by decide +kernel
theorem dX12_looks_39 : decode mX12_looks.2.1 39 = .ok (.getfield 264, 3) := by decide +kernel
theorem dX12_looks_42 : decode mX12_looks.2.1 42 = .ok (.iload 4, 2) := by decide +kernel
theorem dX12_looks_44 : decode mX12_looks.2.1 44 = .ok (.iaload, 1) := by decide +kernel
theorem dX12_looks_45 : decode mX12_looks.2.1 45 = .ok (.iconst 3, 1) := by decide +kernel
theorem dX12_looks_46 : decode mX12_looks.2.1 46 = .ok (.if_icmp .ne 7, 3) := by decide +kernel
theorem dX12_looks_49 : decode mX12_looks.2.1 49 = .ok (.iconst 1, 1) := by decide +kernel
theorem dX12_looks_50 : decode mX12_looks.2.1 50 = .ok (.goto 4, 3) := by decide +kernel
theorem dX12_looks_53 : decode mX12_looks.2.1 53 = .ok (.iconst 0, 1) := by decide +kernel
theorem dX12_looks_54 : decode mX12_looks.2.1 54 = .ok (.iadd, 1) := by decide +kernel
theorem dX12_looks_55 : decode mX12_looks.2.1 55 = .ok (.istore_n 2, 1) := by decide +kernel
theorem dX12_looks_56 : decode mX12_looks.2.1 56 = .ok (.iload_n 3, 1) := by decide +kernel
theorem dX12_looks_57 : decode mX12_looks.2.1 57 = .ok (.aload_n 0, 1) := by decide +kernel
theorem dX12_looks_58 : decode mX12_looks.2.1 58 = .ok (.getfield 264, 3) := by decide +kernel
theorem dX12_looks_61 : decode mX12_looks.2.1 61 = .ok (.iload 4, 2) := by decide +kernel
theorem dX12_looks_63 : decode mX12_looks.2.1 63 = .ok (.iaload, 1) := by decide +kernel
theorem dX12_looks_64 : decode mX12_looks.2.1 64 = .ok (.iconst 2, 1) := by decide +kernel
theorem dX12_looks_65 : decode mX12_looks.2.1 65 = .ok (.if_icmp .ne 7, 3) := by decide +kernel
theorem dX12_looks_68 : decode mX12_looks.2.1 68 = .ok (.iconst 1, 1) := by decide +kernel
theorem dX12_looks_69 : decode mX12_looks.2.1 69 = .ok (.goto 4, 3) := by decide +kernel
theorem dX12_looks_72 : decode mX12_looks.2.1 72 = .ok (.iconst 0, 1) := by decide +kernel
theorem dX12_looks_73 : decode mX12_looks.2.1 73 = .ok (.iadd, 1) := by decide +kernel
theorem dX12_looks_74 : decode mX12_looks.2.1 74 = .ok (.istore_n 3, 1) := by decide +kernel
theorem dX12_looks_75 : decode mX12_looks.2.1 75 = .ok (.iinc 4 1, 3) := by decide +kernel
theorem dX12_looks_78 : decode mX12_looks.2.1 78 = .ok (.goto (-69), 3) := by decide +kernel
theorem dX12_looks_81 : decode mX12_looks.2.1 81 = .ok (.iload_n 1, 1) := by decide +kernel
theorem dX12_looks_82 : decode mX12_looks.2.1 82 = .ok (.aload_n 0, 1) := by decide +kernel
theorem dX12_looks_83 : decode mX12_looks.2.1 83 = .ok (.getfield 605, 3) := by decide +kernel
theorem dX12_looks_86 : decode mX12_looks.2.1 86 = .ok (.if_icmp .lt 35, 3) := by decide +kernel
theorem dX12_looks_89 : decode mX12_looks.2.1 89 = .ok (.iload_n 1, 1) := by decide +kernel
theorem dX12_looks_90 : decode mX12_looks.2.1 90 = .ok (.aload_n 0, 1) := by decide +kernel
theorem dX12_looks_91 : decode mX12_looks.2.1 91 = .ok (.getfield 605, 3) := by decide +kernel
theorem dX12_looks_94 : decode mX12_looks.2.1 94 = .ok (.if_icmp .ne 31, 3) := by decide +kernel
theorem dX12_looks_97 : decode mX12_looks.2.1 97 = .ok (.iload_n 2, 1) := by decide +kernel
theorem dX12_looks_98 : decode mX12_looks.2.1 98 = .ok (.aload_n 0, 1) := by decide +kernel
theorem dX12_looks_99 : decode mX12_looks.2.1 99 = .ok (.getfield 608, 3) := by decide +kernel
theorem dX12_looks_102 : decode mX12_looks.2.1 102 = .ok (.if_icmp .lt 19, 3) := by decide +kernel
theorem dX12_looks_105 : decode mX12_looks.2.1 105 = .ok (.iload_n 2, 1) := by decide +kernel
theorem dX12_looks_106 : decode mX12_looks.2.1 106 = .ok (.aload_n 0, 1) := by decide +kernel
theorem dX12_looks_107 : decode mX12_looks.2.1 107 = .ok (.getfield 608, 3) := by decide +kernel
theorem dX12_looks_110 : decode mX12_looks.2.1 110 = .ok (.if_icmp .ne 15, 3) := by decide +kernel
theorem dX12_looks_113 : decode mX12_looks.2.1 113 = .ok (.iload_n 3, 1) := by decide +kernel
theorem dX12_looks_114 : decode mX12_looks.2.1 114 = .ok (.aload_n 0, 1) := by decide +kernel
theorem dX12_looks_115 : decode mX12_looks.2.1 115 = .ok (.getfield 611, 3) := by decide +kernel
theorem dX12_looks_118 : decode mX12_looks.2.1 118 = .ok (.if_icmp .ge 7, 3) := by decide +kernel
theorem dX12_looks_121 : decode mX12_looks.2.1 121 = .ok (.iconst 1, 1) := by decide +kernel
theorem dX12_looks_122 : decode mX12_looks.2.1 122 = .ok (.goto 4, 3) := by decide +kernel
theorem dX12_looks_125 : decode mX12_looks.2.1 125 = .ok (.iconst 0, 1) := by decide +kernel
theorem dX12_looks_126 : decode mX12_looks.2.1 126 = .ok (.istore 4, 2) := by decide +kernel
theorem dX12_looks_128 : decode mX12_looks.2.1 128 = .ok (.iload 4, 2) := by decide +kernel
theorem dX12_looks_130 : decode mX12_looks.2.1 130 = .ok (.ifCond .eq 10, 3) := by decide +kernel
theorem dX12_looks_133 : decode mX12_looks.2.1 133 = .ok (.aload_n 0, 1) := by decide +kernel
theorem dX12_looks_134 : decode mX12_looks.2.1 134 = .ok (.invokevirtual 614, 3) := by decide +kernel
theorem dX12_looks_137 : decode mX12_looks.2.1 137 = .ok (.ifCond .ne 4, 3) := by decide +kernel
theorem dX12_looks_140 : decode mX12_looks.2.1 140 = .ok (.return_, 1) := by decide +kernel
theorem dX12_looks_141 : decode mX12_looks.2.1 141 = .ok (.aload_n 0, 1) := by decide +kernel
theorem dX12_looks_142 : decode mX12_looks.2.1 142 = .ok (.iload_n 1, 1) := by decide +kernel
theorem dX12_looks_143 : decode mX12_looks.2.1 143 = .ok (.putfield 605, 3) := by decide +kernel
theorem dX12_looks_146 : decode mX12_looks.2.1 146 = .ok (.aload_n 0, 1) := by decide +kernel
theorem dX12_looks_147 : decode mX12_looks.2.1 147 = .ok (.iload_n 2, 1) := by decide +kernel
theorem dX12_looks_148 : decode mX12_looks.2.1 148 = .ok (.putfield 608, 3) := by decide +kernel
theorem dX12_looks_151 : decode mX12_looks.2.1 151 = .ok (.aload_n 0, 1) := by decide +kernel
theorem dX12_looks_152 : decode mX12_looks.2.1 152 = .ok (.iload_n 3, 1) := by decide +kernel
theorem dX12_looks_153 : decode mX12_looks.2.1 153 = .ok (.putfield 611, 3) := by decide +kernel
theorem dX12_looks_156 : decode mX12_looks.2.1 156 = .ok (.iconst 0, 1) := by decide +kernel
theorem dX12_looks_157 : decode mX12_looks.2.1 157 = .ok (.istore 5, 2) := by decide +kernel
theorem dX12_looks_159 : decode mX12_looks.2.1 159 = .ok (.iload 5, 2) := by decide +kernel
theorem dX12_looks_161 : decode mX12_looks.2.1 161 = .ok (.aload_n 0, 1) := by decide +kernel
theorem dX12_looks_162 : decode mX12_looks.2.1 162 = .ok (.getfield 600, 3) := by decide +kernel
theorem dX12_looks_165 : decode mX12_looks.2.1 165 = .ok (.if_icmp .ge 37, 3) := by decide +kernel
theorem dX12_looks_168 : decode mX12_looks.2.1 168 = .ok (.aload_n 0, 1) := by decide +kernel
theorem dX12_looks_169 : decode mX12_looks.2.1 169 = .ok (.getfield 270, 3) := by decide +kernel
theorem dX12_looks_172 : decode mX12_looks.2.1 172 = .ok (.iload 5, 2) := by decide +kernel
theorem dX12_looks_174 : decode mX12_looks.2.1 174 = .ok (.aload_n 0, 1) := by decide +kernel
theorem dX12_looks_175 : decode mX12_looks.2.1 175 = .ok (.getfield 264, 3) := by decide +kernel
theorem dX12_looks_178 : decode mX12_looks.2.1 178 = .ok (.iload 5, 2) := by decide +kernel
theorem dX12_looks_180 : decode mX12_looks.2.1 180 = .ok (.iaload, 1) := by decide +kernel
theorem dX12_looks_181 : decode mX12_looks.2.1 181 = .ok (.iastore, 1) := by decide +kernel
theorem dX12_looks_182 : decode mX12_looks.2.1 182 = .ok (.aload_n 0, 1) := by decide +kernel
theorem dX12_looks_183 : decode mX12_looks.2.1 183 = .ok (.getfield 273, 3) := by decide +kernel
theorem dX12_looks_186 : decode mX12_looks.2.1 186 = .ok (.iload 5, 2) := by decide +kernel
theorem dX12_looks_188 : decode mX12_looks.2.1 188 = .ok (.aload_n 0, 1) := by decide +kernel
theorem dX12_looks_189 : decode mX12_looks.2.1 189 = .ok (.getfield 267, 3) := by decide +kernel
theorem dX12_looks_192 : decode mX12_looks.2.1 192 = .ok (.iload 5, 2) := by decide +kernel
theorem dX12_looks_194 : decode mX12_looks.2.1 194 = .ok (.iaload, 1) := by decide +kernel
theorem dX12_looks_195 : decode mX12_looks.2.1 195 = .ok (.iastore, 1) := by decide +kernel
theorem dX12_looks_196 : decode mX12_looks.2.1 196 = .ok (.iinc 5 1, 3) := by decide +kernel
theorem dX12_looks_199 : decode mX12_looks.2.1 199 = .ok (.goto (-40), 3) := by decide +kernel
theorem dX12_looks_202 : decode mX12_looks.2.1 202 = .ok (.return_, 1) := by decide +kernel
theorem bX12_looks_0 {SC : Nat → Nat} {X : mh_X} {d : Nat} {Q : Option am_V → am_W → Prop} {bc bs : Nat} {w : am_W} 
    (h : am_A (mh_G X) SC (d + 2) mX12_looks Q 9 [(0, .inr (.inr (some (9, 0)))), (1, .inl 0), (2, .inl 0), (3, .inl 0), (4, .inl 0)] [] w bc bs) :
    am_A (mh_G X) SC (d + 2) mX12_looks Q 0 [(0, .inr (.inr (some (9, 0))))] [] w bc bs := by
  refine am_iconst dX12_looks_0 (by unfold am_rg; omega) ?_
  refine am_istore_n (ls' := [(1, .inl 0), (0, .inr (.inr (some (9, 0))))]) dX12_looks_1 (by decide) rfl ?_
  refine am_iconst dX12_looks_2 (by unfold am_rg; omega) ?_
  refine am_istore_n (ls' := [(2, .inl 0), (1, .inl 0), (0, .inr (.inr (some (9, 0))))]) dX12_looks_3 (by decide) rfl ?_
  refine am_iconst dX12_looks_4 (by unfold am_rg; omega) ?_
  refine am_istore_n (ls' := [(3, .inl 0), (2, .inl 0), (1, .inl 0), (0, .inr (.inr (some (9, 0))))]) dX12_looks_5 (by decide) rfl ?_
  refine am_iconst dX12_looks_6 (by unfold am_rg; omega) ?_
  refine am_istore (ls' := [(4, .inl 0), (3, .inl 0), (2, .inl 0), (1, .inl 0), (0, .inr (.inr (some (9, 0))))]) dX12_looks_7 (by decide) rfl ?_
  exact am_sub [4, 3, 2, 1, 0] rfl h
theorem bX12_looks_9 {SC : Nat → Nat} {X : mh_X} {d : Nat} {Q : Option am_V → am_W → Prop} {bc bs : Nat} {w : am_W} {x1 : Int} {x2 : Int} {x3 : Int} {x4 : Int}
    (h : (((w.1 9 0 91) ≤ x4 → ((x1 < (w.1 9 0 92) → am_A (mh_G X) SC (d + 2) mX12_looks Q 121 [(0, .inr (.inr (some (9, 0)))), (1, .inl x1), (2, .inl x2), (3, .inl x3)] [] w bc bs) ∧ (¬ x1 < (w.1 9 0 92) → ((¬ x1 = (w.1 9 0 92) → am_A (mh_G X) SC (d + 2) mX12_looks Q 125 [(0, .inr (.inr (some (9, 0)))), (1, .inl x1), (2, .inl x2), (3, .inl x3)] [] w bc bs) ∧ (x1 = (w.1 9 0 92) → ((x2 < (w.1 9 0 93) → am_A (mh_G X) SC (d + 2) mX12_looks Q 121 [(0, .inr (.inr (some (9, 0)))), (1, .inl x1), (2, .inl x2), (3, .inl x3)] [] w bc bs) ∧ (¬ x2 < (w.1 9 0 93) → ((¬ x2 = (w.1 9 0 93) → am_A (mh_G X) SC (d + 2) mX12_looks Q 125 [(0, .inr (.inr (some (9, 0)))), (1, .inl x1), (2, .inl x2), (3, .inl x3)] [] w bc bs) ∧ (x2 = (w.1 9 0 93) → (((w.1 9 0 94) ≤ x3 → am_A (mh_G X) SC (d + 2) mX12_looks Q 125 [(0, .inr (.inr (some (9, 0)))), (1, .inl x1), (2, .inl x2), (3, .inl x3)] [] w bc bs) ∧ (¬ (w.1 9 0 94) ≤ x3 → am_A (mh_G X) SC (d + 2) mX12_looks Q 121 [(0, .inr (.inr (some (9, 0)))), (1, .inl x1), (2, .inl x2), (3, .inl x3)] [] w bc bs))))))))))) ∧ (¬ (w.1 9 0 91) ≤ x4 → (0 ≤ x4 ∧ (x4 < 5 ∧ ((¬ (w.1 135 0 x4.toNat) = 4 → am_A (mh_G X) SC (d + 2) mX12_looks Q 35 [(0, .inr (.inr (some (9, 0)))), (2, .inl x2), (3, .inl x3), (4, .inl x4)] [.inl 0, .inl x1] w bc bs) ∧ ((w.1 135 0 x4.toNat) = 4 → am_A (mh_G X) SC (d + 2) mX12_looks Q 35 [(0, .inr (.inr (some (9, 0)))), (2, .inl x2), (3, .inl x3), (4, .inl x4)] [.inl 1, .inl x1] w bc bs))))))) :
    am_A (mh_G X) SC (d + 2) mX12_looks Q 9 [(0, .inr (.inr (some (9, 0)))), (1, .inl x1), (2, .inl x2), (3, .inl x3), (4, .inl x4)] [] w bc bs := by
  refine am_iload dX12_looks_9 (List.Mem.tail _ (List.Mem.tail _ (List.Mem.tail _ (List.Mem.tail _ (List.Mem.head _))))) ?_
  refine am_aload_n dX12_looks_11 (List.Mem.head _) ?_
  refine am_getf (f := 91) (v := .inl (w.1 9 0 91)) dX12_looks_12 hc_10 (by decide) wd_1640 (by decide) rfl rfl ?_
  refine am_icmpge (tgt := 81) dX12_looks_15 (by decide) (fun c1 => ?_) (fun c1 => ?_)
  · replace h := h.1 c1
    refine am_iload_n dX12_looks_81 (List.Mem.tail _ (List.Mem.head _)) ?_
    refine am_aload_n dX12_looks_82 (List.Mem.head _) ?_
    refine am_getf (f := 92) (v := .inl (w.1 9 0 92)) dX12_looks_83 hc_10 (by decide) wd_1641 (by decide) rfl rfl ?_
    refine am_icmplt (tgt := 121) dX12_looks_86 (by decide) (fun c2 => ?_) (fun c2 => ?_)
    · replace h := h.1 c2
      exact am_sub [0, 1, 2, 3] rfl h
    · replace h := h.2 c2
      refine am_iload_n dX12_looks_89 (List.Mem.tail _ (List.Mem.head _)) ?_
      refine am_aload_n dX12_looks_90 (List.Mem.head _) ?_
      refine am_getf (f := 92) (v := .inl (w.1 9 0 92)) dX12_looks_91 hc_10 (by decide) wd_1641 (by decide) rfl rfl ?_
      refine am_icmpne (tgt := 125) dX12_looks_94 (by decide) (fun c3 => ?_) (fun c3 => ?_)
      · replace h := h.1 c3
        exact am_sub [0, 1, 2, 3] rfl h
      · replace h := h.2 c3
        refine am_iload_n dX12_looks_97 (List.Mem.tail _ (List.Mem.tail _ (List.Mem.head _))) ?_
        refine am_aload_n dX12_looks_98 (List.Mem.head _) ?_
        refine am_getf (f := 93) (v := .inl (w.1 9 0 93)) dX12_looks_99 hc_10 (by decide) wd_1642 (by decide) rfl rfl ?_
        refine am_icmplt (tgt := 121) dX12_looks_102 (by decide) (fun c4 => ?_) (fun c4 => ?_)
        · replace h := h.1 c4
          exact am_sub [0, 1, 2, 3] rfl h
        · replace h := h.2 c4
          refine am_iload_n dX12_looks_105 (List.Mem.tail _ (List.Mem.tail _ (List.Mem.head _))) ?_
          refine am_aload_n dX12_looks_106 (List.Mem.head _) ?_
          refine am_getf (f := 93) (v := .inl (w.1 9 0 93)) dX12_looks_107 hc_10 (by decide) wd_1642 (by decide) rfl rfl ?_
          refine am_icmpne (tgt := 125) dX12_looks_110 (by decide) (fun c5 => ?_) (fun c5 => ?_)
          · replace h := h.1 c5
            exact am_sub [0, 1, 2, 3] rfl h
          · replace h := h.2 c5
            refine am_iload_n dX12_looks_113 (List.Mem.tail _ (List.Mem.tail _ (List.Mem.tail _ (List.Mem.head _)))) ?_
            refine am_aload_n dX12_looks_114 (List.Mem.head _) ?_
            refine am_getf (f := 94) (v := .inl (w.1 9 0 94)) dX12_looks_115 hc_10 (by decide) wd_1643 (by decide) rfl rfl ?_
            refine am_icmpge (tgt := 125) dX12_looks_118 (by decide) (fun c6 => ?_) (fun c6 => ?_)
            · replace h := h.1 c6
              exact am_sub [0, 1, 2, 3] rfl h
            · replace h := h.2 c6
              exact am_sub [0, 1, 2, 3] rfl h
  · replace h := h.2 c1
    refine am_iload_n dX12_looks_18 (List.Mem.tail _ (List.Mem.head _)) ?_
    refine am_aload_n dX12_looks_19 (List.Mem.head _) ?_
    refine am_getf (f := 84) (v := .inr (.inr (some (135, 0)))) dX12_looks_20 hc_10 (by decide) wd_1633 (by decide) rfl rfl ?_
    refine am_iload dX12_looks_23 (List.Mem.tail _ (List.Mem.tail _ (List.Mem.tail _ (List.Mem.tail _ (List.Mem.head _))))) ?_
    have o7 := h.1
    replace h := h.2
    have o8 := h.1
    replace h := h.2
    refine am_iaload (v := (w.1 135 0 x4.toNat)) dX12_looks_25 (by decide) rfl o7 o8 rfl ?_
    refine am_iconst dX12_looks_26 (by unfold am_rg; omega) ?_
    refine am_icmpne (tgt := 34) dX12_looks_27 (by decide) (fun c9 => ?_) (fun c9 => ?_)
    · replace h := h.1 c9
      refine am_iconst dX12_looks_34 (by unfold am_rg; omega) ?_
      exact am_sub [0, 2, 3, 4] rfl h
    · replace h := h.2 c9
      refine am_iconst dX12_looks_30 (by unfold am_rg; omega) ?_
      refine am_goto (tgt := 35) dX12_looks_31 (by decide) ?_
      exact am_sub [0, 2, 3, 4] rfl h
theorem bX12_looks_121 {SC : Nat → Nat} {X : mh_X} {d : Nat} {Q : Option am_V → am_W → Prop} {bc bs : Nat} {w : am_W} {x1 : Int} {x2 : Int} {x3 : Int}
    (h : am_A (mh_G X) SC (d + 2) mX12_looks Q 126 [(0, .inr (.inr (some (9, 0)))), (1, .inl x1), (2, .inl x2), (3, .inl x3)] [.inl 1] w bc bs) :
    am_A (mh_G X) SC (d + 2) mX12_looks Q 121 [(0, .inr (.inr (some (9, 0)))), (1, .inl x1), (2, .inl x2), (3, .inl x3)] [] w bc bs := by
  refine am_iconst dX12_looks_121 (by unfold am_rg; omega) ?_
  refine am_goto (tgt := 126) dX12_looks_122 (by decide) ?_
  exact h
theorem bX12_looks_125 {SC : Nat → Nat} {X : mh_X} {d : Nat} {Q : Option am_V → am_W → Prop} {bc bs : Nat} {w : am_W} {x1 : Int} {x2 : Int} {x3 : Int}
    (h : am_A (mh_G X) SC (d + 2) mX12_looks Q 126 [(0, .inr (.inr (some (9, 0)))), (1, .inl x1), (2, .inl x2), (3, .inl x3)] [.inl 0] w bc bs) :
    am_A (mh_G X) SC (d + 2) mX12_looks Q 125 [(0, .inr (.inr (some (9, 0)))), (1, .inl x1), (2, .inl x2), (3, .inl x3)] [] w bc bs := by
  refine am_iconst dX12_looks_125 (by unfold am_rg; omega) ?_
  exact h
theorem bX12_looks_35 {SC : Nat → Nat} {X : mh_X} {d : Nat} {Q : Option am_V → am_W → Prop} {bc bs : Nat} {w : am_W} {x2 : Int} {x3 : Int} {x4 : Int} {xs0 : Int} {xs1 : Int}
    (h : (0 ≤ x4 ∧ (x4 < 5 ∧ ((¬ (w.1 135 0 x4.toNat) = 3 → am_A (mh_G X) SC (d + 2) mX12_looks Q 54 [(0, .inr (.inr (some (9, 0)))), (1, .inl (am_w (xs1 + xs0))), (3, .inl x3), (4, .inl x4)] [.inl 0, .inl x2] w bc bs) ∧ ((w.1 135 0 x4.toNat) = 3 → am_A (mh_G X) SC (d + 2) mX12_looks Q 54 [(0, .inr (.inr (some (9, 0)))), (1, .inl (am_w (xs1 + xs0))), (3, .inl x3), (4, .inl x4)] [.inl 1, .inl x2] w bc bs))))) :
    am_A (mh_G X) SC (d + 2) mX12_looks Q 35 [(0, .inr (.inr (some (9, 0)))), (2, .inl x2), (3, .inl x3), (4, .inl x4)] [.inl xs0, .inl xs1] w bc bs := by
  refine am_iadd dX12_looks_35 ?_
  refine am_istore_n (ls' := [(1, .inl (am_w (xs1 + xs0))), (0, .inr (.inr (some (9, 0)))), (2, .inl x2), (3, .inl x3), (4, .inl x4)]) dX12_looks_36 (by decide) rfl ?_
  refine am_iload_n dX12_looks_37 (List.Mem.tail _ (List.Mem.tail _ (List.Mem.head _))) ?_
  refine am_aload_n dX12_looks_38 (List.Mem.tail _ (List.Mem.head _)) ?_
  refine am_getf (f := 84) (v := .inr (.inr (some (135, 0)))) dX12_looks_39 hc_10 (by decide) wd_1633 (by decide) rfl rfl ?_
  refine am_iload dX12_looks_42 (List.Mem.tail _ (List.Mem.tail _ (List.Mem.tail _ (List.Mem.tail _ (List.Mem.head _))))) ?_
  have o1 := h.1
  replace h := h.2
  have o2 := h.1
  replace h := h.2
  refine am_iaload (v := (w.1 135 0 x4.toNat)) dX12_looks_44 (by decide) rfl o1 o2 rfl ?_
  refine am_iconst dX12_looks_45 (by unfold am_rg; omega) ?_
  refine am_icmpne (tgt := 53) dX12_looks_46 (by decide) (fun c3 => ?_) (fun c3 => ?_)
  · replace h := h.1 c3
    refine am_iconst dX12_looks_53 (by unfold am_rg; omega) ?_
    exact am_sub [1, 0, 3, 4] rfl h
  · replace h := h.2 c3
    refine am_iconst dX12_looks_49 (by unfold am_rg; omega) ?_
    refine am_goto (tgt := 54) dX12_looks_50 (by decide) ?_
    exact am_sub [1, 0, 3, 4] rfl h
theorem bX12_looks_126 {SC : Nat → Nat} {X : mh_X} {d : Nat} {Q : Option am_V → am_W → Prop} {bc bs : Nat} {w : am_W} {x1 : Int} {x2 : Int} {x3 : Int} {xs0 : Int}
    (h : ((xs0 = 0 → Q none w) ∧ (¬ xs0 = 0 → am_M (mh_G X) SC (d + 1) 0 0 mX12_isInTime [.inr (.inr (some (9, 0)))] w (fun r w1 => am_A (mh_G X) SC (d + 2) mX12_looks Q 137 [(4, .inl xs0), (0, .inr (.inr (some (9, 0)))), (1, .inl x1), (2, .inl x2), (3, .inl x3)] (r.toList ++ []) w1 bc bs)))) :
    am_A (mh_G X) SC (d + 2) mX12_looks Q 126 [(0, .inr (.inr (some (9, 0)))), (1, .inl x1), (2, .inl x2), (3, .inl x3)] [.inl xs0] w bc bs := by
  refine am_istore (ls' := [(4, .inl xs0), (0, .inr (.inr (some (9, 0)))), (1, .inl x1), (2, .inl x2), (3, .inl x3)]) dX12_looks_126 (by decide) rfl ?_
  refine am_iload dX12_looks_128 (List.Mem.head _) ?_
  refine am_ifeq (tgt := 140) dX12_looks_130 (by decide) (fun c1 => ?_) (fun c1 => ?_)
  · replace h := h.1 c1
    exact am_ret (r := none) dX12_looks_140 rfl rfl h
  · replace h := h.2 c1
    refine am_aload_n dX12_looks_133 (List.Mem.tail _ (List.Mem.head _)) ?_
    exact am_callv (d' := d + 1) (kc := 0) (ks := 0) (as := []) dX12_looks_134 wc_X12_isInTime wd_2230 wd_2232 wd_103 wd_122 ds_X12_isInTime (by decide) (by omega) (Nat.le_of_ble_eq_true rfl) (Nat.zero_le _) (Nat.zero_le _) hc_10 (by decide) rfl rfl h
theorem bX12_looks_54 {SC : Nat → Nat} {X : mh_X} {d : Nat} {Q : Option am_V → am_W → Prop} {bc bs : Nat} {w : am_W} {x1 : Int} {x3 : Int} {x4 : Int} {xs0 : Int} {xs1 : Int}
    (h : (0 ≤ x4 ∧ (x4 < 5 ∧ ((¬ (w.1 135 0 x4.toNat) = 2 → am_A (mh_G X) SC (d + 2) mX12_looks Q 73 [(0, .inr (.inr (some (9, 0)))), (1, .inl x1), (2, .inl (am_w (xs1 + xs0))), (4, .inl x4)] [.inl 0, .inl x3] w bc bs) ∧ ((w.1 135 0 x4.toNat) = 2 → am_A (mh_G X) SC (d + 2) mX12_looks Q 73 [(0, .inr (.inr (some (9, 0)))), (1, .inl x1), (2, .inl (am_w (xs1 + xs0))), (4, .inl x4)] [.inl 1, .inl x3] w bc bs))))) :
    am_A (mh_G X) SC (d + 2) mX12_looks Q 54 [(0, .inr (.inr (some (9, 0)))), (1, .inl x1), (3, .inl x3), (4, .inl x4)] [.inl xs0, .inl xs1] w bc bs := by
  refine am_iadd dX12_looks_54 ?_
  refine am_istore_n (ls' := [(2, .inl (am_w (xs1 + xs0))), (0, .inr (.inr (some (9, 0)))), (1, .inl x1), (3, .inl x3), (4, .inl x4)]) dX12_looks_55 (by decide) rfl ?_
  refine am_iload_n dX12_looks_56 (List.Mem.tail _ (List.Mem.tail _ (List.Mem.tail _ (List.Mem.head _)))) ?_
  refine am_aload_n dX12_looks_57 (List.Mem.tail _ (List.Mem.head _)) ?_
  refine am_getf (f := 84) (v := .inr (.inr (some (135, 0)))) dX12_looks_58 hc_10 (by decide) wd_1633 (by decide) rfl rfl ?_
  refine am_iload dX12_looks_61 (List.Mem.tail _ (List.Mem.tail _ (List.Mem.tail _ (List.Mem.tail _ (List.Mem.head _))))) ?_
  have o1 := h.1
  replace h := h.2
  have o2 := h.1
  replace h := h.2
  refine am_iaload (v := (w.1 135 0 x4.toNat)) dX12_looks_63 (by decide) rfl o1 o2 rfl ?_
  refine am_iconst dX12_looks_64 (by unfold am_rg; omega) ?_
  refine am_icmpne (tgt := 72) dX12_looks_65 (by decide) (fun c3 => ?_) (fun c3 => ?_)
  · replace h := h.1 c3
    refine am_iconst dX12_looks_72 (by unfold am_rg; omega) ?_
    exact am_sub [1, 2, 0, 4] rfl h
  · replace h := h.2 c3
    refine am_iconst dX12_looks_68 (by unfold am_rg; omega) ?_
    refine am_goto (tgt := 73) dX12_looks_69 (by decide) ?_
    exact am_sub [1, 2, 0, 4] rfl h
theorem bX12_looks_137 {SC : Nat → Nat} {X : mh_X} {d : Nat} {Q : Option am_V → am_W → Prop} {bc bs : Nat} {w : am_W} {x4 : Int} {x1 : Int} {x2 : Int} {x3 : Int} {xs0 : Int}
    (h : ((¬ xs0 = 0 → am_A (mh_G X) SC (d + 2) mX12_looks Q 159 [(0, .inr (.inr (some (9, 0)))), (5, .inl 0)] [] ((am_up (am_up (am_up w.1 9 0 92 x1) 9 0 93 x2) 9 0 94 x3), w.2) bc bs) ∧ (xs0 = 0 → Q none w))) :
    am_A (mh_G X) SC (d + 2) mX12_looks Q 137 [(4, .inl x4), (0, .inr (.inr (some (9, 0)))), (1, .inl x1), (2, .inl x2), (3, .inl x3)] [.inl xs0] w bc bs := by
  refine am_ifne (tgt := 141) dX12_looks_137 (by decide) (fun c1 => ?_) (fun c1 => ?_)
  · replace h := h.1 c1
    refine am_aload_n dX12_looks_141 (List.Mem.tail _ (List.Mem.head _)) ?_
    refine am_iload_n dX12_looks_142 (List.Mem.tail _ (List.Mem.tail _ (List.Mem.head _))) ?_
    refine am_putf (f := 92) dX12_looks_143 hc_10 (by decide) wd_1641 rfl (Or.inl rfl) (Or.inl (by decide)) rfl ?_
    refine am_aload_n dX12_looks_146 (List.Mem.tail _ (List.Mem.head _)) ?_
    refine am_iload_n dX12_looks_147 (List.Mem.tail _ (List.Mem.tail _ (List.Mem.tail _ (List.Mem.head _)))) ?_
    refine am_putf (f := 93) dX12_looks_148 hc_10 (by decide) wd_1642 rfl (Or.inl rfl) (Or.inl (by decide)) rfl ?_
    refine am_aload_n dX12_looks_151 (List.Mem.tail _ (List.Mem.head _)) ?_
    refine am_iload_n dX12_looks_152 (List.Mem.tail _ (List.Mem.tail _ (List.Mem.tail _ (List.Mem.tail _ (List.Mem.head _))))) ?_
    refine am_putf (f := 94) dX12_looks_153 hc_10 (by decide) wd_1643 rfl (Or.inl rfl) (Or.inl (by decide)) rfl ?_
    refine am_iconst dX12_looks_156 (by unfold am_rg; omega) ?_
    refine am_istore (ls' := [(5, .inl 0), (4, .inl x4), (0, .inr (.inr (some (9, 0)))), (1, .inl x1), (2, .inl x2), (3, .inl x3)]) dX12_looks_157 (by decide) rfl ?_
    exact am_sub [2, 0] rfl h
  · replace h := h.2 c1
    exact am_ret (r := none) dX12_looks_140 rfl rfl h
theorem bX12_looks_73 {SC : Nat → Nat} {X : mh_X} {d : Nat} {Q : Option am_V → am_W → Prop} {bc bs : Nat} {w : am_W} {x1 : Int} {x2 : Int} {x4 : Int} {xs0 : Int} {xs1 : Int}
    (h : am_A (mh_G X) SC (d + 2) mX12_looks Q 9 [(0, .inr (.inr (some (9, 0)))), (1, .inl x1), (2, .inl x2), (3, .inl (am_w (xs1 + xs0))), (4, .inl (am_w (x4 + 1)))] [] w bc bs) :
    am_A (mh_G X) SC (d + 2) mX12_looks Q 73 [(0, .inr (.inr (some (9, 0)))), (1, .inl x1), (2, .inl x2), (4, .inl x4)] [.inl xs0, .inl xs1] w bc bs := by
  refine am_iadd dX12_looks_73 ?_
  refine am_istore_n (ls' := [(3, .inl (am_w (xs1 + xs0))), (0, .inr (.inr (some (9, 0)))), (1, .inl x1), (2, .inl x2), (4, .inl x4)]) dX12_looks_74 (by decide) rfl ?_
  refine am_iinc (ls' := [(4, .inl (am_w (x4 + 1))), (3, .inl (am_w (xs1 + xs0))), (0, .inr (.inr (some (9, 0)))), (1, .inl x1), (2, .inl x2)]) dX12_looks_75 (List.Mem.tail _ (List.Mem.tail _ (List.Mem.tail _ (List.Mem.tail _ (List.Mem.head _))))) (by decide) rfl ?_
  refine am_goto (tgt := 9) dX12_looks_78 (by decide) ?_
  exact am_sub [2, 3, 4, 1, 0] rfl h
theorem bX12_looks_159 {SC : Nat → Nat} {X : mh_X} {d : Nat} {Q : Option am_V → am_W → Prop} {bc bs : Nat} {w : am_W} {x5 : Int}
    (h : (((w.1 9 0 91) ≤ x5 → Q none w) ∧ (¬ (w.1 9 0 91) ≤ x5 → (0 ≤ x5 ∧ (x5 < 5 ∧ am_A (mh_G X) SC (d + 2) mX12_looks Q 159 [(0, .inr (.inr (some (9, 0)))), (5, .inl (am_w (x5 + 1)))] [] ((am_up (am_up w.1 137 0 x5.toNat (w.1 135 0 x5.toNat)) 138 0 x5.toNat (w.1 136 0 x5.toNat)), w.2) bc bs))))) :
    am_A (mh_G X) SC (d + 2) mX12_looks Q 159 [(0, .inr (.inr (some (9, 0)))), (5, .inl x5)] [] w bc bs := by
  refine am_iload dX12_looks_159 (List.Mem.tail _ (List.Mem.head _)) ?_
  refine am_aload_n dX12_looks_161 (List.Mem.head _) ?_
  refine am_getf (f := 91) (v := .inl (w.1 9 0 91)) dX12_looks_162 hc_10 (by decide) wd_1640 (by decide) rfl rfl ?_
  refine am_icmpge (tgt := 202) dX12_looks_165 (by decide) (fun c1 => ?_) (fun c1 => ?_)
  · replace h := h.1 c1
    exact am_ret (r := none) dX12_looks_202 rfl rfl h
  · replace h := h.2 c1
    refine am_aload_n dX12_looks_168 (List.Mem.head _) ?_
    refine am_getf (f := 86) (v := .inr (.inr (some (137, 0)))) dX12_looks_169 hc_10 (by decide) wd_1635 (by decide) rfl rfl ?_
    refine am_iload dX12_looks_172 (List.Mem.tail _ (List.Mem.head _)) ?_
    refine am_aload_n dX12_looks_174 (List.Mem.head _) ?_
    refine am_getf (f := 84) (v := .inr (.inr (some (135, 0)))) dX12_looks_175 hc_10 (by decide) wd_1633 (by decide) rfl rfl ?_
    refine am_iload dX12_looks_178 (List.Mem.tail _ (List.Mem.head _)) ?_
    have o2 := h.1
    replace h := h.2
    have o3 := h.1
    replace h := h.2
    refine am_iaload (v := (w.1 135 0 x5.toNat)) dX12_looks_180 (by decide) rfl o2 o3 rfl ?_
    refine am_iastore dX12_looks_181 (Or.inl (by decide)) rfl o2 o3 ?_
    refine am_aload_n dX12_looks_182 (List.Mem.head _) ?_
    refine am_getf (f := 87) (v := .inr (.inr (some (138, 0)))) dX12_looks_183 hc_10 (by decide) wd_1636 (by decide) rfl rfl ?_
    refine am_iload dX12_looks_186 (List.Mem.tail _ (List.Mem.head _)) ?_
    refine am_aload_n dX12_looks_188 (List.Mem.head _) ?_
    refine am_getf (f := 85) (v := .inr (.inr (some (136, 0)))) dX12_looks_189 hc_10 (by decide) wd_1634 (by decide) rfl rfl ?_
    refine am_iload dX12_looks_192 (List.Mem.tail _ (List.Mem.head _)) ?_
    refine am_iaload (v := (w.1 136 0 x5.toNat)) dX12_looks_194 (by decide) rfl o2 o3 rfl ?_
    refine am_iastore dX12_looks_195 (Or.inl (by decide)) rfl o2 o3 ?_
    refine am_iinc (ls' := [(5, .inl (am_w (x5 + 1))), (0, .inr (.inr (some (9, 0))))]) dX12_looks_196 (List.Mem.tail _ (List.Mem.head _)) (by decide) rfl ?_
    refine am_goto (tgt := 159) dX12_looks_199 (by decide) ?_
    exact am_sub [1, 0] rfl h
-- MourningHouseModel.least(II)I
theorem dX12_least_0 : decode mX12_least.2.1 0 = .ok (.iconst 0, 1) := by decide +kernel
theorem dX12_least_1 : decode mX12_least.2.1 1 = .ok (.istore_n 3, 1) := by decide +kernel
theorem dX12_least_2 : decode mX12_least.2.1 2 = .ok (.iload_n 3, 1) := by decide +kernel
theorem dX12_least_3 : decode mX12_least.2.1 3 = .ok (.aload_n 0, 1) := by decide +kernel
theorem dX12_least_4 : decode mX12_least.2.1 4 = .ok (.getfield 582, 3) := by decide +kernel
theorem dX12_least_7 : decode mX12_least.2.1 7 = .ok (.if_icmp .ge 48, 3) := by decide +kernel
theorem dX12_least_10 : decode mX12_least.2.1 10 = .ok (.aload_n 0, 1) := by decide +kernel
theorem dX12_least_11 : decode mX12_least.2.1 11 = .ok (.getfield 276, 3) := by decide +kernel
theorem dX12_least_14 : decode mX12_least.2.1 14 = .ok (.iload_n 3, 1) := by decide +kernel
theorem dX12_least_15 : decode mX12_least.2.1 15 = .ok (.baload, 1) := by decide +kernel
theorem dX12_least_16 : decode mX12_least.2.1 16 = .ok (.ifCond .ne 33, 3) := by decide +kernel
theorem dX12_least_19 : decode mX12_least.2.1 19 = .ok (.aload_n 0, 1) := by decide +kernel
theorem dX12_least_20 : decode mX12_least.2.1 20 = .ok (.iload_n 3, 1) := by decide +kernel
theorem dX12_least_21 : decode mX12_least.2.1 21 = .ok (.invokevirtual 591, 3) := by decide +kernel
theorem dX12_least_24 : decode mX12_least.2.1 24 = .ok (.ifCond .ne 25, 3) := by decide +kernel
theorem dX12_least_27 : decode mX12_least.2.1 27 = .ok (.aload_n 0, 1) := by decide +kernel
theorem dX12_least_28 : decode mX12_least.2.1 28 = .ok (.getfield 237, 3) := by decide +kernel
theorem dX12_least_31 : decode mX12_least.2.1 31 = .ok (.iload_n 3, 1) := by decide +kernel
theorem dX12_least_32 : decode mX12_least.2.1 32 = .ok (.iaload, 1) := by decide +kernel
theorem dX12_least_33 : decode mX12_least.2.1 33 = .ok (.iload_n 1, 1) := by decide +kernel
theorem dX12_least_34 : decode mX12_least.2.1 34 = .ok (.if_icmp .ne 15, 3) := by decide +kernel
theorem dX12_least_37 : decode mX12_least.2.1 37 = .ok (.aload_n 0, 1) := by decide +kernel
theorem dX12_least_38 : decode mX12_least.2.1 38 = .ok (.getfield 240, 3) := by decide +kernel
theorem dX12_least_41 : decode mX12_least.2.1 41 = .ok (.iload_n 3, 1) := by decide +kernel
theorem dX12_least_42 : decode mX12_least.2.1 42 = .ok (.iaload, 1) := by decide +kernel
theorem dX12_least_43 : decode mX12_least.2.1 43 = .ok (.iload_n 2, 1) := by decide +kernel
theorem dX12_least_44 : decode mX12_least.2.1 44 = .ok (.if_icmp .ne 5, 3) := by decide +kernel
theorem dX12_least_47 : decode mX12_least.2.1 47 = .ok (.iload_n 3, 1) := by decide +kernel
theorem dX12_least_48 : decode mX12_least.2.1 48 = .ok (.ireturn, 1) := by decide +kernel
theorem dX12_least_49 : decode mX12_least.2.1 49 = .ok (.iinc 3 1, 3) := by decide +kernel
theorem dX12_least_52 : decode mX12_least.2.1 52 = .ok (.goto (-50), 3) := by decide +kernel
theorem dX12_least_55 : decode mX12_least.2.1 55 = .ok (.iconst (-1), 1) := by decide +kernel
theorem dX12_least_56 : decode mX12_least.2.1 56 = .ok (.ireturn, 1) := by decide +kernel
theorem bX12_least_0 {SC : Nat → Nat} {X : mh_X} {d : Nat} {Q : Option am_V → am_W → Prop} {bc bs : Nat} {w : am_W} {x1 : Int} {x2 : Int}
    (h : am_A (mh_G X) SC (d + 2) mX12_least Q 2 [(0, .inr (.inr (some (9, 0)))), (1, .inl x1), (2, .inl x2), (3, .inl 0)] [] w bc bs) :
    am_A (mh_G X) SC (d + 2) mX12_least Q 0 [(0, .inr (.inr (some (9, 0)))), (1, .inl x1), (2, .inl x2)] [] w bc bs := by
  refine am_iconst dX12_least_0 (by unfold am_rg; omega) ?_
  refine am_istore_n (ls' := [(3, .inl 0), (0, .inr (.inr (some (9, 0)))), (1, .inl x1), (2, .inl x2)]) dX12_least_1 (by decide) rfl ?_
  exact am_sub [1, 2, 3, 0] rfl h
theorem bX12_least_2 {SC : Nat → Nat} {X : mh_X} {d : Nat} {Q : Option am_V → am_W → Prop} {bc bs : Nat} {w : am_W} {x1 : Int} {x2 : Int} {x3 : Int}
    (h : (((w.1 9 0 75) ≤ x3 → Q (some (.inl (-1))) w) ∧ (¬ (w.1 9 0 75) ≤ x3 → (0 ≤ x3 ∧ (x3 < 40 ∧ ((¬ (w.1 139 0 x3.toNat) = 0 → am_A (mh_G X) SC (d + 2) mX12_least Q 49 [(0, .inr (.inr (some (9, 0)))), (1, .inl x1), (2, .inl x2), (3, .inl x3)] [] w bc bs) ∧ ((w.1 139 0 x3.toNat) = 0 → am_M (mh_G X) SC (d + 1) 0 0 mX12_hasTask [.inr (.inr (some (9, 0))), .inl x3] w (fun r w1 => am_A (mh_G X) SC (d + 2) mX12_least Q 24 [(0, .inr (.inr (some (9, 0)))), (1, .inl x1), (2, .inl x2), (3, .inl x3)] (r.toList ++ []) w1 bc bs)))))))) :
    am_A (mh_G X) SC (d + 2) mX12_least Q 2 [(0, .inr (.inr (some (9, 0)))), (1, .inl x1), (2, .inl x2), (3, .inl x3)] [] w bc bs := by
  refine am_iload_n dX12_least_2 (List.Mem.tail _ (List.Mem.tail _ (List.Mem.tail _ (List.Mem.head _)))) ?_
  refine am_aload_n dX12_least_3 (List.Mem.head _) ?_
  refine am_getf (f := 75) (v := .inl (w.1 9 0 75)) dX12_least_4 hc_10 (by decide) wd_1624 (by decide) rfl rfl ?_
  refine am_icmpge (tgt := 55) dX12_least_7 (by decide) (fun c1 => ?_) (fun c1 => ?_)
  · replace h := h.1 c1
    refine am_iconst dX12_least_55 (by unfold am_rg; omega) ?_
    exact am_ret (r := some (.inl (-1))) dX12_least_56 (Or.inl rfl) rfl h
  · replace h := h.2 c1
    refine am_aload_n dX12_least_10 (List.Mem.head _) ?_
    refine am_getf (f := 88) (v := .inr (.inr (some (139, 0)))) dX12_least_11 hc_10 (by decide) wd_1637 (by decide) rfl rfl ?_
    refine am_iload_n dX12_least_14 (List.Mem.tail _ (List.Mem.tail _ (List.Mem.tail _ (List.Mem.head _)))) ?_
    have o2 := h.1
    replace h := h.2
    have o3 := h.1
    replace h := h.2
    refine am_zaload (v := (w.1 139 0 x3.toNat)) dX12_least_15 (by decide) rfl o2 o3 rfl ?_
    refine am_ifne (tgt := 49) dX12_least_16 (by decide) (fun c4 => ?_) (fun c4 => ?_)
    · replace h := h.1 c4
      exact h
    · replace h := h.2 c4
      refine am_aload_n dX12_least_19 (List.Mem.head _) ?_
      refine am_iload_n dX12_least_20 (List.Mem.tail _ (List.Mem.tail _ (List.Mem.tail _ (List.Mem.head _)))) ?_
      exact am_callv (d' := d + 1) (kc := 0) (ks := 0) (as := [.inl x3]) dX12_least_21 wc_X12_hasTask wd_2202 wd_2204 wd_98 wd_122 ds_X12_hasTask (by decide) (by omega) (Nat.le_of_ble_eq_true rfl) (Nat.zero_le _) (Nat.zero_le _) hc_10 (by decide) rfl rfl h
theorem bX12_least_49 {SC : Nat → Nat} {X : mh_X} {d : Nat} {Q : Option am_V → am_W → Prop} {bc bs : Nat} {w : am_W} {x1 : Int} {x2 : Int} {x3 : Int}
    (h : am_A (mh_G X) SC (d + 2) mX12_least Q 2 [(0, .inr (.inr (some (9, 0)))), (1, .inl x1), (2, .inl x2), (3, .inl (am_w (x3 + 1)))] [] w bc bs) :
    am_A (mh_G X) SC (d + 2) mX12_least Q 49 [(0, .inr (.inr (some (9, 0)))), (1, .inl x1), (2, .inl x2), (3, .inl x3)] [] w bc bs := by
  refine am_iinc (ls' := [(3, .inl (am_w (x3 + 1))), (0, .inr (.inr (some (9, 0)))), (1, .inl x1), (2, .inl x2)]) dX12_least_49 (List.Mem.tail _ (List.Mem.tail _ (List.Mem.tail _ (List.Mem.head _)))) (by decide) rfl ?_
  refine am_goto (tgt := 2) dX12_least_52 (by decide) ?_
  exact am_sub [1, 2, 3, 0] rfl h
theorem bX12_least_24 {SC : Nat → Nat} {X : mh_X} {d : Nat} {Q : Option am_V → am_W → Prop} {bc bs : Nat} {w : am_W} {x1 : Int} {x2 : Int} {x3 : Int} {xs0 : Int}
    (h : ((¬ xs0 = 0 → am_A (mh_G X) SC (d + 2) mX12_least Q 49 [(0, .inr (.inr (some (9, 0)))), (1, .inl x1), (2, .inl x2), (3, .inl x3)] [] w bc bs) ∧ (xs0 = 0 → (0 ≤ x3 ∧ (x3 < 40 ∧ ((¬ (w.1 126 0 x3.toNat) = x1 → am_A (mh_G X) SC (d + 2) mX12_least Q 49 [(0, .inr (.inr (some (9, 0)))), (1, .inl x1), (2, .inl x2), (3, .inl x3)] [] w bc bs) ∧ ((w.1 126 0 x3.toNat) = x1 → ((¬ (w.1 127 0 x3.toNat) = x2 → am_A (mh_G X) SC (d + 2) mX12_least Q 49 [(0, .inr (.inr (some (9, 0)))), (1, .inl x1), (2, .inl x2), (3, .inl x3)] [] w bc bs) ∧ ((w.1 127 0 x3.toNat) = x2 → Q (some (.inl x3)) w))))))))) :
    am_A (mh_G X) SC (d + 2) mX12_least Q 24 [(0, .inr (.inr (some (9, 0)))), (1, .inl x1), (2, .inl x2), (3, .inl x3)] [.inl xs0] w bc bs := by
  refine am_ifne (tgt := 49) dX12_least_24 (by decide) (fun c1 => ?_) (fun c1 => ?_)
  · replace h := h.1 c1
    exact h
  · replace h := h.2 c1
    refine am_aload_n dX12_least_27 (List.Mem.head _) ?_
    refine am_getf (f := 72) (v := .inr (.inr (some (126, 0)))) dX12_least_28 hc_10 (by decide) wd_1621 (by decide) rfl rfl ?_
    refine am_iload_n dX12_least_31 (List.Mem.tail _ (List.Mem.tail _ (List.Mem.tail _ (List.Mem.head _)))) ?_
    have o2 := h.1
    replace h := h.2
    have o3 := h.1
    replace h := h.2
    refine am_iaload (v := (w.1 126 0 x3.toNat)) dX12_least_32 (by decide) rfl o2 o3 rfl ?_
    refine am_iload_n dX12_least_33 (List.Mem.tail _ (List.Mem.head _)) ?_
    refine am_icmpne (tgt := 49) dX12_least_34 (by decide) (fun c4 => ?_) (fun c4 => ?_)
    · replace h := h.1 c4
      exact h
    · replace h := h.2 c4
      refine am_aload_n dX12_least_37 (List.Mem.head _) ?_
      refine am_getf (f := 73) (v := .inr (.inr (some (127, 0)))) dX12_least_38 hc_10 (by decide) wd_1622 (by decide) rfl rfl ?_
      refine am_iload_n dX12_least_41 (List.Mem.tail _ (List.Mem.tail _ (List.Mem.tail _ (List.Mem.head _)))) ?_
      refine am_iaload (v := (w.1 127 0 x3.toNat)) dX12_least_42 (by decide) rfl o2 o3 rfl ?_
      refine am_iload_n dX12_least_43 (List.Mem.tail _ (List.Mem.tail _ (List.Mem.head _))) ?_
      refine am_icmpne (tgt := 49) dX12_least_44 (by decide) (fun c5 => ?_) (fun c5 => ?_)
      · replace h := h.1 c5
        exact h
      · replace h := h.2 c5
        refine am_iload_n dX12_least_47 (List.Mem.tail _ (List.Mem.tail _ (List.Mem.tail _ (List.Mem.head _)))) ?_
        exact am_ret (r := some (.inl x3)) dX12_least_48 (Or.inl rfl) rfl h
-- MourningHouseModel.tries(I)V
theorem dX12_tries_0 : decode mX12_tries.2.1 0 = .ok (.iload_n 1, 1) := by decide +kernel
theorem dX12_tries_1 : decode mX12_tries.2.1 1 = .ok (.aload_n 0, 1) := by decide +kernel
theorem dX12_tries_2 : decode mX12_tries.2.1 2 = .ok (.getfield 600, 3) := by decide +kernel
theorem dX12_tries_5 : decode mX12_tries.2.1 5 = .ok (.if_icmp .ne 8, 3) := by decide +kernel
theorem dX12_tries_8 : decode mX12_tries.2.1 8 = .ok (.aload_n 0, 1) := by decide +kernel
theorem dX12_tries_9 : decode mX12_tries.2.1 9 = .ok (.invokevirtual 621, 3) := by decide +kernel
theorem dX12_tries_12 : decode mX12_tries.2.1 12 = .ok (.return_, 1) := by decide +kernel
theorem dX12_tries_13 : decode mX12_tries.2.1 13 = .ok (.aload_n 0, 1) := by decide +kernel
theorem dX12_tries_14 : decode mX12_tries.2.1 14 = .ok (.getfield 261, 3) := by decide +kernel
theorem dX12_tries_17 : decode mX12_tries.2.1 17 = .ok (.iload_n 1, 1) := by decide +kernel
theorem dX12_tries_18 : decode mX12_tries.2.1 18 = .ok (.iaload, 1) := by decide +kernel
theorem dX12_tries_19 : decode mX12_tries.2.1 19 = .ok (.ifCond .ne 11, 3) := by decide +kernel
theorem dX12_tries_22 : decode mX12_tries.2.1 22 = .ok (.aload_n 0, 1) := by decide +kernel
theorem dX12_tries_23 : decode mX12_tries.2.1 23 = .ok (.iload_n 1, 1) := by decide +kernel
theorem dX12_tries_24 : decode mX12_tries.2.1 24 = .ok (.iconst 0, 1) := by decide +kernel
theorem dX12_tries_25 : decode mX12_tries.2.1 25 = .ok (.iconst (-1), 1) := by decide +kernel
theorem dX12_tries_26 : decode mX12_tries.2.1 26 = .ok (.invokevirtual 624, 3) := by decide +kernel
theorem dX12_tries_29 : decode mX12_tries.2.1 29 = .ok (.return_, 1) := by decide +kernel
theorem dX12_tries_30 : decode mX12_tries.2.1 30 = .ok (.aload_n 0, 1) := by decide +kernel
theorem dX12_tries_31 : decode mX12_tries.2.1 31 = .ok (.getfield 154, 3) := by decide +kernel
theorem dX12_tries_34 : decode mX12_tries.2.1 34 = .ok (.aload_n 0, 1) := by decide +kernel
theorem dX12_tries_35 : decode mX12_tries.2.1 35 = .ok (.getfield 258, 3) := by decide +kernel
theorem dX12_tries_38 : decode mX12_tries.2.1 38 = .ok (.iload_n 1, 1) := by decide +kernel
theorem dX12_tries_39 : decode mX12_tries.2.1 39 = .ok (.iaload, 1) := by decide +kernel
theorem dX12_tries_40 : decode mX12_tries.2.1 40 = .ok (.iaload, 1) := by decide +kernel
theorem dX12_tries_41 : decode mX12_tries.2.1 41 = .ok (.istore_n 2, 1) := by decide +kernel
theorem dX12_tries_42 : decode mX12_tries.2.1 42 = .ok (.aload_n 0, 1) := by decide +kernel
theorem dX12_tries_43 : decode mX12_tries.2.1 43 = .ok (.iload_n 2, 1) := by decide +kernel
theorem dX12_tries_44 : decode mX12_tries.2.1 44 = .ok (.aload_n 0, 1) := by decide +kernel
theorem dX12_tries_45 : decode mX12_tries.2.1 45 = .ok (.getfield 261, 3) := by decide +kernel
theorem dX12_tries_48 : decode mX12_tries.2.1 48 = .ok (.iload_n 1, 1) := by decide +kernel
theorem dX12_tries_49 : decode mX12_tries.2.1 49 = .ok (.iaload, 1) := by decide +kernel
theorem dX12_tries_50 : decode mX12_tries.2.1 50 = .ok (.invokevirtual 628, 3) := by decide +kernel
theorem dX12_tries_53 : decode mX12_tries.2.1 53 = .ok (.iconst (-1), 1) := by decide +kernel
theorem dX12_tries_54 : decode mX12_tries.2.1 54 = .ok (.if_icmp .eq 20, 3) := by decide +kernel
theorem dX12_tries_57 : decode mX12_tries.2.1 57 = .ok (.aload_n 0, 1) := by decide +kernel
theorem dX12_tries_58 : decode mX12_tries.2.1 58 = .ok (.iload_n 1, 1) := by decide +kernel
theorem dX12_tries_59 : decode mX12_tries.2.1 59 = .ok (.iconst 1, 1) := by decide +kernel
theorem dX12_tries_60 : decode mX12_tries.2.1 60 = .ok (.aload_n 0, 1) := by decide +kernel
theorem dX12_tries_61 : decode mX12_tries.2.1 61 = .ok (.iload_n 2, 1) := by decide +kernel
theorem dX12_tries_62 : decode mX12_tries.2.1 62 = .ok (.aload_n 0, 1) := by decide +kernel
theorem dX12_tries_63 : decode mX12_tries.2.1 63 = .ok (.getfield 261, 3) := by decide +kernel
theorem dX12_tries_66 : decode mX12_tries.2.1 66 = .ok (.iload_n 1, 1) := by decide +kernel
theorem dX12_tries_67 : decode mX12_tries.2.1 67 = .ok (.iaload, 1) := by decide +kernel
theorem dX12_tries_68 : decode mX12_tries.2.1 68 = .ok (.invokevirtual 628, 3) := by decide +kernel
theorem dX12_tries_71 : decode mX12_tries.2.1 71 = .ok (.invokevirtual 624, 3) := by decide +kernel
theorem dX12_tries_74 : decode mX12_tries.2.1 74 = .ok (.aload_n 0, 1) := by decide +kernel
theorem dX12_tries_75 : decode mX12_tries.2.1 75 = .ok (.getfield 261, 3) := by decide +kernel
theorem dX12_tries_78 : decode mX12_tries.2.1 78 = .ok (.iload_n 1, 1) := by decide +kernel
theorem dX12_tries_79 : decode mX12_tries.2.1 79 = .ok (.iaload, 1) := by decide +kernel
theorem dX12_tries_80 : decode mX12_tries.2.1 80 = .ok (.iconst 1, 1) := by decide +kernel
theorem dX12_tries_81 : decode mX12_tries.2.1 81 = .ok (.isub, 1) := by decide +kernel
theorem dX12_tries_82 : decode mX12_tries.2.1 82 = .ok (.istore_n 3, 1) := by decide +kernel
theorem dX12_tries_83 : decode mX12_tries.2.1 83 = .ok (.iload_n 3, 1) := by decide +kernel
theorem dX12_tries_84 : decode mX12_tries.2.1 84 = .ok (.ifCond .lt 31, 3) := by decide +kernel
theorem dX12_tries_87 : decode mX12_tries.2.1 87 = .ok (.aload_n 0, 1) := by decide +kernel
theorem dX12_tries_88 : decode mX12_tries.2.1 88 = .ok (.iload_n 2, 1) := by decide +kernel
theorem dX12_tries_89 : decode mX12_tries.2.1 89 = .ok (.iload_n 3, 1) := by decide +kernel
theorem dX12_tries_90 : decode mX12_tries.2.1 90 = .ok (.invokevirtual 628, 3) := by decide +kernel
theorem dX12_tries_93 : decode mX12_tries.2.1 93 = .ok (.iconst (-1), 1) := by decide +kernel
theorem dX12_tries_94 : decode mX12_tries.2.1 94 = .ok (.if_icmp .eq 15, 3) := by decide +kernel
theorem dX12_tries_97 : decode mX12_tries.2.1 97 = .ok (.aload_n 0, 1) := by decide +kernel
theorem dX12_tries_98 : decode mX12_tries.2.1 98 = .ok (.iload_n 1, 1) := by decide +kernel
theorem dX12_tries_99 : decode mX12_tries.2.1 99 = .ok (.iconst 2, 1) := by decide +kernel
theorem dX12_tries_100 : decode mX12_tries.2.1 100 = .ok (.aload_n 0, 1) := by decide +kernel
theorem dX12_tries_101 : decode mX12_tries.2.1 101 = .ok (.iload_n 2, 1) := by decide +kernel
theorem dX12_tries_102 : decode mX12_tries.2.1 102 = .ok (.iload_n 3, 1) := by decide +kernel
theorem dX12_tries_103 : decode mX12_tries.2.1 103 = .ok (.invokevirtual 628, 3) := by decide +kernel
theorem dX12_tries_106 : decode mX12_tries.2.1 106 = .ok (.invokevirtual 624, 3) := by decide +kernel
theorem dX12_tries_109 : decode mX12_tries.2.1 109 = .ok (.iinc 3 (-1), 3) := by decide +kernel
theorem dX12_tries_112 : decode mX12_tries.2.1 112 = .ok (.goto (-29), 3) := by decide +kernel
theorem dX12_tries_115 : decode mX12_tries.2.1 115 = .ok (.aload_n 0, 1) := by decide +kernel
theorem dX12_tries_116 : decode mX12_tries.2.1 116 = .ok (.getfield 243, 3) := by decide +kernel
theorem dX12_tries_119 : decode mX12_tries.2.1 119 = .ok (.aload_n 0, 1) := by decide +kernel
theorem dX12_tries_120 : decode mX12_tries.2.1 120 = .ok (.getfield 261, 3) := by decide +kernel
theorem dX12_tries_123 : decode mX12_tries.2.1 123 = .ok (.iload_n 1, 1) := by decide +kernel
theorem dX12_tries_124 : decode mX12_tries.2.1 124 = .ok (.iaload, 1) := by decide +kernel
theorem dX12_tries_125 : decode mX12_tries.2.1 125 = .ok (.iaload, 1) := by decide +kernel
theorem dX12_tries_126 : decode mX12_tries.2.1 126 = .ok (.aload_n 0, 1) := by decide +kernel
theorem dX12_tries_127 : decode mX12_tries.2.1 127 = .ok (.getfield 279, 3) := by decide +kernel
theorem dX12_tries_130 : decode mX12_tries.2.1 130 = .ok (.aload_n 0, 1) := by decide +kernel
theorem dX12_tries_131 : decode mX12_tries.2.1 131 = .ok (.getfield 261, 3) := by decide +kernel
theorem dX12_tries_134 : decode mX12_tries.2.1 134 = .ok (.iload_n 1, 1) := by decide +kernel
theorem dX12_tries_135 : decode mX12_tries.2.1 135 = .ok (.iaload, 1) := by decide +kernel
theorem dX12_tries_136 : decode mX12_tries.2.1 136 = .ok (.iaload, 1) := by decide +kernel
theorem dX12_tries_137 : decode mX12_tries.2.1 137 = .ok (.if_icmp .le 40, 3) := by decide +kernel
theorem dX12_tries_140 : decode mX12_tries.2.1 140 = .ok (.aload_n 0, 1) := by decide +kernel
theorem dX12_tries_141 : decode mX12_tries.2.1 141 = .ok (.getfield 279, 3) := by decide +kernel
theorem dX12_tries_144 : decode mX12_tries.2.1 144 = .ok (.aload_n 0, 1) := by decide +kernel
theorem dX12_tries_145 : decode mX12_tries.2.1 145 = .ok (.getfield 261, 3) := by decide +kernel
theorem dX12_tries_148 : decode mX12_tries.2.1 148 = .ok (.iload_n 1, 1) := by decide +kernel
theorem dX12_tries_149 : decode mX12_tries.2.1 149 = .ok (.iaload, 1) := by decide +kernel
theorem dX12_tries_150 : decode mX12_tries.2.1 150 = .ok (.dup2, 1) := by decide +kernel
theorem dX12_tries_151 : decode mX12_tries.2.1 151 = .ok (.iaload, 1) := by decide +kernel
theorem dX12_tries_152 : decode mX12_tries.2.1 152 = .ok (.iconst 1, 1) := by decide +kernel
theorem dX12_tries_153 : decode mX12_tries.2.1 153 = .ok (.iadd, 1) := by decide +kernel
theorem dX12_tries_154 : decode mX12_tries.2.1 154 = .ok (.iastore, 1) := by decide +kernel
theorem dX12_tries_155 : decode mX12_tries.2.1 155 = .ok (.aload_n 0, 1) := by decide +kernel
theorem dX12_tries_156 : decode mX12_tries.2.1 156 = .ok (.iload_n 1, 1) := by decide +kernel
theorem dX12_tries_157 : decode mX12_tries.2.1 157 = .ok (.iconst 3, 1) := by decide +kernel
theorem dX12_tries_158 : decode mX12_tries.2.1 158 = .ok (.iconst (-1), 1) := by decide +kernel
theorem dX12_tries_159 : decode mX12_tries.2.1 159 = .ok (.invokevirtual 624, 3) := by decide +kernel
theorem dX12_tries_162 : decode mX12_tries.2.1 162 = .ok (.aload_n 0, 1) := by decide +kernel
theorem dX12_tries_163 : decode mX12_tries.2.1 163 = .ok (.getfield 279, 3) := by decide +kernel
theorem dX12_tries_166 : decode mX12_tries.2.1 166 = .ok (.aload_n 0, 1) := by decide +kernel
theorem dX12_tries_167 : decode mX12_tries.2.1 167 = .ok (.getfield 261, 3) := by decide +kernel
theorem dX12_tries_170 : decode mX12_tries.2.1 170 = .ok (.iload_n 1, 1) := by decide +kernel
theorem dX12_tries_171 : decode mX12_tries.2.1 171 = .ok (.iaload, 1) := by decide +kernel
theorem dX12_tries_172 : decode mX12_tries.2.1 172 = .ok (.dup2, 1) := by decide +kernel
theorem dX12_tries_173 : decode mX12_tries.2.1 173 = .ok (.iaload, 1) := by decide +kernel
theorem dX12_tries_174 : decode mX12_tries.2.1 174 = .ok (.iconst 1, 1) := by decide +kernel
theorem dX12_tries_175 : decode mX12_tries.2.1 175 = .ok (.isub, 1) := by decide +kernel
theorem dX12_tries_176 : decode mX12_tries.2.1 176 = .ok (.iastore, 1) := by decide +kernel
theorem dX12_tries_177 : decode mX12_tries.2.1 177 = .ok (.aload_n 0, 1) := by decide +kernel
theorem dX12_tries_178 : decode mX12_tries.2.1 178 = .ok (.iload_n 1, 1) := by decide +kernel
theorem dX12_tries_179 : decode mX12_tries.2.1 179 = .ok (.iconst 4, 1) := by decide +kernel
theorem dX12_tries_180 : decode mX12_tries.2.1 180 = .ok (.iconst (-1), 1) := by decide +kernel
theorem dX12_tries_181 : decode mX12_tries.2.1 181 = .ok (.invokevirtual 624, 3) := by decide +kernel
theorem dX12_tries_184 : decode mX12_tries.2.1 184 = .ok (.return_, 1) := by decide +kernel
theorem bX12_tries_0 {SC : Nat → Nat} {X : mh_X} {d : Nat} {Q : Option am_V → am_W → Prop} {bc bs : Nat} {w : am_W} {x1 : Int}
    (h : ((¬ x1 = (w.1 9 0 91) → (0 ≤ x1 ∧ (x1 < 5 ∧ ((¬ (w.1 134 0 x1.toNat) = 0 → (0 ≤ (w.1 133 0 x1.toNat) ∧ ((w.1 133 0 x1.toNat) < 40 ∧ am_M (mh_G X) SC (d + 2) 0 0 mX12_least [.inr (.inr (some (9, 0))), .inl (w.1 97 0 (w.1 133 0 x1.toNat).toNat), .inl (w.1 134 0 x1.toNat)] w (fun r w1 => am_A (mh_G X) SC (d + 3) mX12_tries Q 53 [(2, .inl (w.1 97 0 (w.1 133 0 x1.toNat).toNat)), (0, .inr (.inr (some (9, 0)))), (1, .inl x1)] (r.toList ++ []) w1 bc bs)))) ∧ ((w.1 134 0 x1.toNat) = 0 → am_M (mh_G X) SC (d + 2) 0 0 mX12_takes [.inr (.inr (some (9, 0))), .inl x1, .inl 0, .inl (-1)] w (fun r w1 => am_A (mh_G X) SC (d + 3) mX12_tries Q 29 [(0, .inr (.inr (some (9, 0)))), (1, .inl x1)] (r.toList ++ []) w1 bc bs)))))) ∧ (x1 = (w.1 9 0 91) → am_M (mh_G X) SC (d + 2) 0 0 mX12_looks [.inr (.inr (some (9, 0)))] w (fun r w1 => am_A (mh_G X) SC (d + 3) mX12_tries Q 12 [(0, .inr (.inr (some (9, 0)))), (1, .inl x1)] (r.toList ++ []) w1 bc bs)))) :
    am_A (mh_G X) SC (d + 3) mX12_tries Q 0 [(0, .inr (.inr (some (9, 0)))), (1, .inl x1)] [] w bc bs := by
  refine am_iload_n dX12_tries_0 (List.Mem.tail _ (List.Mem.head _)) ?_
  refine am_aload_n dX12_tries_1 (List.Mem.head _) ?_
  refine am_getf (f := 91) (v := .inl (w.1 9 0 91)) dX12_tries_2 hc_10 (by decide) wd_1640 (by decide) rfl rfl ?_
  refine am_icmpne (tgt := 13) dX12_tries_5 (by decide) (fun c1 => ?_) (fun c1 => ?_)
  · replace h := h.1 c1
    refine am_aload_n dX12_tries_13 (List.Mem.head _) ?_
    refine am_getf (f := 83) (v := .inr (.inr (some (134, 0)))) dX12_tries_14 hc_10 (by decide) wd_1632 (by decide) rfl rfl ?_
    refine am_iload_n dX12_tries_17 (List.Mem.tail _ (List.Mem.head _)) ?_
    have o2 := h.1
    replace h := h.2
    have o3 := h.1
    replace h := h.2
    refine am_iaload (v := (w.1 134 0 x1.toNat)) dX12_tries_18 (by decide) rfl o2 o3 rfl ?_
    refine am_ifne (tgt := 30) dX12_tries_19 (by decide) (fun c4 => ?_) (fun c4 => ?_)
    · replace h := h.1 c4
      refine am_aload_n dX12_tries_30 (List.Mem.head _) ?_
      refine am_getf (f := 35) (v := .inr (.inr (some (97, 0)))) dX12_tries_31 hc_10 (by decide) wd_1584 (by decide) rfl rfl ?_
      refine am_aload_n dX12_tries_34 (List.Mem.head _) ?_
      refine am_getf (f := 82) (v := .inr (.inr (some (133, 0)))) dX12_tries_35 hc_10 (by decide) wd_1631 (by decide) rfl rfl ?_
      refine am_iload_n dX12_tries_38 (List.Mem.tail _ (List.Mem.head _)) ?_
      refine am_iaload (v := (w.1 133 0 x1.toNat)) dX12_tries_39 (by decide) rfl o2 o3 rfl ?_
      have o5 := h.1
      replace h := h.2
      have o6 := h.1
      replace h := h.2
      refine am_iaload (v := (w.1 97 0 (w.1 133 0 x1.toNat).toNat)) dX12_tries_40 (by decide) rfl o5 o6 rfl ?_
      refine am_istore_n (ls' := [(2, .inl (w.1 97 0 (w.1 133 0 x1.toNat).toNat)), (0, .inr (.inr (some (9, 0)))), (1, .inl x1)]) dX12_tries_41 (by decide) rfl ?_
      refine am_aload_n dX12_tries_42 (List.Mem.tail _ (List.Mem.head _)) ?_
      refine am_iload_n dX12_tries_43 (List.Mem.head _) ?_
      refine am_aload_n dX12_tries_44 (List.Mem.tail _ (List.Mem.head _)) ?_
      refine am_getf (f := 83) (v := .inr (.inr (some (134, 0)))) dX12_tries_45 hc_10 (by decide) wd_1632 (by decide) rfl rfl ?_
      refine am_iload_n dX12_tries_48 (List.Mem.tail _ (List.Mem.tail _ (List.Mem.head _))) ?_
      refine am_iaload (v := (w.1 134 0 x1.toNat)) dX12_tries_49 (by decide) rfl o2 o3 rfl ?_
      exact am_callv (d' := d + 2) (kc := 0) (ks := 0) (as := [.inl (w.1 97 0 (w.1 133 0 x1.toNat).toNat), .inl (w.1 134 0 x1.toNat)]) dX12_tries_50 wc_X12_least wd_2238 wd_2240 wd_105 wd_122 ds_X12_least (by decide) (by omega) (Nat.le_of_ble_eq_true rfl) (Nat.zero_le _) (Nat.zero_le _) hc_10 (by decide) rfl rfl h
    · replace h := h.2 c4
      refine am_aload_n dX12_tries_22 (List.Mem.head _) ?_
      refine am_iload_n dX12_tries_23 (List.Mem.tail _ (List.Mem.head _)) ?_
      refine am_iconst dX12_tries_24 (by unfold am_rg; omega) ?_
      refine am_iconst dX12_tries_25 (by unfold am_rg; omega) ?_
      exact am_callv (d' := d + 2) (kc := 0) (ks := 0) (as := [.inl x1, .inl 0, .inl (-1)]) dX12_tries_26 wc_X12_takes wd_2234 wd_2236 wd_104 wd_122 ds_X12_takes (by decide) (by omega) (Nat.le_of_ble_eq_true rfl) (Nat.zero_le _) (Nat.zero_le _) hc_10 (by decide) rfl rfl h
  · replace h := h.2 c1
    refine am_aload_n dX12_tries_8 (List.Mem.head _) ?_
    exact am_callv (d' := d + 2) (kc := 0) (ks := 0) (as := []) dX12_tries_9 wc_X12_looks wd_2226 wd_2228 wd_102 wd_122 ds_X12_looks (by decide) (by omega) (Nat.le_of_ble_eq_true rfl) (Nat.zero_le _) (Nat.zero_le _) hc_10 (by decide) rfl rfl h
theorem bX12_tries_53 {SC : Nat → Nat} {X : mh_X} {d : Nat} {Q : Option am_V → am_W → Prop} {bc bs : Nat} {w : am_W} {x2 : Int} {x1 : Int} {xs0 : Int}
    (h : ((xs0 = (-1) → am_A (mh_G X) SC (d + 3) mX12_tries Q 74 [(0, .inr (.inr (some (9, 0)))), (1, .inl x1), (2, .inl x2)] [] w bc bs) ∧ (¬ xs0 = (-1) → (0 ≤ x1 ∧ (x1 < 5 ∧ am_M (mh_G X) SC (d + 2) 0 0 mX12_least [.inr (.inr (some (9, 0))), .inl x2, .inl (w.1 134 0 x1.toNat)] w (fun r w1 => am_A (mh_G X) SC (d + 3) mX12_tries Q 71 [(2, .inl x2), (0, .inr (.inr (some (9, 0)))), (1, .inl x1)] (r.toList ++ [.inl 1, .inl x1, .inr (.inr (some (9, 0)))]) w1 bc bs)))))) :
    am_A (mh_G X) SC (d + 3) mX12_tries Q 53 [(2, .inl x2), (0, .inr (.inr (some (9, 0)))), (1, .inl x1)] [.inl xs0] w bc bs := by
  refine am_iconst dX12_tries_53 (by unfold am_rg; omega) ?_
  refine am_icmpeq (tgt := 74) dX12_tries_54 (by decide) (fun c1 => ?_) (fun c1 => ?_)
  · replace h := h.1 c1
    exact am_sub [1, 2, 0] rfl h
  · replace h := h.2 c1
    refine am_aload_n dX12_tries_57 (List.Mem.tail _ (List.Mem.head _)) ?_
    refine am_iload_n dX12_tries_58 (List.Mem.tail _ (List.Mem.tail _ (List.Mem.head _))) ?_
    refine am_iconst dX12_tries_59 (by unfold am_rg; omega) ?_
    refine am_aload_n dX12_tries_60 (List.Mem.tail _ (List.Mem.head _)) ?_
    refine am_iload_n dX12_tries_61 (List.Mem.head _) ?_
    refine am_aload_n dX12_tries_62 (List.Mem.tail _ (List.Mem.head _)) ?_
    refine am_getf (f := 83) (v := .inr (.inr (some (134, 0)))) dX12_tries_63 hc_10 (by decide) wd_1632 (by decide) rfl rfl ?_
    refine am_iload_n dX12_tries_66 (List.Mem.tail _ (List.Mem.tail _ (List.Mem.head _))) ?_
    have o2 := h.1
    replace h := h.2
    have o3 := h.1
    replace h := h.2
    refine am_iaload (v := (w.1 134 0 x1.toNat)) dX12_tries_67 (by decide) rfl o2 o3 rfl ?_
    exact am_callv (d' := d + 2) (kc := 0) (ks := 0) (as := [.inl x2, .inl (w.1 134 0 x1.toNat)]) dX12_tries_68 wc_X12_least wd_2238 wd_2240 wd_105 wd_122 ds_X12_least (by decide) (by omega) (Nat.le_of_ble_eq_true rfl) (Nat.zero_le _) (Nat.zero_le _) hc_10 (by decide) rfl rfl h
theorem bX12_tries_29 {SC : Nat → Nat} {X : mh_X} {d : Nat} {Q : Option am_V → am_W → Prop} {bc bs : Nat} {w : am_W} {x1 : Int}
    (h : Q none w) :
    am_A (mh_G X) SC (d + 3) mX12_tries Q 29 [(0, .inr (.inr (some (9, 0)))), (1, .inl x1)] [] w bc bs := by
  exact am_ret (r := none) dX12_tries_29 rfl rfl h
theorem bX12_tries_12 {SC : Nat → Nat} {X : mh_X} {d : Nat} {Q : Option am_V → am_W → Prop} {bc bs : Nat} {w : am_W} {x1 : Int}
    (h : Q none w) :
    am_A (mh_G X) SC (d + 3) mX12_tries Q 12 [(0, .inr (.inr (some (9, 0)))), (1, .inl x1)] [] w bc bs := by
  exact am_ret (r := none) dX12_tries_12 rfl rfl h
theorem bX12_tries_74 {SC : Nat → Nat} {X : mh_X} {d : Nat} {Q : Option am_V → am_W → Prop} {bc bs : Nat} {w : am_W} {x1 : Int} {x2 : Int}
    (h : (0 ≤ x1 ∧ (x1 < 5 ∧ am_A (mh_G X) SC (d + 3) mX12_tries Q 83 [(0, .inr (.inr (some (9, 0)))), (1, .inl x1), (2, .inl x2), (3, .inl (am_w ((w.1 134 0 x1.toNat) - 1)))] [] w bc bs))) :
    am_A (mh_G X) SC (d + 3) mX12_tries Q 74 [(0, .inr (.inr (some (9, 0)))), (1, .inl x1), (2, .inl x2)] [] w bc bs := by
  refine am_aload_n dX12_tries_74 (List.Mem.head _) ?_
  refine am_getf (f := 83) (v := .inr (.inr (some (134, 0)))) dX12_tries_75 hc_10 (by decide) wd_1632 (by decide) rfl rfl ?_
  refine am_iload_n dX12_tries_78 (List.Mem.tail _ (List.Mem.head _)) ?_
  have o1 := h.1
  replace h := h.2
  have o2 := h.1
  replace h := h.2
  refine am_iaload (v := (w.1 134 0 x1.toNat)) dX12_tries_79 (by decide) rfl o1 o2 rfl ?_
  refine am_iconst dX12_tries_80 (by unfold am_rg; omega) ?_
  refine am_isub dX12_tries_81 ?_
  refine am_istore_n (ls' := [(3, .inl (am_w ((w.1 134 0 x1.toNat) - 1))), (0, .inr (.inr (some (9, 0)))), (1, .inl x1), (2, .inl x2)]) dX12_tries_82 (by decide) rfl ?_
  exact am_sub [1, 2, 3, 0] rfl h
theorem bX12_tries_71 {SC : Nat → Nat} {X : mh_X} {d : Nat} {Q : Option am_V → am_W → Prop} {bc bs : Nat} {w : am_W} {x2 : Int} {x1 : Int} {xs0 : Int} {xs1 : Int} {xs2 : Int}
    (h : am_M (mh_G X) SC (d + 2) 0 0 mX12_takes [.inr (.inr (some (9, 0))), .inl xs2, .inl xs1, .inl xs0] w (fun r w1 => am_A (mh_G X) SC (d + 3) mX12_tries Q 74 [(2, .inl x2), (0, .inr (.inr (some (9, 0)))), (1, .inl x1)] (r.toList ++ []) w1 bc bs)) :
    am_A (mh_G X) SC (d + 3) mX12_tries Q 71 [(2, .inl x2), (0, .inr (.inr (some (9, 0)))), (1, .inl x1)] [.inl xs0, .inl xs1, .inl xs2, .inr (.inr (some (9, 0)))] w bc bs := by
  exact am_callv (d' := d + 2) (kc := 0) (ks := 0) (as := [.inl xs2, .inl xs1, .inl xs0]) dX12_tries_71 wc_X12_takes wd_2234 wd_2236 wd_104 wd_122 ds_X12_takes (by decide) (by omega) (Nat.le_of_ble_eq_true rfl) (Nat.zero_le _) (Nat.zero_le _) hc_10 (by decide) rfl rfl h
theorem bX12_tries_83 {SC : Nat → Nat} {X : mh_X} {d : Nat} {Q : Option am_V → am_W → Prop} {bc bs : Nat} {w : am_W} {x1 : Int} {x2 : Int} {x3 : Int}
    (h : ((x3 < 0 → (0 ≤ x1 ∧ (x1 < 5 ∧ (0 ≤ (w.1 134 0 x1.toNat) ∧ ((w.1 134 0 x1.toNat) < 5 ∧ (((w.1 128 0 (w.1 134 0 x1.toNat).toNat) ≤ (w.1 140 0 (w.1 134 0 x1.toNat).toNat) → am_A (mh_G X) SC (d + 3) mX12_tries Q 177 [(0, .inr (.inr (some (9, 0)))), (1, .inl x1)] [] w bc bs) ∧ (¬ (w.1 128 0 (w.1 134 0 x1.toNat).toNat) ≤ (w.1 140 0 (w.1 134 0 x1.toNat).toNat) → am_M (mh_G X) SC (d + 2) 0 0 mX12_takes [.inr (.inr (some (9, 0))), .inl x1, .inl 3, .inl (-1)] ((am_up w.1 140 0 (w.1 134 0 x1.toNat).toNat (am_w ((w.1 140 0 (w.1 134 0 x1.toNat).toNat) + 1))), w.2) (fun r w1 => am_A (mh_G X) SC (d + 3) mX12_tries Q 162 [(0, .inr (.inr (some (9, 0)))), (1, .inl x1), (2, .inl x2), (3, .inl x3)] (r.toList ++ []) w1 bc bs)))))))) ∧ (¬ x3 < 0 → am_M (mh_G X) SC (d + 2) 0 0 mX12_least [.inr (.inr (some (9, 0))), .inl x2, .inl x3] w (fun r w1 => am_A (mh_G X) SC (d + 3) mX12_tries Q 93 [(0, .inr (.inr (some (9, 0)))), (1, .inl x1), (2, .inl x2), (3, .inl x3)] (r.toList ++ []) w1 bc bs)))) :
    am_A (mh_G X) SC (d + 3) mX12_tries Q 83 [(0, .inr (.inr (some (9, 0)))), (1, .inl x1), (2, .inl x2), (3, .inl x3)] [] w bc bs := by
  refine am_iload_n dX12_tries_83 (List.Mem.tail _ (List.Mem.tail _ (List.Mem.tail _ (List.Mem.head _)))) ?_
  refine am_iflt (tgt := 115) dX12_tries_84 (by decide) (fun c1 => ?_) (fun c1 => ?_)
  · replace h := h.1 c1
    refine am_aload_n dX12_tries_115 (List.Mem.head _) ?_
    refine am_getf (f := 74) (v := .inr (.inr (some (128, 0)))) dX12_tries_116 hc_10 (by decide) wd_1623 (by decide) rfl rfl ?_
    refine am_aload_n dX12_tries_119 (List.Mem.head _) ?_
    refine am_getf (f := 83) (v := .inr (.inr (some (134, 0)))) dX12_tries_120 hc_10 (by decide) wd_1632 (by decide) rfl rfl ?_
    refine am_iload_n dX12_tries_123 (List.Mem.tail _ (List.Mem.head _)) ?_
    have o2 := h.1
    replace h := h.2
    have o3 := h.1
    replace h := h.2
    refine am_iaload (v := (w.1 134 0 x1.toNat)) dX12_tries_124 (by decide) rfl o2 o3 rfl ?_
    have o4 := h.1
    replace h := h.2
    have o5 := h.1
    replace h := h.2
    refine am_iaload (v := (w.1 128 0 (w.1 134 0 x1.toNat).toNat)) dX12_tries_125 (by decide) rfl o4 o5 rfl ?_
    refine am_aload_n dX12_tries_126 (List.Mem.head _) ?_
    refine am_getf (f := 89) (v := .inr (.inr (some (140, 0)))) dX12_tries_127 hc_10 (by decide) wd_1638 (by decide) rfl rfl ?_
    refine am_aload_n dX12_tries_130 (List.Mem.head _) ?_
    refine am_getf (f := 83) (v := .inr (.inr (some (134, 0)))) dX12_tries_131 hc_10 (by decide) wd_1632 (by decide) rfl rfl ?_
    refine am_iload_n dX12_tries_134 (List.Mem.tail _ (List.Mem.head _)) ?_
    refine am_iaload (v := (w.1 134 0 x1.toNat)) dX12_tries_135 (by decide) rfl o2 o3 rfl ?_
    refine am_iaload (v := (w.1 140 0 (w.1 134 0 x1.toNat).toNat)) dX12_tries_136 (by decide) rfl o4 o5 rfl ?_
    refine am_icmple (tgt := 177) dX12_tries_137 (by decide) (fun c6 => ?_) (fun c6 => ?_)
    · replace h := h.1 c6
      exact am_sub [0, 1] rfl h
    · replace h := h.2 c6
      refine am_aload_n dX12_tries_140 (List.Mem.head _) ?_
      refine am_getf (f := 89) (v := .inr (.inr (some (140, 0)))) dX12_tries_141 hc_10 (by decide) wd_1638 (by decide) rfl rfl ?_
      refine am_aload_n dX12_tries_144 (List.Mem.head _) ?_
      refine am_getf (f := 83) (v := .inr (.inr (some (134, 0)))) dX12_tries_145 hc_10 (by decide) wd_1632 (by decide) rfl rfl ?_
      refine am_iload_n dX12_tries_148 (List.Mem.tail _ (List.Mem.head _)) ?_
      refine am_iaload (v := (w.1 134 0 x1.toNat)) dX12_tries_149 (by decide) rfl o2 o3 rfl ?_
      refine am_dup2 dX12_tries_150 rfl rfl ?_
      refine am_iaload (v := (w.1 140 0 (w.1 134 0 x1.toNat).toNat)) dX12_tries_151 (by decide) rfl o4 o5 rfl ?_
      refine am_iconst dX12_tries_152 (by unfold am_rg; omega) ?_
      refine am_iadd dX12_tries_153 ?_
      refine am_iastore dX12_tries_154 (Or.inl (by decide)) rfl o4 o5 ?_
      refine am_aload_n dX12_tries_155 (List.Mem.head _) ?_
      refine am_iload_n dX12_tries_156 (List.Mem.tail _ (List.Mem.head _)) ?_
      refine am_iconst dX12_tries_157 (by unfold am_rg; omega) ?_
      refine am_iconst dX12_tries_158 (by unfold am_rg; omega) ?_
      exact am_callv (d' := d + 2) (kc := 0) (ks := 0) (as := [.inl x1, .inl 3, .inl (-1)]) dX12_tries_159 wc_X12_takes wd_2234 wd_2236 wd_104 wd_122 ds_X12_takes (by decide) (by omega) (Nat.le_of_ble_eq_true rfl) (Nat.zero_le _) (Nat.zero_le _) hc_10 (by decide) rfl rfl h
  · replace h := h.2 c1
    refine am_aload_n dX12_tries_87 (List.Mem.head _) ?_
    refine am_iload_n dX12_tries_88 (List.Mem.tail _ (List.Mem.tail _ (List.Mem.head _))) ?_
    refine am_iload_n dX12_tries_89 (List.Mem.tail _ (List.Mem.tail _ (List.Mem.tail _ (List.Mem.head _)))) ?_
    exact am_callv (d' := d + 2) (kc := 0) (ks := 0) (as := [.inl x2, .inl x3]) dX12_tries_90 wc_X12_least wd_2238 wd_2240 wd_105 wd_122 ds_X12_least (by decide) (by omega) (Nat.le_of_ble_eq_true rfl) (Nat.zero_le _) (Nat.zero_le _) hc_10 (by decide) rfl rfl h
theorem bX12_tries_74a {SC : Nat → Nat} {X : mh_X} {d : Nat} {Q : Option am_V → am_W → Prop} {bc bs : Nat} {w : am_W} {x2 : Int} {x1 : Int}
    (h : (0 ≤ x1 ∧ (x1 < 5 ∧ am_A (mh_G X) SC (d + 3) mX12_tries Q 83 [(0, .inr (.inr (some (9, 0)))), (1, .inl x1), (2, .inl x2), (3, .inl (am_w ((w.1 134 0 x1.toNat) - 1)))] [] w bc bs))) :
    am_A (mh_G X) SC (d + 3) mX12_tries Q 74 [(2, .inl x2), (0, .inr (.inr (some (9, 0)))), (1, .inl x1)] [] w bc bs := by
  refine am_aload_n dX12_tries_74 (List.Mem.tail _ (List.Mem.head _)) ?_
  refine am_getf (f := 83) (v := .inr (.inr (some (134, 0)))) dX12_tries_75 hc_10 (by decide) wd_1632 (by decide) rfl rfl ?_
  refine am_iload_n dX12_tries_78 (List.Mem.tail _ (List.Mem.tail _ (List.Mem.head _))) ?_
  have o1 := h.1
  replace h := h.2
  have o2 := h.1
  replace h := h.2
  refine am_iaload (v := (w.1 134 0 x1.toNat)) dX12_tries_79 (by decide) rfl o1 o2 rfl ?_
  refine am_iconst dX12_tries_80 (by unfold am_rg; omega) ?_
  refine am_isub dX12_tries_81 ?_
  refine am_istore_n (ls' := [(3, .inl (am_w ((w.1 134 0 x1.toNat) - 1))), (2, .inl x2), (0, .inr (.inr (some (9, 0)))), (1, .inl x1)]) dX12_tries_82 (by decide) rfl ?_
  exact am_sub [2, 3, 1, 0] rfl h
theorem bX12_tries_177 {SC : Nat → Nat} {X : mh_X} {d : Nat} {Q : Option am_V → am_W → Prop} {bc bs : Nat} {w : am_W} {x1 : Int}
    (h : am_M (mh_G X) SC (d + 2) 0 0 mX12_takes [.inr (.inr (some (9, 0))), .inl x1, .inl 4, .inl (-1)] w (fun r w1 => am_A (mh_G X) SC (d + 3) mX12_tries Q 184 [(0, .inr (.inr (some (9, 0)))), (1, .inl x1)] (r.toList ++ []) w1 bc bs)) :
    am_A (mh_G X) SC (d + 3) mX12_tries Q 177 [(0, .inr (.inr (some (9, 0)))), (1, .inl x1)] [] w bc bs := by
  refine am_aload_n dX12_tries_177 (List.Mem.head _) ?_
  refine am_iload_n dX12_tries_178 (List.Mem.tail _ (List.Mem.head _)) ?_
  refine am_iconst dX12_tries_179 (by unfold am_rg; omega) ?_
  refine am_iconst dX12_tries_180 (by unfold am_rg; omega) ?_
  exact am_callv (d' := d + 2) (kc := 0) (ks := 0) (as := [.inl x1, .inl 4, .inl (-1)]) dX12_tries_181 wc_X12_takes wd_2234 wd_2236 wd_104 wd_122 ds_X12_takes (by decide) (by omega) (Nat.le_of_ble_eq_true rfl) (Nat.zero_le _) (Nat.zero_le _) hc_10 (by decide) rfl rfl h
theorem bX12_tries_162 {SC : Nat → Nat} {X : mh_X} {d : Nat} {Q : Option am_V → am_W → Prop} {bc bs : Nat} {w : am_W} {x1 : Int} {x2 : Int} {x3 : Int}
    (h : (0 ≤ x1 ∧ (x1 < 5 ∧ (0 ≤ (w.1 134 0 x1.toNat) ∧ ((w.1 134 0 x1.toNat) < 5 ∧ am_A (mh_G X) SC (d + 3) mX12_tries Q 177 [(0, .inr (.inr (some (9, 0)))), (1, .inl x1)] [] ((am_up w.1 140 0 (w.1 134 0 x1.toNat).toNat (am_w ((w.1 140 0 (w.1 134 0 x1.toNat).toNat) - 1))), w.2) bc bs))))) :
    am_A (mh_G X) SC (d + 3) mX12_tries Q 162 [(0, .inr (.inr (some (9, 0)))), (1, .inl x1), (2, .inl x2), (3, .inl x3)] [] w bc bs := by
  refine am_aload_n dX12_tries_162 (List.Mem.head _) ?_
  refine am_getf (f := 89) (v := .inr (.inr (some (140, 0)))) dX12_tries_163 hc_10 (by decide) wd_1638 (by decide) rfl rfl ?_
  refine am_aload_n dX12_tries_166 (List.Mem.head _) ?_
  refine am_getf (f := 83) (v := .inr (.inr (some (134, 0)))) dX12_tries_167 hc_10 (by decide) wd_1632 (by decide) rfl rfl ?_
  refine am_iload_n dX12_tries_170 (List.Mem.tail _ (List.Mem.head _)) ?_
  have o1 := h.1
  replace h := h.2
  have o2 := h.1
  replace h := h.2
  refine am_iaload (v := (w.1 134 0 x1.toNat)) dX12_tries_171 (by decide) rfl o1 o2 rfl ?_
  refine am_dup2 dX12_tries_172 rfl rfl ?_
  have o3 := h.1
  replace h := h.2
  have o4 := h.1
  replace h := h.2
  refine am_iaload (v := (w.1 140 0 (w.1 134 0 x1.toNat).toNat)) dX12_tries_173 (by decide) rfl o3 o4 rfl ?_
  refine am_iconst dX12_tries_174 (by unfold am_rg; omega) ?_
  refine am_isub dX12_tries_175 ?_
  refine am_iastore dX12_tries_176 (Or.inl (by decide)) rfl o3 o4 ?_
  exact am_sub [0, 1] rfl h
theorem bX12_tries_93 {SC : Nat → Nat} {X : mh_X} {d : Nat} {Q : Option am_V → am_W → Prop} {bc bs : Nat} {w : am_W} {x1 : Int} {x2 : Int} {x3 : Int} {xs0 : Int}
    (h : ((xs0 = (-1) → am_A (mh_G X) SC (d + 3) mX12_tries Q 109 [(0, .inr (.inr (some (9, 0)))), (1, .inl x1), (2, .inl x2), (3, .inl x3)] [] w bc bs) ∧ (¬ xs0 = (-1) → am_M (mh_G X) SC (d + 2) 0 0 mX12_least [.inr (.inr (some (9, 0))), .inl x2, .inl x3] w (fun r w1 => am_A (mh_G X) SC (d + 3) mX12_tries Q 106 [(0, .inr (.inr (some (9, 0)))), (1, .inl x1), (2, .inl x2), (3, .inl x3)] (r.toList ++ [.inl 2, .inl x1, .inr (.inr (some (9, 0)))]) w1 bc bs)))) :
    am_A (mh_G X) SC (d + 3) mX12_tries Q 93 [(0, .inr (.inr (some (9, 0)))), (1, .inl x1), (2, .inl x2), (3, .inl x3)] [.inl xs0] w bc bs := by
  refine am_iconst dX12_tries_93 (by unfold am_rg; omega) ?_
  refine am_icmpeq (tgt := 109) dX12_tries_94 (by decide) (fun c1 => ?_) (fun c1 => ?_)
  · replace h := h.1 c1
    exact h
  · replace h := h.2 c1
    refine am_aload_n dX12_tries_97 (List.Mem.head _) ?_
    refine am_iload_n dX12_tries_98 (List.Mem.tail _ (List.Mem.head _)) ?_
    refine am_iconst dX12_tries_99 (by unfold am_rg; omega) ?_
    refine am_aload_n dX12_tries_100 (List.Mem.head _) ?_
    refine am_iload_n dX12_tries_101 (List.Mem.tail _ (List.Mem.tail _ (List.Mem.head _))) ?_
    refine am_iload_n dX12_tries_102 (List.Mem.tail _ (List.Mem.tail _ (List.Mem.tail _ (List.Mem.head _)))) ?_
    exact am_callv (d' := d + 2) (kc := 0) (ks := 0) (as := [.inl x2, .inl x3]) dX12_tries_103 wc_X12_least wd_2238 wd_2240 wd_105 wd_122 ds_X12_least (by decide) (by omega) (Nat.le_of_ble_eq_true rfl) (Nat.zero_le _) (Nat.zero_le _) hc_10 (by decide) rfl rfl h
theorem bX12_tries_184 {SC : Nat → Nat} {X : mh_X} {d : Nat} {Q : Option am_V → am_W → Prop} {bc bs : Nat} {w : am_W} {x1 : Int}
    (h : Q none w) :
    am_A (mh_G X) SC (d + 3) mX12_tries Q 184 [(0, .inr (.inr (some (9, 0)))), (1, .inl x1)] [] w bc bs := by
  exact am_ret (r := none) dX12_tries_184 rfl rfl h
theorem bX12_tries_109 {SC : Nat → Nat} {X : mh_X} {d : Nat} {Q : Option am_V → am_W → Prop} {bc bs : Nat} {w : am_W} {x1 : Int} {x2 : Int} {x3 : Int}
    (h : am_A (mh_G X) SC (d + 3) mX12_tries Q 83 [(0, .inr (.inr (some (9, 0)))), (1, .inl x1), (2, .inl x2), (3, .inl (am_w (x3 + (-1))))] [] w bc bs) :
    am_A (mh_G X) SC (d + 3) mX12_tries Q 109 [(0, .inr (.inr (some (9, 0)))), (1, .inl x1), (2, .inl x2), (3, .inl x3)] [] w bc bs := by
  refine am_iinc (ls' := [(3, .inl (am_w (x3 + (-1)))), (0, .inr (.inr (some (9, 0)))), (1, .inl x1), (2, .inl x2)]) dX12_tries_109 (List.Mem.tail _ (List.Mem.tail _ (List.Mem.tail _ (List.Mem.head _)))) (by decide) rfl ?_
  refine am_goto (tgt := 83) dX12_tries_112 (by decide) ?_
  exact am_sub [1, 2, 3, 0] rfl h
theorem bX12_tries_106 {SC : Nat → Nat} {X : mh_X} {d : Nat} {Q : Option am_V → am_W → Prop} {bc bs : Nat} {w : am_W} {x1 : Int} {x2 : Int} {x3 : Int} {xs0 : Int} {xs1 : Int} {xs2 : Int}
    (h : am_M (mh_G X) SC (d + 2) 0 0 mX12_takes [.inr (.inr (some (9, 0))), .inl xs2, .inl xs1, .inl xs0] w (fun r w1 => am_A (mh_G X) SC (d + 3) mX12_tries Q 109 [(0, .inr (.inr (some (9, 0)))), (1, .inl x1), (2, .inl x2), (3, .inl x3)] (r.toList ++ []) w1 bc bs)) :
    am_A (mh_G X) SC (d + 3) mX12_tries Q 106 [(0, .inr (.inr (some (9, 0)))), (1, .inl x1), (2, .inl x2), (3, .inl x3)] [.inl xs0, .inl xs1, .inl xs2, .inr (.inr (some (9, 0)))] w bc bs := by
  exact am_callv (d' := d + 2) (kc := 0) (ks := 0) (as := [.inl xs2, .inl xs1, .inl xs0]) dX12_tries_106 wc_X12_takes wd_2234 wd_2236 wd_104 wd_122 ds_X12_takes (by decide) (by omega) (Nat.le_of_ble_eq_true rfl) (Nat.zero_le _) (Nat.zero_le _) hc_10 (by decide) rfl rfl h
-- MourningHouseModel.takes(III)V
theorem dX12_takes_0 : decode mX12_takes.2.1 0 = .ok (.aload_n 0, 1) := by decide +kernel
theorem dX12_takes_1 : decode mX12_takes.2.1 1 = .ok (.getfield 264, 3) := by decide +kernel
theorem dX12_takes_4 : decode mX12_takes.2.1 4 = .ok (.iload_n 1, 1) := by decide +kernel
theorem dX12_takes_5 : decode mX12_takes.2.1 5 = .ok (.iload_n 2, 1) := by decide +kernel
theorem dX12_takes_6 : decode mX12_takes.2.1 6 = .ok (.iastore, 1) := by decide +kernel
theorem dX12_takes_7 : decode mX12_takes.2.1 7 = .ok (.aload_n 0, 1) := by decide +kernel
theorem dX12_takes_8 : decode mX12_takes.2.1 8 = .ok (.getfield 267, 3) := by decide +kernel
theorem dX12_takes_11 : decode mX12_takes.2.1 11 = .ok (.iload_n 1, 1) := by decide +kernel
theorem dX12_takes_12 : decode mX12_takes.2.1 12 = .ok (.iload_n 3, 1) := by decide +kernel
theorem dX12_takes_13 : decode mX12_takes.2.1 13 = .ok (.iastore, 1) := by decide +kernel
theorem dX12_takes_14 : decode mX12_takes.2.1 14 = .ok (.iload_n 3, 1) := by decide +kernel
theorem dX12_takes_15 : decode mX12_takes.2.1 15 = .ok (.iconst (-1), 1) := by decide +kernel
theorem dX12_takes_16 : decode mX12_takes.2.1 16 = .ok (.if_icmp .eq 10, 3) := by decide +kernel
theorem dX12_takes_19 : decode mX12_takes.2.1 19 = .ok (.aload_n 0, 1) := by decide +kernel
theorem dX12_takes_20 : decode mX12_takes.2.1 20 = .ok (.getfield 276, 3) := by decide +kernel
theorem dX12_takes_23 : decode mX12_takes.2.1 23 = .ok (.iload_n 3, 1) := by decide +kernel
theorem dX12_takes_24 : decode mX12_takes.2.1 24 = .ok (.iconst 1, 1) := by decide +kernel
theorem dX12_takes_25 : decode mX12_takes.2.1 25 = .ok (.bastore, 1) := by decide +kernel
theorem dX12_takes_26 : decode mX12_takes.2.1 26 = .ok (.aload_n 0, 1) := by decide +kernel
theorem dX12_takes_27 : decode mX12_takes.2.1 27 = .ok (.iload_n 1, 1) := by decide +kernel
theorem dX12_takes_28 : decode mX12_takes.2.1 28 = .ok (.iconst 1, 1) := by decide +kernel
theorem dX12_takes_29 : decode mX12_takes.2.1 29 = .ok (.iadd, 1) := by decide +kernel
theorem dX12_takes_30 : decode mX12_takes.2.1 30 = .ok (.invokevirtual 618, 3) := by decide +kernel
theorem dX12_takes_33 : decode mX12_takes.2.1 33 = .ok (.iload_n 3, 1) := by decide +kernel
theorem dX12_takes_34 : decode mX12_takes.2.1 34 = .ok (.iconst (-1), 1) := by decide +kernel
theorem dX12_takes_35 : decode mX12_takes.2.1 35 = .ok (.if_icmp .eq 10, 3) := by decide +kernel
theorem dX12_takes_38 : decode mX12_takes.2.1 38 = .ok (.aload_n 0, 1) := by decide +kernel
theorem dX12_takes_39 : decode mX12_takes.2.1 39 = .ok (.getfield 276, 3) := by decide +kernel
theorem dX12_takes_42 : decode mX12_takes.2.1 42 = .ok (.iload_n 3, 1) := by decide +kernel
theorem dX12_takes_43 : decode mX12_takes.2.1 43 = .ok (.iconst 0, 1) := by decide +kernel
theorem dX12_takes_44 : decode mX12_takes.2.1 44 = .ok (.bastore, 1) := by decide +kernel
theorem dX12_takes_45 : decode mX12_takes.2.1 45 = .ok (.return_, 1) := by decide +kernel
theorem bX12_takes_0 {SC : Nat → Nat} {X : mh_X} {d : Nat} {Q : Option am_V → am_W → Prop} {bc bs : Nat} {w : am_W} {x1 : Int} {x2 : Int} {x3 : Int}
    (h : (0 ≤ x1 ∧ (x1 < 5 ∧ ((x3 = (-1) → am_A (mh_G X) SC (d + 4) mX12_takes Q 26 [(0, .inr (.inr (some (9, 0)))), (1, .inl x1), (3, .inl x3)] [] ((am_up (am_up w.1 135 0 x1.toNat x2) 136 0 x1.toNat x3), w.2) bc bs) ∧ (¬ x3 = (-1) → (0 ≤ x3 ∧ (x3 < 40 ∧ am_A (mh_G X) SC (d + 4) mX12_takes Q 26 [(0, .inr (.inr (some (9, 0)))), (1, .inl x1), (3, .inl x3)] [] ((am_up (am_up (am_up w.1 135 0 x1.toNat x2) 136 0 x1.toNat x3) 139 0 x3.toNat 1), w.2) bc bs))))))) :
    am_A (mh_G X) SC (d + 4) mX12_takes Q 0 [(0, .inr (.inr (some (9, 0)))), (1, .inl x1), (2, .inl x2), (3, .inl x3)] [] w bc bs := by
  refine am_aload_n dX12_takes_0 (List.Mem.head _) ?_
  refine am_getf (f := 84) (v := .inr (.inr (some (135, 0)))) dX12_takes_1 hc_10 (by decide) wd_1633 (by decide) rfl rfl ?_
  refine am_iload_n dX12_takes_4 (List.Mem.tail _ (List.Mem.head _)) ?_
  refine am_iload_n dX12_takes_5 (List.Mem.tail _ (List.Mem.tail _ (List.Mem.head _))) ?_
  have o1 := h.1
  replace h := h.2
  have o2 := h.1
  replace h := h.2
  refine am_iastore dX12_takes_6 (Or.inl (by decide)) rfl o1 o2 ?_
  refine am_aload_n dX12_takes_7 (List.Mem.head _) ?_
  refine am_getf (f := 85) (v := .inr (.inr (some (136, 0)))) dX12_takes_8 hc_10 (by decide) wd_1634 (by decide) rfl rfl ?_
  refine am_iload_n dX12_takes_11 (List.Mem.tail _ (List.Mem.head _)) ?_
  refine am_iload_n dX12_takes_12 (List.Mem.tail _ (List.Mem.tail _ (List.Mem.tail _ (List.Mem.head _)))) ?_
  refine am_iastore dX12_takes_13 (Or.inl (by decide)) rfl o1 o2 ?_
  refine am_iload_n dX12_takes_14 (List.Mem.tail _ (List.Mem.tail _ (List.Mem.tail _ (List.Mem.head _)))) ?_
  refine am_iconst dX12_takes_15 (by unfold am_rg; omega) ?_
  refine am_icmpeq (tgt := 26) dX12_takes_16 (by decide) (fun c3 => ?_) (fun c3 => ?_)
  · replace h := h.1 c3
    exact am_sub [0, 1, 3] rfl h
  · replace h := h.2 c3
    refine am_aload_n dX12_takes_19 (List.Mem.head _) ?_
    refine am_getf (f := 88) (v := .inr (.inr (some (139, 0)))) dX12_takes_20 hc_10 (by decide) wd_1637 (by decide) rfl rfl ?_
    refine am_iload_n dX12_takes_23 (List.Mem.tail _ (List.Mem.tail _ (List.Mem.tail _ (List.Mem.head _)))) ?_
    refine am_iconst dX12_takes_24 (by unfold am_rg; omega) ?_
    have o4 := h.1
    replace h := h.2
    have o5 := h.1
    replace h := h.2
    refine am_zastore (by decide) dX12_takes_25 (Or.inl (by decide)) rfl o4 o5 ?_
    exact am_sub [0, 1, 3] rfl h
theorem bX12_takes_26 {SC : Nat → Nat} {X : mh_X} {d : Nat} {Q : Option am_V → am_W → Prop} {bc bs : Nat} {w : am_W} {x1 : Int} {x3 : Int}
    (h : am_M (mh_G X) SC (d + 3) 0 0 mX12_tries [.inr (.inr (some (9, 0))), .inl (am_w (x1 + 1))] w (fun r w1 => am_A (mh_G X) SC (d + 4) mX12_takes Q 33 [(0, .inr (.inr (some (9, 0)))), (1, .inl x1), (3, .inl x3)] (r.toList ++ []) w1 bc bs)) :
    am_A (mh_G X) SC (d + 4) mX12_takes Q 26 [(0, .inr (.inr (some (9, 0)))), (1, .inl x1), (3, .inl x3)] [] w bc bs := by
  refine am_aload_n dX12_takes_26 (List.Mem.head _) ?_
  refine am_iload_n dX12_takes_27 (List.Mem.tail _ (List.Mem.head _)) ?_
  refine am_iconst dX12_takes_28 (by unfold am_rg; omega) ?_
  refine am_iadd dX12_takes_29 ?_
  exact am_callv (d' := d + 3) (kc := 0) (ks := 0) (as := [.inl (am_w (x1 + 1))]) dX12_takes_30 wc_X12_tries wd_2222 wd_2224 wd_101 wd_122 ds_X12_tries (by decide) (by omega) (Nat.le_of_ble_eq_true rfl) (Nat.zero_le _) (Nat.zero_le _) hc_10 (by decide) rfl rfl h
theorem bX12_takes_33 {SC : Nat → Nat} {X : mh_X} {d : Nat} {Q : Option am_V → am_W → Prop} {bc bs : Nat} {w : am_W} {x1 : Int} {x3 : Int}
    (h : ((x3 = (-1) → Q none w) ∧ (¬ x3 = (-1) → (0 ≤ x3 ∧ (x3 < 40 ∧ Q none ((am_up w.1 139 0 x3.toNat 0), w.2)))))) :
    am_A (mh_G X) SC (d + 4) mX12_takes Q 33 [(0, .inr (.inr (some (9, 0)))), (1, .inl x1), (3, .inl x3)] [] w bc bs := by
  refine am_iload_n dX12_takes_33 (List.Mem.tail _ (List.Mem.tail _ (List.Mem.head _))) ?_
  refine am_iconst dX12_takes_34 (by unfold am_rg; omega) ?_
  refine am_icmpeq (tgt := 45) dX12_takes_35 (by decide) (fun c1 => ?_) (fun c1 => ?_)
  · replace h := h.1 c1
    exact am_ret (r := none) dX12_takes_45 rfl rfl h
  · replace h := h.2 c1
    refine am_aload_n dX12_takes_38 (List.Mem.head _) ?_
    refine am_getf (f := 88) (v := .inr (.inr (some (139, 0)))) dX12_takes_39 hc_10 (by decide) wd_1637 (by decide) rfl rfl ?_
    refine am_iload_n dX12_takes_42 (List.Mem.tail _ (List.Mem.tail _ (List.Mem.head _))) ?_
    refine am_iconst dX12_takes_43 (by unfold am_rg; omega) ?_
    have o2 := h.1
    replace h := h.2
    have o3 := h.1
    replace h := h.2
    refine am_zastore (by decide) dX12_takes_44 (Or.inl (by decide)) rfl o2 o3 ?_
    exact am_ret (r := none) dX12_takes_45 rfl rfl h
-- MourningHouseModel.plans(II)Z
theorem dX12_plans_0 : decode mX12_plans.2.1 0 = .ok (.iload_n 1, 1) := by decide +kernel
theorem dX12_plans_1 : decode mX12_plans.2.1 1 = .ok (.ifCond .lt 28, 3) := by decide +kernel
theorem dX12_plans_4 : decode mX12_plans.2.1 4 = .ok (.iload_n 2, 1) := by decide +kernel
theorem dX12_plans_5 : decode mX12_plans.2.1 5 = .ok (.aload_n 0, 1) := by decide +kernel
theorem dX12_plans_6 : decode mX12_plans.2.1 6 = .ok (.getfield 444, 3) := by decide +kernel
theorem dX12_plans_9 : decode mX12_plans.2.1 9 = .ok (.ldc_w 317, 3) := by decide +kernel
theorem dX12_plans_12 : decode mX12_plans.2.1 12 = .ok (.invokestatic 318, 3) := by decide +kernel
theorem dX12_plans_15 : decode mX12_plans.2.1 15 = .ok (.ifCond .eq 14, 3) := by decide +kernel
theorem dX12_plans_18 : decode mX12_plans.2.1 18 = .ok (.iload_n 2, 1) := by decide +kernel
theorem dX12_plans_19 : decode mX12_plans.2.1 19 = .ok (.aload_n 0, 1) := by decide +kernel
theorem dX12_plans_20 : decode mX12_plans.2.1 20 = .ok (.getfield 444, 3) := by decide +kernel
theorem dX12_plans_23 : decode mX12_plans.2.1 23 = .ok (.isub, 1) := by decide +kernel
theorem dX12_plans_24 : decode mX12_plans.2.1 24 = .ok (.bipush 100, 2) := by decide +kernel
theorem dX12_plans_26 : decode mX12_plans.2.1 26 = .ok (.if_icmp .le 5, 3) := by decide +kernel
theorem dX12_plans_29 : decode mX12_plans.2.1 29 = .ok (.iconst 0, 1) := by decide +kernel
theorem dX12_plans_30 : decode mX12_plans.2.1 30 = .ok (.ireturn, 1) := by decide +kernel
theorem dX12_plans_31 : decode mX12_plans.2.1 31 = .ok (.aload_n 0, 1) := by decide +kernel
theorem dX12_plans_32 : decode mX12_plans.2.1 32 = .ok (.iconst 0, 1) := by decide +kernel
theorem dX12_plans_33 : decode mX12_plans.2.1 33 = .ok (.putfield 600, 3) := by decide +kernel
theorem dX12_plans_36 : decode mX12_plans.2.1 36 = .ok (.iconst 0, 1) := by decide +kernel
theorem dX12_plans_37 : decode mX12_plans.2.1 37 = .ok (.istore_n 3, 1) := by decide +kernel
theorem dX12_plans_38 : decode mX12_plans.2.1 38 = .ok (.iload_n 3, 1) := by decide +kernel
theorem dX12_plans_39 : decode mX12_plans.2.1 39 = .ok (.bipush 31, 2) := by decide +kernel
theorem dX12_plans_41 : decode mX12_plans.2.1 41 = .ok (.if_icmp .ge 70, 3) := by decide +kernel
theorem dX12_plans_44 : decode mX12_plans.2.1 44 = .ok (.iload_n 1, 1) := by decide +kernel
theorem dX12_plans_45 : decode mX12_plans.2.1 45 = .ok (.iload_n 3, 1) := by decide +kernel
theorem dX12_plans_46 : decode mX12_plans.2.1 46 = .ok (.ishr, 1) := by decide +kernel
theorem dX12_plans_47 : decode mX12_plans.2.1 47 = .ok (.iconst 1, 1) := by decide +kernel
theorem dX12_plans_48 : decode mX12_plans.2.1 48 = .ok (.iand, 1) := by decide +kernel
theorem dX12_plans_49 : decode mX12_plans.2.1 49 = .ok (.ifCond .ne 6, 3) := by decide +kernel
theorem dX12_plans_52 : decode mX12_plans.2.1 52 = .ok (.goto 53, 3) := by decide +kernel
theorem dX12_plans_55 : decode mX12_plans.2.1 55 = .ok (.aload_n 0, 1) := by decide +kernel
theorem dX12_plans_56 : decode mX12_plans.2.1 56 = .ok (.getfield 600, 3) := by decide +kernel
theorem dX12_plans_59 : decode mX12_plans.2.1 59 = .ok (.iconst 5, 1) := by decide +kernel
theorem dX12_plans_60 : decode mX12_plans.2.1 60 = .ok (.if_icmp .eq 23, 3) := by decide +kernel
theorem dX12_plans_63 : decode mX12_plans.2.1 63 = .ok (.aload_n 0, 1) := by decide +kernel
theorem dX12_plans_64 : decode mX12_plans.2.1 64 = .ok (.iload_n 3, 1) := by decide +kernel
theorem dX12_plans_65 : decode mX12_plans.2.1 65 = .ok (.invokevirtual 453, 3) := by decide +kernel
theorem dX12_plans_68 : decode mX12_plans.2.1 68 = .ok (.ifCond .eq 15, 3) := by decide +kernel
theorem dX12_plans_71 : decode mX12_plans.2.1 71 = .ok (.aload_n 0, 1) := by decide +kernel
theorem dX12_plans_72 : decode mX12_plans.2.1 72 = .ok (.getfield 167, 3) := by decide +kernel
theorem dX12_plans_75 : decode mX12_plans.2.1 75 = .ok (.iload_n 3, 1) := by decide +kernel
theorem dX12_plans_76 : decode mX12_plans.2.1 76 = .ok (.iaload, 1) := by decide +kernel
theorem dX12_plans_77 : decode mX12_plans.2.1 77 = .ok (.ldc_w 325, 3) := by decide +kernel
theorem dX12_plans_80 : decode mX12_plans.2.1 80 = .ok (.if_icmp .eq 5, 3) := by decide +kernel
theorem dX12_plans_83 : decode mX12_plans.2.1 83 = .ok (.iconst 0, 1) := by decide +kernel
theorem dX12_plans_84 : decode mX12_plans.2.1 84 = .ok (.ireturn, 1) := by decide +kernel
theorem dX12_plans_85 : decode mX12_plans.2.1 85 = .ok (.aload_n 0, 1) := by decide +kernel
theorem dX12_plans_86 : decode mX12_plans.2.1 86 = .ok (.getfield 258, 3) := by decide +kernel
theorem dX12_plans_89 : decode mX12_plans.2.1 89 = .ok (.aload_n 0, 1) := by decide +kernel
theorem dX12_plans_90 : decode mX12_plans.2.1 90 = .ok (.getfield 600, 3) := by decide +kernel
theorem dX12_plans_93 : decode mX12_plans.2.1 93 = .ok (.iload_n 3, 1) := by decide +kernel
theorem dX12_plans_94 : decode mX12_plans.2.1 94 = .ok (.iastore, 1) := by decide +kernel
theorem dX12_plans_95 : decode mX12_plans.2.1 95 = .ok (.aload_n 0, 1) := by decide +kernel
theorem dX12_plans_96 : decode mX12_plans.2.1 96 = .ok (.dup, 1) := by decide +kernel
theorem dX12_plans_97 : decode mX12_plans.2.1 97 = .ok (.getfield 600, 3) := by decide +kernel
theorem dX12_plans_100 : decode mX12_plans.2.1 100 = .ok (.iconst 1, 1) := by decide +kernel
theorem dX12_plans_101 : decode mX12_plans.2.1 101 = .ok (.iadd, 1) := by decide +kernel
theorem dX12_plans_102 : decode mX12_plans.2.1 102 = .ok (.putfield 600, 3) := by decide +kernel
theorem dX12_plans_105 : decode mX12_plans.2.1 105 = .ok (.iinc 3 1, 3) := by decide +kernel
theorem dX12_plans_108 : decode mX12_plans.2.1 108 = .ok (.goto (-70), 3) := by decide +kernel
theorem dX12_plans_111 : decode mX12_plans.2.1 111 = .ok (.aload_n 0, 1) := by decide +kernel
theorem dX12_plans_112 : decode mX12_plans.2.1 112 = .ok (.getfield 600, 3) := by decide +kernel
theorem dX12_plans_115 : decode mX12_plans.2.1 115 = .ok (.ifCond .ne 5, 3) := by decide +kernel
theorem dX12_plans_118 : decode mX12_plans.2.1 118 = .ok (.iconst 0, 1) := by decide +kernel
theorem dX12_plans_119 : decode mX12_plans.2.1 119 = .ok (.ireturn, 1) := by decide +kernel
theorem dX12_plans_120 : decode mX12_plans.2.1 120 = .ok (.iconst 0, 1) := by decide +kernel
theorem dX12_plans_121 : decode mX12_plans.2.1 121 = .ok (.istore_n 3, 1) := by decide +kernel
theorem dX12_plans_122 : decode mX12_plans.2.1 122 = .ok (.iload_n 3, 1) := by decide +kernel
theorem dX12_plans_123 : decode mX12_plans.2.1 123 = .ok (.aload_n 0, 1) := by decide +kernel
theorem dX12_plans_124 : decode mX12_plans.2.1 124 = .ok (.getfield 600, 3) := by decide +kernel
theorem dX12_plans_127 : decode mX12_plans.2.1 127 = .ok (.if_icmp .ge 30, 3) := by decide +kernel
theorem dX12_plans_130 : decode mX12_plans.2.1 130 = .ok (.aload_n 0, 1) := by decide +kernel
theorem dX12_plans_131 : decode mX12_plans.2.1 131 = .ok (.getfield 261, 3) := by decide +kernel
theorem dX12_plans_134 : decode mX12_plans.2.1 134 = .ok (.iload_n 3, 1) := by decide +kernel
theorem dX12_plans_135 : decode mX12_plans.2.1 135 = .ok (.aload_n 0, 1) := by decide +kernel
theorem dX12_plans_136 : decode mX12_plans.2.1 136 = .ok (.aload_n 0, 1) := by decide +kernel
theorem dX12_plans_137 : decode mX12_plans.2.1 137 = .ok (.getfield 258, 3) := by decide +kernel
theorem dX12_plans_140 : decode mX12_plans.2.1 140 = .ok (.iload_n 3, 1) := by decide +kernel
theorem dX12_plans_141 : decode mX12_plans.2.1 141 = .ok (.iaload, 1) := by decide +kernel
theorem dX12_plans_142 : decode mX12_plans.2.1 142 = .ok (.iload_n 2, 1) := by decide +kernel
theorem dX12_plans_143 : decode mX12_plans.2.1 143 = .ok (.aload_n 0, 1) := by decide +kernel
theorem dX12_plans_144 : decode mX12_plans.2.1 144 = .ok (.getfield 444, 3) := by decide +kernel
theorem dX12_plans_147 : decode mX12_plans.2.1 147 = .ok (.invokevirtual 560, 3) := by decide +kernel
theorem dX12_plans_150 : decode mX12_plans.2.1 150 = .ok (.iastore, 1) := by decide +kernel
theorem dX12_plans_151 : decode mX12_plans.2.1 151 = .ok (.iinc 3 1, 3) := by decide +kernel
theorem dX12_plans_154 : decode mX12_plans.2.1 154 = .ok (.goto (-32), 3) := by decide +kernel
theorem dX12_plans_157 : decode mX12_plans.2.1 157 = .ok (.iconst 0, 1) := by decide +kernel
theorem dX12_plans_158 : decode mX12_plans.2.1 158 = .ok (.istore_n 3, 1) := by decide +kernel
theorem dX12_plans_159 : decode mX12_plans.2.1 159 = .ok (.iload_n 3, 1) := by decide +kernel
theorem dX12_plans_160 : decode mX12_plans.2.1 160 = .ok (.bipush 40, 2) := by decide +kernel
theorem dX12_plans_162 : decode mX12_plans.2.1 162 = .ok (.if_icmp .ge 16, 3) := by decide +kernel
theorem dX12_plans_165 : decode mX12_plans.2.1 165 = .ok (.aload_n 0, 1) := by decide +kernel
theorem dX12_plans_166 : decode mX12_plans.2.1 166 = .ok (.getfield 276, 3) := by decide +kernel
theorem dX12_plans_169 : decode mX12_plans.2.1 169 = .ok (.iload_n 3, 1) := by decide +kernel
theorem dX12_plans_170 : decode mX12_plans.2.1 170 = .ok (.iconst 0, 1) := by decide +kernel
theorem dX12_plans_171 : decode mX12_plans.2.1 171 = .ok (.bastore, 1) := by decide +kernel
theorem dX12_plans_172 : decode mX12_plans.2.1 172 = .ok (.iinc 3 1, 3) := by decide +kernel
theorem dX12_plans_175 : decode mX12_plans.2.1 175 = .ok (.goto (-16), 3) := by decide +kernel
theorem dX12_plans_178 : decode mX12_plans.2.1 178 = .ok (.iconst 0, 1) := by decide +kernel
theorem dX12_plans_179 : decode mX12_plans.2.1 179 = .ok (.istore_n 3, 1) := by decide +kernel
theorem dX12_plans_180 : decode mX12_plans.2.1 180 = .ok (.iload_n 3, 1) := by decide +kernel
theorem dX12_plans_181 : decode mX12_plans.2.1 181 = .ok (.iconst 5, 1) := by decide +kernel
theorem dX12_plans_182 : decode mX12_plans.2.1 182 = .ok (.if_icmp .ge 16, 3) := by decide +kernel
theorem dX12_plans_185 : decode mX12_plans.2.1 185 = .ok (.aload_n 0, 1) := by decide +kernel
theorem dX12_plans_186 : decode mX12_plans.2.1 186 = .ok (.getfield 279, 3) := by decide +kernel
theorem dX12_plans_189 : decode mX12_plans.2.1 189 = .ok (.iload_n 3, 1) := by decide +kernel
theorem dX12_plans_190 : decode mX12_plans.2.1 190 = .ok (.iconst 0, 1) := by decide +kernel
theorem dX12_plans_191 : decode mX12_plans.2.1 191 = .ok (.iastore, 1) := by decide +kernel
theorem dX12_plans_192 : decode mX12_plans.2.1 192 = .ok (.iinc 3 1, 3) := by decide +kernel
theorem dX12_plans_195 : decode mX12_plans.2.1 195 = .ok (.goto (-15), 3) := by decide +kernel
theorem dX12_plans_198 : decode mX12_plans.2.1 198 = .ok (.aload_n 0, 1) := by decide +kernel
theorem dX12_plans_199 : decode mX12_plans.2.1 199 = .ok (.iload_n 2, 1) := by decide +kernel
theorem dX12_plans_200 : decode mX12_plans.2.1 200 = .ok (.aload_n 0, 1) := by decide +kernel
theorem dX12_plans_201 : decode mX12_plans.2.1 201 = .ok (.getfield 444, 3) := by decide +kernel
theorem dX12_plans_204 : decode mX12_plans.2.1 204 = .ok (.isub, 1) := by decide +kernel
theorem dX12_plans_205 : decode mX12_plans.2.1 205 = .ok (.putfield 603, 3) := by decide +kernel
theorem dX12_plans_208 : decode mX12_plans.2.1 208 = .ok (.aload_n 0, 1) := by decide +kernel
theorem dX12_plans_209 : decode mX12_plans.2.1 209 = .ok (.bipush 6, 2) := by decide +kernel
theorem dX12_plans_211 : decode mX12_plans.2.1 211 = .ok (.putfield 605, 3) := by decide +kernel
theorem dX12_plans_214 : decode mX12_plans.2.1 214 = .ok (.aload_n 0, 1) := by decide +kernel
theorem dX12_plans_215 : decode mX12_plans.2.1 215 = .ok (.iconst 0, 1) := by decide +kernel
theorem dX12_plans_216 : decode mX12_plans.2.1 216 = .ok (.invokevirtual 618, 3) := by decide +kernel
theorem dX12_plans_219 : decode mX12_plans.2.1 219 = .ok (.iconst 1, 1) := by decide +kernel
theorem dX12_plans_220 : decode mX12_plans.2.1 220 = .ok (.ireturn, 1) := by decide +kernel
theorem bX12_plans_0 {SC : Nat → Nat} {X : mh_X} {d : Nat} {Q : Option am_V → am_W → Prop} {bc bs : Nat} {w : am_W} {x1 : Int} {x2 : Int}
    (h : ((x1 < 0 → Q (some (.inl 0)) w) ∧ (¬ x1 < 0 → ((¬ (¬ x2 < (w.1 9 0 33) ∧ (¬ (73047 : Int) < x2)) → Q (some (.inl 0)) w) ∧ ((¬ x2 < (w.1 9 0 33) ∧ (¬ (73047 : Int) < x2)) → (((am_w (x2 - (w.1 9 0 33))) ≤ 100 → am_A (mh_G X) SC (d + 12) mX12_plans Q 38 [(0, .inr (.inr (some (9, 0)))), (1, .inl x1), (2, .inl x2), (3, .inl 0)] [] ((am_up w.1 9 0 91 0), w.2) bc bs) ∧ (¬ (am_w (x2 - (w.1 9 0 33))) ≤ 100 → Q (some (.inl 0)) w))))))) :
    am_A (mh_G X) SC (d + 12) mX12_plans Q 0 [(0, .inr (.inr (some (9, 0)))), (1, .inl x1), (2, .inl x2)] [] w bc bs := by
  refine am_iload_n dX12_plans_0 (List.Mem.tail _ (List.Mem.head _)) ?_
  refine am_iflt (tgt := 29) dX12_plans_1 (by decide) (fun c1 => ?_) (fun c1 => ?_)
  · replace h := h.1 c1
    refine am_iconst dX12_plans_29 (by unfold am_rg; omega) ?_
    exact am_ret (r := some (.inl 0)) dX12_plans_30 (Or.inr (Or.inl ⟨rfl, (Or.inl rfl)⟩)) rfl h
  · replace h := h.2 c1
    refine am_iload_n dX12_plans_4 (List.Mem.tail _ (List.Mem.tail _ (List.Mem.head _))) ?_
    refine am_aload_n dX12_plans_5 (List.Mem.head _) ?_
    refine am_getf (f := 33) (v := .inl (w.1 9 0 33)) dX12_plans_6 hc_10 (by decide) wd_1582 (by decide) rfl rfl ?_
    refine am_ldcwV (n := 73047) dX12_plans_9 (by decide) wd_1858 (by unfold am_rg; omega) ?_
    refine am_calls (d' := d + 11) (kc := 0) (ks := 0) (as := [.inl x2, .inl (w.1 9 0 33), .inl 73047]) dX12_plans_12 wc_X12_in wd_1859 wd_1860 wd_122 ds_X12_in (by decide) (by omega) (Nat.le_of_ble_eq_true rfl) (Nat.zero_le _) (Nat.zero_le _) rfl (sX12_in (d := d + 10) (x0 := x2) (x1 := (w.1 9 0 33)) (x2 := 73047)  ?_)
    show am_A (mh_G X) SC (d + 12) mX12_plans Q 15 [(0, .inr (.inr (some (9, 0)))), (1, .inl x1), (2, .inl x2)] [.inl (if (¬ x2 < (w.1 9 0 33) ∧ (¬ (73047 : Int) < x2)) then 1 else 0)] w bc bs
    refine am_ifeq (tgt := 29) dX12_plans_15 (by decide) (fun c2 => ?_) (fun c2 => ?_)
    · replace c2 := am_beq1 c2
      replace h := h.1 c2
      refine am_iconst dX12_plans_29 (by unfold am_rg; omega) ?_
      exact am_ret (r := some (.inl 0)) dX12_plans_30 (Or.inr (Or.inl ⟨rfl, (Or.inl rfl)⟩)) rfl h
    · replace c2 := am_beq2 c2
      replace h := h.2 c2
      refine am_iload_n dX12_plans_18 (List.Mem.tail _ (List.Mem.tail _ (List.Mem.head _))) ?_
      refine am_aload_n dX12_plans_19 (List.Mem.head _) ?_
      refine am_getf (f := 33) (v := .inl (w.1 9 0 33)) dX12_plans_20 hc_10 (by decide) wd_1582 (by decide) rfl rfl ?_
      refine am_isub dX12_plans_23 ?_
      refine am_bipush dX12_plans_24 (by decide) (by unfold am_rg; omega) ?_
      refine am_icmple (tgt := 31) dX12_plans_26 (by decide) (fun c3 => ?_) (fun c3 => ?_)
      · replace h := h.1 c3
        refine am_aload_n dX12_plans_31 (List.Mem.head _) ?_
        refine am_iconst dX12_plans_32 (by unfold am_rg; omega) ?_
        refine am_putf (f := 91) dX12_plans_33 hc_10 (by decide) wd_1640 rfl (Or.inl rfl) (Or.inl (by decide)) rfl ?_
        refine am_iconst dX12_plans_36 (by unfold am_rg; omega) ?_
        refine am_istore_n (ls' := [(3, .inl 0), (0, .inr (.inr (some (9, 0)))), (1, .inl x1), (2, .inl x2)]) dX12_plans_37 (by decide) rfl ?_
        exact am_sub [1, 2, 3, 0] rfl h
      · replace h := h.2 c3
        refine am_iconst dX12_plans_29 (by unfold am_rg; omega) ?_
        exact am_ret (r := some (.inl 0)) dX12_plans_30 (Or.inr (Or.inl ⟨rfl, (Or.inl rfl)⟩)) rfl h
theorem bX12_plans_38 {SC : Nat → Nat} {X : mh_X} {d : Nat} {Q : Option am_V → am_W → Prop} {bc bs : Nat} {w : am_W} {x1 : Int} {x2 : Int} {x3 : Int}
    (h : ((31 ≤ x3 → ((¬ (w.1 9 0 91) = 0 → am_A (mh_G X) SC (d + 12) mX12_plans Q 122 [(0, .inr (.inr (some (9, 0)))), (2, .inl x2), (3, .inl 0)] [] w bc bs) ∧ ((w.1 9 0 91) = 0 → Q (some (.inl 0)) w))) ∧ (¬ 31 ≤ x3 → ((¬ (am_and (am_shr x1 x3) 1) = 0 → (((w.1 9 0 91) = 5 → Q (some (.inl 0)) w) ∧ (¬ (w.1 9 0 91) = 5 → ((¬ (¬ x3 < (0 : Int) ∧ (¬ (am_w ((w.1 9 0 42) - 1)) < x3)) → Q (some (.inl 0)) w) ∧ ((¬ x3 < (0 : Int) ∧ (¬ (am_w ((w.1 9 0 42) - 1)) < x3)) → (0 ≤ x3 ∧ (x3 < 40 ∧ (((w.1 102 0 x3.toNat) = (-2147483648) → (0 ≤ (w.1 9 0 91) ∧ ((w.1 9 0 91) < 5 ∧ am_A (mh_G X) SC (d + 12) mX12_plans Q 105 [(0, .inr (.inr (some (9, 0)))), (1, .inl x1), (2, .inl x2), (3, .inl x3)] [] ((am_up (am_up w.1 133 0 (w.1 9 0 91).toNat x3) 9 0 91 (am_w ((w.1 9 0 91) + 1))), w.2) bc bs))) ∧ (¬ (w.1 102 0 x3.toNat) = (-2147483648) → Q (some (.inl 0)) w))))))))) ∧ ((am_and (am_shr x1 x3) 1) = 0 → am_A (mh_G X) SC (d + 12) mX12_plans Q 105 [(0, .inr (.inr (some (9, 0)))), (1, .inl x1), (2, .inl x2), (3, .inl x3)] [] w bc bs))))) :
    am_A (mh_G X) SC (d + 12) mX12_plans Q 38 [(0, .inr (.inr (some (9, 0)))), (1, .inl x1), (2, .inl x2), (3, .inl x3)] [] w bc bs := by
  refine am_iload_n dX12_plans_38 (List.Mem.tail _ (List.Mem.tail _ (List.Mem.tail _ (List.Mem.head _)))) ?_
  refine am_bipush dX12_plans_39 (by decide) (by unfold am_rg; omega) ?_
  refine am_icmpge (tgt := 111) dX12_plans_41 (by decide) (fun c1 => ?_) (fun c1 => ?_)
  · replace h := h.1 c1
    refine am_aload_n dX12_plans_111 (List.Mem.head _) ?_
    refine am_getf (f := 91) (v := .inl (w.1 9 0 91)) dX12_plans_112 hc_10 (by decide) wd_1640 (by decide) rfl rfl ?_
    refine am_ifne (tgt := 120) dX12_plans_115 (by decide) (fun c2 => ?_) (fun c2 => ?_)
    · replace h := h.1 c2
      refine am_iconst dX12_plans_120 (by unfold am_rg; omega) ?_
      refine am_istore_n (ls' := [(3, .inl 0), (0, .inr (.inr (some (9, 0)))), (1, .inl x1), (2, .inl x2)]) dX12_plans_121 (by decide) rfl ?_
      exact am_sub [1, 3, 0] rfl h
    · replace h := h.2 c2
      refine am_iconst dX12_plans_118 (by unfold am_rg; omega) ?_
      exact am_ret (r := some (.inl 0)) dX12_plans_119 (Or.inr (Or.inl ⟨rfl, (Or.inl rfl)⟩)) rfl h
  · replace h := h.2 c1
    refine am_iload_n dX12_plans_44 (List.Mem.tail _ (List.Mem.head _)) ?_
    refine am_iload_n dX12_plans_45 (List.Mem.tail _ (List.Mem.tail _ (List.Mem.tail _ (List.Mem.head _)))) ?_
    refine am_ishr dX12_plans_46 ?_
    refine am_iconst dX12_plans_47 (by unfold am_rg; omega) ?_
    refine am_iand dX12_plans_48 ?_
    refine am_ifne (tgt := 55) dX12_plans_49 (by decide) (fun c3 => ?_) (fun c3 => ?_)
    · replace h := h.1 c3
      refine am_aload_n dX12_plans_55 (List.Mem.head _) ?_
      refine am_getf (f := 91) (v := .inl (w.1 9 0 91)) dX12_plans_56 hc_10 (by decide) wd_1640 (by decide) rfl rfl ?_
      refine am_iconst dX12_plans_59 (by unfold am_rg; omega) ?_
      refine am_icmpeq (tgt := 83) dX12_plans_60 (by decide) (fun c4 => ?_) (fun c4 => ?_)
      · replace h := h.1 c4
        refine am_iconst dX12_plans_83 (by unfold am_rg; omega) ?_
        exact am_ret (r := some (.inl 0)) dX12_plans_84 (Or.inr (Or.inl ⟨rfl, (Or.inl rfl)⟩)) rfl h
      · replace h := h.2 c4
        refine am_aload_n dX12_plans_63 (List.Mem.head _) ?_
        refine am_iload_n dX12_plans_64 (List.Mem.tail _ (List.Mem.tail _ (List.Mem.tail _ (List.Mem.head _)))) ?_
        refine am_callv (d' := d + 11) (kc := 0) (ks := 0) (as := [.inl x3]) dX12_plans_65 wc_X12_isPerson wd_2018 wd_2020 wd_73 wd_122 ds_X12_isPerson (by decide) (by omega) (Nat.le_of_ble_eq_true rfl) (Nat.zero_le _) (Nat.zero_le _) hc_10 (by decide) rfl rfl (sX12_isPerson (d := d + 9) (x1 := x3)  ?_)
        show am_A (mh_G X) SC (d + 12) mX12_plans Q 68 [(0, .inr (.inr (some (9, 0)))), (1, .inl x1), (2, .inl x2), (3, .inl x3)] [.inl (if (¬ x3 < (0 : Int) ∧ (¬ (am_w ((w.1 9 0 42) - 1)) < x3)) then 1 else 0)] w bc bs
        refine am_ifeq (tgt := 83) dX12_plans_68 (by decide) (fun c5 => ?_) (fun c5 => ?_)
        · replace c5 := am_beq1 c5
          replace h := h.1 c5
          refine am_iconst dX12_plans_83 (by unfold am_rg; omega) ?_
          exact am_ret (r := some (.inl 0)) dX12_plans_84 (Or.inr (Or.inl ⟨rfl, (Or.inl rfl)⟩)) rfl h
        · replace c5 := am_beq2 c5
          replace h := h.2 c5
          refine am_aload_n dX12_plans_71 (List.Mem.head _) ?_
          refine am_getf (f := 40) (v := .inr (.inr (some (102, 0)))) dX12_plans_72 hc_10 (by decide) wd_1589 (by decide) rfl rfl ?_
          refine am_iload_n dX12_plans_75 (List.Mem.tail _ (List.Mem.tail _ (List.Mem.tail _ (List.Mem.head _)))) ?_
          have o6 := h.1
          replace h := h.2
          have o7 := h.1
          replace h := h.2
          refine am_iaload (v := (w.1 102 0 x3.toNat)) dX12_plans_76 (by decide) rfl o6 o7 rfl ?_
          refine am_ldcwV (n := (-2147483648)) dX12_plans_77 (by decide) wd_1887 (by unfold am_rg; omega) ?_
          refine am_icmpeq (tgt := 85) dX12_plans_80 (by decide) (fun c8 => ?_) (fun c8 => ?_)
          · replace h := h.1 c8
            refine am_aload_n dX12_plans_85 (List.Mem.head _) ?_
            refine am_getf (f := 82) (v := .inr (.inr (some (133, 0)))) dX12_plans_86 hc_10 (by decide) wd_1631 (by decide) rfl rfl ?_
            refine am_aload_n dX12_plans_89 (List.Mem.head _) ?_
            refine am_getf (f := 91) (v := .inl (w.1 9 0 91)) dX12_plans_90 hc_10 (by decide) wd_1640 (by decide) rfl rfl ?_
            refine am_iload_n dX12_plans_93 (List.Mem.tail _ (List.Mem.tail _ (List.Mem.tail _ (List.Mem.head _)))) ?_
            have o9 := h.1
            replace h := h.2
            have o10 := h.1
            replace h := h.2
            refine am_iastore dX12_plans_94 (Or.inl (by decide)) rfl o9 o10 ?_
            refine am_aload_n dX12_plans_95 (List.Mem.head _) ?_
            refine am_dup dX12_plans_96 rfl ?_
            refine am_getf (f := 91) (v := .inl (w.1 9 0 91)) dX12_plans_97 hc_10 (by decide) wd_1640 (by decide) rfl rfl ?_
            refine am_iconst dX12_plans_100 (by unfold am_rg; omega) ?_
            refine am_iadd dX12_plans_101 ?_
            refine am_putf (f := 91) dX12_plans_102 hc_10 (by decide) wd_1640 rfl (Or.inl rfl) (Or.inl (by decide)) rfl ?_
            exact h
          · replace h := h.2 c8
            refine am_iconst dX12_plans_83 (by unfold am_rg; omega) ?_
            exact am_ret (r := some (.inl 0)) dX12_plans_84 (Or.inr (Or.inl ⟨rfl, (Or.inl rfl)⟩)) rfl h
    · replace h := h.2 c3
      refine am_goto (tgt := 105) dX12_plans_52 (by decide) ?_
      exact h
theorem bX12_plans_122 {SC : Nat → Nat} {X : mh_X} {d : Nat} {Q : Option am_V → am_W → Prop} {bc bs : Nat} {w : am_W} {x2 : Int} {x3 : Int}
    (h : (((w.1 9 0 91) ≤ x3 → am_A (mh_G X) SC (d + 12) mX12_plans Q 159 [(0, .inr (.inr (some (9, 0)))), (2, .inl x2), (3, .inl 0)] [] w bc bs) ∧ (¬ (w.1 9 0 91) ≤ x3 → (0 ≤ x3 ∧ (x3 < 5 ∧ am_M (mh_G X) SC (d + 11) 0 0 mX12_depthAt [.inr (.inr (some (9, 0))), .inl (w.1 133 0 x3.toNat), .inl x2, .inl (w.1 9 0 33)] w (fun r w1 => am_A (mh_G X) SC (d + 12) mX12_plans Q 150 [(0, .inr (.inr (some (9, 0)))), (2, .inl x2), (3, .inl x3)] (r.toList ++ [.inl x3, .inr (.inr (some (134, 0)))]) w1 bc bs)))))) :
    am_A (mh_G X) SC (d + 12) mX12_plans Q 122 [(0, .inr (.inr (some (9, 0)))), (2, .inl x2), (3, .inl x3)] [] w bc bs := by
  refine am_iload_n dX12_plans_122 (List.Mem.tail _ (List.Mem.tail _ (List.Mem.head _))) ?_
  refine am_aload_n dX12_plans_123 (List.Mem.head _) ?_
  refine am_getf (f := 91) (v := .inl (w.1 9 0 91)) dX12_plans_124 hc_10 (by decide) wd_1640 (by decide) rfl rfl ?_
  refine am_icmpge (tgt := 157) dX12_plans_127 (by decide) (fun c1 => ?_) (fun c1 => ?_)
  · replace h := h.1 c1
    refine am_iconst dX12_plans_157 (by unfold am_rg; omega) ?_
    refine am_istore_n (ls' := [(3, .inl 0), (0, .inr (.inr (some (9, 0)))), (2, .inl x2)]) dX12_plans_158 (by decide) rfl ?_
    exact am_sub [1, 2, 0] rfl h
  · replace h := h.2 c1
    refine am_aload_n dX12_plans_130 (List.Mem.head _) ?_
    refine am_getf (f := 83) (v := .inr (.inr (some (134, 0)))) dX12_plans_131 hc_10 (by decide) wd_1632 (by decide) rfl rfl ?_
    refine am_iload_n dX12_plans_134 (List.Mem.tail _ (List.Mem.tail _ (List.Mem.head _))) ?_
    refine am_aload_n dX12_plans_135 (List.Mem.head _) ?_
    refine am_aload_n dX12_plans_136 (List.Mem.head _) ?_
    refine am_getf (f := 82) (v := .inr (.inr (some (133, 0)))) dX12_plans_137 hc_10 (by decide) wd_1631 (by decide) rfl rfl ?_
    refine am_iload_n dX12_plans_140 (List.Mem.tail _ (List.Mem.tail _ (List.Mem.head _))) ?_
    have o2 := h.1
    replace h := h.2
    have o3 := h.1
    replace h := h.2
    refine am_iaload (v := (w.1 133 0 x3.toNat)) dX12_plans_141 (by decide) rfl o2 o3 rfl ?_
    refine am_iload_n dX12_plans_142 (List.Mem.tail _ (List.Mem.head _)) ?_
    refine am_aload_n dX12_plans_143 (List.Mem.head _) ?_
    refine am_getf (f := 33) (v := .inl (w.1 9 0 33)) dX12_plans_144 hc_10 (by decide) wd_1582 (by decide) rfl rfl ?_
    exact am_callv (d' := d + 11) (kc := 0) (ks := 0) (as := [.inl (w.1 133 0 x3.toNat), .inl x2, .inl (w.1 9 0 33)]) dX12_plans_147 wc_X12_depthAt wd_2085 wd_2087 wd_83 wd_122 ds_X12_depthAt (by decide) (by omega) (Nat.le_of_ble_eq_true rfl) (Nat.zero_le _) (Nat.zero_le _) hc_10 (by decide) rfl rfl h
theorem bX12_plans_105 {SC : Nat → Nat} {X : mh_X} {d : Nat} {Q : Option am_V → am_W → Prop} {bc bs : Nat} {w : am_W} {x1 : Int} {x2 : Int} {x3 : Int}
    (h : am_A (mh_G X) SC (d + 12) mX12_plans Q 38 [(0, .inr (.inr (some (9, 0)))), (1, .inl x1), (2, .inl x2), (3, .inl (am_w (x3 + 1)))] [] w bc bs) :
    am_A (mh_G X) SC (d + 12) mX12_plans Q 105 [(0, .inr (.inr (some (9, 0)))), (1, .inl x1), (2, .inl x2), (3, .inl x3)] [] w bc bs := by
  refine am_iinc (ls' := [(3, .inl (am_w (x3 + 1))), (0, .inr (.inr (some (9, 0)))), (1, .inl x1), (2, .inl x2)]) dX12_plans_105 (List.Mem.tail _ (List.Mem.tail _ (List.Mem.tail _ (List.Mem.head _)))) (by decide) rfl ?_
  refine am_goto (tgt := 38) dX12_plans_108 (by decide) ?_
  exact am_sub [1, 2, 3, 0] rfl h
theorem bX12_plans_159 {SC : Nat → Nat} {X : mh_X} {d : Nat} {Q : Option am_V → am_W → Prop} {bc bs : Nat} {w : am_W} {x2 : Int} {x3 : Int}
    (h : ((40 ≤ x3 → am_A (mh_G X) SC (d + 12) mX12_plans Q 180 [(0, .inr (.inr (some (9, 0)))), (2, .inl x2), (3, .inl 0)] [] w bc bs) ∧ (¬ 40 ≤ x3 → (0 ≤ x3 ∧ (x3 < 40 ∧ am_A (mh_G X) SC (d + 12) mX12_plans Q 159 [(0, .inr (.inr (some (9, 0)))), (2, .inl x2), (3, .inl (am_w (x3 + 1)))] [] ((am_up w.1 139 0 x3.toNat 0), w.2) bc bs))))) :
    am_A (mh_G X) SC (d + 12) mX12_plans Q 159 [(0, .inr (.inr (some (9, 0)))), (2, .inl x2), (3, .inl x3)] [] w bc bs := by
  refine am_iload_n dX12_plans_159 (List.Mem.tail _ (List.Mem.tail _ (List.Mem.head _))) ?_
  refine am_bipush dX12_plans_160 (by decide) (by unfold am_rg; omega) ?_
  refine am_icmpge (tgt := 178) dX12_plans_162 (by decide) (fun c1 => ?_) (fun c1 => ?_)
  · replace h := h.1 c1
    refine am_iconst dX12_plans_178 (by unfold am_rg; omega) ?_
    refine am_istore_n (ls' := [(3, .inl 0), (0, .inr (.inr (some (9, 0)))), (2, .inl x2)]) dX12_plans_179 (by decide) rfl ?_
    exact am_sub [1, 2, 0] rfl h
  · replace h := h.2 c1
    refine am_aload_n dX12_plans_165 (List.Mem.head _) ?_
    refine am_getf (f := 88) (v := .inr (.inr (some (139, 0)))) dX12_plans_166 hc_10 (by decide) wd_1637 (by decide) rfl rfl ?_
    refine am_iload_n dX12_plans_169 (List.Mem.tail _ (List.Mem.tail _ (List.Mem.head _))) ?_
    refine am_iconst dX12_plans_170 (by unfold am_rg; omega) ?_
    have o2 := h.1
    replace h := h.2
    have o3 := h.1
    replace h := h.2
    refine am_zastore (by decide) dX12_plans_171 (Or.inl (by decide)) rfl o2 o3 ?_
    refine am_iinc (ls' := [(3, .inl (am_w (x3 + 1))), (0, .inr (.inr (some (9, 0)))), (2, .inl x2)]) dX12_plans_172 (List.Mem.tail _ (List.Mem.tail _ (List.Mem.head _))) (by decide) rfl ?_
    refine am_goto (tgt := 159) dX12_plans_175 (by decide) ?_
    exact am_sub [1, 2, 0] rfl h
theorem bX12_plans_150 {SC : Nat → Nat} {X : mh_X} {d : Nat} {Q : Option am_V → am_W → Prop} {bc bs : Nat} {w : am_W} {x2 : Int} {x3 : Int} {xs0 : Int} {xs1 : Int}
    (h : (0 ≤ xs1 ∧ (xs1 < 5 ∧ am_A (mh_G X) SC (d + 12) mX12_plans Q 122 [(0, .inr (.inr (some (9, 0)))), (2, .inl x2), (3, .inl (am_w (x3 + 1)))] [] ((am_up w.1 134 0 xs1.toNat xs0), w.2) bc bs))) :
    am_A (mh_G X) SC (d + 12) mX12_plans Q 150 [(0, .inr (.inr (some (9, 0)))), (2, .inl x2), (3, .inl x3)] [.inl xs0, .inl xs1, .inr (.inr (some (134, 0)))] w bc bs := by
  have o1 := h.1
  replace h := h.2
  have o2 := h.1
  replace h := h.2
  refine am_iastore dX12_plans_150 (Or.inl (by decide)) rfl o1 o2 ?_
  refine am_iinc (ls' := [(3, .inl (am_w (x3 + 1))), (0, .inr (.inr (some (9, 0)))), (2, .inl x2)]) dX12_plans_151 (List.Mem.tail _ (List.Mem.tail _ (List.Mem.head _))) (by decide) rfl ?_
  refine am_goto (tgt := 122) dX12_plans_154 (by decide) ?_
  exact am_sub [1, 2, 0] rfl h
theorem bX12_plans_180 {SC : Nat → Nat} {X : mh_X} {d : Nat} {Q : Option am_V → am_W → Prop} {bc bs : Nat} {w : am_W} {x2 : Int} {x3 : Int}
    (h : ((5 ≤ x3 → am_M (mh_G X) SC (d + 11) 0 0 mX12_tries [.inr (.inr (some (9, 0))), .inl 0] ((am_up (am_up w.1 9 0 95 (am_w (x2 - (w.1 9 0 33)))) 9 0 92 6), w.2) (fun r w1 => am_A (mh_G X) SC (d + 12) mX12_plans Q 219 [(0, .inr (.inr (some (9, 0)))), (2, .inl x2), (3, .inl x3)] (r.toList ++ []) w1 bc bs)) ∧ (¬ 5 ≤ x3 → (0 ≤ x3 ∧ (x3 < 5 ∧ am_A (mh_G X) SC (d + 12) mX12_plans Q 180 [(0, .inr (.inr (some (9, 0)))), (2, .inl x2), (3, .inl (am_w (x3 + 1)))] [] ((am_up w.1 140 0 x3.toNat 0), w.2) bc bs))))) :
    am_A (mh_G X) SC (d + 12) mX12_plans Q 180 [(0, .inr (.inr (some (9, 0)))), (2, .inl x2), (3, .inl x3)] [] w bc bs := by
  refine am_iload_n dX12_plans_180 (List.Mem.tail _ (List.Mem.tail _ (List.Mem.head _))) ?_
  refine am_iconst dX12_plans_181 (by unfold am_rg; omega) ?_
  refine am_icmpge (tgt := 198) dX12_plans_182 (by decide) (fun c1 => ?_) (fun c1 => ?_)
  · replace h := h.1 c1
    refine am_aload_n dX12_plans_198 (List.Mem.head _) ?_
    refine am_iload_n dX12_plans_199 (List.Mem.tail _ (List.Mem.head _)) ?_
    refine am_aload_n dX12_plans_200 (List.Mem.head _) ?_
    refine am_getf (f := 33) (v := .inl (w.1 9 0 33)) dX12_plans_201 hc_10 (by decide) wd_1582 (by decide) rfl rfl ?_
    refine am_isub dX12_plans_204 ?_
    refine am_putf (f := 95) dX12_plans_205 hc_10 (by decide) wd_1644 rfl (Or.inl rfl) (Or.inl (by decide)) rfl ?_
    refine am_aload_n dX12_plans_208 (List.Mem.head _) ?_
    refine am_bipush dX12_plans_209 (by decide) (by unfold am_rg; omega) ?_
    refine am_putf (f := 92) dX12_plans_211 hc_10 (by decide) wd_1641 rfl (Or.inl rfl) (Or.inl (by decide)) rfl ?_
    refine am_aload_n dX12_plans_214 (List.Mem.head _) ?_
    refine am_iconst dX12_plans_215 (by unfold am_rg; omega) ?_
    exact am_callv (d' := d + 11) (kc := 0) (ks := 0) (as := [.inl 0]) dX12_plans_216 wc_X12_tries wd_2222 wd_2224 wd_101 wd_122 ds_X12_tries (by decide) (by omega) (Nat.le_of_ble_eq_true rfl) (Nat.zero_le _) (Nat.zero_le _) hc_10 (by decide) rfl rfl h
  · replace h := h.2 c1
    refine am_aload_n dX12_plans_185 (List.Mem.head _) ?_
    refine am_getf (f := 89) (v := .inr (.inr (some (140, 0)))) dX12_plans_186 hc_10 (by decide) wd_1638 (by decide) rfl rfl ?_
    refine am_iload_n dX12_plans_189 (List.Mem.tail _ (List.Mem.tail _ (List.Mem.head _))) ?_
    refine am_iconst dX12_plans_190 (by unfold am_rg; omega) ?_
    have o2 := h.1
    replace h := h.2
    have o3 := h.1
    replace h := h.2
    refine am_iastore dX12_plans_191 (Or.inl (by decide)) rfl o2 o3 ?_
    refine am_iinc (ls' := [(3, .inl (am_w (x3 + 1))), (0, .inr (.inr (some (9, 0)))), (2, .inl x2)]) dX12_plans_192 (List.Mem.tail _ (List.Mem.tail _ (List.Mem.head _))) (by decide) rfl ?_
    refine am_goto (tgt := 180) dX12_plans_195 (by decide) ?_
    exact am_sub [1, 2, 0] rfl h
theorem bX12_plans_219 {SC : Nat → Nat} {X : mh_X} {d : Nat} {Q : Option am_V → am_W → Prop} {bc bs : Nat} {w : am_W} {x2 : Int} {x3 : Int}
    (h : Q (some (.inl 1)) w) :
    am_A (mh_G X) SC (d + 12) mX12_plans Q 219 [(0, .inr (.inr (some (9, 0)))), (2, .inl x2), (3, .inl x3)] [] w bc bs := by
  refine am_iconst dX12_plans_219 (by unfold am_rg; omega) ?_
  exact am_ret (r := some (.inl 1)) dX12_plans_220 (Or.inr (Or.inl ⟨rfl, (Or.inr rfl)⟩)) rfl h
-- MourningHouseModel.plan(III)I
theorem dX12_plan_0 : decode mX12_plan.2.1 0 = .ok (.aload_n 0, 1) := by decide +kernel
theorem dX12_plan_1 : decode mX12_plan.2.1 1 = .ok (.iload_n 1, 1) := by decide +kernel
theorem dX12_plan_2 : decode mX12_plan.2.1 2 = .ok (.iload_n 2, 1) := by decide +kernel
theorem dX12_plan_3 : decode mX12_plan.2.1 3 = .ok (.invokevirtual 631, 3) := by decide +kernel
theorem dX12_plan_6 : decode mX12_plan.2.1 6 = .ok (.ifCond .eq 26, 3) := by decide +kernel
theorem dX12_plan_9 : decode mX12_plan.2.1 9 = .ok (.iload_n 3, 1) := by decide +kernel
theorem dX12_plan_10 : decode mX12_plan.2.1 10 = .ok (.iconst 0, 1) := by decide +kernel
theorem dX12_plan_11 : decode mX12_plan.2.1 11 = .ok (.aload_n 0, 1) := by decide +kernel
theorem dX12_plan_12 : decode mX12_plan.2.1 12 = .ok (.getfield 600, 3) := by decide +kernel
theorem dX12_plan_15 : decode mX12_plan.2.1 15 = .ok (.iconst 1, 1) := by decide +kernel
theorem dX12_plan_16 : decode mX12_plan.2.1 16 = .ok (.isub, 1) := by decide +kernel
theorem dX12_plan_17 : decode mX12_plan.2.1 17 = .ok (.invokestatic 318, 3) := by decide +kernel
theorem dX12_plan_20 : decode mX12_plan.2.1 20 = .ok (.ifCond .eq 12, 3) := by decide +kernel
theorem dX12_plan_23 : decode mX12_plan.2.1 23 = .ok (.aload_n 0, 1) := by decide +kernel
theorem dX12_plan_24 : decode mX12_plan.2.1 24 = .ok (.getfield 270, 3) := by decide +kernel
theorem dX12_plan_27 : decode mX12_plan.2.1 27 = .ok (.iload_n 3, 1) := by decide +kernel
theorem dX12_plan_28 : decode mX12_plan.2.1 28 = .ok (.iaload, 1) := by decide +kernel
theorem dX12_plan_29 : decode mX12_plan.2.1 29 = .ok (.goto 4, 3) := by decide +kernel
theorem dX12_plan_32 : decode mX12_plan.2.1 32 = .ok (.iconst (-1), 1) := by decide +kernel
theorem dX12_plan_33 : decode mX12_plan.2.1 33 = .ok (.ireturn, 1) := by decide +kernel
theorem bX12_plan_0 {SC : Nat → Nat} {X : mh_X} {d : Nat} {Q : Option am_V → am_W → Prop} {bc bs : Nat} {w : am_W} {x1 : Int} {x2 : Int} {x3 : Int}
    (h : am_M (mh_G X) SC (d + 12) 0 0 mX12_plans [.inr (.inr (some (9, 0))), .inl x1, .inl x2] w (fun r w1 => am_A (mh_G X) SC (d + 13) mX12_plan Q 6 [(0, .inr (.inr (some (9, 0)))), (1, .inl x1), (2, .inl x2), (3, .inl x3)] (r.toList ++ []) w1 bc bs)) :
    am_A (mh_G X) SC (d + 13) mX12_plan Q 0 [(0, .inr (.inr (some (9, 0)))), (1, .inl x1), (2, .inl x2), (3, .inl x3)] [] w bc bs := by
  refine am_aload_n dX12_plan_0 (List.Mem.head _) ?_
  refine am_iload_n dX12_plan_1 (List.Mem.tail _ (List.Mem.head _)) ?_
  refine am_iload_n dX12_plan_2 (List.Mem.tail _ (List.Mem.tail _ (List.Mem.head _))) ?_
  exact am_callv (d' := d + 12) (kc := 0) (ks := 0) (as := [.inl x1, .inl x2]) dX12_plan_3 wc_X12_plans wd_2218 wd_2220 wd_100 wd_122 ds_X12_plans (by decide) (by omega) (Nat.le_of_ble_eq_true rfl) (Nat.zero_le _) (Nat.zero_le _) hc_10 (by decide) rfl rfl h
theorem bX12_plan_6 {SC : Nat → Nat} {X : mh_X} {d : Nat} {Q : Option am_V → am_W → Prop} {bc bs : Nat} {w : am_W} {x1 : Int} {x2 : Int} {x3 : Int} {xs0 : Int}
    (h : ((xs0 = 0 → Q (some (.inl (-1))) w) ∧ (¬ xs0 = 0 → ((¬ (¬ x3 < (0 : Int) ∧ (¬ (am_w ((w.1 9 0 91) - 1)) < x3)) → Q (some (.inl (-1))) w) ∧ ((¬ x3 < (0 : Int) ∧ (¬ (am_w ((w.1 9 0 91) - 1)) < x3)) → (0 ≤ x3 ∧ (x3 < 5 ∧ Q (some (.inl (w.1 137 0 x3.toNat))) w))))))) :
    am_A (mh_G X) SC (d + 13) mX12_plan Q 6 [(0, .inr (.inr (some (9, 0)))), (1, .inl x1), (2, .inl x2), (3, .inl x3)] [.inl xs0] w bc bs := by
  refine am_ifeq (tgt := 32) dX12_plan_6 (by decide) (fun c1 => ?_) (fun c1 => ?_)
  · replace h := h.1 c1
    refine am_iconst dX12_plan_32 (by unfold am_rg; omega) ?_
    exact am_ret (r := some (.inl (-1))) dX12_plan_33 (Or.inl rfl) rfl h
  · replace h := h.2 c1
    refine am_iload_n dX12_plan_9 (List.Mem.tail _ (List.Mem.tail _ (List.Mem.tail _ (List.Mem.head _)))) ?_
    refine am_iconst dX12_plan_10 (by unfold am_rg; omega) ?_
    refine am_aload_n dX12_plan_11 (List.Mem.head _) ?_
    refine am_getf (f := 91) (v := .inl (w.1 9 0 91)) dX12_plan_12 hc_10 (by decide) wd_1640 (by decide) rfl rfl ?_
    refine am_iconst dX12_plan_15 (by unfold am_rg; omega) ?_
    refine am_isub dX12_plan_16 ?_
    refine am_calls (d' := d + 12) (kc := 0) (ks := 0) (as := [.inl x3, .inl 0, .inl (am_w ((w.1 9 0 91) - 1))]) dX12_plan_17 wc_X12_in wd_1859 wd_1860 wd_122 ds_X12_in (by decide) (by omega) (Nat.le_of_ble_eq_true rfl) (Nat.zero_le _) (Nat.zero_le _) rfl (sX12_in (d := d + 11) (x0 := x3) (x1 := 0) (x2 := (am_w ((w.1 9 0 91) - 1)))  ?_)
    show am_A (mh_G X) SC (d + 13) mX12_plan Q 20 [(0, .inr (.inr (some (9, 0)))), (1, .inl x1), (2, .inl x2), (3, .inl x3)] [.inl (if (¬ x3 < (0 : Int) ∧ (¬ (am_w ((w.1 9 0 91) - 1)) < x3)) then 1 else 0)] w bc bs
    refine am_ifeq (tgt := 32) dX12_plan_20 (by decide) (fun c2 => ?_) (fun c2 => ?_)
    · replace c2 := am_beq1 c2
      replace h := h.1 c2
      refine am_iconst dX12_plan_32 (by unfold am_rg; omega) ?_
      exact am_ret (r := some (.inl (-1))) dX12_plan_33 (Or.inl rfl) rfl h
    · replace c2 := am_beq2 c2
      replace h := h.2 c2
      refine am_aload_n dX12_plan_23 (List.Mem.head _) ?_
      refine am_getf (f := 86) (v := .inr (.inr (some (137, 0)))) dX12_plan_24 hc_10 (by decide) wd_1635 (by decide) rfl rfl ?_
      refine am_iload_n dX12_plan_27 (List.Mem.tail _ (List.Mem.tail _ (List.Mem.tail _ (List.Mem.head _)))) ?_
      have o3 := h.1
      replace h := h.2
      have o4 := h.1
      replace h := h.2
      refine am_iaload (v := (w.1 137 0 x3.toNat)) dX12_plan_28 (by decide) rfl o3 o4 rfl ?_
      refine am_goto (tgt := 33) dX12_plan_29 (by decide) ?_
      exact am_ret (r := some (.inl (w.1 137 0 x3.toNat))) dX12_plan_33 (Or.inl rfl) rfl h
-- MourningHouseModel.planned(III)I
theorem dX12_planned_0 : decode mX12_planned.2.1 0 = .ok (.aload_n 0, 1) := by decide +kernel
theorem dX12_planned_1 : decode mX12_planned.2.1 1 = .ok (.iload_n 1, 1) := by decide +kernel
theorem dX12_planned_2 : decode mX12_planned.2.1 2 = .ok (.iload_n 2, 1) := by decide +kernel
theorem dX12_planned_3 : decode mX12_planned.2.1 3 = .ok (.invokevirtual 631, 3) := by decide +kernel
theorem dX12_planned_6 : decode mX12_planned.2.1 6 = .ok (.ifCond .eq 26, 3) := by decide +kernel
theorem dX12_planned_9 : decode mX12_planned.2.1 9 = .ok (.iload_n 3, 1) := by decide +kernel
theorem dX12_planned_10 : decode mX12_planned.2.1 10 = .ok (.iconst 0, 1) := by decide +kernel
theorem dX12_planned_11 : decode mX12_planned.2.1 11 = .ok (.aload_n 0, 1) := by decide +kernel
theorem dX12_planned_12 : decode mX12_planned.2.1 12 = .ok (.getfield 600, 3) := by decide +kernel
theorem dX12_planned_15 : decode mX12_planned.2.1 15 = .ok (.iconst 1, 1) := by decide +kernel
theorem dX12_planned_16 : decode mX12_planned.2.1 16 = .ok (.isub, 1) := by decide +kernel
theorem dX12_planned_17 : decode mX12_planned.2.1 17 = .ok (.invokestatic 318, 3) := by decide +kernel
theorem dX12_planned_20 : decode mX12_planned.2.1 20 = .ok (.ifCond .eq 12, 3) := by decide +kernel
theorem dX12_planned_23 : decode mX12_planned.2.1 23 = .ok (.aload_n 0, 1) := by decide +kernel
theorem dX12_planned_24 : decode mX12_planned.2.1 24 = .ok (.getfield 273, 3) := by decide +kernel
theorem dX12_planned_27 : decode mX12_planned.2.1 27 = .ok (.iload_n 3, 1) := by decide +kernel
theorem dX12_planned_28 : decode mX12_planned.2.1 28 = .ok (.iaload, 1) := by decide +kernel
theorem dX12_planned_29 : decode mX12_planned.2.1 29 = .ok (.goto 4, 3) := by decide +kernel
theorem dX12_planned_32 : decode mX12_planned.2.1 32 = .ok (.iconst (-1), 1) := by decide +kernel
theorem dX12_planned_33 : decode mX12_planned.2.1 33 = .ok (.ireturn, 1) := by decide +kernel
theorem bX12_planned_0 {SC : Nat → Nat} {X : mh_X} {d : Nat} {Q : Option am_V → am_W → Prop} {bc bs : Nat} {w : am_W} {x1 : Int} {x2 : Int} {x3 : Int}
    (h : am_M (mh_G X) SC (d + 12) 0 0 mX12_plans [.inr (.inr (some (9, 0))), .inl x1, .inl x2] w (fun r w1 => am_A (mh_G X) SC (d + 13) mX12_planned Q 6 [(0, .inr (.inr (some (9, 0)))), (1, .inl x1), (2, .inl x2), (3, .inl x3)] (r.toList ++ []) w1 bc bs)) :
    am_A (mh_G X) SC (d + 13) mX12_planned Q 0 [(0, .inr (.inr (some (9, 0)))), (1, .inl x1), (2, .inl x2), (3, .inl x3)] [] w bc bs := by
  refine am_aload_n dX12_planned_0 (List.Mem.head _) ?_
  refine am_iload_n dX12_planned_1 (List.Mem.tail _ (List.Mem.head _)) ?_
  refine am_iload_n dX12_planned_2 (List.Mem.tail _ (List.Mem.tail _ (List.Mem.head _))) ?_
  exact am_callv (d' := d + 12) (kc := 0) (ks := 0) (as := [.inl x1, .inl x2]) dX12_planned_3 wc_X12_plans wd_2218 wd_2220 wd_100 wd_122 ds_X12_plans (by decide) (by omega) (Nat.le_of_ble_eq_true rfl) (Nat.zero_le _) (Nat.zero_le _) hc_10 (by decide) rfl rfl h
theorem bX12_planned_6 {SC : Nat → Nat} {X : mh_X} {d : Nat} {Q : Option am_V → am_W → Prop} {bc bs : Nat} {w : am_W} {x1 : Int} {x2 : Int} {x3 : Int} {xs0 : Int}
    (h : ((xs0 = 0 → Q (some (.inl (-1))) w) ∧ (¬ xs0 = 0 → ((¬ (¬ x3 < (0 : Int) ∧ (¬ (am_w ((w.1 9 0 91) - 1)) < x3)) → Q (some (.inl (-1))) w) ∧ ((¬ x3 < (0 : Int) ∧ (¬ (am_w ((w.1 9 0 91) - 1)) < x3)) → (0 ≤ x3 ∧ (x3 < 5 ∧ Q (some (.inl (w.1 138 0 x3.toNat))) w))))))) :
    am_A (mh_G X) SC (d + 13) mX12_planned Q 6 [(0, .inr (.inr (some (9, 0)))), (1, .inl x1), (2, .inl x2), (3, .inl x3)] [.inl xs0] w bc bs := by
  refine am_ifeq (tgt := 32) dX12_planned_6 (by decide) (fun c1 => ?_) (fun c1 => ?_)
  · replace h := h.1 c1
    refine am_iconst dX12_planned_32 (by unfold am_rg; omega) ?_
    exact am_ret (r := some (.inl (-1))) dX12_planned_33 (Or.inl rfl) rfl h
  · replace h := h.2 c1
    refine am_iload_n dX12_planned_9 (List.Mem.tail _ (List.Mem.tail _ (List.Mem.tail _ (List.Mem.head _)))) ?_
    refine am_iconst dX12_planned_10 (by unfold am_rg; omega) ?_
    refine am_aload_n dX12_planned_11 (List.Mem.head _) ?_
    refine am_getf (f := 91) (v := .inl (w.1 9 0 91)) dX12_planned_12 hc_10 (by decide) wd_1640 (by decide) rfl rfl ?_
    refine am_iconst dX12_planned_15 (by unfold am_rg; omega) ?_
    refine am_isub dX12_planned_16 ?_
    refine am_calls (d' := d + 12) (kc := 0) (ks := 0) (as := [.inl x3, .inl 0, .inl (am_w ((w.1 9 0 91) - 1))]) dX12_planned_17 wc_X12_in wd_1859 wd_1860 wd_122 ds_X12_in (by decide) (by omega) (Nat.le_of_ble_eq_true rfl) (Nat.zero_le _) (Nat.zero_le _) rfl (sX12_in (d := d + 11) (x0 := x3) (x1 := 0) (x2 := (am_w ((w.1 9 0 91) - 1)))  ?_)
    show am_A (mh_G X) SC (d + 13) mX12_planned Q 20 [(0, .inr (.inr (some (9, 0)))), (1, .inl x1), (2, .inl x2), (3, .inl x3)] [.inl (if (¬ x3 < (0 : Int) ∧ (¬ (am_w ((w.1 9 0 91) - 1)) < x3)) then 1 else 0)] w bc bs
    refine am_ifeq (tgt := 32) dX12_planned_20 (by decide) (fun c2 => ?_) (fun c2 => ?_)
    · replace c2 := am_beq1 c2
      replace h := h.1 c2
      refine am_iconst dX12_planned_32 (by unfold am_rg; omega) ?_
      exact am_ret (r := some (.inl (-1))) dX12_planned_33 (Or.inl rfl) rfl h
    · replace c2 := am_beq2 c2
      replace h := h.2 c2
      refine am_aload_n dX12_planned_23 (List.Mem.head _) ?_
      refine am_getf (f := 87) (v := .inr (.inr (some (138, 0)))) dX12_planned_24 hc_10 (by decide) wd_1636 (by decide) rfl rfl ?_
      refine am_iload_n dX12_planned_27 (List.Mem.tail _ (List.Mem.tail _ (List.Mem.tail _ (List.Mem.head _)))) ?_
      have o3 := h.1
      replace h := h.2
      have o4 := h.1
      replace h := h.2
      refine am_iaload (v := (w.1 138 0 x3.toNat)) dX12_planned_28 (by decide) rfl o3 o4 rfl ?_
      refine am_goto (tgt := 33) dX12_planned_29 (by decide) ?_
      exact am_ret (r := some (.inl (w.1 138 0 x3.toNat))) dX12_planned_33 (Or.inl rfl) rfl h
-- MourningHouseModel.writes(Ljava/lang/String;Z)V
theorem dX12_writes_0 : decode mX12_writes.2.1 0 = .ok (.iload_n 2, 1) := by decide +kernel
theorem dX12_writes_1 : decode mX12_writes.2.1 1 = .ok (.ifCond .ne 28, 3) := by decide +kernel
theorem dX12_writes_4 : decode mX12_writes.2.1 4 = .ok (.aload_n 0, 1) := by decide +kernel
theorem dX12_writes_5 : decode mX12_writes.2.1 5 = .ok (.getfield 634, 3) := by decide +kernel
theorem dX12_writes_8 : decode mX12_writes.2.1 8 = .ok (.ifCond .le 21, 3) := by decide +kernel
theorem dX12_writes_11 : decode mX12_writes.2.1 11 = .ok (.aload_n 0, 1) := by decide +kernel
theorem dX12_writes_12 : decode mX12_writes.2.1 12 = .ok (.getfield 285, 3) := by decide +kernel
theorem dX12_writes_15 : decode mX12_writes.2.1 15 = .ok (.aload_n 0, 1) := by decide +kernel
theorem dX12_writes_16 : decode mX12_writes.2.1 16 = .ok (.dup, 1) := by decide +kernel
theorem dX12_writes_17 : decode mX12_writes.2.1 17 = .ok (.getfield 634, 3) := by decide +kernel
theorem dX12_writes_20 : decode mX12_writes.2.1 20 = .ok (.dup_x1, 1) := by decide +kernel
theorem dX12_writes_21 : decode mX12_writes.2.1 21 = .ok (.iconst 1, 1) := by decide +kernel
theorem dX12_writes_22 : decode mX12_writes.2.1 22 = .ok (.iadd, 1) := by decide +kernel
theorem dX12_writes_23 : decode mX12_writes.2.1 23 = .ok (.putfield 634, 3) := by decide +kernel
theorem dX12_writes_26 : decode mX12_writes.2.1 26 = .ok (.bipush 32, 2) := by decide +kernel
theorem dX12_writes_28 : decode mX12_writes.2.1 28 = .ok (.bastore, 1) := by decide +kernel
theorem dX12_writes_29 : decode mX12_writes.2.1 29 = .ok (.iconst 0, 1) := by decide +kernel
theorem dX12_writes_30 : decode mX12_writes.2.1 30 = .ok (.istore_n 3, 1) := by decide +kernel
theorem dX12_writes_31 : decode mX12_writes.2.1 31 = .ok (.iload_n 3, 1) := by decide +kernel
theorem dX12_writes_32 : decode mX12_writes.2.1 32 = .ok (.aload_n 1, 1) := by decide +kernel
theorem dX12_writes_33 : decode mX12_writes.2.1 33 = .ok (.invokevirtual 365, 3) := by decide +kernel
theorem dX12_writes_36 : decode mX12_writes.2.1 36 = .ok (.if_icmp .ge 31, 3) := by decide +kernel
theorem dX12_writes_39 : decode mX12_writes.2.1 39 = .ok (.aload_n 0, 1) := by decide +kernel
theorem dX12_writes_40 : decode mX12_writes.2.1 40 = .ok (.getfield 285, 3) := by decide +kernel
theorem dX12_writes_43 : decode mX12_writes.2.1 43 = .ok (.aload_n 0, 1) := by decide +kernel
theorem dX12_writes_44 : decode mX12_writes.2.1 44 = .ok (.dup, 1) := by decide +kernel
theorem dX12_writes_45 : decode mX12_writes.2.1 45 = .ok (.getfield 634, 3) := by decide +kernel
theorem dX12_writes_48 : decode mX12_writes.2.1 48 = .ok (.dup_x1, 1) := by decide +kernel
theorem dX12_writes_49 : decode mX12_writes.2.1 49 = .ok (.iconst 1, 1) := by decide +kernel
theorem dX12_writes_50 : decode mX12_writes.2.1 50 = .ok (.iadd, 1) := by decide +kernel
theorem dX12_writes_51 : decode mX12_writes.2.1 51 = .ok (.putfield 634, 3) := by decide +kernel
theorem dX12_writes_54 : decode mX12_writes.2.1 54 = .ok (.aload_n 1, 1) := by decide +kernel
theorem dX12_writes_55 : decode mX12_writes.2.1 55 = .ok (.iload_n 3, 1) := by decide +kernel
theorem dX12_writes_56 : decode mX12_writes.2.1 56 = .ok (.invokevirtual 369, 3) := by decide +kernel
theorem dX12_writes_59 : decode mX12_writes.2.1 59 = .ok (.i2b, 1) := by decide +kernel
theorem dX12_writes_60 : decode mX12_writes.2.1 60 = .ok (.bastore, 1) := by decide +kernel
theorem dX12_writes_61 : decode mX12_writes.2.1 61 = .ok (.iinc 3 1, 3) := by decide +kernel
theorem dX12_writes_64 : decode mX12_writes.2.1 64 = .ok (.goto (-33), 3) := by decide +kernel
theorem dX12_writes_67 : decode mX12_writes.2.1 67 = .ok (.return_, 1) := by decide +kernel
theorem bX12_writes_0 {SC : Nat → Nat} {X : mh_X} {d : Nat} {Q : Option am_V → am_W → Prop} {bc bs : Nat} {w : am_W} {t1 : Nat} {j1 : Nat} {x2 : Int}
    (h : ((¬ x2 = 0 → am_A (mh_G X) SC (d + 6) mX12_writes Q 29 [(0, .inr (.inr (some (9, 0)))), (1, .inr (.inr (some (t1, j1))))] [] w bc bs) ∧ (x2 = 0 → (((w.1 9 0 98) ≤ 0 → am_A (mh_G X) SC (d + 6) mX12_writes Q 29 [(0, .inr (.inr (some (9, 0)))), (1, .inr (.inr (some (t1, j1))))] [] w bc bs) ∧ (¬ (w.1 9 0 98) ≤ 0 → (0 ≤ (w.1 9 0 98) ∧ ((w.1 9 0 98) < 400 ∧ ((-128 ≤ (32 : Int) ∧ (32 : Int) < 128) ∧ am_A (mh_G X) SC (d + 6) mX12_writes Q 29 [(0, .inr (.inr (some (9, 0)))), (1, .inr (.inr (some (t1, j1))))] [] ((am_up (am_up w.1 9 0 98 (am_w ((w.1 9 0 98) + 1))) 142 0 (w.1 9 0 98).toNat 32), w.2) bc bs)))))))) :
    am_A (mh_G X) SC (d + 6) mX12_writes Q 0 [(0, .inr (.inr (some (9, 0)))), (1, .inr (.inr (some (t1, j1)))), (2, .inl x2)] [] w bc bs := by
  refine am_iload_n dX12_writes_0 (List.Mem.tail _ (List.Mem.tail _ (List.Mem.head _))) ?_
  refine am_ifne (tgt := 29) dX12_writes_1 (by decide) (fun c1 => ?_) (fun c1 => ?_)
  · replace h := h.1 c1
    exact am_sub [0, 1] rfl h
  · replace h := h.2 c1
    refine am_aload_n dX12_writes_4 (List.Mem.head _) ?_
    refine am_getf (f := 98) (v := .inl (w.1 9 0 98)) dX12_writes_5 hc_10 (by decide) wd_1647 (by decide) rfl rfl ?_
    refine am_ifle (tgt := 29) dX12_writes_8 (by decide) (fun c2 => ?_) (fun c2 => ?_)
    · replace h := h.1 c2
      exact am_sub [0, 1] rfl h
    · replace h := h.2 c2
      refine am_aload_n dX12_writes_11 (List.Mem.head _) ?_
      refine am_getf (f := 96) (v := .inr (.inr (some (142, 0)))) dX12_writes_12 hc_10 (by decide) wd_1645 (by decide) rfl rfl ?_
      refine am_aload_n dX12_writes_15 (List.Mem.head _) ?_
      refine am_dup dX12_writes_16 rfl ?_
      refine am_getf (f := 98) (v := .inl (w.1 9 0 98)) dX12_writes_17 hc_10 (by decide) wd_1647 (by decide) rfl rfl ?_
      refine am_dup_x1 dX12_writes_20 rfl rfl ?_
      refine am_iconst dX12_writes_21 (by unfold am_rg; omega) ?_
      refine am_iadd dX12_writes_22 ?_
      refine am_putf (f := 98) dX12_writes_23 hc_10 (by decide) wd_1647 rfl (Or.inl rfl) (Or.inl (by decide)) rfl ?_
      refine am_bipush dX12_writes_26 (by decide) (by unfold am_rg; omega) ?_
      have o3 := h.1
      replace h := h.2
      have o4 := h.1
      replace h := h.2
      have o5 := h.1
      replace h := h.2
      refine am_bastore o5 dX12_writes_28 (Or.inl (by decide)) rfl o3 o4 ?_
      exact am_sub [0, 1] rfl h
theorem bX12_writes_29 {SC : Nat → Nat} {X : mh_X} {d : Nat} {Q : Option am_V → am_W → Prop} {bc bs : Nat} {w : am_W} {t1 : Nat} {j1 : Nat}
    (h : am_A (mh_G X) SC (d + 6) mX12_writes Q 31 [(0, .inr (.inr (some (9, 0)))), (1, .inr (.inr (some (t1, j1)))), (3, .inl 0)] [] w bc bs) :
    am_A (mh_G X) SC (d + 6) mX12_writes Q 29 [(0, .inr (.inr (some (9, 0)))), (1, .inr (.inr (some (t1, j1))))] [] w bc bs := by
  refine am_iconst dX12_writes_29 (by unfold am_rg; omega) ?_
  refine am_istore_n (ls' := [(3, .inl 0), (0, .inr (.inr (some (9, 0)))), (1, .inr (.inr (some (t1, j1))))]) dX12_writes_30 (by decide) rfl ?_
  exact am_sub [1, 2, 0] rfl h
theorem bX12_writes_31 {SC : Nat → Nat} {X : mh_X} {d : Nat} {Q : Option am_V → am_W → Prop} {bc bs : Nat} {w : am_W} {t1 : Nat} {j1 : Nat} {x3 : Int}
    (h : (t1 < 1100 ∧ (am_kd (mh_G X) w t1 j1 = 111 ∧ am_M (mh_G X) SC (d + 5) 0 0 mJ0_length_8abf5 [.inr (.inr (some (t1, j1)))] w (fun r w1 => am_A (mh_G X) SC (d + 6) mX12_writes Q 36 [(0, .inr (.inr (some (9, 0)))), (1, .inr (.inr (some (t1, j1)))), (3, .inl x3)] (r.toList ++ [.inl x3]) w1 bc bs)))) :
    am_A (mh_G X) SC (d + 6) mX12_writes Q 31 [(0, .inr (.inr (some (9, 0)))), (1, .inr (.inr (some (t1, j1)))), (3, .inl x3)] [] w bc bs := by
  refine am_iload_n dX12_writes_31 (List.Mem.tail _ (List.Mem.tail _ (List.Mem.head _))) ?_
  refine am_aload_n dX12_writes_32 (List.Mem.tail _ (List.Mem.head _)) ?_
  have o1 := h.1
  replace h := h.2
  have o2 := h.1
  replace h := h.2
  exact am_callv (d' := d + 5) (kc := 0) (ks := 0) (as := []) dX12_writes_33 wc_J0_length_8abf5 wd_1934 wd_722 wd_723 wd_124 ds_J0_length_8abf5 (by decide) (by omega) (Nat.le_of_ble_eq_true rfl) (Nat.zero_le _) (Nat.zero_le _) hc_11 o1 o2 rfl h
theorem bX12_writes_36 {SC : Nat → Nat} {X : mh_X} {d : Nat} {Q : Option am_V → am_W → Prop} {bc bs : Nat} {w : am_W} {t1 : Nat} {j1 : Nat} {x3 : Int} {xs0 : Int} {xs1 : Int}
    (h : ((xs0 ≤ xs1 → Q none w) ∧ (¬ xs0 ≤ xs1 → (t1 < 1100 ∧ (am_kd (mh_G X) ((am_up w.1 9 0 98 (am_w ((w.1 9 0 98) + 1))), w.2) t1 j1 = 111 ∧ am_M (mh_G X) SC (d + 5) 0 0 mJ0_charAt_5068e [.inr (.inr (some (t1, j1))), .inl x3] ((am_up w.1 9 0 98 (am_w ((w.1 9 0 98) + 1))), w.2) (fun r w1 => am_A (mh_G X) SC (d + 6) mX12_writes Q 59 [(0, .inr (.inr (some (9, 0)))), (1, .inr (.inr (some (t1, j1)))), (3, .inl x3)] (r.toList ++ [.inl (w.1 9 0 98), .inr (.inr (some (142, 0)))]) w1 bc bs)))))) :
    am_A (mh_G X) SC (d + 6) mX12_writes Q 36 [(0, .inr (.inr (some (9, 0)))), (1, .inr (.inr (some (t1, j1)))), (3, .inl x3)] [.inl xs0, .inl xs1] w bc bs := by
  refine am_icmpge (tgt := 67) dX12_writes_36 (by decide) (fun c1 => ?_) (fun c1 => ?_)
  · replace h := h.1 c1
    exact am_ret (r := none) dX12_writes_67 rfl rfl h
  · replace h := h.2 c1
    refine am_aload_n dX12_writes_39 (List.Mem.head _) ?_
    refine am_getf (f := 96) (v := .inr (.inr (some (142, 0)))) dX12_writes_40 hc_10 (by decide) wd_1645 (by decide) rfl rfl ?_
    refine am_aload_n dX12_writes_43 (List.Mem.head _) ?_
    refine am_dup dX12_writes_44 rfl ?_
    refine am_getf (f := 98) (v := .inl (w.1 9 0 98)) dX12_writes_45 hc_10 (by decide) wd_1647 (by decide) rfl rfl ?_
    refine am_dup_x1 dX12_writes_48 rfl rfl ?_
    refine am_iconst dX12_writes_49 (by unfold am_rg; omega) ?_
    refine am_iadd dX12_writes_50 ?_
    refine am_putf (f := 98) dX12_writes_51 hc_10 (by decide) wd_1647 rfl (Or.inl rfl) (Or.inl (by decide)) rfl ?_
    refine am_aload_n dX12_writes_54 (List.Mem.tail _ (List.Mem.head _)) ?_
    refine am_iload_n dX12_writes_55 (List.Mem.tail _ (List.Mem.tail _ (List.Mem.head _))) ?_
    have o2 := h.1
    replace h := h.2
    have o3 := h.1
    replace h := h.2
    exact am_callv (d' := d + 5) (kc := 0) (ks := 0) (as := [.inl x3]) dX12_writes_56 wc_J0_charAt_5068e wd_1935 wd_732 wd_733 wd_124 ds_J0_charAt_5068e (by decide) (by omega) (Nat.le_of_ble_eq_true rfl) (Nat.zero_le _) (Nat.zero_le _) hc_11 o2 o3 rfl h
theorem bX12_writes_59 {SC : Nat → Nat} {X : mh_X} {d : Nat} {Q : Option am_V → am_W → Prop} {bc bs : Nat} {w : am_W} {t1 : Nat} {j1 : Nat} {x3 : Int} {xs0 : Int} {xs1 : Int}
    (h : (0 ≤ xs1 ∧ (xs1 < 400 ∧ ((-128 ≤ ((am_i2b xs0) : Int) ∧ ((am_i2b xs0) : Int) < 128) ∧ am_A (mh_G X) SC (d + 6) mX12_writes Q 31 [(0, .inr (.inr (some (9, 0)))), (1, .inr (.inr (some (t1, j1)))), (3, .inl (am_w (x3 + 1)))] [] ((am_up w.1 142 0 xs1.toNat (am_i2b xs0)), w.2) bc bs)))) :
    am_A (mh_G X) SC (d + 6) mX12_writes Q 59 [(0, .inr (.inr (some (9, 0)))), (1, .inr (.inr (some (t1, j1)))), (3, .inl x3)] [.inl xs0, .inl xs1, .inr (.inr (some (142, 0)))] w bc bs := by
  refine am_i2bR dX12_writes_59 ?_
  have o1 := h.1
  replace h := h.2
  have o2 := h.1
  replace h := h.2
  have o3 := h.1
  replace h := h.2
  refine am_bastore o3 dX12_writes_60 (Or.inl (by decide)) rfl o1 o2 ?_
  refine am_iinc (ls' := [(3, .inl (am_w (x3 + 1))), (0, .inr (.inr (some (9, 0)))), (1, .inr (.inr (some (t1, j1))))]) dX12_writes_61 (List.Mem.tail _ (List.Mem.tail _ (List.Mem.head _))) (by decide) rfl ?_
  refine am_goto (tgt := 31) dX12_writes_64 (by decide) ?_
  exact am_sub [1, 2, 0] rfl h
-- MourningHouseModel.isRule(II)Z
theorem dX12_isRule_0 : decode mX12_isRule.2.1 0 = .ok (.iload_n 1, 1) := by decide +kernel
theorem dX12_isRule_1 : decode mX12_isRule.2.1 1 = .ok (.iconst 0, 1) := by decide +kernel
theorem dX12_isRule_2 : decode mX12_isRule.2.1 2 = .ok (.aload_n 0, 1) := by decide +kernel
theorem dX12_isRule_3 : decode mX12_isRule.2.1 3 = .ok (.getfield 435, 3) := by decide +kernel
theorem dX12_isRule_6 : decode mX12_isRule.2.1 6 = .ok (.iconst 1, 1) := by decide +kernel
theorem dX12_isRule_7 : decode mX12_isRule.2.1 7 = .ok (.isub, 1) := by decide +kernel
theorem dX12_isRule_8 : decode mX12_isRule.2.1 8 = .ok (.invokestatic 318, 3) := by decide +kernel
theorem dX12_isRule_11 : decode mX12_isRule.2.1 11 = .ok (.ifCond .eq 23, 3) := by decide +kernel
theorem dX12_isRule_14 : decode mX12_isRule.2.1 14 = .ok (.iload_n 2, 1) := by decide +kernel
theorem dX12_isRule_15 : decode mX12_isRule.2.1 15 = .ok (.iconst 0, 1) := by decide +kernel
theorem dX12_isRule_16 : decode mX12_isRule.2.1 16 = .ok (.aload_n 0, 1) := by decide +kernel
theorem dX12_isRule_17 : decode mX12_isRule.2.1 17 = .ok (.getfield 17, 3) := by decide +kernel
theorem dX12_isRule_20 : decode mX12_isRule.2.1 20 = .ok (.iload_n 1, 1) := by decide +kernel
theorem dX12_isRule_21 : decode mX12_isRule.2.1 21 = .ok (.iaload, 1) := by decide +kernel
theorem dX12_isRule_22 : decode mX12_isRule.2.1 22 = .ok (.iconst 1, 1) := by decide +kernel
theorem dX12_isRule_23 : decode mX12_isRule.2.1 23 = .ok (.isub, 1) := by decide +kernel
theorem dX12_isRule_24 : decode mX12_isRule.2.1 24 = .ok (.invokestatic 318, 3) := by decide +kernel
theorem dX12_isRule_27 : decode mX12_isRule.2.1 27 = .ok (.ifCond .eq 7, 3) := by decide +kernel
theorem dX12_isRule_30 : decode mX12_isRule.2.1 30 = .ok (.iconst 1, 1) := by decide +kernel
theorem dX12_isRule_31 : decode mX12_isRule.2.1 31 = .ok (.goto 4, 3) := by decide +kernel
theorem dX12_isRule_34 : decode mX12_isRule.2.1 34 = .ok (.iconst 0, 1) := by decide +kernel
theorem dX12_isRule_35 : decode mX12_isRule.2.1 35 = .ok (.ireturn, 1) := by decide +kernel
theorem sX12_isRule {SC : Nat → Nat} {X : mh_X} {d kc ks : Nat} {Q : Option am_V → am_W → Prop} {w : am_W} {x1 : Int} {x2 : Int} (Ho2 : (¬ x1 < (0 : Int) ∧ (¬ (am_w ((w.1 9 0 21) - 1)) < x1)) → 0 ≤ x1) (Ho3 : (¬ x1 < (0 : Int) ∧ (¬ (am_w ((w.1 9 0 21) - 1)) < x1)) → x1 < 7)
    (h : Q (some (.inl (if ((¬ x1 < (0 : Int) ∧ (¬ (am_w ((w.1 9 0 21) - 1)) < x1)) ∧ ((¬ x2 < (0 : Int) ∧ (¬ (am_w ((w.1 68 0 x1.toNat) - 1)) < x2)))) then 1 else 0))) w) : am_M (mh_G X) SC (d + 2) kc ks mX12_isRule [.inr (.inr (some (9, 0))), .inl x1, .inl x2] w Q := by
  refine am_M_of (by decide) (Nat.le_of_ble_eq_true rfl) ?_
  show am_A (mh_G X) SC (d + 2) mX12_isRule Q 0 [(0, .inr (.inr (some (9, 0)))), (1, .inl x1), (2, .inl x2)] [] w kc ks
  refine am_iload_n dX12_isRule_0 (List.Mem.tail _ (List.Mem.head _)) ?_
  refine am_iconst dX12_isRule_1 (by unfold am_rg; omega) ?_
  refine am_aload_n dX12_isRule_2 (List.Mem.head _) ?_
  refine am_getf (f := 21) (v := .inl (w.1 9 0 21)) dX12_isRule_3 hc_10 (by decide) wd_1570 (by decide) rfl rfl ?_
  refine am_iconst dX12_isRule_6 (by unfold am_rg; omega) ?_
  refine am_isub dX12_isRule_7 ?_
  refine am_calls (d' := d + 1) (kc := 0) (ks := 0) (as := [.inl x1, .inl 0, .inl (am_w ((w.1 9 0 21) - 1))]) dX12_isRule_8 wc_X12_in wd_1859 wd_1860 wd_122 ds_X12_in (by decide) (by omega) (Nat.le_of_ble_eq_true rfl) (Nat.zero_le _) (Nat.zero_le _) rfl (sX12_in (d := d + 0) (x0 := x1) (x1 := 0) (x2 := (am_w ((w.1 9 0 21) - 1)))  ?_)
  show am_A (mh_G X) SC (d + 2) mX12_isRule Q 11 [(0, .inr (.inr (some (9, 0)))), (1, .inl x1), (2, .inl x2)] [.inl (if (¬ x1 < (0 : Int) ∧ (¬ (am_w ((w.1 9 0 21) - 1)) < x1)) then 1 else 0)] w kc ks
  refine am_ifeq (tgt := 34) dX12_isRule_11 (by decide) (fun c1 => ?_) (fun c1 => ?_)
  · replace c1 := am_beq1 c1
    refine am_iconst dX12_isRule_34 (by unfold am_rg; omega) ?_
    rw [if_neg (by omega)] at h
    exact am_ret (r := some (.inl 0)) dX12_isRule_35 (Or.inr (Or.inl ⟨rfl, (Or.inl rfl)⟩)) rfl h
  · replace c1 := am_beq2 c1
    refine am_iload_n dX12_isRule_14 (List.Mem.tail _ (List.Mem.tail _ (List.Mem.head _))) ?_
    refine am_iconst dX12_isRule_15 (by unfold am_rg; omega) ?_
    refine am_aload_n dX12_isRule_16 (List.Mem.head _) ?_
    refine am_getf (f := 6) (v := .inr (.inr (some (68, 0)))) dX12_isRule_17 hc_10 (by decide) wd_1555 (by decide) rfl rfl ?_
    refine am_iload_n dX12_isRule_20 (List.Mem.tail _ (List.Mem.head _)) ?_
    have o2 := Ho2 c1
    have o3 := Ho3 c1
    refine am_iaload (v := (w.1 68 0 x1.toNat)) dX12_isRule_21 (by decide) rfl o2 o3 rfl ?_
    refine am_iconst dX12_isRule_22 (by unfold am_rg; omega) ?_
    refine am_isub dX12_isRule_23 ?_
    refine am_calls (d' := d + 1) (kc := 0) (ks := 0) (as := [.inl x2, .inl 0, .inl (am_w ((w.1 68 0 x1.toNat) - 1))]) dX12_isRule_24 wc_X12_in wd_1859 wd_1860 wd_122 ds_X12_in (by decide) (by omega) (Nat.le_of_ble_eq_true rfl) (Nat.zero_le _) (Nat.zero_le _) rfl (sX12_in (d := d + 0) (x0 := x2) (x1 := 0) (x2 := (am_w ((w.1 68 0 x1.toNat) - 1)))  ?_)
    show am_A (mh_G X) SC (d + 2) mX12_isRule Q 27 [(0, .inr (.inr (some (9, 0)))), (1, .inl x1), (2, .inl x2)] [.inl (if (¬ x2 < (0 : Int) ∧ (¬ (am_w ((w.1 68 0 x1.toNat) - 1)) < x2)) then 1 else 0)] w kc ks
    refine am_ifeq (tgt := 34) dX12_isRule_27 (by decide) (fun c4 => ?_) (fun c4 => ?_)
    · replace c4 := am_beq1 c4
      refine am_iconst dX12_isRule_34 (by unfold am_rg; omega) ?_
      rw [if_neg (by omega)] at h
      exact am_ret (r := some (.inl 0)) dX12_isRule_35 (Or.inr (Or.inl ⟨rfl, (Or.inl rfl)⟩)) rfl h
    · replace c4 := am_beq2 c4
      refine am_iconst dX12_isRule_30 (by unfold am_rg; omega) ?_
      refine am_goto (tgt := 35) dX12_isRule_31 (by decide) ?_
      rw [if_pos (by omega)] at h
      exact am_ret (r := some (.inl 1)) dX12_isRule_35 (Or.inr (Or.inl ⟨rfl, (Or.inr rfl)⟩)) rfl h
-- MourningHouseModel.write(II)I
theorem dX12_write_0 : decode mX12_write.2.1 0 = .ok (.aload_n 0, 1) := by decide +kernel
theorem dX12_write_1 : decode mX12_write.2.1 1 = .ok (.iload_n 1, 1) := by decide +kernel
theorem dX12_write_2 : decode mX12_write.2.1 2 = .ok (.iload_n 2, 1) := by decide +kernel
theorem dX12_write_3 : decode mX12_write.2.1 3 = .ok (.invokevirtual 663, 3) := by decide +kernel
theorem dX12_write_6 : decode mX12_write.2.1 6 = .ok (.ifCond .ne 5, 3) := by decide +kernel
theorem dX12_write_9 : decode mX12_write.2.1 9 = .ok (.iconst (-1), 1) := by decide +kernel
theorem dX12_write_10 : decode mX12_write.2.1 10 = .ok (.ireturn, 1) := by decide +kernel
theorem dX12_write_11 : decode mX12_write.2.1 11 = .ok (.aload_n 0, 1) := by decide +kernel
theorem dX12_write_12 : decode mX12_write.2.1 12 = .ok (.iload_n 1, 1) := by decide +kernel
theorem dX12_write_13 : decode mX12_write.2.1 13 = .ok (.iload_n 2, 1) := by decide +kernel
theorem dX12_write_14 : decode mX12_write.2.1 14 = .ok (.invokevirtual 666, 3) := by decide +kernel
theorem dX12_write_17 : decode mX12_write.2.1 17 = .ok (.iconst 0, 1) := by decide +kernel
theorem dX12_write_18 : decode mX12_write.2.1 18 = .ok (.istore_n 3, 1) := by decide +kernel
theorem dX12_write_19 : decode mX12_write.2.1 19 = .ok (.iload_n 3, 1) := by decide +kernel
theorem dX12_write_20 : decode mX12_write.2.1 20 = .ok (.aload_n 0, 1) := by decide +kernel
theorem dX12_write_21 : decode mX12_write.2.1 21 = .ok (.getfield 634, 3) := by decide +kernel
theorem dX12_write_24 : decode mX12_write.2.1 24 = .ok (.if_icmp .ge 21, 3) := by decide +kernel
theorem dX12_write_27 : decode mX12_write.2.1 27 = .ok (.aload_n 0, 1) := by decide +kernel
theorem dX12_write_28 : decode mX12_write.2.1 28 = .ok (.getfield 288, 3) := by decide +kernel
theorem dX12_write_31 : decode mX12_write.2.1 31 = .ok (.iload_n 3, 1) := by decide +kernel
theorem dX12_write_32 : decode mX12_write.2.1 32 = .ok (.aload_n 0, 1) := by decide +kernel
theorem dX12_write_33 : decode mX12_write.2.1 33 = .ok (.getfield 285, 3) := by decide +kernel
theorem dX12_write_36 : decode mX12_write.2.1 36 = .ok (.iload_n 3, 1) := by decide +kernel
theorem dX12_write_37 : decode mX12_write.2.1 37 = .ok (.baload, 1) := by decide +kernel
theorem dX12_write_38 : decode mX12_write.2.1 38 = .ok (.bastore, 1) := by decide +kernel
theorem dX12_write_39 : decode mX12_write.2.1 39 = .ok (.iinc 3 1, 3) := by decide +kernel
theorem dX12_write_42 : decode mX12_write.2.1 42 = .ok (.goto (-23), 3) := by decide +kernel
theorem dX12_write_45 : decode mX12_write.2.1 45 = .ok (.aload_n 0, 1) := by decide +kernel
theorem dX12_write_46 : decode mX12_write.2.1 46 = .ok (.aload_n 0, 1) := by decide +kernel
theorem dX12_write_47 : decode mX12_write.2.1 47 = .ok (.getfield 634, 3) := by decide +kernel
theorem dX12_write_50 : decode mX12_write.2.1 50 = .ok (.putfield 669, 3) := by decide +kernel
theorem dX12_write_53 : decode mX12_write.2.1 53 = .ok (.aload_n 0, 1) := by decide +kernel
theorem dX12_write_54 : decode mX12_write.2.1 54 = .ok (.getfield 669, 3) := by decide +kernel
theorem dX12_write_57 : decode mX12_write.2.1 57 = .ok (.ireturn, 1) := by decide +kernel
theorem bX12_write_0 {SC : Nat → Nat} {X : mh_X} {d : Nat} {Q : Option am_V → am_W → Prop} {bc bs : Nat} {w : am_W} {x1 : Int} {x2 : Int}
    (h : (((¬ x1 < (0 : Int) ∧ (¬ (am_w ((w.1 9 0 21) - 1)) < x1)) → 0 ≤ x1) ∧ (((¬ x1 < (0 : Int) ∧ (¬ (am_w ((w.1 9 0 21) - 1)) < x1)) → x1 < 7) ∧ ((((¬ x1 < (0 : Int) ∧ (¬ (am_w ((w.1 9 0 21) - 1)) < x1)) ∧ ((¬ x2 < (0 : Int) ∧ (¬ (am_w ((w.1 68 0 x1.toNat) - 1)) < x2)))) → am_M (mh_G X) SC (d + 11) 0 0 mX12_writesRule [.inr (.inr (some (9, 0))), .inl x1, .inl x2] w (fun r w1 => am_A (mh_G X) SC (d + 12) mX12_write Q 17 [(0, .inr (.inr (some (9, 0)))), (1, .inl x1), (2, .inl x2)] (r.toList ++ []) w1 bc bs)) ∧ (¬ ((¬ x1 < (0 : Int) ∧ (¬ (am_w ((w.1 9 0 21) - 1)) < x1)) ∧ ((¬ x2 < (0 : Int) ∧ (¬ (am_w ((w.1 68 0 x1.toNat) - 1)) < x2)))) → Q (some (.inl (-1))) w))))) :
    am_A (mh_G X) SC (d + 12) mX12_write Q 0 [(0, .inr (.inr (some (9, 0)))), (1, .inl x1), (2, .inl x2)] [] w bc bs := by
  refine am_aload_n dX12_write_0 (List.Mem.head _) ?_
  refine am_iload_n dX12_write_1 (List.Mem.tail _ (List.Mem.head _)) ?_
  refine am_iload_n dX12_write_2 (List.Mem.tail _ (List.Mem.tail _ (List.Mem.head _))) ?_
  have o1 := h.1
  replace h := h.2
  have o2 := h.1
  replace h := h.2
  refine am_callv (d' := d + 11) (kc := 0) (ks := 0) (as := [.inl x1, .inl x2]) dX12_write_3 wc_X12_isRule wd_2250 wd_2252 wd_106 wd_122 ds_X12_isRule (by decide) (by omega) (Nat.le_of_ble_eq_true rfl) (Nat.zero_le _) (Nat.zero_le _) hc_10 (by decide) rfl rfl (sX12_isRule (d := d + 9) (x1 := x1) (x2 := x2) o1 o2 ?_)
  show am_A (mh_G X) SC (d + 12) mX12_write Q 6 [(0, .inr (.inr (some (9, 0)))), (1, .inl x1), (2, .inl x2)] [.inl (if ((¬ x1 < (0 : Int) ∧ (¬ (am_w ((w.1 9 0 21) - 1)) < x1)) ∧ ((¬ x2 < (0 : Int) ∧ (¬ (am_w ((w.1 68 0 x1.toNat) - 1)) < x2)))) then 1 else 0)] w bc bs
  refine am_ifne (tgt := 11) dX12_write_6 (by decide) (fun c3 => ?_) (fun c3 => ?_)
  · replace c3 := am_bne1 c3
    replace h := h.1 c3
    refine am_aload_n dX12_write_11 (List.Mem.head _) ?_
    refine am_iload_n dX12_write_12 (List.Mem.tail _ (List.Mem.head _)) ?_
    refine am_iload_n dX12_write_13 (List.Mem.tail _ (List.Mem.tail _ (List.Mem.head _))) ?_
    exact am_callv (d' := d + 11) (kc := 0) (ks := 0) (as := [.inl x1, .inl x2]) dX12_write_14 wc_X12_writesRule wd_2254 wd_2256 wd_107 wd_122 ds_X12_writesRule (by decide) (by omega) (Nat.le_of_ble_eq_true rfl) (Nat.zero_le _) (Nat.zero_le _) hc_10 (by decide) rfl rfl h
  · replace c3 := am_bne2 c3
    replace h := h.2 c3
    refine am_iconst dX12_write_9 (by unfold am_rg; omega) ?_
    exact am_ret (r := some (.inl (-1))) dX12_write_10 (Or.inl rfl) rfl h
theorem bX12_write_17 {SC : Nat → Nat} {X : mh_X} {d : Nat} {Q : Option am_V → am_W → Prop} {bc bs : Nat} {w : am_W} {x1 : Int} {x2 : Int}
    (h : am_A (mh_G X) SC (d + 12) mX12_write Q 19 [(0, .inr (.inr (some (9, 0)))), (3, .inl 0)] [] w bc bs) :
    am_A (mh_G X) SC (d + 12) mX12_write Q 17 [(0, .inr (.inr (some (9, 0)))), (1, .inl x1), (2, .inl x2)] [] w bc bs := by
  refine am_iconst dX12_write_17 (by unfold am_rg; omega) ?_
  refine am_istore_n (ls' := [(3, .inl 0), (0, .inr (.inr (some (9, 0)))), (1, .inl x1), (2, .inl x2)]) dX12_write_18 (by decide) rfl ?_
  exact am_sub [1, 0] rfl h
theorem bX12_write_19 {SC : Nat → Nat} {X : mh_X} {d : Nat} {Q : Option am_V → am_W → Prop} {bc bs : Nat} {w : am_W} {x3 : Int}
    (h : (((w.1 9 0 98) ≤ x3 → Q (some (.inl ((am_up w.1 9 0 99 (w.1 9 0 98)) 9 0 99))) ((am_up w.1 9 0 99 (w.1 9 0 98)), w.2)) ∧ (¬ (w.1 9 0 98) ≤ x3 → (0 ≤ x3 ∧ (x3 < 400 ∧ ((-128 ≤ ((w.1 142 0 x3.toNat) : Int) ∧ ((w.1 142 0 x3.toNat) : Int) < 128) ∧ am_A (mh_G X) SC (d + 12) mX12_write Q 19 [(0, .inr (.inr (some (9, 0)))), (3, .inl (am_w (x3 + 1)))] [] ((am_up w.1 143 0 x3.toNat (w.1 142 0 x3.toNat)), w.2) bc bs)))))) :
    am_A (mh_G X) SC (d + 12) mX12_write Q 19 [(0, .inr (.inr (some (9, 0)))), (3, .inl x3)] [] w bc bs := by
  refine am_iload_n dX12_write_19 (List.Mem.tail _ (List.Mem.head _)) ?_
  refine am_aload_n dX12_write_20 (List.Mem.head _) ?_
  refine am_getf (f := 98) (v := .inl (w.1 9 0 98)) dX12_write_21 hc_10 (by decide) wd_1647 (by decide) rfl rfl ?_
  refine am_icmpge (tgt := 45) dX12_write_24 (by decide) (fun c1 => ?_) (fun c1 => ?_)
  · replace h := h.1 c1
    refine am_aload_n dX12_write_45 (List.Mem.head _) ?_
    refine am_aload_n dX12_write_46 (List.Mem.head _) ?_
    refine am_getf (f := 98) (v := .inl (w.1 9 0 98)) dX12_write_47 hc_10 (by decide) wd_1647 (by decide) rfl rfl ?_
    refine am_putf (f := 99) dX12_write_50 hc_10 (by decide) wd_1648 rfl (Or.inl rfl) (Or.inl (by decide)) rfl ?_
    refine am_aload_n dX12_write_53 (List.Mem.head _) ?_
    refine am_getf (f := 99) (v := .inl ((am_up w.1 9 0 99 (w.1 9 0 98)) 9 0 99)) dX12_write_54 hc_10 (by decide) wd_1648 (by decide) rfl rfl ?_
    exact am_ret (r := some (.inl ((am_up w.1 9 0 99 (w.1 9 0 98)) 9 0 99))) dX12_write_57 (Or.inl rfl) rfl h
  · replace h := h.2 c1
    refine am_aload_n dX12_write_27 (List.Mem.head _) ?_
    refine am_getf (f := 97) (v := .inr (.inr (some (143, 0)))) dX12_write_28 hc_10 (by decide) wd_1646 (by decide) rfl rfl ?_
    refine am_iload_n dX12_write_31 (List.Mem.tail _ (List.Mem.head _)) ?_
    refine am_aload_n dX12_write_32 (List.Mem.head _) ?_
    refine am_getf (f := 96) (v := .inr (.inr (some (142, 0)))) dX12_write_33 hc_10 (by decide) wd_1645 (by decide) rfl rfl ?_
    refine am_iload_n dX12_write_36 (List.Mem.tail _ (List.Mem.head _)) ?_
    have o2 := h.1
    replace h := h.2
    have o3 := h.1
    replace h := h.2
    refine am_baload (v := (w.1 142 0 x3.toNat)) dX12_write_37 (by decide) rfl o2 o3 rfl ?_
    have o4 := h.1
    replace h := h.2
    refine am_bastore o4 dX12_write_38 (Or.inl (by decide)) rfl o2 o3 ?_
    refine am_iinc (ls' := [(3, .inl (am_w (x3 + 1))), (0, .inr (.inr (some (9, 0))))]) dX12_write_39 (List.Mem.tail _ (List.Mem.head _)) (by decide) rfl ?_
    refine am_goto (tgt := 19) dX12_write_42 (by decide) ?_
    exact am_sub [1, 0] rfl h
-- MourningHouseModel.out(I)I
theorem dX12_out_0 : decode mX12_out.2.1 0 = .ok (.iload_n 1, 1) := by decide +kernel
theorem dX12_out_1 : decode mX12_out.2.1 1 = .ok (.iconst 0, 1) := by decide +kernel
theorem dX12_out_2 : decode mX12_out.2.1 2 = .ok (.aload_n 0, 1) := by decide +kernel
theorem dX12_out_3 : decode mX12_out.2.1 3 = .ok (.getfield 669, 3) := by decide +kernel
theorem dX12_out_6 : decode mX12_out.2.1 6 = .ok (.iconst 1, 1) := by decide +kernel
theorem dX12_out_7 : decode mX12_out.2.1 7 = .ok (.isub, 1) := by decide +kernel
theorem dX12_out_8 : decode mX12_out.2.1 8 = .ok (.invokestatic 318, 3) := by decide +kernel
theorem dX12_out_11 : decode mX12_out.2.1 11 = .ok (.ifCond .eq 12, 3) := by decide +kernel
theorem dX12_out_14 : decode mX12_out.2.1 14 = .ok (.aload_n 0, 1) := by decide +kernel
theorem dX12_out_15 : decode mX12_out.2.1 15 = .ok (.getfield 288, 3) := by decide +kernel
theorem dX12_out_18 : decode mX12_out.2.1 18 = .ok (.iload_n 1, 1) := by decide +kernel
theorem dX12_out_19 : decode mX12_out.2.1 19 = .ok (.baload, 1) := by decide +kernel
theorem dX12_out_20 : decode mX12_out.2.1 20 = .ok (.goto 4, 3) := by decide +kernel
theorem dX12_out_23 : decode mX12_out.2.1 23 = .ok (.iconst (-1), 1) := by decide +kernel
theorem dX12_out_24 : decode mX12_out.2.1 24 = .ok (.ireturn, 1) := by decide +kernel
theorem sX12_out {SC : Nat → Nat} {X : mh_X} {d kc ks : Nat} {Q : Option am_V → am_W → Prop} {w : am_W} {x1 : Int} (Ho2 : (¬ x1 < (0 : Int) ∧ (¬ (am_w ((w.1 9 0 99) - 1)) < x1)) → 0 ≤ x1) (Ho3 : (¬ x1 < (0 : Int) ∧ (¬ (am_w ((w.1 9 0 99) - 1)) < x1)) → x1 < 400)
    (h : Q (some (.inl (if (¬ x1 < (0 : Int) ∧ (¬ (am_w ((w.1 9 0 99) - 1)) < x1)) then (w.1 143 0 x1.toNat) else (-1)))) w) : am_M (mh_G X) SC (d + 2) kc ks mX12_out [.inr (.inr (some (9, 0))), .inl x1] w Q := by
  refine am_M_of (by decide) (Nat.le_of_ble_eq_true rfl) ?_
  show am_A (mh_G X) SC (d + 2) mX12_out Q 0 [(0, .inr (.inr (some (9, 0)))), (1, .inl x1)] [] w kc ks
  refine am_iload_n dX12_out_0 (List.Mem.tail _ (List.Mem.head _)) ?_
  refine am_iconst dX12_out_1 (by unfold am_rg; omega) ?_
  refine am_aload_n dX12_out_2 (List.Mem.head _) ?_
  refine am_getf (f := 99) (v := .inl (w.1 9 0 99)) dX12_out_3 hc_10 (by decide) wd_1648 (by decide) rfl rfl ?_
  refine am_iconst dX12_out_6 (by unfold am_rg; omega) ?_
  refine am_isub dX12_out_7 ?_
  refine am_calls (d' := d + 1) (kc := 0) (ks := 0) (as := [.inl x1, .inl 0, .inl (am_w ((w.1 9 0 99) - 1))]) dX12_out_8 wc_X12_in wd_1859 wd_1860 wd_122 ds_X12_in (by decide) (by omega) (Nat.le_of_ble_eq_true rfl) (Nat.zero_le _) (Nat.zero_le _) rfl (sX12_in (d := d + 0) (x0 := x1) (x1 := 0) (x2 := (am_w ((w.1 9 0 99) - 1)))  ?_)
  show am_A (mh_G X) SC (d + 2) mX12_out Q 11 [(0, .inr (.inr (some (9, 0)))), (1, .inl x1)] [.inl (if (¬ x1 < (0 : Int) ∧ (¬ (am_w ((w.1 9 0 99) - 1)) < x1)) then 1 else 0)] w kc ks
  refine am_ifeq (tgt := 23) dX12_out_11 (by decide) (fun c1 => ?_) (fun c1 => ?_)
  · replace c1 := am_beq1 c1
    refine am_iconst dX12_out_23 (by unfold am_rg; omega) ?_
    rw [show ((if (¬ x1 < (0 : Int) ∧ (¬ (am_w ((w.1 9 0 99) - 1)) < x1)) then (w.1 143 0 x1.toNat) else (-1)) : Int) = (-1) from if_neg c1] at h
    exact am_ret (r := some (.inl (-1))) dX12_out_24 (Or.inl rfl) rfl h
  · replace c1 := am_beq2 c1
    refine am_aload_n dX12_out_14 (List.Mem.head _) ?_
    refine am_getf (f := 97) (v := .inr (.inr (some (143, 0)))) dX12_out_15 hc_10 (by decide) wd_1646 (by decide) rfl rfl ?_
    refine am_iload_n dX12_out_18 (List.Mem.tail _ (List.Mem.head _)) ?_
    have o2 := Ho2 c1
    have o3 := Ho3 c1
    refine am_baload (v := (w.1 143 0 x1.toNat)) dX12_out_19 (by decide) rfl o2 o3 rfl ?_
    refine am_goto (tgt := 24) dX12_out_20 (by decide) ?_
    rw [show ((if (¬ x1 < (0 : Int) ∧ (¬ (am_w ((w.1 9 0 99) - 1)) < x1)) then (w.1 143 0 x1.toNat) else (-1)) : Int) = (w.1 143 0 x1.toNat) from if_pos c1] at h
    exact am_ret (r := some (.inl (w.1 143 0 x1.toNat))) dX12_out_24 (Or.inl rfl) rfl h
-- MourningHouseModel.areAlike(III)Z
theorem dX12_areAlike_0 : decode mX12_areAlike.2.1 0 = .ok (.aload_n 0, 1) := by decide +kernel
theorem dX12_areAlike_1 : decode mX12_areAlike.2.1 1 = .ok (.getfield 28, 3) := by decide +kernel
theorem dX12_areAlike_4 : decode mX12_areAlike.2.1 4 = .ok (.iload_n 1, 1) := by decide +kernel
theorem dX12_areAlike_5 : decode mX12_areAlike.2.1 5 = .ok (.aaload, 1) := by decide +kernel
theorem dX12_areAlike_6 : decode mX12_areAlike.2.1 6 = .ok (.iload_n 2, 1) := by decide +kernel
theorem dX12_areAlike_7 : decode mX12_areAlike.2.1 7 = .ok (.iaload, 1) := by decide +kernel
theorem dX12_areAlike_8 : decode mX12_areAlike.2.1 8 = .ok (.aload_n 0, 1) := by decide +kernel
theorem dX12_areAlike_9 : decode mX12_areAlike.2.1 9 = .ok (.getfield 28, 3) := by decide +kernel
theorem dX12_areAlike_12 : decode mX12_areAlike.2.1 12 = .ok (.iload_n 1, 1) := by decide +kernel
theorem dX12_areAlike_13 : decode mX12_areAlike.2.1 13 = .ok (.aaload, 1) := by decide +kernel
theorem dX12_areAlike_14 : decode mX12_areAlike.2.1 14 = .ok (.iload_n 3, 1) := by decide +kernel
theorem dX12_areAlike_15 : decode mX12_areAlike.2.1 15 = .ok (.iaload, 1) := by decide +kernel
theorem dX12_areAlike_16 : decode mX12_areAlike.2.1 16 = .ok (.if_icmp .ne 26, 3) := by decide +kernel
theorem dX12_areAlike_19 : decode mX12_areAlike.2.1 19 = .ok (.aload_n 0, 1) := by decide +kernel
theorem dX12_areAlike_20 : decode mX12_areAlike.2.1 20 = .ok (.getfield 31, 3) := by decide +kernel
theorem dX12_areAlike_23 : decode mX12_areAlike.2.1 23 = .ok (.iload_n 1, 1) := by decide +kernel
theorem dX12_areAlike_24 : decode mX12_areAlike.2.1 24 = .ok (.aaload, 1) := by decide +kernel
theorem dX12_areAlike_25 : decode mX12_areAlike.2.1 25 = .ok (.iload_n 2, 1) := by decide +kernel
theorem dX12_areAlike_26 : decode mX12_areAlike.2.1 26 = .ok (.iaload, 1) := by decide +kernel
theorem dX12_areAlike_27 : decode mX12_areAlike.2.1 27 = .ok (.aload_n 0, 1) := by decide +kernel
theorem dX12_areAlike_28 : decode mX12_areAlike.2.1 28 = .ok (.getfield 31, 3) := by decide +kernel
theorem dX12_areAlike_31 : decode mX12_areAlike.2.1 31 = .ok (.iload_n 1, 1) := by decide +kernel
theorem dX12_areAlike_32 : decode mX12_areAlike.2.1 32 = .ok (.aaload, 1) := by decide +kernel
theorem dX12_areAlike_33 : decode mX12_areAlike.2.1 33 = .ok (.iload_n 3, 1) := by decide +kernel
theorem dX12_areAlike_34 : decode mX12_areAlike.2.1 34 = .ok (.iaload, 1) := by decide +kernel
theorem dX12_areAlike_35 : decode mX12_areAlike.2.1 35 = .ok (.if_icmp .ne 7, 3) := by decide +kernel
theorem dX12_areAlike_38 : decode mX12_areAlike.2.1 38 = .ok (.iconst 1, 1) := by decide +kernel
theorem dX12_areAlike_39 : decode mX12_areAlike.2.1 39 = .ok (.goto 4, 3) := by decide +kernel
theorem dX12_areAlike_42 : decode mX12_areAlike.2.1 42 = .ok (.iconst 0, 1) := by decide +kernel
theorem dX12_areAlike_43 : decode mX12_areAlike.2.1 43 = .ok (.istore 4, 2) := by decide +kernel
theorem dX12_areAlike_45 : decode mX12_areAlike.2.1 45 = .ok (.iconst 0, 1) := by decide +kernel
theorem dX12_areAlike_46 : decode mX12_areAlike.2.1 46 = .ok (.istore 5, 2) := by decide +kernel
theorem dX12_areAlike_48 : decode mX12_areAlike.2.1 48 = .ok (.iload 5, 2) := by decide +kernel
theorem dX12_areAlike_50 : decode mX12_areAlike.2.1 50 = .ok (.iconst 3, 1) := by decide +kernel
theorem dX12_areAlike_51 : decode mX12_areAlike.2.1 51 = .ok (.aload_n 0, 1) := by decide +kernel
theorem dX12_areAlike_52 : decode mX12_areAlike.2.1 52 = .ok (.getfield 28, 3) := by decide +kernel
theorem dX12_areAlike_55 : decode mX12_areAlike.2.1 55 = .ok (.iload_n 1, 1) := by decide +kernel
theorem dX12_areAlike_56 : decode mX12_areAlike.2.1 56 = .ok (.aaload, 1) := by decide +kernel
theorem dX12_areAlike_57 : decode mX12_areAlike.2.1 57 = .ok (.iload_n 2, 1) := by decide +kernel
theorem dX12_areAlike_58 : decode mX12_areAlike.2.1 58 = .ok (.iaload, 1) := by decide +kernel
theorem dX12_areAlike_59 : decode mX12_areAlike.2.1 59 = .ok (.imul, 1) := by decide +kernel
theorem dX12_areAlike_60 : decode mX12_areAlike.2.1 60 = .ok (.if_icmp .ge 46, 3) := by decide +kernel
theorem dX12_areAlike_63 : decode mX12_areAlike.2.1 63 = .ok (.iload 4, 2) := by decide +kernel
theorem dX12_areAlike_65 : decode mX12_areAlike.2.1 65 = .ok (.ifCond .eq 41, 3) := by decide +kernel
theorem dX12_areAlike_68 : decode mX12_areAlike.2.1 68 = .ok (.aload_n 0, 1) := by decide +kernel
theorem dX12_areAlike_69 : decode mX12_areAlike.2.1 69 = .ok (.getfield 39, 3) := by decide +kernel
theorem dX12_areAlike_72 : decode mX12_areAlike.2.1 72 = .ok (.iload_n 1, 1) := by decide +kernel
theorem dX12_areAlike_73 : decode mX12_areAlike.2.1 73 = .ok (.aaload, 1) := by decide +kernel
theorem dX12_areAlike_74 : decode mX12_areAlike.2.1 74 = .ok (.iload_n 2, 1) := by decide +kernel
theorem dX12_areAlike_75 : decode mX12_areAlike.2.1 75 = .ok (.aaload, 1) := by decide +kernel
theorem dX12_areAlike_76 : decode mX12_areAlike.2.1 76 = .ok (.iload 5, 2) := by decide +kernel
theorem dX12_areAlike_78 : decode mX12_areAlike.2.1 78 = .ok (.iaload, 1) := by decide +kernel
theorem dX12_areAlike_79 : decode mX12_areAlike.2.1 79 = .ok (.aload_n 0, 1) := by decide +kernel
theorem dX12_areAlike_80 : decode mX12_areAlike.2.1 80 = .ok (.getfield 39, 3) := by decide +kernel
theorem dX12_areAlike_83 : decode mX12_areAlike.2.1 83 = .ok (.iload_n 1, 1) := by decide +kernel
theorem dX12_areAlike_84 : decode mX12_areAlike.2.1 84 = .ok (.aaload, 1) := by decide +kernel
theorem dX12_areAlike_85 : decode mX12_areAlike.2.1 85 = .ok (.iload_n 3, 1) := by decide +kernel
theorem dX12_areAlike_86 : decode mX12_areAlike.2.1 86 = .ok (.aaload, 1) := by decide +kernel
theorem dX12_areAlike_87 : decode mX12_areAlike.2.1 87 = .ok (.iload 5, 2) := by decide +kernel
theorem dX12_areAlike_89 : decode mX12_areAlike.2.1 89 = .ok (.iaload, 1) := by decide +kernel
theorem dX12_areAlike_90 : decode mX12_areAlike.2.1 90 = .ok (.if_icmp .ne 7, 3) := by decide +kernel
theorem dX12_areAlike_93 : decode mX12_areAlike.2.1 93 = .ok (.iconst 1, 1) := by decide +kernel
theorem dX12_areAlike_94 : decode mX12_areAlike.2.1 94 = .ok (.goto 4, 3) := by decide +kernel
theorem dX12_areAlike_97 : decode mX12_areAlike.2.1 97 = .ok (.iconst 0, 1) := by decide +kernel
theorem dX12_areAlike_98 : decode mX12_areAlike.2.1 98 = .ok (.istore 4, 2) := by decide +kernel
theorem dX12_areAlike_100 : decode mX12_areAlike.2.1 100 = .ok (.iinc 5 1, 3) := by decide +kernel
theorem dX12_areAlike_103 : decode mX12_areAlike.2.1 103 = .ok (.goto (-55), 3) := by decide +kernel
theorem dX12_areAlike_106 : decode mX12_areAlike.2.1 106 = .ok (.iload 4, 2) := by decide +kernel
theorem dX12_areAlike_108 : decode mX12_areAlike.2.1 108 = .ok (.ireturn, 1) := by decide +kernel
theorem bX12_areAlike_0 {SC : Nat → Nat} {X : mh_X} {d : Nat} {Q : Option am_V → am_W → Prop} {bc bs : Nat} {w : am_W} {x1 : Int} {x2 : Int} {x3 : Int}
    (h : (0 ≤ x1 ∧ (x1 < 7 ∧ (0 ≤ x2 ∧ (x2 < 30 ∧ (0 ≤ x3 ∧ (x3 < 30 ∧ ((¬ (w.1 73 x1.toNat x2.toNat) = (w.1 73 x1.toNat x3.toNat) → am_A (mh_G X) SC (d + 1) mX12_areAlike Q 42 [(0, .inr (.inr (some (9, 0)))), (1, .inl x1), (2, .inl x2), (3, .inl x3)] [] w bc bs) ∧ ((w.1 73 x1.toNat x2.toNat) = (w.1 73 x1.toNat x3.toNat) → ((¬ (w.1 75 x1.toNat x2.toNat) = (w.1 75 x1.toNat x3.toNat) → am_A (mh_G X) SC (d + 1) mX12_areAlike Q 42 [(0, .inr (.inr (some (9, 0)))), (1, .inl x1), (2, .inl x2), (3, .inl x3)] [] w bc bs) ∧ ((w.1 75 x1.toNat x2.toNat) = (w.1 75 x1.toNat x3.toNat) → am_A (mh_G X) SC (d + 1) mX12_areAlike Q 43 [(0, .inr (.inr (some (9, 0)))), (1, .inl x1), (2, .inl x2), (3, .inl x3)] [.inl 1] w bc bs))))))))))) :
    am_A (mh_G X) SC (d + 1) mX12_areAlike Q 0 [(0, .inr (.inr (some (9, 0)))), (1, .inl x1), (2, .inl x2), (3, .inl x3)] [] w bc bs := by
  refine am_aload_n dX12_areAlike_0 (List.Mem.head _) ?_
  refine am_getf (f := 9) (v := .inr (.inr (some (72, 0)))) dX12_areAlike_1 hc_10 (by decide) wd_1558 (by decide) rfl rfl ?_
  refine am_iload_n dX12_areAlike_4 (List.Mem.tail _ (List.Mem.head _)) ?_
  have o1 := h.1
  replace h := h.2
  have o2 := h.1
  replace h := h.2
  refine am_aaload (kd := 5) (r := some (73, x1.toNat)) dX12_areAlike_5 (by decide) rfl (by decide) (by decide) o1 o2 rfl ?_
  refine am_iload_n dX12_areAlike_6 (List.Mem.tail _ (List.Mem.tail _ (List.Mem.head _))) ?_
  have o3 := h.1
  replace h := h.2
  have o4 := h.1
  replace h := h.2
  refine am_iaload (v := (w.1 73 x1.toNat x2.toNat)) dX12_areAlike_7 (by decide) rfl o3 o4 rfl ?_
  refine am_aload_n dX12_areAlike_8 (List.Mem.head _) ?_
  refine am_getf (f := 9) (v := .inr (.inr (some (72, 0)))) dX12_areAlike_9 hc_10 (by decide) wd_1558 (by decide) rfl rfl ?_
  refine am_iload_n dX12_areAlike_12 (List.Mem.tail _ (List.Mem.head _)) ?_
  refine am_aaload (kd := 5) (r := some (73, x1.toNat)) dX12_areAlike_13 (by decide) rfl (by decide) (by decide) o1 o2 rfl ?_
  refine am_iload_n dX12_areAlike_14 (List.Mem.tail _ (List.Mem.tail _ (List.Mem.tail _ (List.Mem.head _)))) ?_
  have o5 := h.1
  replace h := h.2
  have o6 := h.1
  replace h := h.2
  refine am_iaload (v := (w.1 73 x1.toNat x3.toNat)) dX12_areAlike_15 (by decide) rfl o5 o6 rfl ?_
  refine am_icmpne (tgt := 42) dX12_areAlike_16 (by decide) (fun c7 => ?_) (fun c7 => ?_)
  · replace h := h.1 c7
    exact h
  · replace h := h.2 c7
    refine am_aload_n dX12_areAlike_19 (List.Mem.head _) ?_
    refine am_getf (f := 10) (v := .inr (.inr (some (74, 0)))) dX12_areAlike_20 hc_10 (by decide) wd_1559 (by decide) rfl rfl ?_
    refine am_iload_n dX12_areAlike_23 (List.Mem.tail _ (List.Mem.head _)) ?_
    refine am_aaload (kd := 5) (r := some (75, x1.toNat)) dX12_areAlike_24 (by decide) rfl (by decide) (by decide) o1 o2 rfl ?_
    refine am_iload_n dX12_areAlike_25 (List.Mem.tail _ (List.Mem.tail _ (List.Mem.head _))) ?_
    refine am_iaload (v := (w.1 75 x1.toNat x2.toNat)) dX12_areAlike_26 (by decide) rfl o3 o4 rfl ?_
    refine am_aload_n dX12_areAlike_27 (List.Mem.head _) ?_
    refine am_getf (f := 10) (v := .inr (.inr (some (74, 0)))) dX12_areAlike_28 hc_10 (by decide) wd_1559 (by decide) rfl rfl ?_
    refine am_iload_n dX12_areAlike_31 (List.Mem.tail _ (List.Mem.head _)) ?_
    refine am_aaload (kd := 5) (r := some (75, x1.toNat)) dX12_areAlike_32 (by decide) rfl (by decide) (by decide) o1 o2 rfl ?_
    refine am_iload_n dX12_areAlike_33 (List.Mem.tail _ (List.Mem.tail _ (List.Mem.tail _ (List.Mem.head _)))) ?_
    refine am_iaload (v := (w.1 75 x1.toNat x3.toNat)) dX12_areAlike_34 (by decide) rfl o5 o6 rfl ?_
    refine am_icmpne (tgt := 42) dX12_areAlike_35 (by decide) (fun c8 => ?_) (fun c8 => ?_)
    · replace h := h.1 c8
      exact h
    · replace h := h.2 c8
      refine am_iconst dX12_areAlike_38 (by unfold am_rg; omega) ?_
      refine am_goto (tgt := 43) dX12_areAlike_39 (by decide) ?_
      exact h
theorem bX12_areAlike_42 {SC : Nat → Nat} {X : mh_X} {d : Nat} {Q : Option am_V → am_W → Prop} {bc bs : Nat} {w : am_W} {x1 : Int} {x2 : Int} {x3 : Int}
    (h : am_A (mh_G X) SC (d + 1) mX12_areAlike Q 43 [(0, .inr (.inr (some (9, 0)))), (1, .inl x1), (2, .inl x2), (3, .inl x3)] [.inl 0] w bc bs) :
    am_A (mh_G X) SC (d + 1) mX12_areAlike Q 42 [(0, .inr (.inr (some (9, 0)))), (1, .inl x1), (2, .inl x2), (3, .inl x3)] [] w bc bs := by
  refine am_iconst dX12_areAlike_42 (by unfold am_rg; omega) ?_
  exact h
theorem bX12_areAlike_43 {SC : Nat → Nat} {X : mh_X} {d : Nat} {Q : Option am_V → am_W → Prop} {bc bs : Nat} {w : am_W} {x1 : Int} {x2 : Int} {x3 : Int} {xs0 : Int}
    (h : am_A (mh_G X) SC (d + 1) mX12_areAlike Q 48 [(0, .inr (.inr (some (9, 0)))), (1, .inl x1), (2, .inl x2), (3, .inl x3), (4, .inl xs0), (5, .inl 0)] [] w bc bs) :
    am_A (mh_G X) SC (d + 1) mX12_areAlike Q 43 [(0, .inr (.inr (some (9, 0)))), (1, .inl x1), (2, .inl x2), (3, .inl x3)] [.inl xs0] w bc bs := by
  refine am_istore (ls' := [(4, .inl xs0), (0, .inr (.inr (some (9, 0)))), (1, .inl x1), (2, .inl x2), (3, .inl x3)]) dX12_areAlike_43 (by decide) rfl ?_
  refine am_iconst dX12_areAlike_45 (by unfold am_rg; omega) ?_
  refine am_istore (ls' := [(5, .inl 0), (4, .inl xs0), (0, .inr (.inr (some (9, 0)))), (1, .inl x1), (2, .inl x2), (3, .inl x3)]) dX12_areAlike_46 (by decide) rfl ?_
  exact am_sub [2, 3, 4, 5, 1, 0] rfl h
theorem bX12_areAlike_48 {SC : Nat → Nat} {X : mh_X} {d : Nat} {Q : Option am_V → am_W → Prop} {bc bs : Nat} {w : am_W} {x1 : Int} {x2 : Int} {x3 : Int} {x4 : Int} {x5 : Int}
    (h : (0 ≤ x1 ∧ (x1 < 7 ∧ (0 ≤ x2 ∧ (x2 < 30 ∧ (((am_w (3 * (w.1 73 x1.toNat x2.toNat))) ≤ x5 → ((x4 = 0 ∨ x4 = 1) ∧ Q (some (.inl x4)) w)) ∧ (¬ (am_w (3 * (w.1 73 x1.toNat x2.toNat))) ≤ x5 → ((x4 = 0 → ((x4 = 0 ∨ x4 = 1) ∧ Q (some (.inl x4)) w)) ∧ (¬ x4 = 0 → (0 ≤ x5 ∧ (x5 < 12 ∧ (0 ≤ x3 ∧ (x3 < 30 ∧ ((¬ (w.1 81 (30 * x1.toNat + x2.toNat) x5.toNat) = (w.1 81 (30 * x1.toNat + x3.toNat) x5.toNat) → am_A (mh_G X) SC (d + 1) mX12_areAlike Q 98 [(0, .inr (.inr (some (9, 0)))), (1, .inl x1), (2, .inl x2), (3, .inl x3), (5, .inl x5)] [.inl 0] w bc bs) ∧ ((w.1 81 (30 * x1.toNat + x2.toNat) x5.toNat) = (w.1 81 (30 * x1.toNat + x3.toNat) x5.toNat) → am_A (mh_G X) SC (d + 1) mX12_areAlike Q 98 [(0, .inr (.inr (some (9, 0)))), (1, .inl x1), (2, .inl x2), (3, .inl x3), (5, .inl x5)] [.inl 1] w bc bs))))))))))))))) :
    am_A (mh_G X) SC (d + 1) mX12_areAlike Q 48 [(0, .inr (.inr (some (9, 0)))), (1, .inl x1), (2, .inl x2), (3, .inl x3), (4, .inl x4), (5, .inl x5)] [] w bc bs := by
  refine am_iload dX12_areAlike_48 (List.Mem.tail _ (List.Mem.tail _ (List.Mem.tail _ (List.Mem.tail _ (List.Mem.tail _ (List.Mem.head _)))))) ?_
  refine am_iconst dX12_areAlike_50 (by unfold am_rg; omega) ?_
  refine am_aload_n dX12_areAlike_51 (List.Mem.head _) ?_
  refine am_getf (f := 9) (v := .inr (.inr (some (72, 0)))) dX12_areAlike_52 hc_10 (by decide) wd_1558 (by decide) rfl rfl ?_
  refine am_iload_n dX12_areAlike_55 (List.Mem.tail _ (List.Mem.head _)) ?_
  have o1 := h.1
  replace h := h.2
  have o2 := h.1
  replace h := h.2
  refine am_aaload (kd := 5) (r := some (73, x1.toNat)) dX12_areAlike_56 (by decide) rfl (by decide) (by decide) o1 o2 rfl ?_
  refine am_iload_n dX12_areAlike_57 (List.Mem.tail _ (List.Mem.tail _ (List.Mem.head _))) ?_
  have o3 := h.1
  replace h := h.2
  have o4 := h.1
  replace h := h.2
  refine am_iaload (v := (w.1 73 x1.toNat x2.toNat)) dX12_areAlike_58 (by decide) rfl o3 o4 rfl ?_
  refine am_imul dX12_areAlike_59 ?_
  refine am_icmpge (tgt := 106) dX12_areAlike_60 (by decide) (fun c5 => ?_) (fun c5 => ?_)
  · replace h := h.1 c5
    refine am_iload dX12_areAlike_106 (List.Mem.tail _ (List.Mem.tail _ (List.Mem.tail _ (List.Mem.tail _ (List.Mem.head _))))) ?_
    have o6 := h.1
    replace h := h.2
    exact am_ret (r := some (.inl x4)) dX12_areAlike_108 (Or.inr (Or.inl ⟨rfl, o6⟩)) rfl h
  · replace h := h.2 c5
    refine am_iload dX12_areAlike_63 (List.Mem.tail _ (List.Mem.tail _ (List.Mem.tail _ (List.Mem.tail _ (List.Mem.head _))))) ?_
    refine am_ifeq (tgt := 106) dX12_areAlike_65 (by decide) (fun c7 => ?_) (fun c7 => ?_)
    · replace h := h.1 c7
      refine am_iload dX12_areAlike_106 (List.Mem.tail _ (List.Mem.tail _ (List.Mem.tail _ (List.Mem.tail _ (List.Mem.head _))))) ?_
      have o8 := h.1
      replace h := h.2
      exact am_ret (r := some (.inl x4)) dX12_areAlike_108 (Or.inr (Or.inl ⟨rfl, o8⟩)) rfl h
    · replace h := h.2 c7
      refine am_aload_n dX12_areAlike_68 (List.Mem.head _) ?_
      refine am_getf (f := 12) (v := .inr (.inr (some (79, 0)))) dX12_areAlike_69 hc_10 (by decide) wd_1561 (by decide) rfl rfl ?_
      refine am_iload_n dX12_areAlike_72 (List.Mem.tail _ (List.Mem.head _)) ?_
      refine am_aaload (kd := 6) (r := some (80, x1.toNat)) dX12_areAlike_73 (by decide) rfl (by decide) (by decide) o1 o2 rfl ?_
      refine am_iload_n dX12_areAlike_74 (List.Mem.tail _ (List.Mem.tail _ (List.Mem.head _))) ?_
      refine am_aaload (kd := 5) (r := some (81, (30 * x1.toNat + x2.toNat))) dX12_areAlike_75 (by decide) rfl (by decide) (by decide) o3 o4 rfl ?_
      refine am_iload dX12_areAlike_76 (List.Mem.tail _ (List.Mem.tail _ (List.Mem.tail _ (List.Mem.tail _ (List.Mem.tail _ (List.Mem.head _)))))) ?_
      have o9 := h.1
      replace h := h.2
      have o10 := h.1
      replace h := h.2
      refine am_iaload (v := (w.1 81 (30 * x1.toNat + x2.toNat) x5.toNat)) dX12_areAlike_78 (by decide) rfl o9 o10 rfl ?_
      refine am_aload_n dX12_areAlike_79 (List.Mem.head _) ?_
      refine am_getf (f := 12) (v := .inr (.inr (some (79, 0)))) dX12_areAlike_80 hc_10 (by decide) wd_1561 (by decide) rfl rfl ?_
      refine am_iload_n dX12_areAlike_83 (List.Mem.tail _ (List.Mem.head _)) ?_
      refine am_aaload (kd := 6) (r := some (80, x1.toNat)) dX12_areAlike_84 (by decide) rfl (by decide) (by decide) o1 o2 rfl ?_
      refine am_iload_n dX12_areAlike_85 (List.Mem.tail _ (List.Mem.tail _ (List.Mem.tail _ (List.Mem.head _)))) ?_
      have o11 := h.1
      replace h := h.2
      have o12 := h.1
      replace h := h.2
      refine am_aaload (kd := 5) (r := some (81, (30 * x1.toNat + x3.toNat))) dX12_areAlike_86 (by decide) rfl (by decide) (by decide) o11 o12 rfl ?_
      refine am_iload dX12_areAlike_87 (List.Mem.tail _ (List.Mem.tail _ (List.Mem.tail _ (List.Mem.tail _ (List.Mem.tail _ (List.Mem.head _)))))) ?_
      refine am_iaload (v := (w.1 81 (30 * x1.toNat + x3.toNat) x5.toNat)) dX12_areAlike_89 (by decide) rfl o9 o10 rfl ?_
      refine am_icmpne (tgt := 97) dX12_areAlike_90 (by decide) (fun c13 => ?_) (fun c13 => ?_)
      · replace h := h.1 c13
        refine am_iconst dX12_areAlike_97 (by unfold am_rg; omega) ?_
        exact am_sub [0, 1, 2, 3, 5] rfl h
      · replace h := h.2 c13
        refine am_iconst dX12_areAlike_93 (by unfold am_rg; omega) ?_
        refine am_goto (tgt := 98) dX12_areAlike_94 (by decide) ?_
        exact am_sub [0, 1, 2, 3, 5] rfl h
theorem bX12_areAlike_98 {SC : Nat → Nat} {X : mh_X} {d : Nat} {Q : Option am_V → am_W → Prop} {bc bs : Nat} {w : am_W} {x1 : Int} {x2 : Int} {x3 : Int} {x5 : Int} {xs0 : Int}
    (h : am_A (mh_G X) SC (d + 1) mX12_areAlike Q 48 [(0, .inr (.inr (some (9, 0)))), (1, .inl x1), (2, .inl x2), (3, .inl x3), (4, .inl xs0), (5, .inl (am_w (x5 + 1)))] [] w bc bs) :
    am_A (mh_G X) SC (d + 1) mX12_areAlike Q 98 [(0, .inr (.inr (some (9, 0)))), (1, .inl x1), (2, .inl x2), (3, .inl x3), (5, .inl x5)] [.inl xs0] w bc bs := by
  refine am_istore (ls' := [(4, .inl xs0), (0, .inr (.inr (some (9, 0)))), (1, .inl x1), (2, .inl x2), (3, .inl x3), (5, .inl x5)]) dX12_areAlike_98 (by decide) rfl ?_
  refine am_iinc (ls' := [(5, .inl (am_w (x5 + 1))), (4, .inl xs0), (0, .inr (.inr (some (9, 0)))), (1, .inl x1), (2, .inl x2), (3, .inl x3)]) dX12_areAlike_100 (List.Mem.tail _ (List.Mem.tail _ (List.Mem.tail _ (List.Mem.tail _ (List.Mem.tail _ (List.Mem.head _)))))) (by decide) rfl ?_
  refine am_goto (tgt := 48) dX12_areAlike_103 (by decide) ?_
  exact am_sub [2, 3, 4, 5, 1, 0] rfl h
-- MourningHouseModel.areOne(III)Z
theorem dX12_areOne_0 : decode mX12_areOne.2.1 0 = .ok (.aload_n 0, 1) := by decide +kernel
theorem dX12_areOne_1 : decode mX12_areOne.2.1 1 = .ok (.getfield 25, 3) := by decide +kernel
theorem dX12_areOne_4 : decode mX12_areOne.2.1 4 = .ok (.iload_n 1, 1) := by decide +kernel
theorem dX12_areOne_5 : decode mX12_areOne.2.1 5 = .ok (.aaload, 1) := by decide +kernel
theorem dX12_areOne_6 : decode mX12_areOne.2.1 6 = .ok (.iload_n 2, 1) := by decide +kernel
theorem dX12_areOne_7 : decode mX12_areOne.2.1 7 = .ok (.iaload, 1) := by decide +kernel
theorem dX12_areOne_8 : decode mX12_areOne.2.1 8 = .ok (.aload_n 0, 1) := by decide +kernel
theorem dX12_areOne_9 : decode mX12_areOne.2.1 9 = .ok (.getfield 25, 3) := by decide +kernel
theorem dX12_areOne_12 : decode mX12_areOne.2.1 12 = .ok (.iload_n 1, 1) := by decide +kernel
theorem dX12_areOne_13 : decode mX12_areOne.2.1 13 = .ok (.aaload, 1) := by decide +kernel
theorem dX12_areOne_14 : decode mX12_areOne.2.1 14 = .ok (.iload_n 3, 1) := by decide +kernel
theorem dX12_areOne_15 : decode mX12_areOne.2.1 15 = .ok (.iaload, 1) := by decide +kernel
theorem dX12_areOne_16 : decode mX12_areOne.2.1 16 = .ok (.if_icmp .ne 7, 3) := by decide +kernel
theorem dX12_areOne_19 : decode mX12_areOne.2.1 19 = .ok (.iconst 1, 1) := by decide +kernel
theorem dX12_areOne_20 : decode mX12_areOne.2.1 20 = .ok (.goto 4, 3) := by decide +kernel
theorem dX12_areOne_23 : decode mX12_areOne.2.1 23 = .ok (.iconst 0, 1) := by decide +kernel
theorem dX12_areOne_24 : decode mX12_areOne.2.1 24 = .ok (.istore 4, 2) := by decide +kernel
theorem dX12_areOne_26 : decode mX12_areOne.2.1 26 = .ok (.iconst 0, 1) := by decide +kernel
theorem dX12_areOne_27 : decode mX12_areOne.2.1 27 = .ok (.istore 5, 2) := by decide +kernel
theorem dX12_areOne_29 : decode mX12_areOne.2.1 29 = .ok (.iload 5, 2) := by decide +kernel
theorem dX12_areOne_31 : decode mX12_areOne.2.1 31 = .ok (.aload_n 0, 1) := by decide +kernel
theorem dX12_areOne_32 : decode mX12_areOne.2.1 32 = .ok (.getfield 25, 3) := by decide +kernel
theorem dX12_areOne_35 : decode mX12_areOne.2.1 35 = .ok (.iload_n 1, 1) := by decide +kernel
theorem dX12_areOne_36 : decode mX12_areOne.2.1 36 = .ok (.aaload, 1) := by decide +kernel
theorem dX12_areOne_37 : decode mX12_areOne.2.1 37 = .ok (.iload_n 2, 1) := by decide +kernel
theorem dX12_areOne_38 : decode mX12_areOne.2.1 38 = .ok (.iaload, 1) := by decide +kernel
theorem dX12_areOne_39 : decode mX12_areOne.2.1 39 = .ok (.if_icmp .ge 46, 3) := by decide +kernel
theorem dX12_areOne_42 : decode mX12_areOne.2.1 42 = .ok (.iload 4, 2) := by decide +kernel
theorem dX12_areOne_44 : decode mX12_areOne.2.1 44 = .ok (.ifCond .eq 41, 3) := by decide +kernel
theorem dX12_areOne_47 : decode mX12_areOne.2.1 47 = .ok (.aload_n 0, 1) := by decide +kernel
theorem dX12_areOne_48 : decode mX12_areOne.2.1 48 = .ok (.getfield 36, 3) := by decide +kernel
theorem dX12_areOne_51 : decode mX12_areOne.2.1 51 = .ok (.iload_n 1, 1) := by decide +kernel
theorem dX12_areOne_52 : decode mX12_areOne.2.1 52 = .ok (.aaload, 1) := by decide +kernel
theorem dX12_areOne_53 : decode mX12_areOne.2.1 53 = .ok (.iload_n 2, 1) := by decide +kernel
theorem dX12_areOne_54 : decode mX12_areOne.2.1 54 = .ok (.aaload, 1) := by decide +kernel
theorem dX12_areOne_55 : decode mX12_areOne.2.1 55 = .ok (.iload 5, 2) := by decide +kernel
theorem dX12_areOne_57 : decode mX12_areOne.2.1 57 = .ok (.iaload, 1) := by decide +kernel
theorem dX12_areOne_58 : decode mX12_areOne.2.1 58 = .ok (.aload_n 0, 1) := by decide +kernel
theorem dX12_areOne_59 : decode mX12_areOne.2.1 59 = .ok (.getfield 36, 3) := by decide +kernel
theorem dX12_areOne_62 : decode mX12_areOne.2.1 62 = .ok (.iload_n 1, 1) := by decide +kernel
theorem dX12_areOne_63 : decode mX12_areOne.2.1 63 = .ok (.aaload, 1) := by decide +kernel
theorem dX12_areOne_64 : decode mX12_areOne.2.1 64 = .ok (.iload_n 3, 1) := by decide +kernel
theorem dX12_areOne_65 : decode mX12_areOne.2.1 65 = .ok (.aaload, 1) := by decide +kernel
theorem dX12_areOne_66 : decode mX12_areOne.2.1 66 = .ok (.iload 5, 2) := by decide +kernel
theorem dX12_areOne_68 : decode mX12_areOne.2.1 68 = .ok (.iaload, 1) := by decide +kernel
theorem dX12_areOne_69 : decode mX12_areOne.2.1 69 = .ok (.if_icmp .ne 7, 3) := by decide +kernel
theorem dX12_areOne_72 : decode mX12_areOne.2.1 72 = .ok (.iconst 1, 1) := by decide +kernel
theorem dX12_areOne_73 : decode mX12_areOne.2.1 73 = .ok (.goto 4, 3) := by decide +kernel
theorem dX12_areOne_76 : decode mX12_areOne.2.1 76 = .ok (.iconst 0, 1) := by decide +kernel
theorem dX12_areOne_77 : decode mX12_areOne.2.1 77 = .ok (.istore 4, 2) := by decide +kernel
theorem dX12_areOne_79 : decode mX12_areOne.2.1 79 = .ok (.iinc 5 1, 3) := by decide +kernel
theorem dX12_areOne_82 : decode mX12_areOne.2.1 82 = .ok (.goto (-53), 3) := by decide +kernel
theorem dX12_areOne_85 : decode mX12_areOne.2.1 85 = .ok (.iload 4, 2) := by decide +kernel
theorem dX12_areOne_87 : decode mX12_areOne.2.1 87 = .ok (.ireturn, 1) := by decide +kernel
theorem bX12_areOne_0 {SC : Nat → Nat} {X : mh_X} {d : Nat} {Q : Option am_V → am_W → Prop} {bc bs : Nat} {w : am_W} {x1 : Int} {x2 : Int} {x3 : Int}
    (h : (0 ≤ x1 ∧ (x1 < 7 ∧ (0 ≤ x2 ∧ (x2 < 30 ∧ (0 ≤ x3 ∧ (x3 < 30 ∧ ((¬ (w.1 71 x1.toNat x2.toNat) = (w.1 71 x1.toNat x3.toNat) → am_A (mh_G X) SC (d + 1) mX12_areOne Q 24 [(0, .inr (.inr (some (9, 0)))), (1, .inl x1), (2, .inl x2), (3, .inl x3)] [.inl 0] w bc bs) ∧ ((w.1 71 x1.toNat x2.toNat) = (w.1 71 x1.toNat x3.toNat) → am_A (mh_G X) SC (d + 1) mX12_areOne Q 24 [(0, .inr (.inr (some (9, 0)))), (1, .inl x1), (2, .inl x2), (3, .inl x3)] [.inl 1] w bc bs))))))))) :
    am_A (mh_G X) SC (d + 1) mX12_areOne Q 0 [(0, .inr (.inr (some (9, 0)))), (1, .inl x1), (2, .inl x2), (3, .inl x3)] [] w bc bs := by
  refine am_aload_n dX12_areOne_0 (List.Mem.head _) ?_
  refine am_getf (f := 8) (v := .inr (.inr (some (70, 0)))) dX12_areOne_1 hc_10 (by decide) wd_1557 (by decide) rfl rfl ?_
  refine am_iload_n dX12_areOne_4 (List.Mem.tail _ (List.Mem.head _)) ?_
  have o1 := h.1
  replace h := h.2
  have o2 := h.1
  replace h := h.2
  refine am_aaload (kd := 5) (r := some (71, x1.toNat)) dX12_areOne_5 (by decide) rfl (by decide) (by decide) o1 o2 rfl ?_
  refine am_iload_n dX12_areOne_6 (List.Mem.tail _ (List.Mem.tail _ (List.Mem.head _))) ?_
  have o3 := h.1
  replace h := h.2
  have o4 := h.1
  replace h := h.2
  refine am_iaload (v := (w.1 71 x1.toNat x2.toNat)) dX12_areOne_7 (by decide) rfl o3 o4 rfl ?_
  refine am_aload_n dX12_areOne_8 (List.Mem.head _) ?_
  refine am_getf (f := 8) (v := .inr (.inr (some (70, 0)))) dX12_areOne_9 hc_10 (by decide) wd_1557 (by decide) rfl rfl ?_
  refine am_iload_n dX12_areOne_12 (List.Mem.tail _ (List.Mem.head _)) ?_
  refine am_aaload (kd := 5) (r := some (71, x1.toNat)) dX12_areOne_13 (by decide) rfl (by decide) (by decide) o1 o2 rfl ?_
  refine am_iload_n dX12_areOne_14 (List.Mem.tail _ (List.Mem.tail _ (List.Mem.tail _ (List.Mem.head _)))) ?_
  have o5 := h.1
  replace h := h.2
  have o6 := h.1
  replace h := h.2
  refine am_iaload (v := (w.1 71 x1.toNat x3.toNat)) dX12_areOne_15 (by decide) rfl o5 o6 rfl ?_
  refine am_icmpne (tgt := 23) dX12_areOne_16 (by decide) (fun c7 => ?_) (fun c7 => ?_)
  · replace h := h.1 c7
    refine am_iconst dX12_areOne_23 (by unfold am_rg; omega) ?_
    exact h
  · replace h := h.2 c7
    refine am_iconst dX12_areOne_19 (by unfold am_rg; omega) ?_
    refine am_goto (tgt := 24) dX12_areOne_20 (by decide) ?_
    exact h
theorem bX12_areOne_24 {SC : Nat → Nat} {X : mh_X} {d : Nat} {Q : Option am_V → am_W → Prop} {bc bs : Nat} {w : am_W} {x1 : Int} {x2 : Int} {x3 : Int} {xs0 : Int}
    (h : am_A (mh_G X) SC (d + 1) mX12_areOne Q 29 [(0, .inr (.inr (some (9, 0)))), (1, .inl x1), (2, .inl x2), (3, .inl x3), (4, .inl xs0), (5, .inl 0)] [] w bc bs) :
    am_A (mh_G X) SC (d + 1) mX12_areOne Q 24 [(0, .inr (.inr (some (9, 0)))), (1, .inl x1), (2, .inl x2), (3, .inl x3)] [.inl xs0] w bc bs := by
  refine am_istore (ls' := [(4, .inl xs0), (0, .inr (.inr (some (9, 0)))), (1, .inl x1), (2, .inl x2), (3, .inl x3)]) dX12_areOne_24 (by decide) rfl ?_
  refine am_iconst dX12_areOne_26 (by unfold am_rg; omega) ?_
  refine am_istore (ls' := [(5, .inl 0), (4, .inl xs0), (0, .inr (.inr (some (9, 0)))), (1, .inl x1), (2, .inl x2), (3, .inl x3)]) dX12_areOne_27 (by decide) rfl ?_
  exact am_sub [2, 3, 4, 5, 1, 0] rfl h
theorem bX12_areOne_29 {SC : Nat → Nat} {X : mh_X} {d : Nat} {Q : Option am_V → am_W → Prop} {bc bs : Nat} {w : am_W} {x1 : Int} {x2 : Int} {x3 : Int} {x4 : Int} {x5 : Int}
    (h : (0 ≤ x1 ∧ (x1 < 7 ∧ (0 ≤ x2 ∧ (x2 < 30 ∧ (((w.1 71 x1.toNat x2.toNat) ≤ x5 → ((x4 = 0 ∨ x4 = 1) ∧ Q (some (.inl x4)) w)) ∧ (¬ (w.1 71 x1.toNat x2.toNat) ≤ x5 → ((x4 = 0 → ((x4 = 0 ∨ x4 = 1) ∧ Q (some (.inl x4)) w)) ∧ (¬ x4 = 0 → (0 ≤ x5 ∧ (x5 < 4 ∧ (0 ≤ x3 ∧ (x3 < 30 ∧ ((¬ (w.1 78 (30 * x1.toNat + x2.toNat) x5.toNat) = (w.1 78 (30 * x1.toNat + x3.toNat) x5.toNat) → am_A (mh_G X) SC (d + 1) mX12_areOne Q 77 [(0, .inr (.inr (some (9, 0)))), (1, .inl x1), (2, .inl x2), (3, .inl x3), (5, .inl x5)] [.inl 0] w bc bs) ∧ ((w.1 78 (30 * x1.toNat + x2.toNat) x5.toNat) = (w.1 78 (30 * x1.toNat + x3.toNat) x5.toNat) → am_A (mh_G X) SC (d + 1) mX12_areOne Q 77 [(0, .inr (.inr (some (9, 0)))), (1, .inl x1), (2, .inl x2), (3, .inl x3), (5, .inl x5)] [.inl 1] w bc bs))))))))))))))) :
    am_A (mh_G X) SC (d + 1) mX12_areOne Q 29 [(0, .inr (.inr (some (9, 0)))), (1, .inl x1), (2, .inl x2), (3, .inl x3), (4, .inl x4), (5, .inl x5)] [] w bc bs := by
  refine am_iload dX12_areOne_29 (List.Mem.tail _ (List.Mem.tail _ (List.Mem.tail _ (List.Mem.tail _ (List.Mem.tail _ (List.Mem.head _)))))) ?_
  refine am_aload_n dX12_areOne_31 (List.Mem.head _) ?_
  refine am_getf (f := 8) (v := .inr (.inr (some (70, 0)))) dX12_areOne_32 hc_10 (by decide) wd_1557 (by decide) rfl rfl ?_
  refine am_iload_n dX12_areOne_35 (List.Mem.tail _ (List.Mem.head _)) ?_
  have o1 := h.1
  replace h := h.2
  have o2 := h.1
  replace h := h.2
  refine am_aaload (kd := 5) (r := some (71, x1.toNat)) dX12_areOne_36 (by decide) rfl (by decide) (by decide) o1 o2 rfl ?_
  refine am_iload_n dX12_areOne_37 (List.Mem.tail _ (List.Mem.tail _ (List.Mem.head _))) ?_
  have o3 := h.1
  replace h := h.2
  have o4 := h.1
  replace h := h.2
  refine am_iaload (v := (w.1 71 x1.toNat x2.toNat)) dX12_areOne_38 (by decide) rfl o3 o4 rfl ?_
  refine am_icmpge (tgt := 85) dX12_areOne_39 (by decide) (fun c5 => ?_) (fun c5 => ?_)
  · replace h := h.1 c5
    refine am_iload dX12_areOne_85 (List.Mem.tail _ (List.Mem.tail _ (List.Mem.tail _ (List.Mem.tail _ (List.Mem.head _))))) ?_
    have o6 := h.1
    replace h := h.2
    exact am_ret (r := some (.inl x4)) dX12_areOne_87 (Or.inr (Or.inl ⟨rfl, o6⟩)) rfl h
  · replace h := h.2 c5
    refine am_iload dX12_areOne_42 (List.Mem.tail _ (List.Mem.tail _ (List.Mem.tail _ (List.Mem.tail _ (List.Mem.head _))))) ?_
    refine am_ifeq (tgt := 85) dX12_areOne_44 (by decide) (fun c7 => ?_) (fun c7 => ?_)
    · replace h := h.1 c7
      refine am_iload dX12_areOne_85 (List.Mem.tail _ (List.Mem.tail _ (List.Mem.tail _ (List.Mem.tail _ (List.Mem.head _))))) ?_
      have o8 := h.1
      replace h := h.2
      exact am_ret (r := some (.inl x4)) dX12_areOne_87 (Or.inr (Or.inl ⟨rfl, o8⟩)) rfl h
    · replace h := h.2 c7
      refine am_aload_n dX12_areOne_47 (List.Mem.head _) ?_
      refine am_getf (f := 11) (v := .inr (.inr (some (76, 0)))) dX12_areOne_48 hc_10 (by decide) wd_1560 (by decide) rfl rfl ?_
      refine am_iload_n dX12_areOne_51 (List.Mem.tail _ (List.Mem.head _)) ?_
      refine am_aaload (kd := 6) (r := some (77, x1.toNat)) dX12_areOne_52 (by decide) rfl (by decide) (by decide) o1 o2 rfl ?_
      refine am_iload_n dX12_areOne_53 (List.Mem.tail _ (List.Mem.tail _ (List.Mem.head _))) ?_
      refine am_aaload (kd := 5) (r := some (78, (30 * x1.toNat + x2.toNat))) dX12_areOne_54 (by decide) rfl (by decide) (by decide) o3 o4 rfl ?_
      refine am_iload dX12_areOne_55 (List.Mem.tail _ (List.Mem.tail _ (List.Mem.tail _ (List.Mem.tail _ (List.Mem.tail _ (List.Mem.head _)))))) ?_
      have o9 := h.1
      replace h := h.2
      have o10 := h.1
      replace h := h.2
      refine am_iaload (v := (w.1 78 (30 * x1.toNat + x2.toNat) x5.toNat)) dX12_areOne_57 (by decide) rfl o9 o10 rfl ?_
      refine am_aload_n dX12_areOne_58 (List.Mem.head _) ?_
      refine am_getf (f := 11) (v := .inr (.inr (some (76, 0)))) dX12_areOne_59 hc_10 (by decide) wd_1560 (by decide) rfl rfl ?_
      refine am_iload_n dX12_areOne_62 (List.Mem.tail _ (List.Mem.head _)) ?_
      refine am_aaload (kd := 6) (r := some (77, x1.toNat)) dX12_areOne_63 (by decide) rfl (by decide) (by decide) o1 o2 rfl ?_
      refine am_iload_n dX12_areOne_64 (List.Mem.tail _ (List.Mem.tail _ (List.Mem.tail _ (List.Mem.head _)))) ?_
      have o11 := h.1
      replace h := h.2
      have o12 := h.1
      replace h := h.2
      refine am_aaload (kd := 5) (r := some (78, (30 * x1.toNat + x3.toNat))) dX12_areOne_65 (by decide) rfl (by decide) (by decide) o11 o12 rfl ?_
      refine am_iload dX12_areOne_66 (List.Mem.tail _ (List.Mem.tail _ (List.Mem.tail _ (List.Mem.tail _ (List.Mem.tail _ (List.Mem.head _)))))) ?_
      refine am_iaload (v := (w.1 78 (30 * x1.toNat + x3.toNat) x5.toNat)) dX12_areOne_68 (by decide) rfl o9 o10 rfl ?_
      refine am_icmpne (tgt := 76) dX12_areOne_69 (by decide) (fun c13 => ?_) (fun c13 => ?_)
      · replace h := h.1 c13
        refine am_iconst dX12_areOne_76 (by unfold am_rg; omega) ?_
        exact am_sub [0, 1, 2, 3, 5] rfl h
      · replace h := h.2 c13
        refine am_iconst dX12_areOne_72 (by unfold am_rg; omega) ?_
        refine am_goto (tgt := 77) dX12_areOne_73 (by decide) ?_
        exact am_sub [0, 1, 2, 3, 5] rfl h
theorem bX12_areOne_77 {SC : Nat → Nat} {X : mh_X} {d : Nat} {Q : Option am_V → am_W → Prop} {bc bs : Nat} {w : am_W} {x1 : Int} {x2 : Int} {x3 : Int} {x5 : Int} {xs0 : Int}
    (h : am_A (mh_G X) SC (d + 1) mX12_areOne Q 29 [(0, .inr (.inr (some (9, 0)))), (1, .inl x1), (2, .inl x2), (3, .inl x3), (4, .inl xs0), (5, .inl (am_w (x5 + 1)))] [] w bc bs) :
    am_A (mh_G X) SC (d + 1) mX12_areOne Q 77 [(0, .inr (.inr (some (9, 0)))), (1, .inl x1), (2, .inl x2), (3, .inl x3), (5, .inl x5)] [.inl xs0] w bc bs := by
  refine am_istore (ls' := [(4, .inl xs0), (0, .inr (.inr (some (9, 0)))), (1, .inl x1), (2, .inl x2), (3, .inl x3), (5, .inl x5)]) dX12_areOne_77 (by decide) rfl ?_
  refine am_iinc (ls' := [(5, .inl (am_w (x5 + 1))), (4, .inl xs0), (0, .inr (.inr (some (9, 0)))), (1, .inl x1), (2, .inl x2), (3, .inl x3)]) dX12_areOne_79 (List.Mem.tail _ (List.Mem.tail _ (List.Mem.tail _ (List.Mem.tail _ (List.Mem.tail _ (List.Mem.head _)))))) (by decide) rfl ?_
  refine am_goto (tgt := 29) dX12_areOne_82 (by decide) ?_
  exact am_sub [2, 3, 4, 5, 1, 0] rfl h
