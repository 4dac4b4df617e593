-- MourningHouse$Decrees.blankLaw()LMourningHouse$Law;
theorem dX1_blankLaw_0 : decode mX1_blankLaw.2.1 0 = .ok (.aload_n 0, 1) := by decide +kernel
theorem dX1_blankLaw_1 : decode mX1_blankLaw.2.1 1 = .ok (.getfield 28, 3) := by decide +kernel
theorem dX1_blankLaw_4 : decode mX1_blankLaw.2.1 4 = .ok (.bipush 6, 2) := by decide +kernel
theorem dX1_blankLaw_6 : decode mX1_blankLaw.2.1 6 = .ok (.if_icmp .ge 15, 3) := by decide +kernel
theorem dX1_blankLaw_9 : decode mX1_blankLaw.2.1 9 = .ok (.aload_n 0, 1) := by decide +kernel
theorem dX1_blankLaw_10 : decode mX1_blankLaw.2.1 10 = .ok (.getfield 11, 3) := by decide +kernel
theorem dX1_blankLaw_13 : decode mX1_blankLaw.2.1 13 = .ok (.aload_n 0, 1) := by decide +kernel
theorem dX1_blankLaw_14 : decode mX1_blankLaw.2.1 14 = .ok (.getfield 28, 3) := by decide +kernel
theorem dX1_blankLaw_17 : decode mX1_blankLaw.2.1 17 = .ok (.aaload, 1) := by decide +kernel
theorem dX1_blankLaw_18 : decode mX1_blankLaw.2.1 18 = .ok (.goto 4, 3) := by decide +kernel
theorem dX1_blankLaw_21 : decode mX1_blankLaw.2.1 21 = .ok (.aconst_null, 1) := by decide +kernel
theorem dX1_blankLaw_22 : decode mX1_blankLaw.2.1 22 = .ok (.areturn, 1) := by decide +kernel
theorem bX1_blankLaw_0 {SC : Nat → Nat} {X : mh_X} {d : Nat} {Q : Option am_V → am_W → Prop} {bc bs : Nat} {w : am_W} 
    (h : ((6 ≤ (w.1 4 0 5) → Q (some (.inr (.inr none))) w) ∧ (¬ 6 ≤ (w.1 4 0 5) → (0 ≤ (w.1 4 0 5) ∧ ((w.1 4 0 5) < 6 ∧ Q (some (.inr (.inr (some (10, (w.1 4 0 5).toNat))))) w))))) :
    am_A (mh_G X) SC (d + 1) mX1_blankLaw Q 0 [(0, .inr (.inr (some (4, 0))))] [] w bc bs := by
  refine am_aload_n dX1_blankLaw_0 (List.Mem.head _) ?_
  refine am_getf (f := 5) (v := .inl (w.1 4 0 5)) dX1_blankLaw_1 hc_3 (by decide) wd_290 (by decide) rfl rfl ?_
  refine am_bipush dX1_blankLaw_4 (by decide) (by unfold am_rg; omega) ?_
  refine am_icmpge (tgt := 21) dX1_blankLaw_6 (by decide) (fun c1 => ?_) (fun c1 => ?_)
  · replace h := h.1 c1
    refine am_null dX1_blankLaw_21 ?_
    exact am_ret (r := some (.inr (.inr none))) dX1_blankLaw_22 ⟨_, rfl, Or.inl ⟨_, rfl⟩⟩ rfl h
  · replace h := h.2 c1
    refine am_aload_n dX1_blankLaw_9 (List.Mem.head _) ?_
    refine am_getf (f := 0) (v := .inr (.inr (some (28, 0)))) dX1_blankLaw_10 hc_3 (by decide) wd_285 (by decide) rfl rfl ?_
    refine am_aload_n dX1_blankLaw_13 (List.Mem.head _) ?_
    refine am_getf (f := 5) (v := .inl (w.1 4 0 5)) dX1_blankLaw_14 hc_3 (by decide) wd_290 (by decide) rfl rfl ?_
    have o2 := h.1
    replace h := h.2
    have o3 := h.1
    replace h := h.2
    refine am_aaload (kd := 7) (r := some (10, (w.1 4 0 5).toNat)) dX1_blankLaw_17 (by decide) rfl (by decide) (by decide) o2 o3 rfl ?_
    refine am_goto (tgt := 22) dX1_blankLaw_18 (by decide) ?_
    exact am_ret (r := some (.inr (.inr (some (10, (w.1 4 0 5).toNat))))) dX1_blankLaw_22 ⟨_, rfl, Or.inl ⟨_, rfl⟩⟩ rfl h
-- MourningHouse$Decrees.enact(LMourningHouse$Law;I)V
theorem dX1_enact_0 : decode mX1_enact.2.1 0 = .ok (.aload_n 1, 1) := by decide +kernel
theorem dX1_enact_1 : decode mX1_enact.2.1 1 = .ok (.iload_n 2, 1) := by decide +kernel
theorem dX1_enact_2 : decode mX1_enact.2.1 2 = .ok (.putfield 36, 3) := by decide +kernel
theorem dX1_enact_5 : decode mX1_enact.2.1 5 = .ok (.aload_n 0, 1) := by decide +kernel
theorem dX1_enact_6 : decode mX1_enact.2.1 6 = .ok (.dup, 1) := by decide +kernel
theorem dX1_enact_7 : decode mX1_enact.2.1 7 = .ok (.getfield 28, 3) := by decide +kernel
theorem dX1_enact_10 : decode mX1_enact.2.1 10 = .ok (.iconst 1, 1) := by decide +kernel
theorem dX1_enact_11 : decode mX1_enact.2.1 11 = .ok (.iadd, 1) := by decide +kernel
theorem dX1_enact_12 : decode mX1_enact.2.1 12 = .ok (.putfield 28, 3) := by decide +kernel
theorem dX1_enact_15 : decode mX1_enact.2.1 15 = .ok (.return_, 1) := by decide +kernel
theorem bX1_enact_0 {SC : Nat → Nat} {X : mh_X} {d : Nat} {Q : Option am_V → am_W → Prop} {bc bs : Nat} {w : am_W} {j1 : Nat} {x2 : Int}
    (h : Q none ((am_up (am_up w.1 10 j1 17 x2) 4 0 5 (am_w ((w.1 4 0 5) + 1))), w.2)) :
    am_A (mh_G X) SC (d + 1) mX1_enact Q 0 [(0, .inr (.inr (some (4, 0)))), (1, .inr (.inr (some (10, j1)))), (2, .inl x2)] [] w bc bs := by
  refine am_aload_n dX1_enact_0 (List.Mem.tail _ (List.Mem.head _)) ?_
  refine am_iload_n dX1_enact_1 (List.Mem.tail _ (List.Mem.tail _ (List.Mem.head _))) ?_
  refine am_putf (f := 17) dX1_enact_2 hc_4 (by decide) wd_247 rfl (Or.inl rfl) (Or.inl (by decide)) rfl ?_
  refine am_aload_n dX1_enact_5 (List.Mem.head _) ?_
  refine am_dup dX1_enact_6 rfl ?_
  refine am_getf (f := 5) (v := .inl (w.1 4 0 5)) dX1_enact_7 hc_3 (by decide) wd_290 (by decide) rfl rfl ?_
  refine am_iconst dX1_enact_10 (by unfold am_rg; omega) ?_
  refine am_iadd dX1_enact_11 ?_
  refine am_putf (f := 5) dX1_enact_12 hc_3 (by decide) wd_290 rfl (Or.inl rfl) (Or.inl (by decide)) rfl ?_
  exact am_ret (r := none) dX1_enact_15 rfl rfl h
-- MourningHouse$Decrees.lawNumbered(I)LMourningHouse$Law;
theorem dX1_lawNumbered_0 : decode mX1_lawNumbered.2.1 0 = .ok (.iload_n 1, 1) := by decide +kernel
theorem dX1_lawNumbered_1 : decode mX1_lawNumbered.2.1 1 = .ok (.ifCond .lt 20, 3) := by decide +kernel
theorem dX1_lawNumbered_4 : decode mX1_lawNumbered.2.1 4 = .ok (.iload_n 1, 1) := by decide +kernel
theorem dX1_lawNumbered_5 : decode mX1_lawNumbered.2.1 5 = .ok (.aload_n 0, 1) := by decide +kernel
theorem dX1_lawNumbered_6 : decode mX1_lawNumbered.2.1 6 = .ok (.getfield 28, 3) := by decide +kernel
theorem dX1_lawNumbered_9 : decode mX1_lawNumbered.2.1 9 = .ok (.if_icmp .ge 12, 3) := by decide +kernel
theorem dX1_lawNumbered_12 : decode mX1_lawNumbered.2.1 12 = .ok (.aload_n 0, 1) := by decide +kernel
theorem dX1_lawNumbered_13 : decode mX1_lawNumbered.2.1 13 = .ok (.getfield 11, 3) := by decide +kernel
theorem dX1_lawNumbered_16 : decode mX1_lawNumbered.2.1 16 = .ok (.iload_n 1, 1) := by decide +kernel
theorem dX1_lawNumbered_17 : decode mX1_lawNumbered.2.1 17 = .ok (.aaload, 1) := by decide +kernel
theorem dX1_lawNumbered_18 : decode mX1_lawNumbered.2.1 18 = .ok (.goto 4, 3) := by decide +kernel
theorem dX1_lawNumbered_21 : decode mX1_lawNumbered.2.1 21 = .ok (.aconst_null, 1) := by decide +kernel
theorem dX1_lawNumbered_22 : decode mX1_lawNumbered.2.1 22 = .ok (.areturn, 1) := by decide +kernel
theorem bX1_lawNumbered_0 {SC : Nat → Nat} {X : mh_X} {d : Nat} {Q : Option am_V → am_W → Prop} {bc bs : Nat} {w : am_W} {x1 : Int}
    (h : ((x1 < 0 → Q (some (.inr (.inr none))) w) ∧ (¬ x1 < 0 → (((w.1 4 0 5) ≤ x1 → Q (some (.inr (.inr none))) w) ∧ (¬ (w.1 4 0 5) ≤ x1 → (0 ≤ x1 ∧ (x1 < 6 ∧ Q (some (.inr (.inr (some (10, x1.toNat))))) w))))))) :
    am_A (mh_G X) SC (d + 1) mX1_lawNumbered Q 0 [(0, .inr (.inr (some (4, 0)))), (1, .inl x1)] [] w bc bs := by
  refine am_iload_n dX1_lawNumbered_0 (List.Mem.tail _ (List.Mem.head _)) ?_
  refine am_iflt (tgt := 21) dX1_lawNumbered_1 (by decide) (fun c1 => ?_) (fun c1 => ?_)
  · replace h := h.1 c1
    refine am_null dX1_lawNumbered_21 ?_
    exact am_ret (r := some (.inr (.inr none))) dX1_lawNumbered_22 ⟨_, rfl, Or.inl ⟨_, rfl⟩⟩ rfl h
  · replace h := h.2 c1
    refine am_iload_n dX1_lawNumbered_4 (List.Mem.tail _ (List.Mem.head _)) ?_
    refine am_aload_n dX1_lawNumbered_5 (List.Mem.head _) ?_
    refine am_getf (f := 5) (v := .inl (w.1 4 0 5)) dX1_lawNumbered_6 hc_3 (by decide) wd_290 (by decide) rfl rfl ?_
    refine am_icmpge (tgt := 21) dX1_lawNumbered_9 (by decide) (fun c2 => ?_) (fun c2 => ?_)
    · replace h := h.1 c2
      refine am_null dX1_lawNumbered_21 ?_
      exact am_ret (r := some (.inr (.inr none))) dX1_lawNumbered_22 ⟨_, rfl, Or.inl ⟨_, rfl⟩⟩ rfl h
    · replace h := h.2 c2
      refine am_aload_n dX1_lawNumbered_12 (List.Mem.head _) ?_
      refine am_getf (f := 0) (v := .inr (.inr (some (28, 0)))) dX1_lawNumbered_13 hc_3 (by decide) wd_285 (by decide) rfl rfl ?_
      refine am_iload_n dX1_lawNumbered_16 (List.Mem.tail _ (List.Mem.head _)) ?_
      have o3 := h.1
      replace h := h.2
      have o4 := h.1
      replace h := h.2
      refine am_aaload (kd := 7) (r := some (10, x1.toNat)) dX1_lawNumbered_17 (by decide) rfl (by decide) (by decide) o3 o4 rfl ?_
      refine am_goto (tgt := 22) dX1_lawNumbered_18 (by decide) ?_
      exact am_ret (r := some (.inr (.inr (some (10, x1.toNat))))) dX1_lawNumbered_22 ⟨_, rfl, Or.inl ⟨_, rfl⟩⟩ rfl h
-- MourningHouse$Decrees.lawOn(II)LMourningHouse$Law;
theorem dX1_lawOn_0 : decode mX1_lawOn.2.1 0 = .ok (.aload_n 0, 1) := by decide +kernel
theorem dX1_lawOn_1 : decode mX1_lawOn.2.1 1 = .ok (.getfield 28, 3) := by decide +kernel
theorem dX1_lawOn_4 : decode mX1_lawOn.2.1 4 = .ok (.iconst 1, 1) := by decide +kernel
theorem dX1_lawOn_5 : decode mX1_lawOn.2.1 5 = .ok (.isub, 1) := by decide +kernel
theorem dX1_lawOn_6 : decode mX1_lawOn.2.1 6 = .ok (.istore_n 3, 1) := by decide +kernel
theorem dX1_lawOn_7 : decode mX1_lawOn.2.1 7 = .ok (.iload_n 3, 1) := by decide +kernel
theorem dX1_lawOn_8 : decode mX1_lawOn.2.1 8 = .ok (.ifCond .lt 43, 3) := by decide +kernel
theorem dX1_lawOn_11 : decode mX1_lawOn.2.1 11 = .ok (.aload_n 0, 1) := by decide +kernel
theorem dX1_lawOn_12 : decode mX1_lawOn.2.1 12 = .ok (.getfield 11, 3) := by decide +kernel
theorem dX1_lawOn_15 : decode mX1_lawOn.2.1 15 = .ok (.iload_n 3, 1) := by decide +kernel
theorem dX1_lawOn_16 : decode mX1_lawOn.2.1 16 = .ok (.aaload, 1) := by decide +kernel
theorem dX1_lawOn_17 : decode mX1_lawOn.2.1 17 = .ok (.astore 4, 2) := by decide +kernel
theorem dX1_lawOn_19 : decode mX1_lawOn.2.1 19 = .ok (.aload 4, 2) := by decide +kernel
theorem dX1_lawOn_21 : decode mX1_lawOn.2.1 21 = .ok (.ifnull 24, 3) := by decide +kernel
theorem dX1_lawOn_24 : decode mX1_lawOn.2.1 24 = .ok (.aload 4, 2) := by decide +kernel
theorem dX1_lawOn_26 : decode mX1_lawOn.2.1 26 = .ok (.getfield 36, 3) := by decide +kernel
theorem dX1_lawOn_29 : decode mX1_lawOn.2.1 29 = .ok (.iload_n 1, 1) := by decide +kernel
theorem dX1_lawOn_30 : decode mX1_lawOn.2.1 30 = .ok (.if_icmp .gt 15, 3) := by decide +kernel
theorem dX1_lawOn_33 : decode mX1_lawOn.2.1 33 = .ok (.aload 4, 2) := by decide +kernel
theorem dX1_lawOn_35 : decode mX1_lawOn.2.1 35 = .ok (.getfield 36, 3) := by decide +kernel
theorem dX1_lawOn_38 : decode mX1_lawOn.2.1 38 = .ok (.iload_n 2, 1) := by decide +kernel
theorem dX1_lawOn_39 : decode mX1_lawOn.2.1 39 = .ok (.if_icmp .gt 6, 3) := by decide +kernel
theorem dX1_lawOn_42 : decode mX1_lawOn.2.1 42 = .ok (.aload 4, 2) := by decide +kernel
theorem dX1_lawOn_44 : decode mX1_lawOn.2.1 44 = .ok (.areturn, 1) := by decide +kernel
theorem dX1_lawOn_45 : decode mX1_lawOn.2.1 45 = .ok (.iinc 3 (-1), 3) := by decide +kernel
theorem dX1_lawOn_48 : decode mX1_lawOn.2.1 48 = .ok (.goto (-41), 3) := by decide +kernel
theorem dX1_lawOn_51 : decode mX1_lawOn.2.1 51 = .ok (.aconst_null, 1) := by decide +kernel
theorem dX1_lawOn_52 : decode mX1_lawOn.2.1 52 = .ok (.areturn, 1) := by decide +kernel
theorem bX1_lawOn_0 {SC : Nat → Nat} {X : mh_X} {d : Nat} {Q : Option am_V → am_W → Prop} {bc bs : Nat} {w : am_W} {x1 : Int} {x2 : Int}
    (h : am_A (mh_G X) SC (d + 1) mX1_lawOn Q 7 [(0, .inr (.inr (some (4, 0)))), (1, .inl x1), (2, .inl x2), (3, .inl (am_w ((w.1 4 0 5) - 1)))] [] w bc bs) :
    am_A (mh_G X) SC (d + 1) mX1_lawOn Q 0 [(0, .inr (.inr (some (4, 0)))), (1, .inl x1), (2, .inl x2)] [] w bc bs := by
  refine am_aload_n dX1_lawOn_0 (List.Mem.head _) ?_
  refine am_getf (f := 5) (v := .inl (w.1 4 0 5)) dX1_lawOn_1 hc_3 (by decide) wd_290 (by decide) rfl rfl ?_
  refine am_iconst dX1_lawOn_4 (by unfold am_rg; omega) ?_
  refine am_isub dX1_lawOn_5 ?_
  refine am_istore_n (ls' := [(3, .inl (am_w ((w.1 4 0 5) - 1))), (0, .inr (.inr (some (4, 0)))), (1, .inl x1), (2, .inl x2)]) dX1_lawOn_6 (by decide) rfl ?_
  exact am_sub [1, 2, 3, 0] rfl h
theorem bX1_lawOn_7 {SC : Nat → Nat} {X : mh_X} {d : Nat} {Q : Option am_V → am_W → Prop} {bc bs : Nat} {w : am_W} {x1 : Int} {x2 : Int} {x3 : Int}
    (h : ((x3 < 0 → Q (some (.inr (.inr none))) w) ∧ (¬ x3 < 0 → (0 ≤ x3 ∧ (x3 < 6 ∧ ((x1 < (w.1 10 x3.toNat 17) → am_A (mh_G X) SC (d + 1) mX1_lawOn Q 45 [(0, .inr (.inr (some (4, 0)))), (1, .inl x1), (2, .inl x2), (3, .inl x3)] [] w bc bs) ∧ (¬ x1 < (w.1 10 x3.toNat 17) → ((x2 < (w.1 10 x3.toNat 17) → am_A (mh_G X) SC (d + 1) mX1_lawOn Q 45 [(0, .inr (.inr (some (4, 0)))), (1, .inl x1), (2, .inl x2), (3, .inl x3)] [] w bc bs) ∧ (¬ x2 < (w.1 10 x3.toNat 17) → Q (some (.inr (.inr (some (10, x3.toNat))))) w))))))))) :
    am_A (mh_G X) SC (d + 1) mX1_lawOn Q 7 [(0, .inr (.inr (some (4, 0)))), (1, .inl x1), (2, .inl x2), (3, .inl x3)] [] w bc bs := by
  refine am_iload_n dX1_lawOn_7 (List.Mem.tail _ (List.Mem.tail _ (List.Mem.tail _ (List.Mem.head _)))) ?_
  refine am_iflt (tgt := 51) dX1_lawOn_8 (by decide) (fun c1 => ?_) (fun c1 => ?_)
  · replace h := h.1 c1
    refine am_null dX1_lawOn_51 ?_
    exact am_ret (r := some (.inr (.inr none))) dX1_lawOn_52 ⟨_, rfl, Or.inl ⟨_, rfl⟩⟩ rfl h
  · replace h := h.2 c1
    refine am_aload_n dX1_lawOn_11 (List.Mem.head _) ?_
    refine am_getf (f := 0) (v := .inr (.inr (some (28, 0)))) dX1_lawOn_12 hc_3 (by decide) wd_285 (by decide) rfl rfl ?_
    refine am_iload_n dX1_lawOn_15 (List.Mem.tail _ (List.Mem.tail _ (List.Mem.tail _ (List.Mem.head _)))) ?_
    have o2 := h.1
    replace h := h.2
    have o3 := h.1
    replace h := h.2
    refine am_aaload (kd := 7) (r := some (10, x3.toNat)) dX1_lawOn_16 (by decide) rfl (by decide) (by decide) o2 o3 rfl ?_
    refine am_astore (ls' := [(4, .inr (.inr (some (10, x3.toNat)))), (0, .inr (.inr (some (4, 0)))), (1, .inl x1), (2, .inl x2), (3, .inl x3)]) dX1_lawOn_17 (by decide) rfl ?_
    refine am_aload dX1_lawOn_19 (List.Mem.head _) ?_
    refine am_ifnull (tgt := 45) dX1_lawOn_21 (by decide) (fun e => by cases e) (fun _ => ?_)
    refine am_aload dX1_lawOn_24 (List.Mem.head _) ?_
    refine am_getf (f := 17) (v := .inl (w.1 10 x3.toNat 17)) dX1_lawOn_26 hc_4 (by decide) wd_247 (by decide) rfl rfl ?_
    refine am_iload_n dX1_lawOn_29 (List.Mem.tail _ (List.Mem.tail _ (List.Mem.head _))) ?_
    refine am_icmpgt (tgt := 45) dX1_lawOn_30 (by decide) (fun c4 => ?_) (fun c4 => ?_)
    · replace h := h.1 c4
      exact am_sub [1, 2, 3, 4] rfl h
    · replace h := h.2 c4
      refine am_aload dX1_lawOn_33 (List.Mem.head _) ?_
      refine am_getf (f := 17) (v := .inl (w.1 10 x3.toNat 17)) dX1_lawOn_35 hc_4 (by decide) wd_247 (by decide) rfl rfl ?_
      refine am_iload_n dX1_lawOn_38 (List.Mem.tail _ (List.Mem.tail _ (List.Mem.tail _ (List.Mem.head _)))) ?_
      refine am_icmpgt (tgt := 45) dX1_lawOn_39 (by decide) (fun c5 => ?_) (fun c5 => ?_)
      · replace h := h.1 c5
        exact am_sub [1, 2, 3, 4] rfl h
      · replace h := h.2 c5
        refine am_aload dX1_lawOn_42 (List.Mem.head _) ?_
        exact am_ret (r := some (.inr (.inr (some (10, x3.toNat))))) dX1_lawOn_44 ⟨_, rfl, Or.inl ⟨_, rfl⟩⟩ rfl h
theorem bX1_lawOn_45 {SC : Nat → Nat} {X : mh_X} {d : Nat} {Q : Option am_V → am_W → Prop} {bc bs : Nat} {w : am_W} {x1 : Int} {x2 : Int} {x3 : Int}
    (h : am_A (mh_G X) SC (d + 1) mX1_lawOn Q 7 [(0, .inr (.inr (some (4, 0)))), (1, .inl x1), (2, .inl x2), (3, .inl (am_w (x3 + (-1))))] [] w bc bs) :
    am_A (mh_G X) SC (d + 1) mX1_lawOn Q 45 [(0, .inr (.inr (some (4, 0)))), (1, .inl x1), (2, .inl x2), (3, .inl x3)] [] w bc bs := by
  refine am_iinc (ls' := [(3, .inl (am_w (x3 + (-1)))), (0, .inr (.inr (some (4, 0)))), (1, .inl x1), (2, .inl x2)]) dX1_lawOn_45 (List.Mem.tail _ (List.Mem.tail _ (List.Mem.tail _ (List.Mem.head _)))) (by decide) rfl ?_
  refine am_goto (tgt := 7) dX1_lawOn_48 (by decide) ?_
  exact am_sub [1, 2, 3, 0] rfl h
-- MourningHouse$Decrees.canOrder(II)Z
theorem dX1_canOrder_0 : decode mX1_canOrder.2.1 0 = .ok (.iload_n 2, 1) := by decide +kernel
theorem dX1_canOrder_1 : decode mX1_canOrder.2.1 1 = .ok (.iconst 1, 1) := by decide +kernel
theorem dX1_canOrder_2 : decode mX1_canOrder.2.1 2 = .ok (.if_icmp .lt 33, 3) := by decide +kernel
theorem dX1_canOrder_5 : decode mX1_canOrder.2.1 5 = .ok (.iload_n 2, 1) := by decide +kernel
theorem dX1_canOrder_6 : decode mX1_canOrder.2.1 6 = .ok (.iconst 4, 1) := by decide +kernel
theorem dX1_canOrder_7 : decode mX1_canOrder.2.1 7 = .ok (.if_icmp .gt 28, 3) := by decide +kernel
theorem dX1_canOrder_10 : decode mX1_canOrder.2.1 10 = .ok (.iload_n 1, 1) := by decide +kernel
theorem dX1_canOrder_11 : decode mX1_canOrder.2.1 11 = .ok (.iconst 1, 1) := by decide +kernel
theorem dX1_canOrder_12 : decode mX1_canOrder.2.1 12 = .ok (.if_icmp .lt 23, 3) := by decide +kernel
theorem dX1_canOrder_15 : decode mX1_canOrder.2.1 15 = .ok (.iload_n 1, 1) := by decide +kernel
theorem dX1_canOrder_16 : decode mX1_canOrder.2.1 16 = .ok (.sipush 400, 3) := by decide +kernel
theorem dX1_canOrder_19 : decode mX1_canOrder.2.1 19 = .ok (.if_icmp .gt 16, 3) := by decide +kernel
theorem dX1_canOrder_22 : decode mX1_canOrder.2.1 22 = .ok (.aload_n 0, 1) := by decide +kernel
theorem dX1_canOrder_23 : decode mX1_canOrder.2.1 23 = .ok (.getfield 32, 3) := by decide +kernel
theorem dX1_canOrder_26 : decode mX1_canOrder.2.1 26 = .ok (.bipush 10, 2) := by decide +kernel
theorem dX1_canOrder_28 : decode mX1_canOrder.2.1 28 = .ok (.if_icmp .ge 7, 3) := by decide +kernel
theorem dX1_canOrder_31 : decode mX1_canOrder.2.1 31 = .ok (.iconst 1, 1) := by decide +kernel
theorem dX1_canOrder_32 : decode mX1_canOrder.2.1 32 = .ok (.goto 4, 3) := by decide +kernel
theorem dX1_canOrder_35 : decode mX1_canOrder.2.1 35 = .ok (.iconst 0, 1) := by decide +kernel
theorem dX1_canOrder_36 : decode mX1_canOrder.2.1 36 = .ok (.ireturn, 1) := by decide +kernel
theorem bX1_canOrder_0 {SC : Nat → Nat} {X : mh_X} {d : Nat} {Q : Option am_V → am_W → Prop} {bc bs : Nat} {w : am_W} {x1 : Int} {x2 : Int}
    (h : ((x2 < 1 → Q (some (.inl 0)) w) ∧ (¬ x2 < 1 → ((4 < x2 → Q (some (.inl 0)) w) ∧ (¬ 4 < x2 → ((x1 < 1 → Q (some (.inl 0)) w) ∧ (¬ x1 < 1 → ((400 < x1 → Q (some (.inl 0)) w) ∧ (¬ 400 < x1 → ((10 ≤ (w.1 4 0 6) → Q (some (.inl 0)) w) ∧ (¬ 10 ≤ (w.1 4 0 6) → Q (some (.inl 1)) w))))))))))) :
    am_A (mh_G X) SC (d + 1) mX1_canOrder Q 0 [(0, .inr (.inr (some (4, 0)))), (1, .inl x1), (2, .inl x2)] [] w bc bs := by
  refine am_iload_n dX1_canOrder_0 (List.Mem.tail _ (List.Mem.tail _ (List.Mem.head _))) ?_
  refine am_iconst dX1_canOrder_1 (by unfold am_rg; omega) ?_
  refine am_icmplt (tgt := 35) dX1_canOrder_2 (by decide) (fun c1 => ?_) (fun c1 => ?_)
  · replace h := h.1 c1
    refine am_iconst dX1_canOrder_35 (by unfold am_rg; omega) ?_
    exact am_ret (r := some (.inl 0)) dX1_canOrder_36 (Or.inr (Or.inl ⟨rfl, (Or.inl rfl)⟩)) rfl h
  · replace h := h.2 c1
    refine am_iload_n dX1_canOrder_5 (List.Mem.tail _ (List.Mem.tail _ (List.Mem.head _))) ?_
    refine am_iconst dX1_canOrder_6 (by unfold am_rg; omega) ?_
    refine am_icmpgt (tgt := 35) dX1_canOrder_7 (by decide) (fun c2 => ?_) (fun c2 => ?_)
    · replace h := h.1 c2
      refine am_iconst dX1_canOrder_35 (by unfold am_rg; omega) ?_
      exact am_ret (r := some (.inl 0)) dX1_canOrder_36 (Or.inr (Or.inl ⟨rfl, (Or.inl rfl)⟩)) rfl h
    · replace h := h.2 c2
      refine am_iload_n dX1_canOrder_10 (List.Mem.tail _ (List.Mem.head _)) ?_
      refine am_iconst dX1_canOrder_11 (by unfold am_rg; omega) ?_
      refine am_icmplt (tgt := 35) dX1_canOrder_12 (by decide) (fun c3 => ?_) (fun c3 => ?_)
      · replace h := h.1 c3
        refine am_iconst dX1_canOrder_35 (by unfold am_rg; omega) ?_
        exact am_ret (r := some (.inl 0)) dX1_canOrder_36 (Or.inr (Or.inl ⟨rfl, (Or.inl rfl)⟩)) rfl h
      · replace h := h.2 c3
        refine am_iload_n dX1_canOrder_15 (List.Mem.tail _ (List.Mem.head _)) ?_
        refine am_sipush dX1_canOrder_16 (by decide) (by unfold am_rg; omega) ?_
        refine am_icmpgt (tgt := 35) dX1_canOrder_19 (by decide) (fun c4 => ?_) (fun c4 => ?_)
        · replace h := h.1 c4
          refine am_iconst dX1_canOrder_35 (by unfold am_rg; omega) ?_
          exact am_ret (r := some (.inl 0)) dX1_canOrder_36 (Or.inr (Or.inl ⟨rfl, (Or.inl rfl)⟩)) rfl h
        · replace h := h.2 c4
          refine am_aload_n dX1_canOrder_22 (List.Mem.head _) ?_
          refine am_getf (f := 6) (v := .inl (w.1 4 0 6)) dX1_canOrder_23 hc_3 (by decide) wd_292 (by decide) rfl rfl ?_
          refine am_bipush dX1_canOrder_26 (by decide) (by unfold am_rg; omega) ?_
          refine am_icmpge (tgt := 35) dX1_canOrder_28 (by decide) (fun c5 => ?_) (fun c5 => ?_)
          · replace h := h.1 c5
            refine am_iconst dX1_canOrder_35 (by unfold am_rg; omega) ?_
            exact am_ret (r := some (.inl 0)) dX1_canOrder_36 (Or.inr (Or.inl ⟨rfl, (Or.inl rfl)⟩)) rfl h
          · replace h := h.2 c5
            refine am_iconst dX1_canOrder_31 (by unfold am_rg; omega) ?_
            refine am_goto (tgt := 36) dX1_canOrder_32 (by decide) ?_
            exact am_ret (r := some (.inl 1)) dX1_canOrder_36 (Or.inr (Or.inl ⟨rfl, (Or.inr rfl)⟩)) rfl h
-- MourningHouse$Decrees.order(IIII)I
theorem dX1_order_0 : decode mX1_order.2.1 0 = .ok (.aload_n 0, 1) := by decide +kernel
theorem dX1_order_1 : decode mX1_order.2.1 1 = .ok (.getfield 15, 3) := by decide +kernel
theorem dX1_order_4 : decode mX1_order.2.1 4 = .ok (.aload_n 0, 1) := by decide +kernel
theorem dX1_order_5 : decode mX1_order.2.1 5 = .ok (.getfield 32, 3) := by decide +kernel
theorem dX1_order_8 : decode mX1_order.2.1 8 = .ok (.iload_n 1, 1) := by decide +kernel
theorem dX1_order_9 : decode mX1_order.2.1 9 = .ok (.iastore, 1) := by decide +kernel
theorem dX1_order_10 : decode mX1_order.2.1 10 = .ok (.aload_n 0, 1) := by decide +kernel
theorem dX1_order_11 : decode mX1_order.2.1 11 = .ok (.getfield 19, 3) := by decide +kernel
theorem dX1_order_14 : decode mX1_order.2.1 14 = .ok (.aload_n 0, 1) := by decide +kernel
theorem dX1_order_15 : decode mX1_order.2.1 15 = .ok (.getfield 32, 3) := by decide +kernel
theorem dX1_order_18 : decode mX1_order.2.1 18 = .ok (.iload_n 2, 1) := by decide +kernel
theorem dX1_order_19 : decode mX1_order.2.1 19 = .ok (.iastore, 1) := by decide +kernel
theorem dX1_order_20 : decode mX1_order.2.1 20 = .ok (.aload_n 0, 1) := by decide +kernel
theorem dX1_order_21 : decode mX1_order.2.1 21 = .ok (.getfield 22, 3) := by decide +kernel
theorem dX1_order_24 : decode mX1_order.2.1 24 = .ok (.aload_n 0, 1) := by decide +kernel
theorem dX1_order_25 : decode mX1_order.2.1 25 = .ok (.getfield 32, 3) := by decide +kernel
theorem dX1_order_28 : decode mX1_order.2.1 28 = .ok (.iload_n 3, 1) := by decide +kernel
theorem dX1_order_29 : decode mX1_order.2.1 29 = .ok (.iastore, 1) := by decide +kernel
theorem dX1_order_30 : decode mX1_order.2.1 30 = .ok (.aload_n 0, 1) := by decide +kernel
theorem dX1_order_31 : decode mX1_order.2.1 31 = .ok (.getfield 25, 3) := by decide +kernel
theorem dX1_order_34 : decode mX1_order.2.1 34 = .ok (.aload_n 0, 1) := by decide +kernel
theorem dX1_order_35 : decode mX1_order.2.1 35 = .ok (.getfield 32, 3) := by decide +kernel
theorem dX1_order_38 : decode mX1_order.2.1 38 = .ok (.iload 4, 2) := by decide +kernel
theorem dX1_order_40 : decode mX1_order.2.1 40 = .ok (.iastore, 1) := by decide +kernel
theorem dX1_order_41 : decode mX1_order.2.1 41 = .ok (.aload_n 0, 1) := by decide +kernel
theorem dX1_order_42 : decode mX1_order.2.1 42 = .ok (.dup, 1) := by decide +kernel
theorem dX1_order_43 : decode mX1_order.2.1 43 = .ok (.getfield 32, 3) := by decide +kernel
theorem dX1_order_46 : decode mX1_order.2.1 46 = .ok (.iconst 1, 1) := by decide +kernel
theorem dX1_order_47 : decode mX1_order.2.1 47 = .ok (.iadd, 1) := by decide +kernel
theorem dX1_order_48 : decode mX1_order.2.1 48 = .ok (.putfield 32, 3) := by decide +kernel
theorem dX1_order_51 : decode mX1_order.2.1 51 = .ok (.aload_n 0, 1) := by decide +kernel
theorem dX1_order_52 : decode mX1_order.2.1 52 = .ok (.getfield 32, 3) := by decide +kernel
theorem dX1_order_55 : decode mX1_order.2.1 55 = .ok (.iconst 1, 1) := by decide +kernel
theorem dX1_order_56 : decode mX1_order.2.1 56 = .ok (.isub, 1) := by decide +kernel
theorem dX1_order_57 : decode mX1_order.2.1 57 = .ok (.ireturn, 1) := by decide +kernel
theorem bX1_order_0 {SC : Nat → Nat} {X : mh_X} {d : Nat} {Q : Option am_V → am_W → Prop} {bc bs : Nat} {w : am_W} {x1 : Int} {x2 : Int} {x3 : Int} {x4 : Int}
    (h : (0 ≤ (w.1 4 0 6) ∧ ((w.1 4 0 6) < 10 ∧ Q (some (.inl (am_w (((am_up w.1 4 0 6 (am_w ((w.1 4 0 6) + 1))) 4 0 6) - 1)))) ((am_up (am_up (am_up (am_up (am_up w.1 29 0 (w.1 4 0 6).toNat x1) 30 0 (w.1 4 0 6).toNat x2) 31 0 (w.1 4 0 6).toNat x3) 32 0 (w.1 4 0 6).toNat x4) 4 0 6 (am_w ((w.1 4 0 6) + 1))), w.2)))) :
    am_A (mh_G X) SC (d + 1) mX1_order Q 0 [(0, .inr (.inr (some (4, 0)))), (1, .inl x1), (2, .inl x2), (3, .inl x3), (4, .inl x4)] [] w bc bs := by
  refine am_aload_n dX1_order_0 (List.Mem.head _) ?_
  refine am_getf (f := 1) (v := .inr (.inr (some (29, 0)))) dX1_order_1 hc_3 (by decide) wd_286 (by decide) rfl rfl ?_
  refine am_aload_n dX1_order_4 (List.Mem.head _) ?_
  refine am_getf (f := 6) (v := .inl (w.1 4 0 6)) dX1_order_5 hc_3 (by decide) wd_292 (by decide) rfl rfl ?_
  refine am_iload_n dX1_order_8 (List.Mem.tail _ (List.Mem.head _)) ?_
  have o1 := h.1
  replace h := h.2
  have o2 := h.1
  replace h := h.2
  refine am_iastore dX1_order_9 (Or.inl (by decide)) rfl o1 o2 ?_
  refine am_aload_n dX1_order_10 (List.Mem.head _) ?_
  refine am_getf (f := 2) (v := .inr (.inr (some (30, 0)))) dX1_order_11 hc_3 (by decide) wd_287 (by decide) rfl rfl ?_
  refine am_aload_n dX1_order_14 (List.Mem.head _) ?_
  refine am_getf (f := 6) (v := .inl (w.1 4 0 6)) dX1_order_15 hc_3 (by decide) wd_292 (by decide) rfl rfl ?_
  refine am_iload_n dX1_order_18 (List.Mem.tail _ (List.Mem.tail _ (List.Mem.head _))) ?_
  refine am_iastore dX1_order_19 (Or.inl (by decide)) rfl o1 o2 ?_
  refine am_aload_n dX1_order_20 (List.Mem.head _) ?_
  refine am_getf (f := 3) (v := .inr (.inr (some (31, 0)))) dX1_order_21 hc_3 (by decide) wd_288 (by decide) rfl rfl ?_
  refine am_aload_n dX1_order_24 (List.Mem.head _) ?_
  refine am_getf (f := 6) (v := .inl (w.1 4 0 6)) dX1_order_25 hc_3 (by decide) wd_292 (by decide) rfl rfl ?_
  refine am_iload_n dX1_order_28 (List.Mem.tail _ (List.Mem.tail _ (List.Mem.tail _ (List.Mem.head _)))) ?_
  refine am_iastore dX1_order_29 (Or.inl (by decide)) rfl o1 o2 ?_
  refine am_aload_n dX1_order_30 (List.Mem.head _) ?_
  refine am_getf (f := 4) (v := .inr (.inr (some (32, 0)))) dX1_order_31 hc_3 (by decide) wd_289 (by decide) rfl rfl ?_
  refine am_aload_n dX1_order_34 (List.Mem.head _) ?_
  refine am_getf (f := 6) (v := .inl (w.1 4 0 6)) dX1_order_35 hc_3 (by decide) wd_292 (by decide) rfl rfl ?_
  refine am_iload dX1_order_38 (List.Mem.tail _ (List.Mem.tail _ (List.Mem.tail _ (List.Mem.tail _ (List.Mem.head _))))) ?_
  refine am_iastore dX1_order_40 (Or.inl (by decide)) rfl o1 o2 ?_
  refine am_aload_n dX1_order_41 (List.Mem.head _) ?_
  refine am_dup dX1_order_42 rfl ?_
  refine am_getf (f := 6) (v := .inl (w.1 4 0 6)) dX1_order_43 hc_3 (by decide) wd_292 (by decide) rfl rfl ?_
  refine am_iconst dX1_order_46 (by unfold am_rg; omega) ?_
  refine am_iadd dX1_order_47 ?_
  refine am_putf (f := 6) dX1_order_48 hc_3 (by decide) wd_292 rfl (Or.inl rfl) (Or.inl (by decide)) rfl ?_
  refine am_aload_n dX1_order_51 (List.Mem.head _) ?_
  refine am_getf (f := 6) (v := .inl ((am_up w.1 4 0 6 (am_w ((w.1 4 0 6) + 1))) 4 0 6)) dX1_order_52 hc_3 (by decide) wd_292 (by decide) rfl rfl ?_
  refine am_iconst dX1_order_55 (by unfold am_rg; omega) ?_
  refine am_isub dX1_order_56 ?_
  exact am_ret (r := some (.inl (am_w (((am_up w.1 4 0 6 (am_w ((w.1 4 0 6) + 1))) 4 0 6) - 1)))) dX1_order_57 (Or.inl rfl) rfl h
-- MourningHouse$Decrees.orderedDepth(II)I
theorem dX1_orderedDepth_0 : decode mX1_orderedDepth.2.1 0 = .ok (.iconst 0, 1) := by decide +kernel
theorem dX1_orderedDepth_1 : decode mX1_orderedDepth.2.1 1 = .ok (.istore_n 3, 1) := by decide +kernel
theorem dX1_orderedDepth_2 : decode mX1_orderedDepth.2.1 2 = .ok (.iconst 0, 1) := by decide +kernel
theorem dX1_orderedDepth_3 : decode mX1_orderedDepth.2.1 3 = .ok (.istore 4, 2) := by decide +kernel
theorem dX1_orderedDepth_5 : decode mX1_orderedDepth.2.1 5 = .ok (.iload 4, 2) := by decide +kernel
theorem dX1_orderedDepth_7 : decode mX1_orderedDepth.2.1 7 = .ok (.aload_n 0, 1) := by decide +kernel
theorem dX1_orderedDepth_8 : decode mX1_orderedDepth.2.1 8 = .ok (.getfield 32, 3) := by decide +kernel
theorem dX1_orderedDepth_11 : decode mX1_orderedDepth.2.1 11 = .ok (.if_icmp .ge 62, 3) := by decide +kernel
theorem dX1_orderedDepth_14 : decode mX1_orderedDepth.2.1 14 = .ok (.aload_n 0, 1) := by decide +kernel
theorem dX1_orderedDepth_15 : decode mX1_orderedDepth.2.1 15 = .ok (.getfield 25, 3) := by decide +kernel
theorem dX1_orderedDepth_18 : decode mX1_orderedDepth.2.1 18 = .ok (.iload 4, 2) := by decide +kernel
theorem dX1_orderedDepth_20 : decode mX1_orderedDepth.2.1 20 = .ok (.iaload, 1) := by decide +kernel
theorem dX1_orderedDepth_21 : decode mX1_orderedDepth.2.1 21 = .ok (.iload_n 2, 1) := by decide +kernel
theorem dX1_orderedDepth_22 : decode mX1_orderedDepth.2.1 22 = .ok (.if_icmp .gt 45, 3) := by decide +kernel
theorem dX1_orderedDepth_25 : decode mX1_orderedDepth.2.1 25 = .ok (.iload_n 1, 1) := by decide +kernel
theorem dX1_orderedDepth_26 : decode mX1_orderedDepth.2.1 26 = .ok (.aload_n 0, 1) := by decide +kernel
theorem dX1_orderedDepth_27 : decode mX1_orderedDepth.2.1 27 = .ok (.getfield 15, 3) := by decide +kernel
theorem dX1_orderedDepth_30 : decode mX1_orderedDepth.2.1 30 = .ok (.iload 4, 2) := by decide +kernel
theorem dX1_orderedDepth_32 : decode mX1_orderedDepth.2.1 32 = .ok (.iaload, 1) := by decide +kernel
theorem dX1_orderedDepth_33 : decode mX1_orderedDepth.2.1 33 = .ok (.if_icmp .lt 34, 3) := by decide +kernel
theorem dX1_orderedDepth_36 : decode mX1_orderedDepth.2.1 36 = .ok (.iload_n 1, 1) := by decide +kernel
theorem dX1_orderedDepth_37 : decode mX1_orderedDepth.2.1 37 = .ok (.aload_n 0, 1) := by decide +kernel
theorem dX1_orderedDepth_38 : decode mX1_orderedDepth.2.1 38 = .ok (.getfield 15, 3) := by decide +kernel
theorem dX1_orderedDepth_41 : decode mX1_orderedDepth.2.1 41 = .ok (.iload 4, 2) := by decide +kernel
theorem dX1_orderedDepth_43 : decode mX1_orderedDepth.2.1 43 = .ok (.iaload, 1) := by decide +kernel
theorem dX1_orderedDepth_44 : decode mX1_orderedDepth.2.1 44 = .ok (.aload_n 0, 1) := by decide +kernel
theorem dX1_orderedDepth_45 : decode mX1_orderedDepth.2.1 45 = .ok (.getfield 19, 3) := by decide +kernel
theorem dX1_orderedDepth_48 : decode mX1_orderedDepth.2.1 48 = .ok (.iload 4, 2) := by decide +kernel
theorem dX1_orderedDepth_50 : decode mX1_orderedDepth.2.1 50 = .ok (.iaload, 1) := by decide +kernel
theorem dX1_orderedDepth_51 : decode mX1_orderedDepth.2.1 51 = .ok (.iadd, 1) := by decide +kernel
theorem dX1_orderedDepth_52 : decode mX1_orderedDepth.2.1 52 = .ok (.if_icmp .ge 15, 3) := by decide +kernel
theorem dX1_orderedDepth_55 : decode mX1_orderedDepth.2.1 55 = .ok (.iload_n 3, 1) := by decide +kernel
theorem dX1_orderedDepth_56 : decode mX1_orderedDepth.2.1 56 = .ok (.aload_n 0, 1) := by decide +kernel
theorem dX1_orderedDepth_57 : decode mX1_orderedDepth.2.1 57 = .ok (.getfield 22, 3) := by decide +kernel
theorem dX1_orderedDepth_60 : decode mX1_orderedDepth.2.1 60 = .ok (.iload 4, 2) := by decide +kernel
theorem dX1_orderedDepth_62 : decode mX1_orderedDepth.2.1 62 = .ok (.iaload, 1) := by decide +kernel
theorem dX1_orderedDepth_63 : decode mX1_orderedDepth.2.1 63 = .ok (.invokestatic 41, 3) := by decide +kernel
theorem dX1_orderedDepth_66 : decode mX1_orderedDepth.2.1 66 = .ok (.istore_n 3, 1) := by decide +kernel
theorem dX1_orderedDepth_67 : decode mX1_orderedDepth.2.1 67 = .ok (.iinc 4 1, 3) := by decide +kernel
theorem dX1_orderedDepth_70 : decode mX1_orderedDepth.2.1 70 = .ok (.goto (-65), 3) := by decide +kernel
theorem dX1_orderedDepth_73 : decode mX1_orderedDepth.2.1 73 = .ok (.iload_n 3, 1) := by decide +kernel
theorem dX1_orderedDepth_74 : decode mX1_orderedDepth.2.1 74 = .ok (.ireturn, 1) := by decide +kernel
theorem bX1_orderedDepth_0 {SC : Nat → Nat} {X : mh_X} {d : Nat} {Q : Option am_V → am_W → Prop} {bc bs : Nat} {w : am_W} {x1 : Int} {x2 : Int}
    (h : am_A (mh_G X) SC (d + 1) mX1_orderedDepth Q 5 [(0, .inr (.inr (some (4, 0)))), (1, .inl x1), (2, .inl x2), (3, .inl 0), (4, .inl 0)] [] w bc bs) :
    am_A (mh_G X) SC (d + 1) mX1_orderedDepth Q 0 [(0, .inr (.inr (some (4, 0)))), (1, .inl x1), (2, .inl x2)] [] w bc bs := by
  refine am_iconst dX1_orderedDepth_0 (by unfold am_rg; omega) ?_
  refine am_istore_n (ls' := [(3, .inl 0), (0, .inr (.inr (some (4, 0)))), (1, .inl x1), (2, .inl x2)]) dX1_orderedDepth_1 (by decide) rfl ?_
  refine am_iconst dX1_orderedDepth_2 (by unfold am_rg; omega) ?_
  refine am_istore (ls' := [(4, .inl 0), (3, .inl 0), (0, .inr (.inr (some (4, 0)))), (1, .inl x1), (2, .inl x2)]) dX1_orderedDepth_3 (by decide) rfl ?_
  exact am_sub [2, 3, 4, 1, 0] rfl h
theorem bX1_orderedDepth_5 {SC : Nat → Nat} {X : mh_X} {d : Nat} {Q : Option am_V → am_W → Prop} {bc bs : Nat} {w : am_W} {x1 : Int} {x2 : Int} {x3 : Int} {x4 : Int}
    (h : (((w.1 4 0 6) ≤ x4 → Q (some (.inl x3)) w) ∧ (¬ (w.1 4 0 6) ≤ x4 → (0 ≤ x4 ∧ (x4 < 10 ∧ ((x2 < (w.1 32 0 x4.toNat) → am_A (mh_G X) SC (d + 1) mX1_orderedDepth Q 67 [(0, .inr (.inr (some (4, 0)))), (1, .inl x1), (2, .inl x2), (3, .inl x3), (4, .inl x4)] [] w bc bs) ∧ (¬ x2 < (w.1 32 0 x4.toNat) → ((x1 < (w.1 29 0 x4.toNat) → am_A (mh_G X) SC (d + 1) mX1_orderedDepth Q 67 [(0, .inr (.inr (some (4, 0)))), (1, .inl x1), (2, .inl x2), (3, .inl x3), (4, .inl x4)] [] w bc bs) ∧ (¬ x1 < (w.1 29 0 x4.toNat) → (((am_w ((w.1 29 0 x4.toNat) + (w.1 30 0 x4.toNat))) ≤ x1 → am_A (mh_G X) SC (d + 1) mX1_orderedDepth Q 67 [(0, .inr (.inr (some (4, 0)))), (1, .inl x1), (2, .inl x2), (3, .inl x3), (4, .inl x4)] [] w bc bs) ∧ (¬ (am_w ((w.1 29 0 x4.toNat) + (w.1 30 0 x4.toNat))) ≤ x1 → am_M (mh_G X) SC d 0 0 mJ9_max_7cf53 [.inl x3, .inl (w.1 31 0 x4.toNat)] w (fun r w1 => am_A (mh_G X) SC (d + 1) mX1_orderedDepth Q 66 [(0, .inr (.inr (some (4, 0)))), (1, .inl x1), (2, .inl x2), (3, .inl x3), (4, .inl x4)] (r.toList ++ []) w1 bc bs)))))))))))) :
    am_A (mh_G X) SC (d + 1) mX1_orderedDepth Q 5 [(0, .inr (.inr (some (4, 0)))), (1, .inl x1), (2, .inl x2), (3, .inl x3), (4, .inl x4)] [] w bc bs := by
  refine am_iload dX1_orderedDepth_5 (List.Mem.tail _ (List.Mem.tail _ (List.Mem.tail _ (List.Mem.tail _ (List.Mem.head _))))) ?_
  refine am_aload_n dX1_orderedDepth_7 (List.Mem.head _) ?_
  refine am_getf (f := 6) (v := .inl (w.1 4 0 6)) dX1_orderedDepth_8 hc_3 (by decide) wd_292 (by decide) rfl rfl ?_
  refine am_icmpge (tgt := 73) dX1_orderedDepth_11 (by decide) (fun c1 => ?_) (fun c1 => ?_)
  · replace h := h.1 c1
    refine am_iload_n dX1_orderedDepth_73 (List.Mem.tail _ (List.Mem.tail _ (List.Mem.tail _ (List.Mem.head _)))) ?_
    exact am_ret (r := some (.inl x3)) dX1_orderedDepth_74 (Or.inl rfl) rfl h
  · replace h := h.2 c1
    refine am_aload_n dX1_orderedDepth_14 (List.Mem.head _) ?_
    refine am_getf (f := 4) (v := .inr (.inr (some (32, 0)))) dX1_orderedDepth_15 hc_3 (by decide) wd_289 (by decide) rfl rfl ?_
    refine am_iload dX1_orderedDepth_18 (List.Mem.tail _ (List.Mem.tail _ (List.Mem.tail _ (List.Mem.tail _ (List.Mem.head _))))) ?_
    have o2 := h.1
    replace h := h.2
    have o3 := h.1
    replace h := h.2
    refine am_iaload (v := (w.1 32 0 x4.toNat)) dX1_orderedDepth_20 (by decide) rfl o2 o3 rfl ?_
    refine am_iload_n dX1_orderedDepth_21 (List.Mem.tail _ (List.Mem.tail _ (List.Mem.head _))) ?_
    refine am_icmpgt (tgt := 67) dX1_orderedDepth_22 (by decide) (fun c4 => ?_) (fun c4 => ?_)
    · replace h := h.1 c4
      exact h
    · replace h := h.2 c4
      refine am_iload_n dX1_orderedDepth_25 (List.Mem.tail _ (List.Mem.head _)) ?_
      refine am_aload_n dX1_orderedDepth_26 (List.Mem.head _) ?_
      refine am_getf (f := 1) (v := .inr (.inr (some (29, 0)))) dX1_orderedDepth_27 hc_3 (by decide) wd_286 (by decide) rfl rfl ?_
      refine am_iload dX1_orderedDepth_30 (List.Mem.tail _ (List.Mem.tail _ (List.Mem.tail _ (List.Mem.tail _ (List.Mem.head _))))) ?_
      refine am_iaload (v := (w.1 29 0 x4.toNat)) dX1_orderedDepth_32 (by decide) rfl o2 o3 rfl ?_
      refine am_icmplt (tgt := 67) dX1_orderedDepth_33 (by decide) (fun c5 => ?_) (fun c5 => ?_)
      · replace h := h.1 c5
        exact h
      · replace h := h.2 c5
        refine am_iload_n dX1_orderedDepth_36 (List.Mem.tail _ (List.Mem.head _)) ?_
        refine am_aload_n dX1_orderedDepth_37 (List.Mem.head _) ?_
        refine am_getf (f := 1) (v := .inr (.inr (some (29, 0)))) dX1_orderedDepth_38 hc_3 (by decide) wd_286 (by decide) rfl rfl ?_
        refine am_iload dX1_orderedDepth_41 (List.Mem.tail _ (List.Mem.tail _ (List.Mem.tail _ (List.Mem.tail _ (List.Mem.head _))))) ?_
        refine am_iaload (v := (w.1 29 0 x4.toNat)) dX1_orderedDepth_43 (by decide) rfl o2 o3 rfl ?_
        refine am_aload_n dX1_orderedDepth_44 (List.Mem.head _) ?_
        refine am_getf (f := 2) (v := .inr (.inr (some (30, 0)))) dX1_orderedDepth_45 hc_3 (by decide) wd_287 (by decide) rfl rfl ?_
        refine am_iload dX1_orderedDepth_48 (List.Mem.tail _ (List.Mem.tail _ (List.Mem.tail _ (List.Mem.tail _ (List.Mem.head _))))) ?_
        refine am_iaload (v := (w.1 30 0 x4.toNat)) dX1_orderedDepth_50 (by decide) rfl o2 o3 rfl ?_
        refine am_iadd dX1_orderedDepth_51 ?_
        refine am_icmpge (tgt := 67) dX1_orderedDepth_52 (by decide) (fun c6 => ?_) (fun c6 => ?_)
        · replace h := h.1 c6
          exact h
        · replace h := h.2 c6
          refine am_iload_n dX1_orderedDepth_55 (List.Mem.tail _ (List.Mem.tail _ (List.Mem.tail _ (List.Mem.head _)))) ?_
          refine am_aload_n dX1_orderedDepth_56 (List.Mem.head _) ?_
          refine am_getf (f := 3) (v := .inr (.inr (some (31, 0)))) dX1_orderedDepth_57 hc_3 (by decide) wd_288 (by decide) rfl rfl ?_
          refine am_iload dX1_orderedDepth_60 (List.Mem.tail _ (List.Mem.tail _ (List.Mem.tail _ (List.Mem.tail _ (List.Mem.head _))))) ?_
          refine am_iaload (v := (w.1 31 0 x4.toNat)) dX1_orderedDepth_62 (by decide) rfl o2 o3 rfl ?_
          exact am_calls (d' := d) (kc := 0) (ks := 0) (as := [.inl x3, .inl (w.1 31 0 x4.toNat)]) dX1_orderedDepth_63 wc_J9_max_7cf53 wd_1282 wd_785 wd_128 ds_J9_max_7cf53 (by decide) (Nat.le_refl _) (Nat.le_of_ble_eq_true rfl) (Nat.zero_le _) (Nat.zero_le _) rfl h
theorem bX1_orderedDepth_67 {SC : Nat → Nat} {X : mh_X} {d : Nat} {Q : Option am_V → am_W → Prop} {bc bs : Nat} {w : am_W} {x1 : Int} {x2 : Int} {x3 : Int} {x4 : Int}
    (h : am_A (mh_G X) SC (d + 1) mX1_orderedDepth Q 5 [(0, .inr (.inr (some (4, 0)))), (1, .inl x1), (2, .inl x2), (3, .inl x3), (4, .inl (am_w (x4 + 1)))] [] w bc bs) :
    am_A (mh_G X) SC (d + 1) mX1_orderedDepth Q 67 [(0, .inr (.inr (some (4, 0)))), (1, .inl x1), (2, .inl x2), (3, .inl x3), (4, .inl x4)] [] w bc bs := by
  refine am_iinc (ls' := [(4, .inl (am_w (x4 + 1))), (0, .inr (.inr (some (4, 0)))), (1, .inl x1), (2, .inl x2), (3, .inl x3)]) dX1_orderedDepth_67 (List.Mem.tail _ (List.Mem.tail _ (List.Mem.tail _ (List.Mem.tail _ (List.Mem.head _))))) (by decide) rfl ?_
  refine am_goto (tgt := 5) dX1_orderedDepth_70 (by decide) ?_
  exact am_sub [1, 2, 3, 4, 0] rfl h
theorem bX1_orderedDepth_66 {SC : Nat → Nat} {X : mh_X} {d : Nat} {Q : Option am_V → am_W → Prop} {bc bs : Nat} {w : am_W} {x1 : Int} {x2 : Int} {x3 : Int} {x4 : Int} {xs0 : Int}
    (h : am_A (mh_G X) SC (d + 1) mX1_orderedDepth Q 67 [(0, .inr (.inr (some (4, 0)))), (1, .inl x1), (2, .inl x2), (3, .inl xs0), (4, .inl x4)] [] w bc bs) :
    am_A (mh_G X) SC (d + 1) mX1_orderedDepth Q 66 [(0, .inr (.inr (some (4, 0)))), (1, .inl x1), (2, .inl x2), (3, .inl x3), (4, .inl x4)] [.inl xs0] w bc bs := by
  refine am_istore_n (ls' := [(3, .inl xs0), (0, .inr (.inr (some (4, 0)))), (1, .inl x1), (2, .inl x2), (4, .inl x4)]) dX1_orderedDepth_66 (by decide) rfl ?_
  exact am_sub [1, 2, 3, 0, 4] rfl h
-- MourningHouse$Family.has(I)Z
theorem dX2_has_0 : decode mX2_has.2.1 0 = .ok (.iload_n 1, 1) := by decide +kernel
theorem dX2_has_1 : decode mX2_has.2.1 1 = .ok (.ifCond .lt 15, 3) := by decide +kernel
theorem dX2_has_4 : decode mX2_has.2.1 4 = .ok (.iload_n 1, 1) := by decide +kernel
theorem dX2_has_5 : decode mX2_has.2.1 5 = .ok (.aload_n 0, 1) := by decide +kernel
theorem dX2_has_6 : decode mX2_has.2.1 6 = .ok (.getfield 68, 3) := by decide +kernel
theorem dX2_has_9 : decode mX2_has.2.1 9 = .ok (.if_icmp .ge 7, 3) := by decide +kernel
theorem dX2_has_12 : decode mX2_has.2.1 12 = .ok (.iconst 1, 1) := by decide +kernel
theorem dX2_has_13 : decode mX2_has.2.1 13 = .ok (.goto 4, 3) := by decide +kernel
theorem dX2_has_16 : decode mX2_has.2.1 16 = .ok (.iconst 0, 1) := by decide +kernel
theorem dX2_has_17 : decode mX2_has.2.1 17 = .ok (.ireturn, 1) := by decide +kernel
theorem bX2_has_0 {SC : Nat → Nat} {X : mh_X} {d : Nat} {Q : Option am_V → am_W → Prop} {bc bs : Nat} {w : am_W} {x1 : Int}
    (h : ((x1 < 0 → Q (some (.inl 0)) w) ∧ (¬ x1 < 0 → (((w.1 5 0 18) ≤ x1 → Q (some (.inl 0)) w) ∧ (¬ (w.1 5 0 18) ≤ x1 → Q (some (.inl 1)) w))))) :
    am_A (mh_G X) SC (d + 1) mX2_has Q 0 [(0, .inr (.inr (some (5, 0)))), (1, .inl x1)] [] w bc bs := by
  refine am_iload_n dX2_has_0 (List.Mem.tail _ (List.Mem.head _)) ?_
  refine am_iflt (tgt := 16) dX2_has_1 (by decide) (fun c1 => ?_) (fun c1 => ?_)
  · replace h := h.1 c1
    refine am_iconst dX2_has_16 (by unfold am_rg; omega) ?_
    exact am_ret (r := some (.inl 0)) dX2_has_17 (Or.inr (Or.inl ⟨rfl, (Or.inl rfl)⟩)) rfl h
  · replace h := h.2 c1
    refine am_iload_n dX2_has_4 (List.Mem.tail _ (List.Mem.head _)) ?_
    refine am_aload_n dX2_has_5 (List.Mem.head _) ?_
    refine am_getf (f := 18) (v := .inl (w.1 5 0 18)) dX2_has_6 hc_5 (by decide) wd_339 (by decide) rfl rfl ?_
    refine am_icmpge (tgt := 16) dX2_has_9 (by decide) (fun c2 => ?_) (fun c2 => ?_)
    · replace h := h.1 c2
      refine am_iconst dX2_has_16 (by unfold am_rg; omega) ?_
      exact am_ret (r := some (.inl 0)) dX2_has_17 (Or.inr (Or.inl ⟨rfl, (Or.inl rfl)⟩)) rfl h
    · replace h := h.2 c2
      refine am_iconst dX2_has_12 (by unfold am_rg; omega) ?_
      refine am_goto (tgt := 17) dX2_has_13 (by decide) ?_
      exact am_ret (r := some (.inl 1)) dX2_has_17 (Or.inr (Or.inl ⟨rfl, (Or.inr rfl)⟩)) rfl h
-- MourningHouse$Family.hasPlaceFor(IIII)Z
theorem dX2_hasPlaceFor_0 : decode mX2_hasPlaceFor.2.1 0 = .ok (.aload_n 0, 1) := by decide +kernel
theorem dX2_hasPlaceFor_1 : decode mX2_hasPlaceFor.2.1 1 = .ok (.getfield 68, 3) := by decide +kernel
theorem dX2_hasPlaceFor_4 : decode mX2_hasPlaceFor.2.1 4 = .ok (.bipush 40, 2) := by decide +kernel
theorem dX2_hasPlaceFor_6 : decode mX2_hasPlaceFor.2.1 6 = .ok (.if_icmp .ge 49, 3) := by decide +kernel
theorem dX2_hasPlaceFor_9 : decode mX2_hasPlaceFor.2.1 9 = .ok (.iload_n 1, 1) := by decide +kernel
theorem dX2_hasPlaceFor_10 : decode mX2_hasPlaceFor.2.1 10 = .ok (.ifCond .lt 45, 3) := by decide +kernel
theorem dX2_hasPlaceFor_13 : decode mX2_hasPlaceFor.2.1 13 = .ok (.iload_n 1, 1) := by decide +kernel
theorem dX2_hasPlaceFor_14 : decode mX2_hasPlaceFor.2.1 14 = .ok (.bipush 10, 2) := by decide +kernel
theorem dX2_hasPlaceFor_16 : decode mX2_hasPlaceFor.2.1 16 = .ok (.idiv, 1) := by decide +kernel
theorem dX2_hasPlaceFor_17 : decode mX2_hasPlaceFor.2.1 17 = .ok (.iconst 1, 1) := by decide +kernel
theorem dX2_hasPlaceFor_18 : decode mX2_hasPlaceFor.2.1 18 = .ok (.if_icmp .gt 37, 3) := by decide +kernel
theorem dX2_hasPlaceFor_21 : decode mX2_hasPlaceFor.2.1 21 = .ok (.iload_n 1, 1) := by decide +kernel
theorem dX2_hasPlaceFor_22 : decode mX2_hasPlaceFor.2.1 22 = .ok (.bipush 10, 2) := by decide +kernel
theorem dX2_hasPlaceFor_24 : decode mX2_hasPlaceFor.2.1 24 = .ok (.irem, 1) := by decide +kernel
theorem dX2_hasPlaceFor_25 : decode mX2_hasPlaceFor.2.1 25 = .ok (.iconst 5, 1) := by decide +kernel
theorem dX2_hasPlaceFor_26 : decode mX2_hasPlaceFor.2.1 26 = .ok (.if_icmp .ge 29, 3) := by decide +kernel
theorem dX2_hasPlaceFor_29 : decode mX2_hasPlaceFor.2.1 29 = .ok (.aload_n 0, 1) := by decide +kernel
theorem dX2_hasPlaceFor_30 : decode mX2_hasPlaceFor.2.1 30 = .ok (.iload_n 2, 1) := by decide +kernel
theorem dX2_hasPlaceFor_31 : decode mX2_hasPlaceFor.2.1 31 = .ok (.iconst 1, 1) := by decide +kernel
theorem dX2_hasPlaceFor_32 : decode mX2_hasPlaceFor.2.1 32 = .ok (.iload 4, 2) := by decide +kernel
theorem dX2_hasPlaceFor_34 : decode mX2_hasPlaceFor.2.1 34 = .ok (.invokevirtual 75, 3) := by decide +kernel
theorem dX2_hasPlaceFor_37 : decode mX2_hasPlaceFor.2.1 37 = .ok (.ifCond .eq 18, 3) := by decide +kernel
theorem dX2_hasPlaceFor_40 : decode mX2_hasPlaceFor.2.1 40 = .ok (.aload_n 0, 1) := by decide +kernel
theorem dX2_hasPlaceFor_41 : decode mX2_hasPlaceFor.2.1 41 = .ok (.iload_n 3, 1) := by decide +kernel
theorem dX2_hasPlaceFor_42 : decode mX2_hasPlaceFor.2.1 42 = .ok (.iconst 0, 1) := by decide +kernel
theorem dX2_hasPlaceFor_43 : decode mX2_hasPlaceFor.2.1 43 = .ok (.iload 4, 2) := by decide +kernel
theorem dX2_hasPlaceFor_45 : decode mX2_hasPlaceFor.2.1 45 = .ok (.invokevirtual 75, 3) := by decide +kernel
theorem dX2_hasPlaceFor_48 : decode mX2_hasPlaceFor.2.1 48 = .ok (.ifCond .eq 7, 3) := by decide +kernel
theorem dX2_hasPlaceFor_51 : decode mX2_hasPlaceFor.2.1 51 = .ok (.iconst 1, 1) := by decide +kernel
theorem dX2_hasPlaceFor_52 : decode mX2_hasPlaceFor.2.1 52 = .ok (.goto 4, 3) := by decide +kernel
theorem dX2_hasPlaceFor_55 : decode mX2_hasPlaceFor.2.1 55 = .ok (.iconst 0, 1) := by decide +kernel
theorem dX2_hasPlaceFor_56 : decode mX2_hasPlaceFor.2.1 56 = .ok (.ireturn, 1) := by decide +kernel
theorem bX2_hasPlaceFor_0 {SC : Nat → Nat} {X : mh_X} {d : Nat} {Q : Option am_V → am_W → Prop} {bc bs : Nat} {w : am_W} {x1 : Int} {x2 : Int} {x3 : Int} {x4 : Int}
    (h : ((40 ≤ (w.1 5 0 18) → Q (some (.inl 0)) w) ∧ (¬ 40 ≤ (w.1 5 0 18) → ((x1 < 0 → Q (some (.inl 0)) w) ∧ (¬ x1 < 0 → ((1 < (am_w (Int.tdiv x1 10)) → Q (some (.inl 0)) w) ∧ (¬ 1 < (am_w (Int.tdiv x1 10)) → ((5 ≤ (am_w (Int.tmod x1 10)) → Q (some (.inl 0)) w) ∧ (¬ 5 ≤ (am_w (Int.tmod x1 10)) → am_M (mh_G X) SC d 0 0 mX2_canBeParent [.inr (.inr (some (5, 0))), .inl x2, .inl 1, .inl x4] w (fun r w1 => am_A (mh_G X) SC (d + 1) mX2_hasPlaceFor Q 37 [(0, .inr (.inr (some (5, 0)))), (1, .inl x1), (2, .inl x2), (3, .inl x3), (4, .inl x4)] (r.toList ++ []) w1 bc bs)))))))))) :
    am_A (mh_G X) SC (d + 1) mX2_hasPlaceFor Q 0 [(0, .inr (.inr (some (5, 0)))), (1, .inl x1), (2, .inl x2), (3, .inl x3), (4, .inl x4)] [] w bc bs := by
  refine am_aload_n dX2_hasPlaceFor_0 (List.Mem.head _) ?_
  refine am_getf (f := 18) (v := .inl (w.1 5 0 18)) dX2_hasPlaceFor_1 hc_5 (by decide) wd_339 (by decide) rfl rfl ?_
  refine am_bipush dX2_hasPlaceFor_4 (by decide) (by unfold am_rg; omega) ?_
  refine am_icmpge (tgt := 55) dX2_hasPlaceFor_6 (by decide) (fun c1 => ?_) (fun c1 => ?_)
  · replace h := h.1 c1
    refine am_iconst dX2_hasPlaceFor_55 (by unfold am_rg; omega) ?_
    exact am_ret (r := some (.inl 0)) dX2_hasPlaceFor_56 (Or.inr (Or.inl ⟨rfl, (Or.inl rfl)⟩)) rfl h
  · replace h := h.2 c1
    refine am_iload_n dX2_hasPlaceFor_9 (List.Mem.tail _ (List.Mem.head _)) ?_
    refine am_iflt (tgt := 55) dX2_hasPlaceFor_10 (by decide) (fun c2 => ?_) (fun c2 => ?_)
    · replace h := h.1 c2
      refine am_iconst dX2_hasPlaceFor_55 (by unfold am_rg; omega) ?_
      exact am_ret (r := some (.inl 0)) dX2_hasPlaceFor_56 (Or.inr (Or.inl ⟨rfl, (Or.inl rfl)⟩)) rfl h
    · replace h := h.2 c2
      refine am_iload_n dX2_hasPlaceFor_13 (List.Mem.tail _ (List.Mem.head _)) ?_
      refine am_bipush dX2_hasPlaceFor_14 (by decide) (by unfold am_rg; omega) ?_
      refine am_idiv dX2_hasPlaceFor_16 (by decide) ?_
      refine am_iconst dX2_hasPlaceFor_17 (by unfold am_rg; omega) ?_
      refine am_icmpgt (tgt := 55) dX2_hasPlaceFor_18 (by decide) (fun c3 => ?_) (fun c3 => ?_)
      · replace h := h.1 c3
        refine am_iconst dX2_hasPlaceFor_55 (by unfold am_rg; omega) ?_
        exact am_ret (r := some (.inl 0)) dX2_hasPlaceFor_56 (Or.inr (Or.inl ⟨rfl, (Or.inl rfl)⟩)) rfl h
      · replace h := h.2 c3
        refine am_iload_n dX2_hasPlaceFor_21 (List.Mem.tail _ (List.Mem.head _)) ?_
        refine am_bipush dX2_hasPlaceFor_22 (by decide) (by unfold am_rg; omega) ?_
        refine am_irem dX2_hasPlaceFor_24 (by decide) ?_
        refine am_iconst dX2_hasPlaceFor_25 (by unfold am_rg; omega) ?_
        refine am_icmpge (tgt := 55) dX2_hasPlaceFor_26 (by decide) (fun c4 => ?_) (fun c4 => ?_)
        · replace h := h.1 c4
          refine am_iconst dX2_hasPlaceFor_55 (by unfold am_rg; omega) ?_
          exact am_ret (r := some (.inl 0)) dX2_hasPlaceFor_56 (Or.inr (Or.inl ⟨rfl, (Or.inl rfl)⟩)) rfl h
        · replace h := h.2 c4
          refine am_aload_n dX2_hasPlaceFor_29 (List.Mem.head _) ?_
          refine am_iload_n dX2_hasPlaceFor_30 (List.Mem.tail _ (List.Mem.tail _ (List.Mem.head _))) ?_
          refine am_iconst dX2_hasPlaceFor_31 (by unfold am_rg; omega) ?_
          refine am_iload dX2_hasPlaceFor_32 (List.Mem.tail _ (List.Mem.tail _ (List.Mem.tail _ (List.Mem.tail _ (List.Mem.head _))))) ?_
          exact am_callv (d' := d) (kc := 0) (ks := 0) (as := [.inl x2, .inl 1, .inl x4]) dX2_hasPlaceFor_34 wc_X2_canBeParent wd_1077 wd_1079 wd_29 wd_117 ds_X2_canBeParent (by decide) (Nat.le_refl _) (Nat.le_of_ble_eq_true rfl) (Nat.zero_le _) (Nat.zero_le _) hc_5 (by decide) rfl rfl h
theorem bX2_hasPlaceFor_37 {SC : Nat → Nat} {X : mh_X} {d : Nat} {Q : Option am_V → am_W → Prop} {bc bs : Nat} {w : am_W} {x1 : Int} {x2 : Int} {x3 : Int} {x4 : Int} {xs0 : Int}
    (h : ((xs0 = 0 → Q (some (.inl 0)) w) ∧ (¬ xs0 = 0 → am_M (mh_G X) SC d 0 0 mX2_canBeParent [.inr (.inr (some (5, 0))), .inl x3, .inl 0, .inl x4] w (fun r w1 => am_A (mh_G X) SC (d + 1) mX2_hasPlaceFor Q 48 [(0, .inr (.inr (some (5, 0)))), (1, .inl x1), (2, .inl x2), (3, .inl x3), (4, .inl x4)] (r.toList ++ []) w1 bc bs)))) :
    am_A (mh_G X) SC (d + 1) mX2_hasPlaceFor Q 37 [(0, .inr (.inr (some (5, 0)))), (1, .inl x1), (2, .inl x2), (3, .inl x3), (4, .inl x4)] [.inl xs0] w bc bs := by
  refine am_ifeq (tgt := 55) dX2_hasPlaceFor_37 (by decide) (fun c1 => ?_) (fun c1 => ?_)
  · replace h := h.1 c1
    refine am_iconst dX2_hasPlaceFor_55 (by unfold am_rg; omega) ?_
    exact am_ret (r := some (.inl 0)) dX2_hasPlaceFor_56 (Or.inr (Or.inl ⟨rfl, (Or.inl rfl)⟩)) rfl h
  · replace h := h.2 c1
    refine am_aload_n dX2_hasPlaceFor_40 (List.Mem.head _) ?_
    refine am_iload_n dX2_hasPlaceFor_41 (List.Mem.tail _ (List.Mem.tail _ (List.Mem.tail _ (List.Mem.head _)))) ?_
    refine am_iconst dX2_hasPlaceFor_42 (by unfold am_rg; omega) ?_
    refine am_iload dX2_hasPlaceFor_43 (List.Mem.tail _ (List.Mem.tail _ (List.Mem.tail _ (List.Mem.tail _ (List.Mem.head _))))) ?_
    exact am_callv (d' := d) (kc := 0) (ks := 0) (as := [.inl x3, .inl 0, .inl x4]) dX2_hasPlaceFor_45 wc_X2_canBeParent wd_1077 wd_1079 wd_29 wd_117 ds_X2_canBeParent (by decide) (Nat.le_refl _) (Nat.le_of_ble_eq_true rfl) (Nat.zero_le _) (Nat.zero_le _) hc_5 (by decide) rfl rfl h
theorem bX2_hasPlaceFor_48 {SC : Nat → Nat} {X : mh_X} {d : Nat} {Q : Option am_V → am_W → Prop} {bc bs : Nat} {w : am_W} {x1 : Int} {x2 : Int} {x3 : Int} {x4 : Int} {xs0 : Int}
    (h : ((xs0 = 0 → Q (some (.inl 0)) w) ∧ (¬ xs0 = 0 → Q (some (.inl 1)) w))) :
    am_A (mh_G X) SC (d + 1) mX2_hasPlaceFor Q 48 [(0, .inr (.inr (some (5, 0)))), (1, .inl x1), (2, .inl x2), (3, .inl x3), (4, .inl x4)] [.inl xs0] w bc bs := by
  refine am_ifeq (tgt := 55) dX2_hasPlaceFor_48 (by decide) (fun c1 => ?_) (fun c1 => ?_)
  · replace h := h.1 c1
    refine am_iconst dX2_hasPlaceFor_55 (by unfold am_rg; omega) ?_
    exact am_ret (r := some (.inl 0)) dX2_hasPlaceFor_56 (Or.inr (Or.inl ⟨rfl, (Or.inl rfl)⟩)) rfl h
  · replace h := h.2 c1
    refine am_iconst dX2_hasPlaceFor_51 (by unfold am_rg; omega) ?_
    refine am_goto (tgt := 56) dX2_hasPlaceFor_52 (by decide) ?_
    exact am_ret (r := some (.inl 1)) dX2_hasPlaceFor_56 (Or.inr (Or.inl ⟨rfl, (Or.inr rfl)⟩)) rfl h
-- MourningHouse$Family.canBeParent(III)Z
theorem dX2_canBeParent_0 : decode mX2_canBeParent.2.1 0 = .ok (.iload_n 1, 1) := by decide +kernel
theorem dX2_canBeParent_1 : decode mX2_canBeParent.2.1 1 = .ok (.iconst (-1), 1) := by decide +kernel
theorem dX2_canBeParent_2 : decode mX2_canBeParent.2.1 2 = .ok (.if_icmp .eq 31, 3) := by decide +kernel
theorem dX2_canBeParent_5 : decode mX2_canBeParent.2.1 5 = .ok (.aload_n 0, 1) := by decide +kernel
theorem dX2_canBeParent_6 : decode mX2_canBeParent.2.1 6 = .ok (.iload_n 1, 1) := by decide +kernel
theorem dX2_canBeParent_7 : decode mX2_canBeParent.2.1 7 = .ok (.invokevirtual 79, 3) := by decide +kernel
theorem dX2_canBeParent_10 : decode mX2_canBeParent.2.1 10 = .ok (.ifCond .eq 27, 3) := by decide +kernel
theorem dX2_canBeParent_13 : decode mX2_canBeParent.2.1 13 = .ok (.aload_n 0, 1) := by decide +kernel
theorem dX2_canBeParent_14 : decode mX2_canBeParent.2.1 14 = .ok (.getfield 11, 3) := by decide +kernel
theorem dX2_canBeParent_17 : decode mX2_canBeParent.2.1 17 = .ok (.iload_n 1, 1) := by decide +kernel
theorem dX2_canBeParent_18 : decode mX2_canBeParent.2.1 18 = .ok (.iaload, 1) := by decide +kernel
theorem dX2_canBeParent_19 : decode mX2_canBeParent.2.1 19 = .ok (.iload_n 2, 1) := by decide +kernel
theorem dX2_canBeParent_20 : decode mX2_canBeParent.2.1 20 = .ok (.if_icmp .ne 17, 3) := by decide +kernel
theorem dX2_canBeParent_23 : decode mX2_canBeParent.2.1 23 = .ok (.aload_n 0, 1) := by decide +kernel
theorem dX2_canBeParent_24 : decode mX2_canBeParent.2.1 24 = .ok (.getfield 24, 3) := by decide +kernel
theorem dX2_canBeParent_27 : decode mX2_canBeParent.2.1 27 = .ok (.iload_n 1, 1) := by decide +kernel
theorem dX2_canBeParent_28 : decode mX2_canBeParent.2.1 28 = .ok (.iaload, 1) := by decide +kernel
theorem dX2_canBeParent_29 : decode mX2_canBeParent.2.1 29 = .ok (.iload_n 3, 1) := by decide +kernel
theorem dX2_canBeParent_30 : decode mX2_canBeParent.2.1 30 = .ok (.if_icmp .gt 7, 3) := by decide +kernel
theorem dX2_canBeParent_33 : decode mX2_canBeParent.2.1 33 = .ok (.iconst 1, 1) := by decide +kernel
theorem dX2_canBeParent_34 : decode mX2_canBeParent.2.1 34 = .ok (.goto 4, 3) := by decide +kernel
theorem dX2_canBeParent_37 : decode mX2_canBeParent.2.1 37 = .ok (.iconst 0, 1) := by decide +kernel
theorem dX2_canBeParent_38 : decode mX2_canBeParent.2.1 38 = .ok (.ireturn, 1) := by decide +kernel
theorem bX2_canBeParent_0 {SC : Nat → Nat} {X : mh_X} {d : Nat} {Q : Option am_V → am_W → Prop} {bc bs : Nat} {w : am_W} {x1 : Int} {x2 : Int} {x3 : Int}
    (h : ((x1 = (-1) → Q (some (.inl 1)) w) ∧ (¬ x1 = (-1) → am_M (mh_G X) SC d 0 0 mX2_has [.inr (.inr (some (5, 0))), .inl x1] w (fun r w1 => am_A (mh_G X) SC (d + 1) mX2_canBeParent Q 10 [(0, .inr (.inr (some (5, 0)))), (1, .inl x1), (2, .inl x2), (3, .inl x3)] (r.toList ++ []) w1 bc bs)))) :
    am_A (mh_G X) SC (d + 1) mX2_canBeParent Q 0 [(0, .inr (.inr (some (5, 0)))), (1, .inl x1), (2, .inl x2), (3, .inl x3)] [] w bc bs := by
  refine am_iload_n dX2_canBeParent_0 (List.Mem.tail _ (List.Mem.head _)) ?_
  refine am_iconst dX2_canBeParent_1 (by unfold am_rg; omega) ?_
  refine am_icmpeq (tgt := 33) dX2_canBeParent_2 (by decide) (fun c1 => ?_) (fun c1 => ?_)
  · replace h := h.1 c1
    refine am_iconst dX2_canBeParent_33 (by unfold am_rg; omega) ?_
    refine am_goto (tgt := 38) dX2_canBeParent_34 (by decide) ?_
    exact am_ret (r := some (.inl 1)) dX2_canBeParent_38 (Or.inr (Or.inl ⟨rfl, (Or.inr rfl)⟩)) rfl h
  · replace h := h.2 c1
    refine am_aload_n dX2_canBeParent_5 (List.Mem.head _) ?_
    refine am_iload_n dX2_canBeParent_6 (List.Mem.tail _ (List.Mem.head _)) ?_
    exact am_callv (d' := d) (kc := 0) (ks := 0) (as := [.inl x1]) dX2_canBeParent_7 wc_X2_has wd_1081 wd_1082 wd_1083 wd_117 ds_X2_has (by decide) (Nat.le_refl _) (Nat.le_of_ble_eq_true rfl) (Nat.zero_le _) (Nat.zero_le _) hc_5 (by decide) rfl rfl h
theorem bX2_canBeParent_10 {SC : Nat → Nat} {X : mh_X} {d : Nat} {Q : Option am_V → am_W → Prop} {bc bs : Nat} {w : am_W} {x1 : Int} {x2 : Int} {x3 : Int} {xs0 : Int}
    (h : ((xs0 = 0 → Q (some (.inl 0)) w) ∧ (¬ xs0 = 0 → (0 ≤ x1 ∧ (x1 < 40 ∧ ((¬ (w.1 33 0 x1.toNat) = x2 → Q (some (.inl 0)) w) ∧ ((w.1 33 0 x1.toNat) = x2 → ((x3 < (w.1 37 0 x1.toNat) → Q (some (.inl 0)) w) ∧ (¬ x3 < (w.1 37 0 x1.toNat) → Q (some (.inl 1)) w))))))))) :
    am_A (mh_G X) SC (d + 1) mX2_canBeParent Q 10 [(0, .inr (.inr (some (5, 0)))), (1, .inl x1), (2, .inl x2), (3, .inl x3)] [.inl xs0] w bc bs := by
  refine am_ifeq (tgt := 37) dX2_canBeParent_10 (by decide) (fun c1 => ?_) (fun c1 => ?_)
  · replace h := h.1 c1
    refine am_iconst dX2_canBeParent_37 (by unfold am_rg; omega) ?_
    exact am_ret (r := some (.inl 0)) dX2_canBeParent_38 (Or.inr (Or.inl ⟨rfl, (Or.inl rfl)⟩)) rfl h
  · replace h := h.2 c1
    refine am_aload_n dX2_canBeParent_13 (List.Mem.head _) ?_
    refine am_getf (f := 0) (v := .inr (.inr (some (33, 0)))) dX2_canBeParent_14 hc_5 (by decide) wd_315 (by decide) rfl rfl ?_
    refine am_iload_n dX2_canBeParent_17 (List.Mem.tail _ (List.Mem.head _)) ?_
    have o2 := h.1
    replace h := h.2
    have o3 := h.1
    replace h := h.2
    refine am_iaload (v := (w.1 33 0 x1.toNat)) dX2_canBeParent_18 (by decide) rfl o2 o3 rfl ?_
    refine am_iload_n dX2_canBeParent_19 (List.Mem.tail _ (List.Mem.tail _ (List.Mem.head _))) ?_
    refine am_icmpne (tgt := 37) dX2_canBeParent_20 (by decide) (fun c4 => ?_) (fun c4 => ?_)
    · replace h := h.1 c4
      refine am_iconst dX2_canBeParent_37 (by unfold am_rg; omega) ?_
      exact am_ret (r := some (.inl 0)) dX2_canBeParent_38 (Or.inr (Or.inl ⟨rfl, (Or.inl rfl)⟩)) rfl h
    · replace h := h.2 c4
      refine am_aload_n dX2_canBeParent_23 (List.Mem.head _) ?_
      refine am_getf (f := 4) (v := .inr (.inr (some (37, 0)))) dX2_canBeParent_24 hc_5 (by decide) wd_320 (by decide) rfl rfl ?_
      refine am_iload_n dX2_canBeParent_27 (List.Mem.tail _ (List.Mem.head _)) ?_
      refine am_iaload (v := (w.1 37 0 x1.toNat)) dX2_canBeParent_28 (by decide) rfl o2 o3 rfl ?_
      refine am_iload_n dX2_canBeParent_29 (List.Mem.tail _ (List.Mem.tail _ (List.Mem.tail _ (List.Mem.head _)))) ?_
      refine am_icmpgt (tgt := 37) dX2_canBeParent_30 (by decide) (fun c5 => ?_) (fun c5 => ?_)
      · replace h := h.1 c5
        refine am_iconst dX2_canBeParent_37 (by unfold am_rg; omega) ?_
        exact am_ret (r := some (.inl 0)) dX2_canBeParent_38 (Or.inr (Or.inl ⟨rfl, (Or.inl rfl)⟩)) rfl h
      · replace h := h.2 c5
        refine am_iconst dX2_canBeParent_33 (by unfold am_rg; omega) ?_
        refine am_goto (tgt := 38) dX2_canBeParent_34 (by decide) ?_
        exact am_ret (r := some (.inl 1)) dX2_canBeParent_38 (Or.inr (Or.inl ⟨rfl, (Or.inr rfl)⟩)) rfl h
-- MourningHouse$Family.add(IIIII)I
theorem dX2_add_0 : decode mX2_add.2.1 0 = .ok (.aload_n 0, 1) := by decide +kernel
theorem dX2_add_1 : decode mX2_add.2.1 1 = .ok (.getfield 68, 3) := by decide +kernel
theorem dX2_add_4 : decode mX2_add.2.1 4 = .ok (.istore 6, 2) := by decide +kernel
theorem dX2_add_6 : decode mX2_add.2.1 6 = .ok (.aload_n 0, 1) := by decide +kernel
theorem dX2_add_7 : decode mX2_add.2.1 7 = .ok (.getfield 11, 3) := by decide +kernel
theorem dX2_add_10 : decode mX2_add.2.1 10 = .ok (.iload 6, 2) := by decide +kernel
theorem dX2_add_12 : decode mX2_add.2.1 12 = .ok (.iload_n 1, 1) := by decide +kernel
theorem dX2_add_13 : decode mX2_add.2.1 13 = .ok (.bipush 10, 2) := by decide +kernel
theorem dX2_add_15 : decode mX2_add.2.1 15 = .ok (.idiv, 1) := by decide +kernel
theorem dX2_add_16 : decode mX2_add.2.1 16 = .ok (.iastore, 1) := by decide +kernel
theorem dX2_add_17 : decode mX2_add.2.1 17 = .ok (.aload_n 0, 1) := by decide +kernel
theorem dX2_add_18 : decode mX2_add.2.1 18 = .ok (.getfield 15, 3) := by decide +kernel
theorem dX2_add_21 : decode mX2_add.2.1 21 = .ok (.iload 6, 2) := by decide +kernel
theorem dX2_add_23 : decode mX2_add.2.1 23 = .ok (.iload_n 1, 1) := by decide +kernel
theorem dX2_add_24 : decode mX2_add.2.1 24 = .ok (.bipush 10, 2) := by decide +kernel
theorem dX2_add_26 : decode mX2_add.2.1 26 = .ok (.irem, 1) := by decide +kernel
theorem dX2_add_27 : decode mX2_add.2.1 27 = .ok (.iastore, 1) := by decide +kernel
theorem dX2_add_28 : decode mX2_add.2.1 28 = .ok (.aload_n 0, 1) := by decide +kernel
theorem dX2_add_29 : decode mX2_add.2.1 29 = .ok (.getfield 18, 3) := by decide +kernel
theorem dX2_add_32 : decode mX2_add.2.1 32 = .ok (.iload 6, 2) := by decide +kernel
theorem dX2_add_34 : decode mX2_add.2.1 34 = .ok (.iload_n 2, 1) := by decide +kernel
theorem dX2_add_35 : decode mX2_add.2.1 35 = .ok (.iastore, 1) := by decide +kernel
theorem dX2_add_36 : decode mX2_add.2.1 36 = .ok (.aload_n 0, 1) := by decide +kernel
theorem dX2_add_37 : decode mX2_add.2.1 37 = .ok (.getfield 21, 3) := by decide +kernel
theorem dX2_add_40 : decode mX2_add.2.1 40 = .ok (.iload 6, 2) := by decide +kernel
theorem dX2_add_42 : decode mX2_add.2.1 42 = .ok (.iload_n 3, 1) := by decide +kernel
theorem dX2_add_43 : decode mX2_add.2.1 43 = .ok (.iastore, 1) := by decide +kernel
theorem dX2_add_44 : decode mX2_add.2.1 44 = .ok (.aload_n 0, 1) := by decide +kernel
theorem dX2_add_45 : decode mX2_add.2.1 45 = .ok (.getfield 24, 3) := by decide +kernel
theorem dX2_add_48 : decode mX2_add.2.1 48 = .ok (.iload 6, 2) := by decide +kernel
theorem dX2_add_50 : decode mX2_add.2.1 50 = .ok (.iload 4, 2) := by decide +kernel
theorem dX2_add_52 : decode mX2_add.2.1 52 = .ok (.iastore, 1) := by decide +kernel
theorem dX2_add_53 : decode mX2_add.2.1 53 = .ok (.aload_n 0, 1) := by decide +kernel
theorem dX2_add_54 : decode mX2_add.2.1 54 = .ok (.getfield 27, 3) := by decide +kernel
theorem dX2_add_57 : decode mX2_add.2.1 57 = .ok (.iload 6, 2) := by decide +kernel
theorem dX2_add_59 : decode mX2_add.2.1 59 = .ok (.iload 5, 2) := by decide +kernel
theorem dX2_add_61 : decode mX2_add.2.1 61 = .ok (.iastore, 1) := by decide +kernel
theorem dX2_add_62 : decode mX2_add.2.1 62 = .ok (.aload_n 0, 1) := by decide +kernel
theorem dX2_add_63 : decode mX2_add.2.1 63 = .ok (.getfield 33, 3) := by decide +kernel
theorem dX2_add_66 : decode mX2_add.2.1 66 = .ok (.iload 6, 2) := by decide +kernel
theorem dX2_add_68 : decode mX2_add.2.1 68 = .ok (.ldc 83, 2) := by decide +kernel
theorem dX2_add_70 : decode mX2_add.2.1 70 = .ok (.iastore, 1) := by decide +kernel
theorem dX2_add_71 : decode mX2_add.2.1 71 = .ok (.aload_n 0, 1) := by decide +kernel
theorem dX2_add_72 : decode mX2_add.2.1 72 = .ok (.iload 6, 2) := by decide +kernel
theorem dX2_add_74 : decode mX2_add.2.1 74 = .ok (.invokevirtual 84, 3) := by decide +kernel
theorem dX2_add_77 : decode mX2_add.2.1 77 = .ok (.ifCond .eq 16, 3) := by decide +kernel
theorem dX2_add_80 : decode mX2_add.2.1 80 = .ok (.aload_n 0, 1) := by decide +kernel
theorem dX2_add_81 : decode mX2_add.2.1 81 = .ok (.dup, 1) := by decide +kernel
theorem dX2_add_82 : decode mX2_add.2.1 82 = .ok (.getfield 61, 3) := by decide +kernel
theorem dX2_add_85 : decode mX2_add.2.1 85 = .ok (.lconst 1, 1) := by decide +kernel
theorem dX2_add_86 : decode mX2_add.2.1 86 = .ok (.iload 6, 2) := by decide +kernel
theorem dX2_add_88 : decode mX2_add.2.1 88 = .ok (.lshl, 1) := by decide +kernel
theorem dX2_add_89 : decode mX2_add.2.1 89 = .ok (.lor, 1) := by decide +kernel
theorem dX2_add_90 : decode mX2_add.2.1 90 = .ok (.putfield 61, 3) := by decide +kernel
theorem dX2_add_93 : decode mX2_add.2.1 93 = .ok (.aload_n 0, 1) := by decide +kernel
theorem dX2_add_94 : decode mX2_add.2.1 94 = .ok (.iload_n 2, 1) := by decide +kernel
theorem dX2_add_95 : decode mX2_add.2.1 95 = .ok (.iload 6, 2) := by decide +kernel
theorem dX2_add_97 : decode mX2_add.2.1 97 = .ok (.invokevirtual 87, 3) := by decide +kernel
theorem dX2_add_100 : decode mX2_add.2.1 100 = .ok (.aload_n 0, 1) := by decide +kernel
theorem dX2_add_101 : decode mX2_add.2.1 101 = .ok (.iload_n 3, 1) := by decide +kernel
theorem dX2_add_102 : decode mX2_add.2.1 102 = .ok (.iload 6, 2) := by decide +kernel
theorem dX2_add_104 : decode mX2_add.2.1 104 = .ok (.invokevirtual 87, 3) := by decide +kernel
theorem dX2_add_107 : decode mX2_add.2.1 107 = .ok (.aload_n 0, 1) := by decide +kernel
theorem dX2_add_108 : decode mX2_add.2.1 108 = .ok (.dup, 1) := by decide +kernel
theorem dX2_add_109 : decode mX2_add.2.1 109 = .ok (.getfield 68, 3) := by decide +kernel
theorem dX2_add_112 : decode mX2_add.2.1 112 = .ok (.iconst 1, 1) := by decide +kernel
theorem dX2_add_113 : decode mX2_add.2.1 113 = .ok (.iadd, 1) := by decide +kernel
theorem dX2_add_114 : decode mX2_add.2.1 114 = .ok (.putfield 68, 3) := by decide +kernel
theorem dX2_add_117 : decode mX2_add.2.1 117 = .ok (.iload 6, 2) := by decide +kernel
theorem dX2_add_119 : decode mX2_add.2.1 119 = .ok (.ireturn, 1) := by decide +kernel
theorem bX2_add_0 {SC : Nat → Nat} {X : mh_X} {d : Nat} {Q : Option am_V → am_W → Prop} {bc bs : Nat} {w : am_W} {x1 : Int} {x2 : Int} {x3 : Int} {x4 : Int} {x5 : Int}
    (h : (0 ≤ (w.1 5 0 18) ∧ ((w.1 5 0 18) < 40 ∧ am_M (mh_G X) SC d 0 0 mX2_isMan [.inr (.inr (some (5, 0))), .inl (w.1 5 0 18)] ((am_up (am_up (am_up (am_up (am_up (am_up (am_up w.1 33 0 (w.1 5 0 18).toNat (am_w (Int.tdiv x1 10))) 34 0 (w.1 5 0 18).toNat (am_w (Int.tmod x1 10))) 35 0 (w.1 5 0 18).toNat x2) 36 0 (w.1 5 0 18).toNat x3) 37 0 (w.1 5 0 18).toNat x4) 38 0 (w.1 5 0 18).toNat x5) 40 0 (w.1 5 0 18).toNat 2147483647), w.2) (fun r w1 => am_A (mh_G X) SC (d + 1) mX2_add Q 77 [(6, .inl (w.1 5 0 18)), (0, .inr (.inr (some (5, 0)))), (1, .inl x1), (2, .inl x2), (3, .inl x3), (4, .inl x4), (5, .inl x5)] (r.toList ++ []) w1 bc bs)))) :
    am_A (mh_G X) SC (d + 1) mX2_add Q 0 [(0, .inr (.inr (some (5, 0)))), (1, .inl x1), (2, .inl x2), (3, .inl x3), (4, .inl x4), (5, .inl x5)] [] w bc bs := by
  refine am_aload_n dX2_add_0 (List.Mem.head _) ?_
  refine am_getf (f := 18) (v := .inl (w.1 5 0 18)) dX2_add_1 hc_5 (by decide) wd_339 (by decide) rfl rfl ?_
  refine am_istore (ls' := [(6, .inl (w.1 5 0 18)), (0, .inr (.inr (some (5, 0)))), (1, .inl x1), (2, .inl x2), (3, .inl x3), (4, .inl x4), (5, .inl x5)]) dX2_add_4 (by decide) rfl ?_
  refine am_aload_n dX2_add_6 (List.Mem.tail _ (List.Mem.head _)) ?_
  refine am_getf (f := 0) (v := .inr (.inr (some (33, 0)))) dX2_add_7 hc_5 (by decide) wd_315 (by decide) rfl rfl ?_
  refine am_iload dX2_add_10 (List.Mem.head _) ?_
  refine am_iload_n dX2_add_12 (List.Mem.tail _ (List.Mem.tail _ (List.Mem.head _))) ?_
  refine am_bipush dX2_add_13 (by decide) (by unfold am_rg; omega) ?_
  refine am_idiv dX2_add_15 (by decide) ?_
  have o1 := h.1
  replace h := h.2
  have o2 := h.1
  replace h := h.2
  refine am_iastore dX2_add_16 (Or.inl (by decide)) rfl o1 o2 ?_
  refine am_aload_n dX2_add_17 (List.Mem.tail _ (List.Mem.head _)) ?_
  refine am_getf (f := 1) (v := .inr (.inr (some (34, 0)))) dX2_add_18 hc_5 (by decide) wd_316 (by decide) rfl rfl ?_
  refine am_iload dX2_add_21 (List.Mem.head _) ?_
  refine am_iload_n dX2_add_23 (List.Mem.tail _ (List.Mem.tail _ (List.Mem.head _))) ?_
  refine am_bipush dX2_add_24 (by decide) (by unfold am_rg; omega) ?_
  refine am_irem dX2_add_26 (by decide) ?_
  refine am_iastore dX2_add_27 (Or.inl (by decide)) rfl o1 o2 ?_
  refine am_aload_n dX2_add_28 (List.Mem.tail _ (List.Mem.head _)) ?_
  refine am_getf (f := 2) (v := .inr (.inr (some (35, 0)))) dX2_add_29 hc_5 (by decide) wd_318 (by decide) rfl rfl ?_
  refine am_iload dX2_add_32 (List.Mem.head _) ?_
  refine am_iload_n dX2_add_34 (List.Mem.tail _ (List.Mem.tail _ (List.Mem.tail _ (List.Mem.head _)))) ?_
  refine am_iastore dX2_add_35 (Or.inl (by decide)) rfl o1 o2 ?_
  refine am_aload_n dX2_add_36 (List.Mem.tail _ (List.Mem.head _)) ?_
  refine am_getf (f := 3) (v := .inr (.inr (some (36, 0)))) dX2_add_37 hc_5 (by decide) wd_319 (by decide) rfl rfl ?_
  refine am_iload dX2_add_40 (List.Mem.head _) ?_
  refine am_iload_n dX2_add_42 (List.Mem.tail _ (List.Mem.tail _ (List.Mem.tail _ (List.Mem.tail _ (List.Mem.head _))))) ?_
  refine am_iastore dX2_add_43 (Or.inl (by decide)) rfl o1 o2 ?_
  refine am_aload_n dX2_add_44 (List.Mem.tail _ (List.Mem.head _)) ?_
  refine am_getf (f := 4) (v := .inr (.inr (some (37, 0)))) dX2_add_45 hc_5 (by decide) wd_320 (by decide) rfl rfl ?_
  refine am_iload dX2_add_48 (List.Mem.head _) ?_
  refine am_iload dX2_add_50 (List.Mem.tail _ (List.Mem.tail _ (List.Mem.tail _ (List.Mem.tail _ (List.Mem.tail _ (List.Mem.head _)))))) ?_
  refine am_iastore dX2_add_52 (Or.inl (by decide)) rfl o1 o2 ?_
  refine am_aload_n dX2_add_53 (List.Mem.tail _ (List.Mem.head _)) ?_
  refine am_getf (f := 5) (v := .inr (.inr (some (38, 0)))) dX2_add_54 hc_5 (by decide) wd_323 (by decide) rfl rfl ?_
  refine am_iload dX2_add_57 (List.Mem.head _) ?_
  refine am_iload dX2_add_59 (List.Mem.tail _ (List.Mem.tail _ (List.Mem.tail _ (List.Mem.tail _ (List.Mem.tail _ (List.Mem.tail _ (List.Mem.head _))))))) ?_
  refine am_iastore dX2_add_61 (Or.inl (by decide)) rfl o1 o2 ?_
  refine am_aload_n dX2_add_62 (List.Mem.tail _ (List.Mem.head _)) ?_
  refine am_getf (f := 7) (v := .inr (.inr (some (40, 0)))) dX2_add_63 hc_5 (by decide) wd_327 (by decide) rfl rfl ?_
  refine am_iload dX2_add_66 (List.Mem.head _) ?_
  refine am_ldcV (n := 2147483647) dX2_add_68 (by decide) wd_1089 (by unfold am_rg; omega) ?_
  refine am_iastore dX2_add_70 (Or.inl (by decide)) rfl o1 o2 ?_
  refine am_aload_n dX2_add_71 (List.Mem.tail _ (List.Mem.head _)) ?_
  refine am_iload dX2_add_72 (List.Mem.head _) ?_
  exact am_callv (d' := d) (kc := 0) (ks := 0) (as := [.inl (w.1 5 0 18)]) dX2_add_74 wc_X2_isMan wd_1090 wd_1091 wd_1092 wd_117 ds_X2_isMan (by decide) (Nat.le_refl _) (Nat.le_of_ble_eq_true rfl) (Nat.zero_le _) (Nat.zero_le _) hc_5 (by decide) rfl rfl h
theorem bX2_add_77 {SC : Nat → Nat} {X : mh_X} {d : Nat} {Q : Option am_V → am_W → Prop} {bc bs : Nat} {w : am_W} {x6 : Int} {x1 : Int} {x2 : Int} {x3 : Int} {x4 : Int} {x5 : Int} {xs0 : Int}
    (h : ((xs0 = 0 → am_A (mh_G X) SC (d + 1) mX2_add Q 93 [(0, .inr (.inr (some (5, 0)))), (2, .inl x2), (3, .inl x3), (6, .inl x6)] [] w bc bs) ∧ (¬ xs0 = 0 → am_A (mh_G X) SC (d + 1) mX2_add Q 93 [(0, .inr (.inr (some (5, 0)))), (2, .inl x2), (3, .inl x3), (6, .inl x6)] [] (w.1, (am_up w.2.1 5 0 16 ((w.2.1 5 0 16) ||| ((1 : Int64) <<< ((Int32.ofInt x6).toInt64 &&& 63)))), w.2.2) bc bs))) :
    am_A (mh_G X) SC (d + 1) mX2_add Q 77 [(6, .inl x6), (0, .inr (.inr (some (5, 0)))), (1, .inl x1), (2, .inl x2), (3, .inl x3), (4, .inl x4), (5, .inl x5)] [.inl xs0] w bc bs := by
  refine am_ifeq (tgt := 93) dX2_add_77 (by decide) (fun c1 => ?_) (fun c1 => ?_)
  · replace h := h.1 c1
    exact am_sub [1, 3, 4, 0] rfl h
  · replace h := h.2 c1
    refine am_aload_n dX2_add_80 (List.Mem.tail _ (List.Mem.head _)) ?_
    refine am_dup dX2_add_81 rfl ?_
    refine am_getf (f := 16) (v := .inr (.inl (w.2.1 5 0 16))) dX2_add_82 hc_5 (by decide) wd_337 (by decide) rfl rfl ?_
    refine am_lconst (x := 1) dX2_add_85 rfl ?_
    refine am_iload dX2_add_86 (List.Mem.head _) ?_
    refine am_lshl dX2_add_88 ?_
    refine am_lor dX2_add_89 ?_
    refine am_putl (f := 16) dX2_add_90 hc_5 (by decide) wd_337 rfl rfl (Or.inl (by decide)) rfl ?_
    exact am_sub [1, 3, 4, 0] rfl h
theorem bX2_add_93 {SC : Nat → Nat} {X : mh_X} {d : Nat} {Q : Option am_V → am_W → Prop} {bc bs : Nat} {w : am_W} {x2 : Int} {x3 : Int} {x6 : Int}
    (h : am_M (mh_G X) SC d 0 0 mX2_addChild [.inr (.inr (some (5, 0))), .inl x2, .inl x6] w (fun r w1 => am_A (mh_G X) SC (d + 1) mX2_add Q 100 [(0, .inr (.inr (some (5, 0)))), (2, .inl x2), (3, .inl x3), (6, .inl x6)] (r.toList ++ []) w1 bc bs)) :
    am_A (mh_G X) SC (d + 1) mX2_add Q 93 [(0, .inr (.inr (some (5, 0)))), (2, .inl x2), (3, .inl x3), (6, .inl x6)] [] w bc bs := by
  refine am_aload_n dX2_add_93 (List.Mem.head _) ?_
  refine am_iload_n dX2_add_94 (List.Mem.tail _ (List.Mem.head _)) ?_
  refine am_iload dX2_add_95 (List.Mem.tail _ (List.Mem.tail _ (List.Mem.tail _ (List.Mem.head _)))) ?_
  exact am_callv (d' := d) (kc := 0) (ks := 0) (as := [.inl x2, .inl x6]) dX2_add_97 wc_X2_addChild wd_1094 wd_1096 wd_30 wd_117 ds_X2_addChild (by decide) (Nat.le_refl _) (Nat.le_of_ble_eq_true rfl) (Nat.zero_le _) (Nat.zero_le _) hc_5 (by decide) rfl rfl h
theorem bX2_add_100 {SC : Nat → Nat} {X : mh_X} {d : Nat} {Q : Option am_V → am_W → Prop} {bc bs : Nat} {w : am_W} {x2 : Int} {x3 : Int} {x6 : Int}
    (h : am_M (mh_G X) SC d 0 0 mX2_addChild [.inr (.inr (some (5, 0))), .inl x3, .inl x6] w (fun r w1 => am_A (mh_G X) SC (d + 1) mX2_add Q 107 [(0, .inr (.inr (some (5, 0)))), (2, .inl x2), (3, .inl x3), (6, .inl x6)] (r.toList ++ []) w1 bc bs)) :
    am_A (mh_G X) SC (d + 1) mX2_add Q 100 [(0, .inr (.inr (some (5, 0)))), (2, .inl x2), (3, .inl x3), (6, .inl x6)] [] w bc bs := by
  refine am_aload_n dX2_add_100 (List.Mem.head _) ?_
  refine am_iload_n dX2_add_101 (List.Mem.tail _ (List.Mem.tail _ (List.Mem.head _))) ?_
  refine am_iload dX2_add_102 (List.Mem.tail _ (List.Mem.tail _ (List.Mem.tail _ (List.Mem.head _)))) ?_
  exact am_callv (d' := d) (kc := 0) (ks := 0) (as := [.inl x3, .inl x6]) dX2_add_104 wc_X2_addChild wd_1094 wd_1096 wd_30 wd_117 ds_X2_addChild (by decide) (Nat.le_refl _) (Nat.le_of_ble_eq_true rfl) (Nat.zero_le _) (Nat.zero_le _) hc_5 (by decide) rfl rfl h
theorem bX2_add_107 {SC : Nat → Nat} {X : mh_X} {d : Nat} {Q : Option am_V → am_W → Prop} {bc bs : Nat} {w : am_W} {x2 : Int} {x3 : Int} {x6 : Int}
    (h : Q (some (.inl x6)) ((am_up w.1 5 0 18 (am_w ((w.1 5 0 18) + 1))), w.2)) :
    am_A (mh_G X) SC (d + 1) mX2_add Q 107 [(0, .inr (.inr (some (5, 0)))), (2, .inl x2), (3, .inl x3), (6, .inl x6)] [] w bc bs := by
  refine am_aload_n dX2_add_107 (List.Mem.head _) ?_
  refine am_dup dX2_add_108 rfl ?_
  refine am_getf (f := 18) (v := .inl (w.1 5 0 18)) dX2_add_109 hc_5 (by decide) wd_339 (by decide) rfl rfl ?_
  refine am_iconst dX2_add_112 (by unfold am_rg; omega) ?_
  refine am_iadd dX2_add_113 ?_
  refine am_putf (f := 18) dX2_add_114 hc_5 (by decide) wd_339 rfl (Or.inl rfl) (Or.inl (by decide)) rfl ?_
  refine am_iload dX2_add_117 (List.Mem.tail _ (List.Mem.tail _ (List.Mem.tail _ (List.Mem.head _)))) ?_
  exact am_ret (r := some (.inl x6)) dX2_add_119 (Or.inl rfl) rfl h
-- MourningHouse$Family.addChild(II)V
theorem dX2_addChild_0 : decode mX2_addChild.2.1 0 = .ok (.aload_n 0, 1) := by decide +kernel
theorem dX2_addChild_1 : decode mX2_addChild.2.1 1 = .ok (.iload_n 1, 1) := by decide +kernel
theorem dX2_addChild_2 : decode mX2_addChild.2.1 2 = .ok (.invokevirtual 79, 3) := by decide +kernel
theorem dX2_addChild_5 : decode mX2_addChild.2.1 5 = .ok (.ifCond .ne 4, 3) := by decide +kernel
theorem dX2_addChild_8 : decode mX2_addChild.2.1 8 = .ok (.return_, 1) := by decide +kernel
theorem dX2_addChild_9 : decode mX2_addChild.2.1 9 = .ok (.iconst 0, 1) := by decide +kernel
theorem dX2_addChild_10 : decode mX2_addChild.2.1 10 = .ok (.istore_n 3, 1) := by decide +kernel
theorem dX2_addChild_11 : decode mX2_addChild.2.1 11 = .ok (.iload_n 3, 1) := by decide +kernel
theorem dX2_addChild_12 : decode mX2_addChild.2.1 12 = .ok (.iload_n 2, 1) := by decide +kernel
theorem dX2_addChild_13 : decode mX2_addChild.2.1 13 = .ok (.if_icmp .ge 48, 3) := by decide +kernel
theorem dX2_addChild_16 : decode mX2_addChild.2.1 16 = .ok (.aload_n 0, 1) := by decide +kernel
theorem dX2_addChild_17 : decode mX2_addChild.2.1 17 = .ok (.getfield 40, 3) := by decide +kernel
theorem dX2_addChild_20 : decode mX2_addChild.2.1 20 = .ok (.iload_n 1, 1) := by decide +kernel
theorem dX2_addChild_21 : decode mX2_addChild.2.1 21 = .ok (.laload, 1) := by decide +kernel
theorem dX2_addChild_22 : decode mX2_addChild.2.1 22 = .ok (.iload_n 3, 1) := by decide +kernel
theorem dX2_addChild_23 : decode mX2_addChild.2.1 23 = .ok (.lshr, 1) := by decide +kernel
theorem dX2_addChild_24 : decode mX2_addChild.2.1 24 = .ok (.lconst 1, 1) := by decide +kernel
theorem dX2_addChild_25 : decode mX2_addChild.2.1 25 = .ok (.land, 1) := by decide +kernel
theorem dX2_addChild_26 : decode mX2_addChild.2.1 26 = .ok (.lconst 0, 1) := by decide +kernel
theorem dX2_addChild_27 : decode mX2_addChild.2.1 27 = .ok (.lcmp, 1) := by decide +kernel
theorem dX2_addChild_28 : decode mX2_addChild.2.1 28 = .ok (.ifCond .eq 27, 3) := by decide +kernel
theorem dX2_addChild_31 : decode mX2_addChild.2.1 31 = .ok (.aload_n 0, 1) := by decide +kernel
theorem dX2_addChild_32 : decode mX2_addChild.2.1 32 = .ok (.getfield 43, 3) := by decide +kernel
theorem dX2_addChild_35 : decode mX2_addChild.2.1 35 = .ok (.iload_n 3, 1) := by decide +kernel
theorem dX2_addChild_36 : decode mX2_addChild.2.1 36 = .ok (.dup2, 1) := by decide +kernel
theorem dX2_addChild_37 : decode mX2_addChild.2.1 37 = .ok (.laload, 1) := by decide +kernel
theorem dX2_addChild_38 : decode mX2_addChild.2.1 38 = .ok (.lconst 1, 1) := by decide +kernel
theorem dX2_addChild_39 : decode mX2_addChild.2.1 39 = .ok (.iload_n 2, 1) := by decide +kernel
theorem dX2_addChild_40 : decode mX2_addChild.2.1 40 = .ok (.lshl, 1) := by decide +kernel
theorem dX2_addChild_41 : decode mX2_addChild.2.1 41 = .ok (.lor, 1) := by decide +kernel
theorem dX2_addChild_42 : decode mX2_addChild.2.1 42 = .ok (.lastore, 1) := by decide +kernel
theorem dX2_addChild_43 : decode mX2_addChild.2.1 43 = .ok (.aload_n 0, 1) := by decide +kernel
theorem dX2_addChild_44 : decode mX2_addChild.2.1 44 = .ok (.getfield 43, 3) := by decide +kernel
theorem dX2_addChild_47 : decode mX2_addChild.2.1 47 = .ok (.iload_n 2, 1) := by decide +kernel
theorem dX2_addChild_48 : decode mX2_addChild.2.1 48 = .ok (.dup2, 1) := by decide +kernel
theorem dX2_addChild_49 : decode mX2_addChild.2.1 49 = .ok (.laload, 1) := by decide +kernel
theorem dX2_addChild_50 : decode mX2_addChild.2.1 50 = .ok (.lconst 1, 1) := by decide +kernel
theorem dX2_addChild_51 : decode mX2_addChild.2.1 51 = .ok (.iload_n 3, 1) := by decide +kernel
theorem dX2_addChild_52 : decode mX2_addChild.2.1 52 = .ok (.lshl, 1) := by decide +kernel
theorem dX2_addChild_53 : decode mX2_addChild.2.1 53 = .ok (.lor, 1) := by decide +kernel
theorem dX2_addChild_54 : decode mX2_addChild.2.1 54 = .ok (.lastore, 1) := by decide +kernel
theorem dX2_addChild_55 : decode mX2_addChild.2.1 55 = .ok (.iinc 3 1, 3) := by decide +kernel
theorem dX2_addChild_58 : decode mX2_addChild.2.1 58 = .ok (.goto (-47), 3) := by decide +kernel
theorem dX2_addChild_61 : decode mX2_addChild.2.1 61 = .ok (.aload_n 0, 1) := by decide +kernel
theorem dX2_addChild_62 : decode mX2_addChild.2.1 62 = .ok (.getfield 40, 3) := by decide +kernel
theorem dX2_addChild_65 : decode mX2_addChild.2.1 65 = .ok (.iload_n 1, 1) := by decide +kernel
theorem dX2_addChild_66 : decode mX2_addChild.2.1 66 = .ok (.dup2, 1) := by decide +kernel
theorem dX2_addChild_67 : decode mX2_addChild.2.1 67 = .ok (.laload, 1) := by decide +kernel
theorem dX2_addChild_68 : decode mX2_addChild.2.1 68 = .ok (.lconst 1, 1) := by decide +kernel
theorem dX2_addChild_69 : decode mX2_addChild.2.1 69 = .ok (.iload_n 2, 1) := by decide +kernel
theorem dX2_addChild_70 : decode mX2_addChild.2.1 70 = .ok (.lshl, 1) := by decide +kernel
theorem dX2_addChild_71 : decode mX2_addChild.2.1 71 = .ok (.lor, 1) := by decide +kernel
theorem dX2_addChild_72 : decode mX2_addChild.2.1 72 = .ok (.lastore, 1) := by decide +kernel
theorem dX2_addChild_73 : decode mX2_addChild.2.1 73 = .ok (.aload_n 0, 1) := by decide +kernel
theorem dX2_addChild_74 : decode mX2_addChild.2.1 74 = .ok (.getfield 36, 3) := by decide +kernel
theorem dX2_addChild_77 : decode mX2_addChild.2.1 77 = .ok (.iload_n 2, 1) := by decide +kernel
theorem dX2_addChild_78 : decode mX2_addChild.2.1 78 = .ok (.dup2, 1) := by decide +kernel
theorem dX2_addChild_79 : decode mX2_addChild.2.1 79 = .ok (.laload, 1) := by decide +kernel
theorem dX2_addChild_80 : decode mX2_addChild.2.1 80 = .ok (.lconst 1, 1) := by decide +kernel
theorem dX2_addChild_81 : decode mX2_addChild.2.1 81 = .ok (.iload_n 1, 1) := by decide +kernel
theorem dX2_addChild_82 : decode mX2_addChild.2.1 82 = .ok (.lshl, 1) := by decide +kernel
theorem dX2_addChild_83 : decode mX2_addChild.2.1 83 = .ok (.lor, 1) := by decide +kernel
theorem dX2_addChild_84 : decode mX2_addChild.2.1 84 = .ok (.lastore, 1) := by decide +kernel
theorem dX2_addChild_85 : decode mX2_addChild.2.1 85 = .ok (.return_, 1) := by decide +kernel
theorem bX2_addChild_0 {SC : Nat → Nat} {X : mh_X} {d : Nat} {Q : Option am_V → am_W → Prop} {bc bs : Nat} {w : am_W} {x1 : Int} {x2 : Int}
    (h : am_M (mh_G X) SC d 0 0 mX2_has [.inr (.inr (some (5, 0))), .inl x1] w (fun r w1 => am_A (mh_G X) SC (d + 1) mX2_addChild Q 5 [(0, .inr (.inr (some (5, 0)))), (1, .inl x1), (2, .inl x2)] (r.toList ++ []) w1 bc bs)) :
    am_A (mh_G X) SC (d + 1) mX2_addChild Q 0 [(0, .inr (.inr (some (5, 0)))), (1, .inl x1), (2, .inl x2)] [] w bc bs := by
  refine am_aload_n dX2_addChild_0 (List.Mem.head _) ?_
  refine am_iload_n dX2_addChild_1 (List.Mem.tail _ (List.Mem.head _)) ?_
  exact am_callv (d' := d) (kc := 0) (ks := 0) (as := [.inl x1]) dX2_addChild_2 wc_X2_has wd_1081 wd_1082 wd_1083 wd_117 ds_X2_has (by decide) (Nat.le_refl _) (Nat.le_of_ble_eq_true rfl) (Nat.zero_le _) (Nat.zero_le _) hc_5 (by decide) rfl rfl h
theorem bX2_addChild_5 {SC : Nat → Nat} {X : mh_X} {d : Nat} {Q : Option am_V → am_W → Prop} {bc bs : Nat} {w : am_W} {x1 : Int} {x2 : Int} {xs0 : Int}
    (h : ((¬ xs0 = 0 → am_A (mh_G X) SC (d + 1) mX2_addChild Q 11 [(0, .inr (.inr (some (5, 0)))), (1, .inl x1), (2, .inl x2), (3, .inl 0)] [] w bc bs) ∧ (xs0 = 0 → Q none w))) :
    am_A (mh_G X) SC (d + 1) mX2_addChild Q 5 [(0, .inr (.inr (some (5, 0)))), (1, .inl x1), (2, .inl x2)] [.inl xs0] w bc bs := by
  refine am_ifne (tgt := 9) dX2_addChild_5 (by decide) (fun c1 => ?_) (fun c1 => ?_)
  · replace h := h.1 c1
    refine am_iconst dX2_addChild_9 (by unfold am_rg; omega) ?_
    refine am_istore_n (ls' := [(3, .inl 0), (0, .inr (.inr (some (5, 0)))), (1, .inl x1), (2, .inl x2)]) dX2_addChild_10 (by decide) rfl ?_
    exact am_sub [1, 2, 3, 0] rfl h
  · replace h := h.2 c1
    exact am_ret (r := none) dX2_addChild_8 rfl rfl h
theorem bX2_addChild_11 {SC : Nat → Nat} {X : mh_X} {d : Nat} {Q : Option am_V → am_W → Prop} {bc bs : Nat} {w : am_W} {x1 : Int} {x2 : Int} {x3 : Int}
    (h : ((x2 ≤ x3 → (0 ≤ x1 ∧ (x1 < 40 ∧ (0 ≤ x2 ∧ (x2 < 40 ∧ Q none (w.1, (am_up (am_up w.2.1 42 0 x1.toNat ((w.2.1 42 0 x1.toNat) ||| ((1 : Int64) <<< ((Int32.ofInt x2).toInt64 &&& 63)))) 41 0 x2.toNat ((w.2.1 41 0 x2.toNat) ||| ((1 : Int64) <<< ((Int32.ofInt x1).toInt64 &&& 63)))), w.2.2)))))) ∧ (¬ x2 ≤ x3 → (0 ≤ x1 ∧ (x1 < 40 ∧ (((am_lcmpv (((w.2.1 42 0 x1.toNat) >>> ((Int32.ofInt x3).toInt64 &&& 63)) &&& (1 : Int64)) (0 : Int64)) = 0 → am_A (mh_G X) SC (d + 1) mX2_addChild Q 55 [(0, .inr (.inr (some (5, 0)))), (1, .inl x1), (2, .inl x2), (3, .inl x3)] [] w bc bs) ∧ (¬ (am_lcmpv (((w.2.1 42 0 x1.toNat) >>> ((Int32.ofInt x3).toInt64 &&& 63)) &&& (1 : Int64)) (0 : Int64)) = 0 → (0 ≤ x3 ∧ (x3 < 40 ∧ (0 ≤ x2 ∧ (x2 < 40 ∧ am_A (mh_G X) SC (d + 1) mX2_addChild Q 55 [(0, .inr (.inr (some (5, 0)))), (1, .inl x1), (2, .inl x2), (3, .inl x3)] [] (w.1, (am_up (am_up w.2.1 43 0 x3.toNat ((w.2.1 43 0 x3.toNat) ||| ((1 : Int64) <<< ((Int32.ofInt x2).toInt64 &&& 63)))) 43 0 x2.toNat (((am_up w.2.1 43 0 x3.toNat ((w.2.1 43 0 x3.toNat) ||| ((1 : Int64) <<< ((Int32.ofInt x2).toInt64 &&& 63)))) 43 0 x2.toNat) ||| ((1 : Int64) <<< ((Int32.ofInt x3).toInt64 &&& 63)))), w.2.2) bc bs))))))))))) :
    am_A (mh_G X) SC (d + 1) mX2_addChild Q 11 [(0, .inr (.inr (some (5, 0)))), (1, .inl x1), (2, .inl x2), (3, .inl x3)] [] w bc bs := by
  refine am_iload_n dX2_addChild_11 (List.Mem.tail _ (List.Mem.tail _ (List.Mem.tail _ (List.Mem.head _)))) ?_
  refine am_iload_n dX2_addChild_12 (List.Mem.tail _ (List.Mem.tail _ (List.Mem.head _))) ?_
  refine am_icmpge (tgt := 61) dX2_addChild_13 (by decide) (fun c1 => ?_) (fun c1 => ?_)
  · replace h := h.1 c1
    refine am_aload_n dX2_addChild_61 (List.Mem.head _) ?_
    refine am_getf (f := 9) (v := .inr (.inr (some (42, 0)))) dX2_addChild_62 hc_5 (by decide) wd_330 (by decide) rfl rfl ?_
    refine am_iload_n dX2_addChild_65 (List.Mem.tail _ (List.Mem.head _)) ?_
    refine am_dup2 dX2_addChild_66 rfl rfl ?_
    have o2 := h.1
    replace h := h.2
    have o3 := h.1
    replace h := h.2
    refine am_laload (x := (w.2.1 42 0 x1.toNat)) dX2_addChild_67 (by decide) rfl o2 o3 rfl ?_
    refine am_lconst (x := 1) dX2_addChild_68 rfl ?_
    refine am_iload_n dX2_addChild_69 (List.Mem.tail _ (List.Mem.tail _ (List.Mem.head _))) ?_
    refine am_lshl dX2_addChild_70 ?_
    refine am_lor dX2_addChild_71 ?_
    refine am_lastore dX2_addChild_72 (Or.inl (by decide)) rfl o2 o3 ?_
    refine am_aload_n dX2_addChild_73 (List.Mem.head _) ?_
    refine am_getf (f := 8) (v := .inr (.inr (some (41, 0)))) dX2_addChild_74 hc_5 (by decide) wd_329 (by decide) rfl rfl ?_
    refine am_iload_n dX2_addChild_77 (List.Mem.tail _ (List.Mem.tail _ (List.Mem.head _))) ?_
    refine am_dup2 dX2_addChild_78 rfl rfl ?_
    have o4 := h.1
    replace h := h.2
    have o5 := h.1
    replace h := h.2
    refine am_laload (x := (w.2.1 41 0 x2.toNat)) dX2_addChild_79 (by decide) rfl o4 o5 rfl ?_
    refine am_lconst (x := 1) dX2_addChild_80 rfl ?_
    refine am_iload_n dX2_addChild_81 (List.Mem.tail _ (List.Mem.head _)) ?_
    refine am_lshl dX2_addChild_82 ?_
    refine am_lor dX2_addChild_83 ?_
    refine am_lastore dX2_addChild_84 (Or.inl (by decide)) rfl o4 o5 ?_
    exact am_ret (r := none) dX2_addChild_85 rfl rfl h
  · replace h := h.2 c1
    refine am_aload_n dX2_addChild_16 (List.Mem.head _) ?_
    refine am_getf (f := 9) (v := .inr (.inr (some (42, 0)))) dX2_addChild_17 hc_5 (by decide) wd_330 (by decide) rfl rfl ?_
    refine am_iload_n dX2_addChild_20 (List.Mem.tail _ (List.Mem.head _)) ?_
    have o6 := h.1
    replace h := h.2
    have o7 := h.1
    replace h := h.2
    refine am_laload (x := (w.2.1 42 0 x1.toNat)) dX2_addChild_21 (by decide) rfl o6 o7 rfl ?_
    refine am_iload_n dX2_addChild_22 (List.Mem.tail _ (List.Mem.tail _ (List.Mem.tail _ (List.Mem.head _)))) ?_
    refine am_lshr dX2_addChild_23 ?_
    refine am_lconst (x := 1) dX2_addChild_24 rfl ?_
    refine am_land dX2_addChild_25 ?_
    refine am_lconst (x := 0) dX2_addChild_26 rfl ?_
    refine am_lcmp dX2_addChild_27 ?_
    refine am_ifeq (tgt := 55) dX2_addChild_28 (by decide) (fun c8 => ?_) (fun c8 => ?_)
    · replace h := h.1 c8
      exact h
    · replace h := h.2 c8
      refine am_aload_n dX2_addChild_31 (List.Mem.head _) ?_
      refine am_getf (f := 10) (v := .inr (.inr (some (43, 0)))) dX2_addChild_32 hc_5 (by decide) wd_331 (by decide) rfl rfl ?_
      refine am_iload_n dX2_addChild_35 (List.Mem.tail _ (List.Mem.tail _ (List.Mem.tail _ (List.Mem.head _)))) ?_
      refine am_dup2 dX2_addChild_36 rfl rfl ?_
      have o9 := h.1
      replace h := h.2
      have o10 := h.1
      replace h := h.2
      refine am_laload (x := (w.2.1 43 0 x3.toNat)) dX2_addChild_37 (by decide) rfl o9 o10 rfl ?_
      refine am_lconst (x := 1) dX2_addChild_38 rfl ?_
      refine am_iload_n dX2_addChild_39 (List.Mem.tail _ (List.Mem.tail _ (List.Mem.head _))) ?_
      refine am_lshl dX2_addChild_40 ?_
      refine am_lor dX2_addChild_41 ?_
      refine am_lastore dX2_addChild_42 (Or.inl (by decide)) rfl o9 o10 ?_
      refine am_aload_n dX2_addChild_43 (List.Mem.head _) ?_
      refine am_getf (f := 10) (v := .inr (.inr (some (43, 0)))) dX2_addChild_44 hc_5 (by decide) wd_331 (by decide) rfl rfl ?_
      refine am_iload_n dX2_addChild_47 (List.Mem.tail _ (List.Mem.tail _ (List.Mem.head _))) ?_
      refine am_dup2 dX2_addChild_48 rfl rfl ?_
      have o11 := h.1
      replace h := h.2
      have o12 := h.1
      replace h := h.2
      refine am_laload (x := ((am_up w.2.1 43 0 x3.toNat ((w.2.1 43 0 x3.toNat) ||| ((1 : Int64) <<< ((Int32.ofInt x2).toInt64 &&& 63)))) 43 0 x2.toNat)) dX2_addChild_49 (by decide) rfl o11 o12 rfl ?_
      refine am_lconst (x := 1) dX2_addChild_50 rfl ?_
      refine am_iload_n dX2_addChild_51 (List.Mem.tail _ (List.Mem.tail _ (List.Mem.tail _ (List.Mem.head _)))) ?_
      refine am_lshl dX2_addChild_52 ?_
      refine am_lor dX2_addChild_53 ?_
      refine am_lastore dX2_addChild_54 (Or.inl (by decide)) rfl o11 o12 ?_
      exact h
theorem bX2_addChild_55 {SC : Nat → Nat} {X : mh_X} {d : Nat} {Q : Option am_V → am_W → Prop} {bc bs : Nat} {w : am_W} {x1 : Int} {x2 : Int} {x3 : Int}
    (h : am_A (mh_G X) SC (d + 1) mX2_addChild Q 11 [(0, .inr (.inr (some (5, 0)))), (1, .inl x1), (2, .inl x2), (3, .inl (am_w (x3 + 1)))] [] w bc bs) :
    am_A (mh_G X) SC (d + 1) mX2_addChild Q 55 [(0, .inr (.inr (some (5, 0)))), (1, .inl x1), (2, .inl x2), (3, .inl x3)] [] w bc bs := by
  refine am_iinc (ls' := [(3, .inl (am_w (x3 + 1))), (0, .inr (.inr (some (5, 0)))), (1, .inl x1), (2, .inl x2)]) dX2_addChild_55 (List.Mem.tail _ (List.Mem.tail _ (List.Mem.tail _ (List.Mem.head _)))) (by decide) rfl ?_
  refine am_goto (tgt := 11) dX2_addChild_58 (by decide) ?_
  exact am_sub [1, 2, 3, 0] rfl h
-- MourningHouse$Family.isMan(I)Z
theorem dX2_isMan_0 : decode mX2_isMan.2.1 0 = .ok (.aload_n 0, 1) := by decide +kernel
theorem dX2_isMan_1 : decode mX2_isMan.2.1 1 = .ok (.getfield 11, 3) := by decide +kernel
theorem dX2_isMan_4 : decode mX2_isMan.2.1 4 = .ok (.iload_n 1, 1) := by decide +kernel
theorem dX2_isMan_5 : decode mX2_isMan.2.1 5 = .ok (.iaload, 1) := by decide +kernel
theorem dX2_isMan_6 : decode mX2_isMan.2.1 6 = .ok (.iconst 1, 1) := by decide +kernel
theorem dX2_isMan_7 : decode mX2_isMan.2.1 7 = .ok (.if_icmp .ne 7, 3) := by decide +kernel
theorem dX2_isMan_10 : decode mX2_isMan.2.1 10 = .ok (.iconst 1, 1) := by decide +kernel
theorem dX2_isMan_11 : decode mX2_isMan.2.1 11 = .ok (.goto 4, 3) := by decide +kernel
theorem dX2_isMan_14 : decode mX2_isMan.2.1 14 = .ok (.iconst 0, 1) := by decide +kernel
theorem dX2_isMan_15 : decode mX2_isMan.2.1 15 = .ok (.ireturn, 1) := by decide +kernel
theorem bX2_isMan_0 {SC : Nat → Nat} {X : mh_X} {d : Nat} {Q : Option am_V → am_W → Prop} {bc bs : Nat} {w : am_W} {x1 : Int}
    (h : (0 ≤ x1 ∧ (x1 < 40 ∧ ((¬ (w.1 33 0 x1.toNat) = 1 → Q (some (.inl 0)) w) ∧ ((w.1 33 0 x1.toNat) = 1 → Q (some (.inl 1)) w))))) :
    am_A (mh_G X) SC (d + 1) mX2_isMan Q 0 [(0, .inr (.inr (some (5, 0)))), (1, .inl x1)] [] w bc bs := by
  refine am_aload_n dX2_isMan_0 (List.Mem.head _) ?_
  refine am_getf (f := 0) (v := .inr (.inr (some (33, 0)))) dX2_isMan_1 hc_5 (by decide) wd_315 (by decide) rfl rfl ?_
  refine am_iload_n dX2_isMan_4 (List.Mem.tail _ (List.Mem.head _)) ?_
  have o1 := h.1
  replace h := h.2
  have o2 := h.1
  replace h := h.2
  refine am_iaload (v := (w.1 33 0 x1.toNat)) dX2_isMan_5 (by decide) rfl o1 o2 rfl ?_
  refine am_iconst dX2_isMan_6 (by unfold am_rg; omega) ?_
  refine am_icmpne (tgt := 14) dX2_isMan_7 (by decide) (fun c3 => ?_) (fun c3 => ?_)
  · replace h := h.1 c3
    refine am_iconst dX2_isMan_14 (by unfold am_rg; omega) ?_
    exact am_ret (r := some (.inl 0)) dX2_isMan_15 (Or.inr (Or.inl ⟨rfl, (Or.inl rfl)⟩)) rfl h
  · replace h := h.2 c3
    refine am_iconst dX2_isMan_10 (by unfold am_rg; omega) ?_
    refine am_goto (tgt := 15) dX2_isMan_11 (by decide) ?_
    exact am_ret (r := some (.inl 1)) dX2_isMan_15 (Or.inr (Or.inl ⟨rfl, (Or.inr rfl)⟩)) rfl h
-- MourningHouse$Family.isToldDead(I)Z
theorem dX2_isToldDead_0 : decode mX2_isToldDead.2.1 0 = .ok (.aload_n 0, 1) := by decide +kernel
theorem dX2_isToldDead_1 : decode mX2_isToldDead.2.1 1 = .ok (.getfield 33, 3) := by decide +kernel
theorem dX2_isToldDead_4 : decode mX2_isToldDead.2.1 4 = .ok (.iload_n 1, 1) := by decide +kernel
theorem dX2_isToldDead_5 : decode mX2_isToldDead.2.1 5 = .ok (.iaload, 1) := by decide +kernel
theorem dX2_isToldDead_6 : decode mX2_isToldDead.2.1 6 = .ok (.ldc 83, 2) := by decide +kernel
theorem dX2_isToldDead_8 : decode mX2_isToldDead.2.1 8 = .ok (.if_icmp .eq 7, 3) := by decide +kernel
theorem dX2_isToldDead_11 : decode mX2_isToldDead.2.1 11 = .ok (.iconst 1, 1) := by decide +kernel
theorem dX2_isToldDead_12 : decode mX2_isToldDead.2.1 12 = .ok (.goto 4, 3) := by decide +kernel
theorem dX2_isToldDead_15 : decode mX2_isToldDead.2.1 15 = .ok (.iconst 0, 1) := by decide +kernel
theorem dX2_isToldDead_16 : decode mX2_isToldDead.2.1 16 = .ok (.ireturn, 1) := by decide +kernel
theorem bX2_isToldDead_0 {SC : Nat → Nat} {X : mh_X} {d : Nat} {Q : Option am_V → am_W → Prop} {bc bs : Nat} {w : am_W} {x1 : Int}
    (h : (0 ≤ x1 ∧ (x1 < 40 ∧ (((w.1 40 0 x1.toNat) = 2147483647 → Q (some (.inl 0)) w) ∧ (¬ (w.1 40 0 x1.toNat) = 2147483647 → Q (some (.inl 1)) w))))) :
    am_A (mh_G X) SC (d + 1) mX2_isToldDead Q 0 [(0, .inr (.inr (some (5, 0)))), (1, .inl x1)] [] w bc bs := by
  refine am_aload_n dX2_isToldDead_0 (List.Mem.head _) ?_
  refine am_getf (f := 7) (v := .inr (.inr (some (40, 0)))) dX2_isToldDead_1 hc_5 (by decide) wd_327 (by decide) rfl rfl ?_
  refine am_iload_n dX2_isToldDead_4 (List.Mem.tail _ (List.Mem.head _)) ?_
  have o1 := h.1
  replace h := h.2
  have o2 := h.1
  replace h := h.2
  refine am_iaload (v := (w.1 40 0 x1.toNat)) dX2_isToldDead_5 (by decide) rfl o1 o2 rfl ?_
  refine am_ldcV (n := 2147483647) dX2_isToldDead_6 (by decide) wd_1089 (by unfold am_rg; omega) ?_
  refine am_icmpeq (tgt := 15) dX2_isToldDead_8 (by decide) (fun c3 => ?_) (fun c3 => ?_)
  · replace h := h.1 c3
    refine am_iconst dX2_isToldDead_15 (by unfold am_rg; omega) ?_
    exact am_ret (r := some (.inl 0)) dX2_isToldDead_16 (Or.inr (Or.inl ⟨rfl, (Or.inl rfl)⟩)) rfl h
  · replace h := h.2 c3
    refine am_iconst dX2_isToldDead_11 (by unfold am_rg; omega) ?_
    refine am_goto (tgt := 16) dX2_isToldDead_12 (by decide) ?_
    exact am_ret (r := some (.inl 1)) dX2_isToldDead_16 (Or.inr (Or.inl ⟨rfl, (Or.inr rfl)⟩)) rfl h
-- MourningHouse$Family.bury(III)V
theorem dX2_bury_0 : decode mX2_bury.2.1 0 = .ok (.aload_n 0, 1) := by decide +kernel
theorem dX2_bury_1 : decode mX2_bury.2.1 1 = .ok (.getfield 30, 3) := by decide +kernel
theorem dX2_bury_4 : decode mX2_bury.2.1 4 = .ok (.iload_n 1, 1) := by decide +kernel
theorem dX2_bury_5 : decode mX2_bury.2.1 5 = .ok (.iload_n 2, 1) := by decide +kernel
theorem dX2_bury_6 : decode mX2_bury.2.1 6 = .ok (.iastore, 1) := by decide +kernel
theorem dX2_bury_7 : decode mX2_bury.2.1 7 = .ok (.aload_n 0, 1) := by decide +kernel
theorem dX2_bury_8 : decode mX2_bury.2.1 8 = .ok (.getfield 33, 3) := by decide +kernel
theorem dX2_bury_11 : decode mX2_bury.2.1 11 = .ok (.iload_n 1, 1) := by decide +kernel
theorem dX2_bury_12 : decode mX2_bury.2.1 12 = .ok (.iload_n 3, 1) := by decide +kernel
theorem dX2_bury_13 : decode mX2_bury.2.1 13 = .ok (.iastore, 1) := by decide +kernel
theorem dX2_bury_14 : decode mX2_bury.2.1 14 = .ok (.return_, 1) := by decide +kernel
theorem bX2_bury_0 {SC : Nat → Nat} {X : mh_X} {d : Nat} {Q : Option am_V → am_W → Prop} {bc bs : Nat} {w : am_W} {x1 : Int} {x2 : Int} {x3 : Int}
    (h : (0 ≤ x1 ∧ (x1 < 40 ∧ Q none ((am_up (am_up w.1 39 0 x1.toNat x2) 40 0 x1.toNat x3), w.2)))) :
    am_A (mh_G X) SC (d + 1) mX2_bury Q 0 [(0, .inr (.inr (some (5, 0)))), (1, .inl x1), (2, .inl x2), (3, .inl x3)] [] w bc bs := by
  refine am_aload_n dX2_bury_0 (List.Mem.head _) ?_
  refine am_getf (f := 6) (v := .inr (.inr (some (39, 0)))) dX2_bury_1 hc_5 (by decide) wd_325 (by decide) rfl rfl ?_
  refine am_iload_n dX2_bury_4 (List.Mem.tail _ (List.Mem.head _)) ?_
  refine am_iload_n dX2_bury_5 (List.Mem.tail _ (List.Mem.tail _ (List.Mem.head _))) ?_
  have o1 := h.1
  replace h := h.2
  have o2 := h.1
  replace h := h.2
  refine am_iastore dX2_bury_6 (Or.inl (by decide)) rfl o1 o2 ?_
  refine am_aload_n dX2_bury_7 (List.Mem.head _) ?_
  refine am_getf (f := 7) (v := .inr (.inr (some (40, 0)))) dX2_bury_8 hc_5 (by decide) wd_327 (by decide) rfl rfl ?_
  refine am_iload_n dX2_bury_11 (List.Mem.tail _ (List.Mem.head _)) ?_
  refine am_iload_n dX2_bury_12 (List.Mem.tail _ (List.Mem.tail _ (List.Mem.tail _ (List.Mem.head _)))) ?_
  refine am_iastore dX2_bury_13 (Or.inl (by decide)) rfl o1 o2 ?_
  exact am_ret (r := none) dX2_bury_14 rfl rfl h
-- MourningHouse$Family.areAlive(I)Z
theorem dX2_areAlive_0 : decode mX2_areAlive.2.1 0 = .ok (.iload_n 1, 1) := by decide +kernel
theorem dX2_areAlive_1 : decode mX2_areAlive.2.1 1 = .ok (.i2l, 1) := by decide +kernel
theorem dX2_areAlive_2 : decode mX2_areAlive.2.1 2 = .ok (.aload_n 0, 1) := by decide +kernel
theorem dX2_areAlive_3 : decode mX2_areAlive.2.1 3 = .ok (.getfield 68, 3) := by decide +kernel
theorem dX2_areAlive_6 : decode mX2_areAlive.2.1 6 = .ok (.lshr, 1) := by decide +kernel
theorem dX2_areAlive_7 : decode mX2_areAlive.2.1 7 = .ok (.lconst 0, 1) := by decide +kernel
theorem dX2_areAlive_8 : decode mX2_areAlive.2.1 8 = .ok (.lcmp, 1) := by decide +kernel
theorem dX2_areAlive_9 : decode mX2_areAlive.2.1 9 = .ok (.ifCond .eq 5, 3) := by decide +kernel
theorem dX2_areAlive_12 : decode mX2_areAlive.2.1 12 = .ok (.iconst 0, 1) := by decide +kernel
theorem dX2_areAlive_13 : decode mX2_areAlive.2.1 13 = .ok (.ireturn, 1) := by decide +kernel
theorem dX2_areAlive_14 : decode mX2_areAlive.2.1 14 = .ok (.iconst 0, 1) := by decide +kernel
theorem dX2_areAlive_15 : decode mX2_areAlive.2.1 15 = .ok (.istore_n 2, 1) := by decide +kernel
theorem dX2_areAlive_16 : decode mX2_areAlive.2.1 16 = .ok (.iload_n 2, 1) := by decide +kernel
theorem dX2_areAlive_17 : decode mX2_areAlive.2.1 17 = .ok (.aload_n 0, 1) := by decide +kernel
theorem dX2_areAlive_18 : decode mX2_areAlive.2.1 18 = .ok (.getfield 68, 3) := by decide +kernel
theorem dX2_areAlive_21 : decode mX2_areAlive.2.1 21 = .ok (.if_icmp .ge 30, 3) := by decide +kernel
theorem dX2_areAlive_24 : decode mX2_areAlive.2.1 24 = .ok (.iload_n 1, 1) := by decide +kernel
theorem dX2_areAlive_25 : decode mX2_areAlive.2.1 25 = .ok (.i2l, 1) := by decide +kernel
theorem dX2_areAlive_26 : decode mX2_areAlive.2.1 26 = .ok (.iload_n 2, 1) := by decide +kernel
theorem dX2_areAlive_27 : decode mX2_areAlive.2.1 27 = .ok (.lshr, 1) := by decide +kernel
theorem dX2_areAlive_28 : decode mX2_areAlive.2.1 28 = .ok (.lconst 1, 1) := by decide +kernel
theorem dX2_areAlive_29 : decode mX2_areAlive.2.1 29 = .ok (.land, 1) := by decide +kernel
theorem dX2_areAlive_30 : decode mX2_areAlive.2.1 30 = .ok (.lconst 0, 1) := by decide +kernel
theorem dX2_areAlive_31 : decode mX2_areAlive.2.1 31 = .ok (.lcmp, 1) := by decide +kernel
theorem dX2_areAlive_32 : decode mX2_areAlive.2.1 32 = .ok (.ifCond .eq 13, 3) := by decide +kernel
theorem dX2_areAlive_35 : decode mX2_areAlive.2.1 35 = .ok (.aload_n 0, 1) := by decide +kernel
theorem dX2_areAlive_36 : decode mX2_areAlive.2.1 36 = .ok (.iload_n 2, 1) := by decide +kernel
theorem dX2_areAlive_37 : decode mX2_areAlive.2.1 37 = .ok (.invokevirtual 91, 3) := by decide +kernel
theorem dX2_areAlive_40 : decode mX2_areAlive.2.1 40 = .ok (.ifCond .eq 5, 3) := by decide +kernel
theorem dX2_areAlive_43 : decode mX2_areAlive.2.1 43 = .ok (.iconst 0, 1) := by decide +kernel
theorem dX2_areAlive_44 : decode mX2_areAlive.2.1 44 = .ok (.ireturn, 1) := by decide +kernel
theorem dX2_areAlive_45 : decode mX2_areAlive.2.1 45 = .ok (.iinc 2 1, 3) := by decide +kernel
theorem dX2_areAlive_48 : decode mX2_areAlive.2.1 48 = .ok (.goto (-32), 3) := by decide +kernel
theorem dX2_areAlive_51 : decode mX2_areAlive.2.1 51 = .ok (.iconst 1, 1) := by decide +kernel
theorem dX2_areAlive_52 : decode mX2_areAlive.2.1 52 = .ok (.ireturn, 1) := by decide +kernel
theorem bX2_areAlive_0 {SC : Nat → Nat} {X : mh_X} {d : Nat} {Q : Option am_V → am_W → Prop} {bc bs : Nat} {w : am_W} {x1 : Int}
    (h : (((am_lcmpv ((Int32.ofInt x1).toInt64 >>> ((Int32.ofInt (w.1 5 0 18)).toInt64 &&& 63)) (0 : Int64)) = 0 → am_A (mh_G X) SC (d + 1) mX2_areAlive Q 16 [(0, .inr (.inr (some (5, 0)))), (1, .inl x1), (2, .inl 0)] [] w bc bs) ∧ (¬ (am_lcmpv ((Int32.ofInt x1).toInt64 >>> ((Int32.ofInt (w.1 5 0 18)).toInt64 &&& 63)) (0 : Int64)) = 0 → Q (some (.inl 0)) w))) :
    am_A (mh_G X) SC (d + 1) mX2_areAlive Q 0 [(0, .inr (.inr (some (5, 0)))), (1, .inl x1)] [] w bc bs := by
  refine am_iload_n dX2_areAlive_0 (List.Mem.tail _ (List.Mem.head _)) ?_
  refine am_i2l dX2_areAlive_1 ?_
  refine am_aload_n dX2_areAlive_2 (List.Mem.head _) ?_
  refine am_getf (f := 18) (v := .inl (w.1 5 0 18)) dX2_areAlive_3 hc_5 (by decide) wd_339 (by decide) rfl rfl ?_
  refine am_lshr dX2_areAlive_6 ?_
  refine am_lconst (x := 0) dX2_areAlive_7 rfl ?_
  refine am_lcmp dX2_areAlive_8 ?_
  refine am_ifeq (tgt := 14) dX2_areAlive_9 (by decide) (fun c1 => ?_) (fun c1 => ?_)
  · replace h := h.1 c1
    refine am_iconst dX2_areAlive_14 (by unfold am_rg; omega) ?_
    refine am_istore_n (ls' := [(2, .inl 0), (0, .inr (.inr (some (5, 0)))), (1, .inl x1)]) dX2_areAlive_15 (by decide) rfl ?_
    exact am_sub [1, 2, 0] rfl h
  · replace h := h.2 c1
    refine am_iconst dX2_areAlive_12 (by unfold am_rg; omega) ?_
    exact am_ret (r := some (.inl 0)) dX2_areAlive_13 (Or.inr (Or.inl ⟨rfl, (Or.inl rfl)⟩)) rfl h
theorem bX2_areAlive_16 {SC : Nat → Nat} {X : mh_X} {d : Nat} {Q : Option am_V → am_W → Prop} {bc bs : Nat} {w : am_W} {x1 : Int} {x2 : Int}
    (h : (((w.1 5 0 18) ≤ x2 → Q (some (.inl 1)) w) ∧ (¬ (w.1 5 0 18) ≤ x2 → (((am_lcmpv (((Int32.ofInt x1).toInt64 >>> ((Int32.ofInt x2).toInt64 &&& 63)) &&& (1 : Int64)) (0 : Int64)) = 0 → am_A (mh_G X) SC (d + 1) mX2_areAlive Q 45 [(0, .inr (.inr (some (5, 0)))), (1, .inl x1), (2, .inl x2)] [] w bc bs) ∧ (¬ (am_lcmpv (((Int32.ofInt x1).toInt64 >>> ((Int32.ofInt x2).toInt64 &&& 63)) &&& (1 : Int64)) (0 : Int64)) = 0 → am_M (mh_G X) SC d 0 0 mX2_isToldDead [.inr (.inr (some (5, 0))), .inl x2] w (fun r w1 => am_A (mh_G X) SC (d + 1) mX2_areAlive Q 40 [(0, .inr (.inr (some (5, 0)))), (1, .inl x1), (2, .inl x2)] (r.toList ++ []) w1 bc bs)))))) :
    am_A (mh_G X) SC (d + 1) mX2_areAlive Q 16 [(0, .inr (.inr (some (5, 0)))), (1, .inl x1), (2, .inl x2)] [] w bc bs := by
  refine am_iload_n dX2_areAlive_16 (List.Mem.tail _ (List.Mem.tail _ (List.Mem.head _))) ?_
  refine am_aload_n dX2_areAlive_17 (List.Mem.head _) ?_
  refine am_getf (f := 18) (v := .inl (w.1 5 0 18)) dX2_areAlive_18 hc_5 (by decide) wd_339 (by decide) rfl rfl ?_
  refine am_icmpge (tgt := 51) dX2_areAlive_21 (by decide) (fun c1 => ?_) (fun c1 => ?_)
  · replace h := h.1 c1
    refine am_iconst dX2_areAlive_51 (by unfold am_rg; omega) ?_
    exact am_ret (r := some (.inl 1)) dX2_areAlive_52 (Or.inr (Or.inl ⟨rfl, (Or.inr rfl)⟩)) rfl h
  · replace h := h.2 c1
    refine am_iload_n dX2_areAlive_24 (List.Mem.tail _ (List.Mem.head _)) ?_
    refine am_i2l dX2_areAlive_25 ?_
    refine am_iload_n dX2_areAlive_26 (List.Mem.tail _ (List.Mem.tail _ (List.Mem.head _))) ?_
    refine am_lshr dX2_areAlive_27 ?_
    refine am_lconst (x := 1) dX2_areAlive_28 rfl ?_
    refine am_land dX2_areAlive_29 ?_
    refine am_lconst (x := 0) dX2_areAlive_30 rfl ?_
    refine am_lcmp dX2_areAlive_31 ?_
    refine am_ifeq (tgt := 45) dX2_areAlive_32 (by decide) (fun c2 => ?_) (fun c2 => ?_)
    · replace h := h.1 c2
      exact h
    · replace h := h.2 c2
      refine am_aload_n dX2_areAlive_35 (List.Mem.head _) ?_
      refine am_iload_n dX2_areAlive_36 (List.Mem.tail _ (List.Mem.tail _ (List.Mem.head _))) ?_
      exact am_callv (d' := d) (kc := 0) (ks := 0) (as := [.inl x2]) dX2_areAlive_37 wc_X2_isToldDead wd_1420 wd_1104 wd_1105 wd_117 ds_X2_isToldDead (by decide) (Nat.le_refl _) (Nat.le_of_ble_eq_true rfl) (Nat.zero_le _) (Nat.zero_le _) hc_5 (by decide) rfl rfl h
theorem bX2_areAlive_45 {SC : Nat → Nat} {X : mh_X} {d : Nat} {Q : Option am_V → am_W → Prop} {bc bs : Nat} {w : am_W} {x1 : Int} {x2 : Int}
    (h : am_A (mh_G X) SC (d + 1) mX2_areAlive Q 16 [(0, .inr (.inr (some (5, 0)))), (1, .inl x1), (2, .inl (am_w (x2 + 1)))] [] w bc bs) :
    am_A (mh_G X) SC (d + 1) mX2_areAlive Q 45 [(0, .inr (.inr (some (5, 0)))), (1, .inl x1), (2, .inl x2)] [] w bc bs := by
  refine am_iinc (ls' := [(2, .inl (am_w (x2 + 1))), (0, .inr (.inr (some (5, 0)))), (1, .inl x1)]) dX2_areAlive_45 (List.Mem.tail _ (List.Mem.tail _ (List.Mem.head _))) (by decide) rfl ?_
  refine am_goto (tgt := 16) dX2_areAlive_48 (by decide) ?_
  exact am_sub [1, 2, 0] rfl h
theorem bX2_areAlive_40 {SC : Nat → Nat} {X : mh_X} {d : Nat} {Q : Option am_V → am_W → Prop} {bc bs : Nat} {w : am_W} {x1 : Int} {x2 : Int} {xs0 : Int}
    (h : ((xs0 = 0 → am_A (mh_G X) SC (d + 1) mX2_areAlive Q 45 [(0, .inr (.inr (some (5, 0)))), (1, .inl x1), (2, .inl x2)] [] w bc bs) ∧ (¬ xs0 = 0 → Q (some (.inl 0)) w))) :
    am_A (mh_G X) SC (d + 1) mX2_areAlive Q 40 [(0, .inr (.inr (some (5, 0)))), (1, .inl x1), (2, .inl x2)] [.inl xs0] w bc bs := by
  refine am_ifeq (tgt := 45) dX2_areAlive_40 (by decide) (fun c1 => ?_) (fun c1 => ?_)
  · replace h := h.1 c1
    exact h
  · replace h := h.2 c1
    refine am_iconst dX2_areAlive_43 (by unfold am_rg; omega) ?_
    exact am_ret (r := some (.inl 0)) dX2_areAlive_44 (Or.inr (Or.inl ⟨rfl, (Or.inl rfl)⟩)) rfl h
-- MourningHouse$Family.canMarry(III)Z
theorem dX2_canMarry_0 : decode mX2_canMarry.2.1 0 = .ok (.aload_n 0, 1) := by decide +kernel
theorem dX2_canMarry_1 : decode mX2_canMarry.2.1 1 = .ok (.getfield 72, 3) := by decide +kernel
theorem dX2_canMarry_4 : decode mX2_canMarry.2.1 4 = .ok (.bipush 40, 2) := by decide +kernel
theorem dX2_canMarry_6 : decode mX2_canMarry.2.1 6 = .ok (.if_icmp .ge 58, 3) := by decide +kernel
theorem dX2_canMarry_9 : decode mX2_canMarry.2.1 9 = .ok (.aload_n 0, 1) := by decide +kernel
theorem dX2_canMarry_10 : decode mX2_canMarry.2.1 10 = .ok (.iload_n 1, 1) := by decide +kernel
theorem dX2_canMarry_11 : decode mX2_canMarry.2.1 11 = .ok (.invokevirtual 79, 3) := by decide +kernel
theorem dX2_canMarry_14 : decode mX2_canMarry.2.1 14 = .ok (.ifCond .eq 50, 3) := by decide +kernel
theorem dX2_canMarry_17 : decode mX2_canMarry.2.1 17 = .ok (.aload_n 0, 1) := by decide +kernel
theorem dX2_canMarry_18 : decode mX2_canMarry.2.1 18 = .ok (.iload_n 2, 1) := by decide +kernel
theorem dX2_canMarry_19 : decode mX2_canMarry.2.1 19 = .ok (.invokevirtual 79, 3) := by decide +kernel
theorem dX2_canMarry_22 : decode mX2_canMarry.2.1 22 = .ok (.ifCond .eq 42, 3) := by decide +kernel
theorem dX2_canMarry_25 : decode mX2_canMarry.2.1 25 = .ok (.aload_n 0, 1) := by decide +kernel
theorem dX2_canMarry_26 : decode mX2_canMarry.2.1 26 = .ok (.getfield 11, 3) := by decide +kernel
theorem dX2_canMarry_29 : decode mX2_canMarry.2.1 29 = .ok (.iload_n 1, 1) := by decide +kernel
theorem dX2_canMarry_30 : decode mX2_canMarry.2.1 30 = .ok (.iaload, 1) := by decide +kernel
theorem dX2_canMarry_31 : decode mX2_canMarry.2.1 31 = .ok (.aload_n 0, 1) := by decide +kernel
theorem dX2_canMarry_32 : decode mX2_canMarry.2.1 32 = .ok (.getfield 11, 3) := by decide +kernel
theorem dX2_canMarry_35 : decode mX2_canMarry.2.1 35 = .ok (.iload_n 2, 1) := by decide +kernel
theorem dX2_canMarry_36 : decode mX2_canMarry.2.1 36 = .ok (.iaload, 1) := by decide +kernel
theorem dX2_canMarry_37 : decode mX2_canMarry.2.1 37 = .ok (.if_icmp .eq 27, 3) := by decide +kernel
theorem dX2_canMarry_40 : decode mX2_canMarry.2.1 40 = .ok (.iload_n 3, 1) := by decide +kernel
theorem dX2_canMarry_41 : decode mX2_canMarry.2.1 41 = .ok (.aload_n 0, 1) := by decide +kernel
theorem dX2_canMarry_42 : decode mX2_canMarry.2.1 42 = .ok (.getfield 24, 3) := by decide +kernel
theorem dX2_canMarry_45 : decode mX2_canMarry.2.1 45 = .ok (.iload_n 1, 1) := by decide +kernel
theorem dX2_canMarry_46 : decode mX2_canMarry.2.1 46 = .ok (.iaload, 1) := by decide +kernel
theorem dX2_canMarry_47 : decode mX2_canMarry.2.1 47 = .ok (.if_icmp .lt 17, 3) := by decide +kernel
theorem dX2_canMarry_50 : decode mX2_canMarry.2.1 50 = .ok (.iload_n 3, 1) := by decide +kernel
theorem dX2_canMarry_51 : decode mX2_canMarry.2.1 51 = .ok (.aload_n 0, 1) := by decide +kernel
theorem dX2_canMarry_52 : decode mX2_canMarry.2.1 52 = .ok (.getfield 24, 3) := by decide +kernel
theorem dX2_canMarry_55 : decode mX2_canMarry.2.1 55 = .ok (.iload_n 2, 1) := by decide +kernel
theorem dX2_canMarry_56 : decode mX2_canMarry.2.1 56 = .ok (.iaload, 1) := by decide +kernel
theorem dX2_canMarry_57 : decode mX2_canMarry.2.1 57 = .ok (.if_icmp .lt 7, 3) := by decide +kernel
theorem dX2_canMarry_60 : decode mX2_canMarry.2.1 60 = .ok (.iconst 1, 1) := by decide +kernel
theorem dX2_canMarry_61 : decode mX2_canMarry.2.1 61 = .ok (.goto 4, 3) := by decide +kernel
theorem dX2_canMarry_64 : decode mX2_canMarry.2.1 64 = .ok (.iconst 0, 1) := by decide +kernel
theorem dX2_canMarry_65 : decode mX2_canMarry.2.1 65 = .ok (.ireturn, 1) := by decide +kernel
theorem bX2_canMarry_0 {SC : Nat → Nat} {X : mh_X} {d : Nat} {Q : Option am_V → am_W → Prop} {bc bs : Nat} {w : am_W} {x1 : Int} {x2 : Int} {x3 : Int}
    (h : ((40 ≤ (w.1 5 0 19) → Q (some (.inl 0)) w) ∧ (¬ 40 ≤ (w.1 5 0 19) → am_M (mh_G X) SC d 0 0 mX2_has [.inr (.inr (some (5, 0))), .inl x1] w (fun r w1 => am_A (mh_G X) SC (d + 1) mX2_canMarry Q 14 [(0, .inr (.inr (some (5, 0)))), (1, .inl x1), (2, .inl x2), (3, .inl x3)] (r.toList ++ []) w1 bc bs)))) :
    am_A (mh_G X) SC (d + 1) mX2_canMarry Q 0 [(0, .inr (.inr (some (5, 0)))), (1, .inl x1), (2, .inl x2), (3, .inl x3)] [] w bc bs := by
  refine am_aload_n dX2_canMarry_0 (List.Mem.head _) ?_
  refine am_getf (f := 19) (v := .inl (w.1 5 0 19)) dX2_canMarry_1 hc_5 (by decide) wd_342 (by decide) rfl rfl ?_
  refine am_bipush dX2_canMarry_4 (by decide) (by unfold am_rg; omega) ?_
  refine am_icmpge (tgt := 64) dX2_canMarry_6 (by decide) (fun c1 => ?_) (fun c1 => ?_)
  · replace h := h.1 c1
    refine am_iconst dX2_canMarry_64 (by unfold am_rg; omega) ?_
    exact am_ret (r := some (.inl 0)) dX2_canMarry_65 (Or.inr (Or.inl ⟨rfl, (Or.inl rfl)⟩)) rfl h
  · replace h := h.2 c1
    refine am_aload_n dX2_canMarry_9 (List.Mem.head _) ?_
    refine am_iload_n dX2_canMarry_10 (List.Mem.tail _ (List.Mem.head _)) ?_
    exact am_callv (d' := d) (kc := 0) (ks := 0) (as := [.inl x1]) dX2_canMarry_11 wc_X2_has wd_1081 wd_1082 wd_1083 wd_117 ds_X2_has (by decide) (Nat.le_refl _) (Nat.le_of_ble_eq_true rfl) (Nat.zero_le _) (Nat.zero_le _) hc_5 (by decide) rfl rfl h
theorem bX2_canMarry_14 {SC : Nat → Nat} {X : mh_X} {d : Nat} {Q : Option am_V → am_W → Prop} {bc bs : Nat} {w : am_W} {x1 : Int} {x2 : Int} {x3 : Int} {xs0 : Int}
    (h : ((xs0 = 0 → Q (some (.inl 0)) w) ∧ (¬ xs0 = 0 → am_M (mh_G X) SC d 0 0 mX2_has [.inr (.inr (some (5, 0))), .inl x2] w (fun r w1 => am_A (mh_G X) SC (d + 1) mX2_canMarry Q 22 [(0, .inr (.inr (some (5, 0)))), (1, .inl x1), (2, .inl x2), (3, .inl x3)] (r.toList ++ []) w1 bc bs)))) :
    am_A (mh_G X) SC (d + 1) mX2_canMarry Q 14 [(0, .inr (.inr (some (5, 0)))), (1, .inl x1), (2, .inl x2), (3, .inl x3)] [.inl xs0] w bc bs := by
  refine am_ifeq (tgt := 64) dX2_canMarry_14 (by decide) (fun c1 => ?_) (fun c1 => ?_)
  · replace h := h.1 c1
    refine am_iconst dX2_canMarry_64 (by unfold am_rg; omega) ?_
    exact am_ret (r := some (.inl 0)) dX2_canMarry_65 (Or.inr (Or.inl ⟨rfl, (Or.inl rfl)⟩)) rfl h
  · replace h := h.2 c1
    refine am_aload_n dX2_canMarry_17 (List.Mem.head _) ?_
    refine am_iload_n dX2_canMarry_18 (List.Mem.tail _ (List.Mem.tail _ (List.Mem.head _))) ?_
    exact am_callv (d' := d) (kc := 0) (ks := 0) (as := [.inl x2]) dX2_canMarry_19 wc_X2_has wd_1081 wd_1082 wd_1083 wd_117 ds_X2_has (by decide) (Nat.le_refl _) (Nat.le_of_ble_eq_true rfl) (Nat.zero_le _) (Nat.zero_le _) hc_5 (by decide) rfl rfl h
theorem bX2_canMarry_22 {SC : Nat → Nat} {X : mh_X} {d : Nat} {Q : Option am_V → am_W → Prop} {bc bs : Nat} {w : am_W} {x1 : Int} {x2 : Int} {x3 : Int} {xs0 : Int}
    (h : ((xs0 = 0 → Q (some (.inl 0)) w) ∧ (¬ xs0 = 0 → (0 ≤ x1 ∧ (x1 < 40 ∧ (0 ≤ x2 ∧ (x2 < 40 ∧ (((w.1 33 0 x1.toNat) = (w.1 33 0 x2.toNat) → Q (some (.inl 0)) w) ∧ (¬ (w.1 33 0 x1.toNat) = (w.1 33 0 x2.toNat) → ((x3 < (w.1 37 0 x1.toNat) → Q (some (.inl 0)) w) ∧ (¬ x3 < (w.1 37 0 x1.toNat) → ((x3 < (w.1 37 0 x2.toNat) → Q (some (.inl 0)) w) ∧ (¬ x3 < (w.1 37 0 x2.toNat) → Q (some (.inl 1)) w))))))))))))) :
    am_A (mh_G X) SC (d + 1) mX2_canMarry Q 22 [(0, .inr (.inr (some (5, 0)))), (1, .inl x1), (2, .inl x2), (3, .inl x3)] [.inl xs0] w bc bs := by
  refine am_ifeq (tgt := 64) dX2_canMarry_22 (by decide) (fun c1 => ?_) (fun c1 => ?_)
  · replace h := h.1 c1
    refine am_iconst dX2_canMarry_64 (by unfold am_rg; omega) ?_
    exact am_ret (r := some (.inl 0)) dX2_canMarry_65 (Or.inr (Or.inl ⟨rfl, (Or.inl rfl)⟩)) rfl h
  · replace h := h.2 c1
    refine am_aload_n dX2_canMarry_25 (List.Mem.head _) ?_
    refine am_getf (f := 0) (v := .inr (.inr (some (33, 0)))) dX2_canMarry_26 hc_5 (by decide) wd_315 (by decide) rfl rfl ?_
    refine am_iload_n dX2_canMarry_29 (List.Mem.tail _ (List.Mem.head _)) ?_
    have o2 := h.1
    replace h := h.2
    have o3 := h.1
    replace h := h.2
    refine am_iaload (v := (w.1 33 0 x1.toNat)) dX2_canMarry_30 (by decide) rfl o2 o3 rfl ?_
    refine am_aload_n dX2_canMarry_31 (List.Mem.head _) ?_
    refine am_getf (f := 0) (v := .inr (.inr (some (33, 0)))) dX2_canMarry_32 hc_5 (by decide) wd_315 (by decide) rfl rfl ?_
    refine am_iload_n dX2_canMarry_35 (List.Mem.tail _ (List.Mem.tail _ (List.Mem.head _))) ?_
    have o4 := h.1
    replace h := h.2
    have o5 := h.1
    replace h := h.2
    refine am_iaload (v := (w.1 33 0 x2.toNat)) dX2_canMarry_36 (by decide) rfl o4 o5 rfl ?_
    refine am_icmpeq (tgt := 64) dX2_canMarry_37 (by decide) (fun c6 => ?_) (fun c6 => ?_)
    · replace h := h.1 c6
      refine am_iconst dX2_canMarry_64 (by unfold am_rg; omega) ?_
      exact am_ret (r := some (.inl 0)) dX2_canMarry_65 (Or.inr (Or.inl ⟨rfl, (Or.inl rfl)⟩)) rfl h
    · replace h := h.2 c6
      refine am_iload_n dX2_canMarry_40 (List.Mem.tail _ (List.Mem.tail _ (List.Mem.tail _ (List.Mem.head _)))) ?_
      refine am_aload_n dX2_canMarry_41 (List.Mem.head _) ?_
      refine am_getf (f := 4) (v := .inr (.inr (some (37, 0)))) dX2_canMarry_42 hc_5 (by decide) wd_320 (by decide) rfl rfl ?_
      refine am_iload_n dX2_canMarry_45 (List.Mem.tail _ (List.Mem.head _)) ?_
      refine am_iaload (v := (w.1 37 0 x1.toNat)) dX2_canMarry_46 (by decide) rfl o2 o3 rfl ?_
      refine am_icmplt (tgt := 64) dX2_canMarry_47 (by decide) (fun c7 => ?_) (fun c7 => ?_)
      · replace h := h.1 c7
        refine am_iconst dX2_canMarry_64 (by unfold am_rg; omega) ?_
        exact am_ret (r := some (.inl 0)) dX2_canMarry_65 (Or.inr (Or.inl ⟨rfl, (Or.inl rfl)⟩)) rfl h
      · replace h := h.2 c7
        refine am_iload_n dX2_canMarry_50 (List.Mem.tail _ (List.Mem.tail _ (List.Mem.tail _ (List.Mem.head _)))) ?_
        refine am_aload_n dX2_canMarry_51 (List.Mem.head _) ?_
        refine am_getf (f := 4) (v := .inr (.inr (some (37, 0)))) dX2_canMarry_52 hc_5 (by decide) wd_320 (by decide) rfl rfl ?_
        refine am_iload_n dX2_canMarry_55 (List.Mem.tail _ (List.Mem.tail _ (List.Mem.head _))) ?_
        refine am_iaload (v := (w.1 37 0 x2.toNat)) dX2_canMarry_56 (by decide) rfl o4 o5 rfl ?_
        refine am_icmplt (tgt := 64) dX2_canMarry_57 (by decide) (fun c8 => ?_) (fun c8 => ?_)
        · replace h := h.1 c8
          refine am_iconst dX2_canMarry_64 (by unfold am_rg; omega) ?_
          exact am_ret (r := some (.inl 0)) dX2_canMarry_65 (Or.inr (Or.inl ⟨rfl, (Or.inl rfl)⟩)) rfl h
        · replace h := h.2 c8
          refine am_iconst dX2_canMarry_60 (by unfold am_rg; omega) ?_
          refine am_goto (tgt := 65) dX2_canMarry_61 (by decide) ?_
          exact am_ret (r := some (.inl 1)) dX2_canMarry_65 (Or.inr (Or.inl ⟨rfl, (Or.inr rfl)⟩)) rfl h
-- MourningHouse$Family.marry(IIII)I
theorem dX2_marry_0 : decode mX2_marry.2.1 0 = .ok (.aload_n 0, 1) := by decide +kernel
theorem dX2_marry_1 : decode mX2_marry.2.1 1 = .ok (.getfield 46, 3) := by decide +kernel
theorem dX2_marry_4 : decode mX2_marry.2.1 4 = .ok (.aload_n 0, 1) := by decide +kernel
theorem dX2_marry_5 : decode mX2_marry.2.1 5 = .ok (.getfield 72, 3) := by decide +kernel
theorem dX2_marry_8 : decode mX2_marry.2.1 8 = .ok (.aload_n 0, 1) := by decide +kernel
theorem dX2_marry_9 : decode mX2_marry.2.1 9 = .ok (.iload_n 1, 1) := by decide +kernel
theorem dX2_marry_10 : decode mX2_marry.2.1 10 = .ok (.invokevirtual 84, 3) := by decide +kernel
theorem dX2_marry_13 : decode mX2_marry.2.1 13 = .ok (.ifCond .eq 7, 3) := by decide +kernel
theorem dX2_marry_16 : decode mX2_marry.2.1 16 = .ok (.iload_n 1, 1) := by decide +kernel
theorem dX2_marry_17 : decode mX2_marry.2.1 17 = .ok (.goto 4, 3) := by decide +kernel
theorem dX2_marry_20 : decode mX2_marry.2.1 20 = .ok (.iload_n 2, 1) := by decide +kernel
theorem dX2_marry_21 : decode mX2_marry.2.1 21 = .ok (.iastore, 1) := by decide +kernel
theorem dX2_marry_22 : decode mX2_marry.2.1 22 = .ok (.aload_n 0, 1) := by decide +kernel
theorem dX2_marry_23 : decode mX2_marry.2.1 23 = .ok (.getfield 49, 3) := by decide +kernel
theorem dX2_marry_26 : decode mX2_marry.2.1 26 = .ok (.aload_n 0, 1) := by decide +kernel
theorem dX2_marry_27 : decode mX2_marry.2.1 27 = .ok (.getfield 72, 3) := by decide +kernel
theorem dX2_marry_30 : decode mX2_marry.2.1 30 = .ok (.aload_n 0, 1) := by decide +kernel
theorem dX2_marry_31 : decode mX2_marry.2.1 31 = .ok (.iload_n 1, 1) := by decide +kernel
theorem dX2_marry_32 : decode mX2_marry.2.1 32 = .ok (.invokevirtual 84, 3) := by decide +kernel
theorem dX2_marry_35 : decode mX2_marry.2.1 35 = .ok (.ifCond .eq 7, 3) := by decide +kernel
theorem dX2_marry_38 : decode mX2_marry.2.1 38 = .ok (.iload_n 2, 1) := by decide +kernel
theorem dX2_marry_39 : decode mX2_marry.2.1 39 = .ok (.goto 4, 3) := by decide +kernel
theorem dX2_marry_42 : decode mX2_marry.2.1 42 = .ok (.iload_n 1, 1) := by decide +kernel
theorem dX2_marry_43 : decode mX2_marry.2.1 43 = .ok (.iastore, 1) := by decide +kernel
theorem dX2_marry_44 : decode mX2_marry.2.1 44 = .ok (.aload_n 0, 1) := by decide +kernel
theorem dX2_marry_45 : decode mX2_marry.2.1 45 = .ok (.getfield 52, 3) := by decide +kernel
theorem dX2_marry_48 : decode mX2_marry.2.1 48 = .ok (.aload_n 0, 1) := by decide +kernel
theorem dX2_marry_49 : decode mX2_marry.2.1 49 = .ok (.getfield 72, 3) := by decide +kernel
theorem dX2_marry_52 : decode mX2_marry.2.1 52 = .ok (.iload_n 3, 1) := by decide +kernel
theorem dX2_marry_53 : decode mX2_marry.2.1 53 = .ok (.iastore, 1) := by decide +kernel
theorem dX2_marry_54 : decode mX2_marry.2.1 54 = .ok (.aload_n 0, 1) := by decide +kernel
theorem dX2_marry_55 : decode mX2_marry.2.1 55 = .ok (.getfield 55, 3) := by decide +kernel
theorem dX2_marry_58 : decode mX2_marry.2.1 58 = .ok (.aload_n 0, 1) := by decide +kernel
theorem dX2_marry_59 : decode mX2_marry.2.1 59 = .ok (.getfield 72, 3) := by decide +kernel
theorem dX2_marry_62 : decode mX2_marry.2.1 62 = .ok (.iload 4, 2) := by decide +kernel
theorem dX2_marry_64 : decode mX2_marry.2.1 64 = .ok (.iastore, 1) := by decide +kernel
theorem dX2_marry_65 : decode mX2_marry.2.1 65 = .ok (.aload_n 0, 1) := by decide +kernel
theorem dX2_marry_66 : decode mX2_marry.2.1 66 = .ok (.dup, 1) := by decide +kernel
theorem dX2_marry_67 : decode mX2_marry.2.1 67 = .ok (.getfield 72, 3) := by decide +kernel
theorem dX2_marry_70 : decode mX2_marry.2.1 70 = .ok (.iconst 1, 1) := by decide +kernel
theorem dX2_marry_71 : decode mX2_marry.2.1 71 = .ok (.iadd, 1) := by decide +kernel
theorem dX2_marry_72 : decode mX2_marry.2.1 72 = .ok (.putfield 72, 3) := by decide +kernel
theorem dX2_marry_75 : decode mX2_marry.2.1 75 = .ok (.aload_n 0, 1) := by decide +kernel
theorem dX2_marry_76 : decode mX2_marry.2.1 76 = .ok (.getfield 72, 3) := by decide +kernel
theorem dX2_marry_79 : decode mX2_marry.2.1 79 = .ok (.iconst 1, 1) := by decide +kernel
theorem dX2_marry_80 : decode mX2_marry.2.1 80 = .ok (.isub, 1) := by decide +kernel
theorem dX2_marry_81 : decode mX2_marry.2.1 81 = .ok (.ireturn, 1) := by decide +kernel
theorem bX2_marry_0 {SC : Nat → Nat} {X : mh_X} {d : Nat} {Q : Option am_V → am_W → Prop} {bc bs : Nat} {w : am_W} {x1 : Int} {x2 : Int} {x3 : Int} {x4 : Int}
    (h : am_M (mh_G X) SC d 0 0 mX2_isMan [.inr (.inr (some (5, 0))), .inl x1] w (fun r w1 => am_A (mh_G X) SC (d + 1) mX2_marry Q 13 [(0, .inr (.inr (some (5, 0)))), (1, .inl x1), (2, .inl x2), (3, .inl x3), (4, .inl x4)] (r.toList ++ [.inl (w.1 5 0 19), .inr (.inr (some (44, 0)))]) w1 bc bs)) :
    am_A (mh_G X) SC (d + 1) mX2_marry Q 0 [(0, .inr (.inr (some (5, 0)))), (1, .inl x1), (2, .inl x2), (3, .inl x3), (4, .inl x4)] [] w bc bs := by
  refine am_aload_n dX2_marry_0 (List.Mem.head _) ?_
  refine am_getf (f := 11) (v := .inr (.inr (some (44, 0)))) dX2_marry_1 hc_5 (by decide) wd_332 (by decide) rfl rfl ?_
  refine am_aload_n dX2_marry_4 (List.Mem.head _) ?_
  refine am_getf (f := 19) (v := .inl (w.1 5 0 19)) dX2_marry_5 hc_5 (by decide) wd_342 (by decide) rfl rfl ?_
  refine am_aload_n dX2_marry_8 (List.Mem.head _) ?_
  refine am_iload_n dX2_marry_9 (List.Mem.tail _ (List.Mem.head _)) ?_
  exact am_callv (d' := d) (kc := 0) (ks := 0) (as := [.inl x1]) dX2_marry_10 wc_X2_isMan wd_1090 wd_1091 wd_1092 wd_117 ds_X2_isMan (by decide) (Nat.le_refl _) (Nat.le_of_ble_eq_true rfl) (Nat.zero_le _) (Nat.zero_le _) hc_5 (by decide) rfl rfl h
theorem bX2_marry_13 {SC : Nat → Nat} {X : mh_X} {d : Nat} {Q : Option am_V → am_W → Prop} {bc bs : Nat} {w : am_W} {x1 : Int} {x2 : Int} {x3 : Int} {x4 : Int} {xs0 : Int} {xs1 : Int}
    (h : ((xs0 = 0 → am_A (mh_G X) SC (d + 1) mX2_marry Q 21 [(0, .inr (.inr (some (5, 0)))), (1, .inl x1), (2, .inl x2), (3, .inl x3), (4, .inl x4)] [.inl x2, .inl xs1, .inr (.inr (some (44, 0)))] w bc bs) ∧ (¬ xs0 = 0 → am_A (mh_G X) SC (d + 1) mX2_marry Q 21 [(0, .inr (.inr (some (5, 0)))), (1, .inl x1), (2, .inl x2), (3, .inl x3), (4, .inl x4)] [.inl x1, .inl xs1, .inr (.inr (some (44, 0)))] w bc bs))) :
    am_A (mh_G X) SC (d + 1) mX2_marry Q 13 [(0, .inr (.inr (some (5, 0)))), (1, .inl x1), (2, .inl x2), (3, .inl x3), (4, .inl x4)] [.inl xs0, .inl xs1, .inr (.inr (some (44, 0)))] w bc bs := by
  refine am_ifeq (tgt := 20) dX2_marry_13 (by decide) (fun c1 => ?_) (fun c1 => ?_)
  · replace h := h.1 c1
    refine am_iload_n dX2_marry_20 (List.Mem.tail _ (List.Mem.tail _ (List.Mem.head _))) ?_
    exact h
  · replace h := h.2 c1
    refine am_iload_n dX2_marry_16 (List.Mem.tail _ (List.Mem.head _)) ?_
    refine am_goto (tgt := 21) dX2_marry_17 (by decide) ?_
    exact h
theorem bX2_marry_21 {SC : Nat → Nat} {X : mh_X} {d : Nat} {Q : Option am_V → am_W → Prop} {bc bs : Nat} {w : am_W} {x1 : Int} {x2 : Int} {x3 : Int} {x4 : Int} {xs0 : Int} {xs1 : Int}
    (h : (0 ≤ xs1 ∧ (xs1 < 40 ∧ am_M (mh_G X) SC d 0 0 mX2_isMan [.inr (.inr (some (5, 0))), .inl x1] ((am_up w.1 44 0 xs1.toNat xs0), w.2) (fun r w1 => am_A (mh_G X) SC (d + 1) mX2_marry Q 35 [(0, .inr (.inr (some (5, 0)))), (1, .inl x1), (2, .inl x2), (3, .inl x3), (4, .inl x4)] (r.toList ++ [.inl (w.1 5 0 19), .inr (.inr (some (45, 0)))]) w1 bc bs)))) :
    am_A (mh_G X) SC (d + 1) mX2_marry Q 21 [(0, .inr (.inr (some (5, 0)))), (1, .inl x1), (2, .inl x2), (3, .inl x3), (4, .inl x4)] [.inl xs0, .inl xs1, .inr (.inr (some (44, 0)))] w bc bs := by
  have o1 := h.1
  replace h := h.2
  have o2 := h.1
  replace h := h.2
  refine am_iastore dX2_marry_21 (Or.inl (by decide)) rfl o1 o2 ?_
  refine am_aload_n dX2_marry_22 (List.Mem.head _) ?_
  refine am_getf (f := 12) (v := .inr (.inr (some (45, 0)))) dX2_marry_23 hc_5 (by decide) wd_333 (by decide) rfl rfl ?_
  refine am_aload_n dX2_marry_26 (List.Mem.head _) ?_
  refine am_getf (f := 19) (v := .inl (w.1 5 0 19)) dX2_marry_27 hc_5 (by decide) wd_342 (by decide) rfl rfl ?_
  refine am_aload_n dX2_marry_30 (List.Mem.head _) ?_
  refine am_iload_n dX2_marry_31 (List.Mem.tail _ (List.Mem.head _)) ?_
  exact am_callv (d' := d) (kc := 0) (ks := 0) (as := [.inl x1]) dX2_marry_32 wc_X2_isMan wd_1090 wd_1091 wd_1092 wd_117 ds_X2_isMan (by decide) (Nat.le_refl _) (Nat.le_of_ble_eq_true rfl) (Nat.zero_le _) (Nat.zero_le _) hc_5 (by decide) rfl rfl h
theorem bX2_marry_35 {SC : Nat → Nat} {X : mh_X} {d : Nat} {Q : Option am_V → am_W → Prop} {bc bs : Nat} {w : am_W} {x1 : Int} {x2 : Int} {x3 : Int} {x4 : Int} {xs0 : Int} {xs1 : Int}
    (h : ((xs0 = 0 → am_A (mh_G X) SC (d + 1) mX2_marry Q 43 [(0, .inr (.inr (some (5, 0)))), (3, .inl x3), (4, .inl x4)] [.inl x1, .inl xs1, .inr (.inr (some (45, 0)))] w bc bs) ∧ (¬ xs0 = 0 → am_A (mh_G X) SC (d + 1) mX2_marry Q 43 [(0, .inr (.inr (some (5, 0)))), (3, .inl x3), (4, .inl x4)] [.inl x2, .inl xs1, .inr (.inr (some (45, 0)))] w bc bs))) :
    am_A (mh_G X) SC (d + 1) mX2_marry Q 35 [(0, .inr (.inr (some (5, 0)))), (1, .inl x1), (2, .inl x2), (3, .inl x3), (4, .inl x4)] [.inl xs0, .inl xs1, .inr (.inr (some (45, 0)))] w bc bs := by
  refine am_ifeq (tgt := 42) dX2_marry_35 (by decide) (fun c1 => ?_) (fun c1 => ?_)
  · replace h := h.1 c1
    refine am_iload_n dX2_marry_42 (List.Mem.tail _ (List.Mem.head _)) ?_
    exact am_sub [0, 3, 4] rfl h
  · replace h := h.2 c1
    refine am_iload_n dX2_marry_38 (List.Mem.tail _ (List.Mem.tail _ (List.Mem.head _))) ?_
    refine am_goto (tgt := 43) dX2_marry_39 (by decide) ?_
    exact am_sub [0, 3, 4] rfl h
theorem bX2_marry_43 {SC : Nat → Nat} {X : mh_X} {d : Nat} {Q : Option am_V → am_W → Prop} {bc bs : Nat} {w : am_W} {x3 : Int} {x4 : Int} {xs0 : Int} {xs1 : Int}
    (h : (0 ≤ xs1 ∧ (xs1 < 40 ∧ (0 ≤ (w.1 5 0 19) ∧ ((w.1 5 0 19) < 40 ∧ Q (some (.inl (am_w (((am_up w.1 5 0 19 (am_w ((w.1 5 0 19) + 1))) 5 0 19) - 1)))) ((am_up (am_up (am_up (am_up w.1 45 0 xs1.toNat xs0) 46 0 (w.1 5 0 19).toNat x3) 47 0 (w.1 5 0 19).toNat x4) 5 0 19 (am_w ((w.1 5 0 19) + 1))), w.2)))))) :
    am_A (mh_G X) SC (d + 1) mX2_marry Q 43 [(0, .inr (.inr (some (5, 0)))), (3, .inl x3), (4, .inl x4)] [.inl xs0, .inl xs1, .inr (.inr (some (45, 0)))] w bc bs := by
  have o1 := h.1
  replace h := h.2
  have o2 := h.1
  replace h := h.2
  refine am_iastore dX2_marry_43 (Or.inl (by decide)) rfl o1 o2 ?_
  refine am_aload_n dX2_marry_44 (List.Mem.head _) ?_
  refine am_getf (f := 13) (v := .inr (.inr (some (46, 0)))) dX2_marry_45 hc_5 (by decide) wd_334 (by decide) rfl rfl ?_
  refine am_aload_n dX2_marry_48 (List.Mem.head _) ?_
  refine am_getf (f := 19) (v := .inl (w.1 5 0 19)) dX2_marry_49 hc_5 (by decide) wd_342 (by decide) rfl rfl ?_
  refine am_iload_n dX2_marry_52 (List.Mem.tail _ (List.Mem.head _)) ?_
  have o3 := h.1
  replace h := h.2
  have o4 := h.1
  replace h := h.2
  refine am_iastore dX2_marry_53 (Or.inl (by decide)) rfl o3 o4 ?_
  refine am_aload_n dX2_marry_54 (List.Mem.head _) ?_
  refine am_getf (f := 14) (v := .inr (.inr (some (47, 0)))) dX2_marry_55 hc_5 (by decide) wd_335 (by decide) rfl rfl ?_
  refine am_aload_n dX2_marry_58 (List.Mem.head _) ?_
  refine am_getf (f := 19) (v := .inl (w.1 5 0 19)) dX2_marry_59 hc_5 (by decide) wd_342 (by decide) rfl rfl ?_
  refine am_iload dX2_marry_62 (List.Mem.tail _ (List.Mem.tail _ (List.Mem.head _))) ?_
  refine am_iastore dX2_marry_64 (Or.inl (by decide)) rfl o3 o4 ?_
  refine am_aload_n dX2_marry_65 (List.Mem.head _) ?_
  refine am_dup dX2_marry_66 rfl ?_
  refine am_getf (f := 19) (v := .inl (w.1 5 0 19)) dX2_marry_67 hc_5 (by decide) wd_342 (by decide) rfl rfl ?_
  refine am_iconst dX2_marry_70 (by unfold am_rg; omega) ?_
  refine am_iadd dX2_marry_71 ?_
  refine am_putf (f := 19) dX2_marry_72 hc_5 (by decide) wd_342 rfl (Or.inl rfl) (Or.inl (by decide)) rfl ?_
  refine am_aload_n dX2_marry_75 (List.Mem.head _) ?_
  refine am_getf (f := 19) (v := .inl ((am_up w.1 5 0 19 (am_w ((w.1 5 0 19) + 1))) 5 0 19)) dX2_marry_76 hc_5 (by decide) wd_342 (by decide) rfl rfl ?_
  refine am_iconst dX2_marry_79 (by unfold am_rg; omega) ?_
  refine am_isub dX2_marry_80 ?_
  exact am_ret (r := some (.inl (am_w (((am_up w.1 5 0 19 (am_w ((w.1 5 0 19) + 1))) 5 0 19) - 1)))) dX2_marry_81 (Or.inl rfl) rfl h
-- MourningHouse$Family.nextWedding(III)I
theorem dX2_nextWedding_0 : decode mX2_nextWedding.2.1 0 = .ok (.ldc 83, 2) := by decide +kernel
theorem dX2_nextWedding_2 : decode mX2_nextWedding.2.1 2 = .ok (.istore 4, 2) := by decide +kernel
theorem dX2_nextWedding_4 : decode mX2_nextWedding.2.1 4 = .ok (.iconst 0, 1) := by decide +kernel
theorem dX2_nextWedding_5 : decode mX2_nextWedding.2.1 5 = .ok (.istore 5, 2) := by decide +kernel
theorem dX2_nextWedding_7 : decode mX2_nextWedding.2.1 7 = .ok (.iload 5, 2) := by decide +kernel
theorem dX2_nextWedding_9 : decode mX2_nextWedding.2.1 9 = .ok (.aload_n 0, 1) := by decide +kernel
theorem dX2_nextWedding_10 : decode mX2_nextWedding.2.1 10 = .ok (.getfield 72, 3) := by decide +kernel
theorem dX2_nextWedding_13 : decode mX2_nextWedding.2.1 13 = .ok (.if_icmp .ge 86, 3) := by decide +kernel
theorem dX2_nextWedding_16 : decode mX2_nextWedding.2.1 16 = .ok (.aload_n 0, 1) := by decide +kernel
theorem dX2_nextWedding_17 : decode mX2_nextWedding.2.1 17 = .ok (.getfield 46, 3) := by decide +kernel
theorem dX2_nextWedding_20 : decode mX2_nextWedding.2.1 20 = .ok (.iload 5, 2) := by decide +kernel
theorem dX2_nextWedding_22 : decode mX2_nextWedding.2.1 22 = .ok (.iaload, 1) := by decide +kernel
theorem dX2_nextWedding_23 : decode mX2_nextWedding.2.1 23 = .ok (.iload_n 1, 1) := by decide +kernel
theorem dX2_nextWedding_24 : decode mX2_nextWedding.2.1 24 = .ok (.if_icmp .eq 14, 3) := by decide +kernel
theorem dX2_nextWedding_27 : decode mX2_nextWedding.2.1 27 = .ok (.aload_n 0, 1) := by decide +kernel
theorem dX2_nextWedding_28 : decode mX2_nextWedding.2.1 28 = .ok (.getfield 49, 3) := by decide +kernel
theorem dX2_nextWedding_31 : decode mX2_nextWedding.2.1 31 = .ok (.iload 5, 2) := by decide +kernel
theorem dX2_nextWedding_33 : decode mX2_nextWedding.2.1 33 = .ok (.iaload, 1) := by decide +kernel
theorem dX2_nextWedding_34 : decode mX2_nextWedding.2.1 34 = .ok (.iload_n 1, 1) := by decide +kernel
theorem dX2_nextWedding_35 : decode mX2_nextWedding.2.1 35 = .ok (.if_icmp .ne 7, 3) := by decide +kernel
theorem dX2_nextWedding_38 : decode mX2_nextWedding.2.1 38 = .ok (.iconst 1, 1) := by decide +kernel
theorem dX2_nextWedding_39 : decode mX2_nextWedding.2.1 39 = .ok (.goto 4, 3) := by decide +kernel
theorem dX2_nextWedding_42 : decode mX2_nextWedding.2.1 42 = .ok (.iconst 0, 1) := by decide +kernel
theorem dX2_nextWedding_43 : decode mX2_nextWedding.2.1 43 = .ok (.istore 6, 2) := by decide +kernel
theorem dX2_nextWedding_45 : decode mX2_nextWedding.2.1 45 = .ok (.iload 6, 2) := by decide +kernel
theorem dX2_nextWedding_47 : decode mX2_nextWedding.2.1 47 = .ok (.ifCond .eq 46, 3) := by decide +kernel
theorem dX2_nextWedding_50 : decode mX2_nextWedding.2.1 50 = .ok (.aload_n 0, 1) := by decide +kernel
theorem dX2_nextWedding_51 : decode mX2_nextWedding.2.1 51 = .ok (.getfield 55, 3) := by decide +kernel
theorem dX2_nextWedding_54 : decode mX2_nextWedding.2.1 54 = .ok (.iload 5, 2) := by decide +kernel
theorem dX2_nextWedding_56 : decode mX2_nextWedding.2.1 56 = .ok (.iaload, 1) := by decide +kernel
theorem dX2_nextWedding_57 : decode mX2_nextWedding.2.1 57 = .ok (.iload_n 3, 1) := by decide +kernel
theorem dX2_nextWedding_58 : decode mX2_nextWedding.2.1 58 = .ok (.if_icmp .gt 35, 3) := by decide +kernel
theorem dX2_nextWedding_61 : decode mX2_nextWedding.2.1 61 = .ok (.aload_n 0, 1) := by decide +kernel
theorem dX2_nextWedding_62 : decode mX2_nextWedding.2.1 62 = .ok (.getfield 52, 3) := by decide +kernel
theorem dX2_nextWedding_65 : decode mX2_nextWedding.2.1 65 = .ok (.iload 5, 2) := by decide +kernel
theorem dX2_nextWedding_67 : decode mX2_nextWedding.2.1 67 = .ok (.iaload, 1) := by decide +kernel
theorem dX2_nextWedding_68 : decode mX2_nextWedding.2.1 68 = .ok (.iload_n 2, 1) := by decide +kernel
theorem dX2_nextWedding_69 : decode mX2_nextWedding.2.1 69 = .ok (.if_icmp .le 24, 3) := by decide +kernel
theorem dX2_nextWedding_72 : decode mX2_nextWedding.2.1 72 = .ok (.aload_n 0, 1) := by decide +kernel
theorem dX2_nextWedding_73 : decode mX2_nextWedding.2.1 73 = .ok (.getfield 52, 3) := by decide +kernel
theorem dX2_nextWedding_76 : decode mX2_nextWedding.2.1 76 = .ok (.iload 5, 2) := by decide +kernel
theorem dX2_nextWedding_78 : decode mX2_nextWedding.2.1 78 = .ok (.iaload, 1) := by decide +kernel
theorem dX2_nextWedding_79 : decode mX2_nextWedding.2.1 79 = .ok (.iload 4, 2) := by decide +kernel
theorem dX2_nextWedding_81 : decode mX2_nextWedding.2.1 81 = .ok (.if_icmp .ge 12, 3) := by decide +kernel
theorem dX2_nextWedding_84 : decode mX2_nextWedding.2.1 84 = .ok (.aload_n 0, 1) := by decide +kernel
theorem dX2_nextWedding_85 : decode mX2_nextWedding.2.1 85 = .ok (.getfield 52, 3) := by decide +kernel
theorem dX2_nextWedding_88 : decode mX2_nextWedding.2.1 88 = .ok (.iload 5, 2) := by decide +kernel
theorem dX2_nextWedding_90 : decode mX2_nextWedding.2.1 90 = .ok (.iaload, 1) := by decide +kernel
theorem dX2_nextWedding_91 : decode mX2_nextWedding.2.1 91 = .ok (.istore 4, 2) := by decide +kernel
theorem dX2_nextWedding_93 : decode mX2_nextWedding.2.1 93 = .ok (.iinc 5 1, 3) := by decide +kernel
theorem dX2_nextWedding_96 : decode mX2_nextWedding.2.1 96 = .ok (.goto (-89), 3) := by decide +kernel
theorem dX2_nextWedding_99 : decode mX2_nextWedding.2.1 99 = .ok (.iload 4, 2) := by decide +kernel
theorem dX2_nextWedding_101 : decode mX2_nextWedding.2.1 101 = .ok (.ireturn, 1) := by decide +kernel
theorem bX2_nextWedding_0 {SC : Nat → Nat} {X : mh_X} {d : Nat} {Q : Option am_V → am_W → Prop} {bc bs : Nat} {w : am_W} {x1 : Int} {x2 : Int} {x3 : Int}
    (h : am_A (mh_G X) SC (d + 1) mX2_nextWedding Q 7 [(0, .inr (.inr (some (5, 0)))), (1, .inl x1), (2, .inl x2), (3, .inl x3), (4, .inl 2147483647), (5, .inl 0)] [] w bc bs) :
    am_A (mh_G X) SC (d + 1) mX2_nextWedding Q 0 [(0, .inr (.inr (some (5, 0)))), (1, .inl x1), (2, .inl x2), (3, .inl x3)] [] w bc bs := by
  refine am_ldcV (n := 2147483647) dX2_nextWedding_0 (by decide) wd_1089 (by unfold am_rg; omega) ?_
  refine am_istore (ls' := [(4, .inl 2147483647), (0, .inr (.inr (some (5, 0)))), (1, .inl x1), (2, .inl x2), (3, .inl x3)]) dX2_nextWedding_2 (by decide) rfl ?_
  refine am_iconst dX2_nextWedding_4 (by unfold am_rg; omega) ?_
  refine am_istore (ls' := [(5, .inl 0), (4, .inl 2147483647), (0, .inr (.inr (some (5, 0)))), (1, .inl x1), (2, .inl x2), (3, .inl x3)]) dX2_nextWedding_5 (by decide) rfl ?_
  exact am_sub [2, 3, 4, 5, 1, 0] rfl h
theorem bX2_nextWedding_7 {SC : Nat → Nat} {X : mh_X} {d : Nat} {Q : Option am_V → am_W → Prop} {bc bs : Nat} {w : am_W} {x1 : Int} {x2 : Int} {x3 : Int} {x4 : Int} {x5 : Int}
    (h : (((w.1 5 0 19) ≤ x5 → Q (some (.inl x4)) w) ∧ (¬ (w.1 5 0 19) ≤ x5 → (0 ≤ x5 ∧ (x5 < 40 ∧ (((w.1 44 0 x5.toNat) = x1 → am_A (mh_G X) SC (d + 1) mX2_nextWedding Q 38 [(0, .inr (.inr (some (5, 0)))), (1, .inl x1), (2, .inl x2), (3, .inl x3), (4, .inl x4), (5, .inl x5)] [] w bc bs) ∧ (¬ (w.1 44 0 x5.toNat) = x1 → ((¬ (w.1 45 0 x5.toNat) = x1 → am_A (mh_G X) SC (d + 1) mX2_nextWedding Q 43 [(0, .inr (.inr (some (5, 0)))), (1, .inl x1), (2, .inl x2), (3, .inl x3), (4, .inl x4), (5, .inl x5)] [.inl 0] w bc bs) ∧ ((w.1 45 0 x5.toNat) = x1 → am_A (mh_G X) SC (d + 1) mX2_nextWedding Q 38 [(0, .inr (.inr (some (5, 0)))), (1, .inl x1), (2, .inl x2), (3, .inl x3), (4, .inl x4), (5, .inl x5)] [] w bc bs))))))))) :
    am_A (mh_G X) SC (d + 1) mX2_nextWedding Q 7 [(0, .inr (.inr (some (5, 0)))), (1, .inl x1), (2, .inl x2), (3, .inl x3), (4, .inl x4), (5, .inl x5)] [] w bc bs := by
  refine am_iload dX2_nextWedding_7 (List.Mem.tail _ (List.Mem.tail _ (List.Mem.tail _ (List.Mem.tail _ (List.Mem.tail _ (List.Mem.head _)))))) ?_
  refine am_aload_n dX2_nextWedding_9 (List.Mem.head _) ?_
  refine am_getf (f := 19) (v := .inl (w.1 5 0 19)) dX2_nextWedding_10 hc_5 (by decide) wd_342 (by decide) rfl rfl ?_
  refine am_icmpge (tgt := 99) dX2_nextWedding_13 (by decide) (fun c1 => ?_) (fun c1 => ?_)
  · replace h := h.1 c1
    refine am_iload dX2_nextWedding_99 (List.Mem.tail _ (List.Mem.tail _ (List.Mem.tail _ (List.Mem.tail _ (List.Mem.head _))))) ?_
    exact am_ret (r := some (.inl x4)) dX2_nextWedding_101 (Or.inl rfl) rfl h
  · replace h := h.2 c1
    refine am_aload_n dX2_nextWedding_16 (List.Mem.head _) ?_
    refine am_getf (f := 11) (v := .inr (.inr (some (44, 0)))) dX2_nextWedding_17 hc_5 (by decide) wd_332 (by decide) rfl rfl ?_
    refine am_iload dX2_nextWedding_20 (List.Mem.tail _ (List.Mem.tail _ (List.Mem.tail _ (List.Mem.tail _ (List.Mem.tail _ (List.Mem.head _)))))) ?_
    have o2 := h.1
    replace h := h.2
    have o3 := h.1
    replace h := h.2
    refine am_iaload (v := (w.1 44 0 x5.toNat)) dX2_nextWedding_22 (by decide) rfl o2 o3 rfl ?_
    refine am_iload_n dX2_nextWedding_23 (List.Mem.tail _ (List.Mem.head _)) ?_
    refine am_icmpeq (tgt := 38) dX2_nextWedding_24 (by decide) (fun c4 => ?_) (fun c4 => ?_)
    · replace h := h.1 c4
      exact h
    · replace h := h.2 c4
      refine am_aload_n dX2_nextWedding_27 (List.Mem.head _) ?_
      refine am_getf (f := 12) (v := .inr (.inr (some (45, 0)))) dX2_nextWedding_28 hc_5 (by decide) wd_333 (by decide) rfl rfl ?_
      refine am_iload dX2_nextWedding_31 (List.Mem.tail _ (List.Mem.tail _ (List.Mem.tail _ (List.Mem.tail _ (List.Mem.tail _ (List.Mem.head _)))))) ?_
      refine am_iaload (v := (w.1 45 0 x5.toNat)) dX2_nextWedding_33 (by decide) rfl o2 o3 rfl ?_
      refine am_iload_n dX2_nextWedding_34 (List.Mem.tail _ (List.Mem.head _)) ?_
      refine am_icmpne (tgt := 42) dX2_nextWedding_35 (by decide) (fun c5 => ?_) (fun c5 => ?_)
      · replace h := h.1 c5
        refine am_iconst dX2_nextWedding_42 (by unfold am_rg; omega) ?_
        exact h
      · replace h := h.2 c5
        exact h
theorem bX2_nextWedding_38 {SC : Nat → Nat} {X : mh_X} {d : Nat} {Q : Option am_V → am_W → Prop} {bc bs : Nat} {w : am_W} {x1 : Int} {x2 : Int} {x3 : Int} {x4 : Int} {x5 : Int}
    (h : am_A (mh_G X) SC (d + 1) mX2_nextWedding Q 43 [(0, .inr (.inr (some (5, 0)))), (1, .inl x1), (2, .inl x2), (3, .inl x3), (4, .inl x4), (5, .inl x5)] [.inl 1] w bc bs) :
    am_A (mh_G X) SC (d + 1) mX2_nextWedding Q 38 [(0, .inr (.inr (some (5, 0)))), (1, .inl x1), (2, .inl x2), (3, .inl x3), (4, .inl x4), (5, .inl x5)] [] w bc bs := by
  refine am_iconst dX2_nextWedding_38 (by unfold am_rg; omega) ?_
  refine am_goto (tgt := 43) dX2_nextWedding_39 (by decide) ?_
  exact h
theorem bX2_nextWedding_43 {SC : Nat → Nat} {X : mh_X} {d : Nat} {Q : Option am_V → am_W → Prop} {bc bs : Nat} {w : am_W} {x1 : Int} {x2 : Int} {x3 : Int} {x4 : Int} {x5 : Int} {xs0 : Int}
    (h : ((xs0 = 0 → am_A (mh_G X) SC (d + 1) mX2_nextWedding Q 93 [(0, .inr (.inr (some (5, 0)))), (1, .inl x1), (2, .inl x2), (3, .inl x3), (4, .inl x4), (5, .inl x5)] [] w bc bs) ∧ (¬ xs0 = 0 → (0 ≤ x5 ∧ (x5 < 40 ∧ ((x3 < (w.1 47 0 x5.toNat) → am_A (mh_G X) SC (d + 1) mX2_nextWedding Q 93 [(0, .inr (.inr (some (5, 0)))), (1, .inl x1), (2, .inl x2), (3, .inl x3), (4, .inl x4), (5, .inl x5)] [] w bc bs) ∧ (¬ x3 < (w.1 47 0 x5.toNat) → (((w.1 46 0 x5.toNat) ≤ x2 → am_A (mh_G X) SC (d + 1) mX2_nextWedding Q 93 [(0, .inr (.inr (some (5, 0)))), (1, .inl x1), (2, .inl x2), (3, .inl x3), (4, .inl x4), (5, .inl x5)] [] w bc bs) ∧ (¬ (w.1 46 0 x5.toNat) ≤ x2 → ((x4 ≤ (w.1 46 0 x5.toNat) → am_A (mh_G X) SC (d + 1) mX2_nextWedding Q 93 [(0, .inr (.inr (some (5, 0)))), (1, .inl x1), (2, .inl x2), (3, .inl x3), (4, .inl x4), (5, .inl x5)] [] w bc bs) ∧ (¬ x4 ≤ (w.1 46 0 x5.toNat) → am_A (mh_G X) SC (d + 1) mX2_nextWedding Q 93 [(0, .inr (.inr (some (5, 0)))), (1, .inl x1), (2, .inl x2), (3, .inl x3), (4, .inl (w.1 46 0 x5.toNat)), (5, .inl x5)] [] w bc bs))))))))))) :
    am_A (mh_G X) SC (d + 1) mX2_nextWedding Q 43 [(0, .inr (.inr (some (5, 0)))), (1, .inl x1), (2, .inl x2), (3, .inl x3), (4, .inl x4), (5, .inl x5)] [.inl xs0] w bc bs := by
  refine am_istore (ls' := [(6, .inl xs0), (0, .inr (.inr (some (5, 0)))), (1, .inl x1), (2, .inl x2), (3, .inl x3), (4, .inl x4), (5, .inl x5)]) dX2_nextWedding_43 (by decide) rfl ?_
  refine am_iload dX2_nextWedding_45 (List.Mem.head _) ?_
  refine am_ifeq (tgt := 93) dX2_nextWedding_47 (by decide) (fun c1 => ?_) (fun c1 => ?_)
  · replace h := h.1 c1
    exact am_sub [1, 2, 3, 4, 5, 6] rfl h
  · replace h := h.2 c1
    refine am_aload_n dX2_nextWedding_50 (List.Mem.tail _ (List.Mem.head _)) ?_
    refine am_getf (f := 14) (v := .inr (.inr (some (47, 0)))) dX2_nextWedding_51 hc_5 (by decide) wd_335 (by decide) rfl rfl ?_
    refine am_iload dX2_nextWedding_54 (List.Mem.tail _ (List.Mem.tail _ (List.Mem.tail _ (List.Mem.tail _ (List.Mem.tail _ (List.Mem.tail _ (List.Mem.head _))))))) ?_
    have o2 := h.1
    replace h := h.2
    have o3 := h.1
    replace h := h.2
    refine am_iaload (v := (w.1 47 0 x5.toNat)) dX2_nextWedding_56 (by decide) rfl o2 o3 rfl ?_
    refine am_iload_n dX2_nextWedding_57 (List.Mem.tail _ (List.Mem.tail _ (List.Mem.tail _ (List.Mem.tail _ (List.Mem.head _))))) ?_
    refine am_icmpgt (tgt := 93) dX2_nextWedding_58 (by decide) (fun c4 => ?_) (fun c4 => ?_)
    · replace h := h.1 c4
      exact am_sub [1, 2, 3, 4, 5, 6] rfl h
    · replace h := h.2 c4
      refine am_aload_n dX2_nextWedding_61 (List.Mem.tail _ (List.Mem.head _)) ?_
      refine am_getf (f := 13) (v := .inr (.inr (some (46, 0)))) dX2_nextWedding_62 hc_5 (by decide) wd_334 (by decide) rfl rfl ?_
      refine am_iload dX2_nextWedding_65 (List.Mem.tail _ (List.Mem.tail _ (List.Mem.tail _ (List.Mem.tail _ (List.Mem.tail _ (List.Mem.tail _ (List.Mem.head _))))))) ?_
      refine am_iaload (v := (w.1 46 0 x5.toNat)) dX2_nextWedding_67 (by decide) rfl o2 o3 rfl ?_
      refine am_iload_n dX2_nextWedding_68 (List.Mem.tail _ (List.Mem.tail _ (List.Mem.tail _ (List.Mem.head _)))) ?_
      refine am_icmple (tgt := 93) dX2_nextWedding_69 (by decide) (fun c5 => ?_) (fun c5 => ?_)
      · replace h := h.1 c5
        exact am_sub [1, 2, 3, 4, 5, 6] rfl h
      · replace h := h.2 c5
        refine am_aload_n dX2_nextWedding_72 (List.Mem.tail _ (List.Mem.head _)) ?_
        refine am_getf (f := 13) (v := .inr (.inr (some (46, 0)))) dX2_nextWedding_73 hc_5 (by decide) wd_334 (by decide) rfl rfl ?_
        refine am_iload dX2_nextWedding_76 (List.Mem.tail _ (List.Mem.tail _ (List.Mem.tail _ (List.Mem.tail _ (List.Mem.tail _ (List.Mem.tail _ (List.Mem.head _))))))) ?_
        refine am_iaload (v := (w.1 46 0 x5.toNat)) dX2_nextWedding_78 (by decide) rfl o2 o3 rfl ?_
        refine am_iload dX2_nextWedding_79 (List.Mem.tail _ (List.Mem.tail _ (List.Mem.tail _ (List.Mem.tail _ (List.Mem.tail _ (List.Mem.head _)))))) ?_
        refine am_icmpge (tgt := 93) dX2_nextWedding_81 (by decide) (fun c6 => ?_) (fun c6 => ?_)
        · replace h := h.1 c6
          exact am_sub [1, 2, 3, 4, 5, 6] rfl h
        · replace h := h.2 c6
          refine am_aload_n dX2_nextWedding_84 (List.Mem.tail _ (List.Mem.head _)) ?_
          refine am_getf (f := 13) (v := .inr (.inr (some (46, 0)))) dX2_nextWedding_85 hc_5 (by decide) wd_334 (by decide) rfl rfl ?_
          refine am_iload dX2_nextWedding_88 (List.Mem.tail _ (List.Mem.tail _ (List.Mem.tail _ (List.Mem.tail _ (List.Mem.tail _ (List.Mem.tail _ (List.Mem.head _))))))) ?_
          refine am_iaload (v := (w.1 46 0 x5.toNat)) dX2_nextWedding_90 (by decide) rfl o2 o3 rfl ?_
          refine am_istore (ls' := [(4, .inl (w.1 46 0 x5.toNat)), (6, .inl xs0), (0, .inr (.inr (some (5, 0)))), (1, .inl x1), (2, .inl x2), (3, .inl x3), (5, .inl x5)]) dX2_nextWedding_91 (by decide) rfl ?_
          exact am_sub [2, 3, 4, 5, 0, 6] rfl h
theorem bX2_nextWedding_93 {SC : Nat → Nat} {X : mh_X} {d : Nat} {Q : Option am_V → am_W → Prop} {bc bs : Nat} {w : am_W} {x1 : Int} {x2 : Int} {x3 : Int} {x4 : Int} {x5 : Int}
    (h : am_A (mh_G X) SC (d + 1) mX2_nextWedding Q 7 [(0, .inr (.inr (some (5, 0)))), (1, .inl x1), (2, .inl x2), (3, .inl x3), (4, .inl x4), (5, .inl (am_w (x5 + 1)))] [] w bc bs) :
    am_A (mh_G X) SC (d + 1) mX2_nextWedding Q 93 [(0, .inr (.inr (some (5, 0)))), (1, .inl x1), (2, .inl x2), (3, .inl x3), (4, .inl x4), (5, .inl x5)] [] w bc bs := by
  refine am_iinc (ls' := [(5, .inl (am_w (x5 + 1))), (0, .inr (.inr (some (5, 0)))), (1, .inl x1), (2, .inl x2), (3, .inl x3), (4, .inl x4)]) dX2_nextWedding_93 (List.Mem.tail _ (List.Mem.tail _ (List.Mem.tail _ (List.Mem.tail _ (List.Mem.tail _ (List.Mem.head _)))))) (by decide) rfl ?_
  refine am_goto (tgt := 7) dX2_nextWedding_96 (by decide) ?_
  exact am_sub [1, 2, 3, 4, 5, 0] rfl h
-- MourningHouse$Family.hasChildBorn(IIII)Z
theorem dX2_hasChildBorn_0 : decode mX2_hasChildBorn.2.1 0 = .ok (.iconst 0, 1) := by decide +kernel
theorem dX2_hasChildBorn_1 : decode mX2_hasChildBorn.2.1 1 = .ok (.istore 5, 2) := by decide +kernel
theorem dX2_hasChildBorn_3 : decode mX2_hasChildBorn.2.1 3 = .ok (.iload 5, 2) := by decide +kernel
theorem dX2_hasChildBorn_5 : decode mX2_hasChildBorn.2.1 5 = .ok (.aload_n 0, 1) := by decide +kernel
theorem dX2_hasChildBorn_6 : decode mX2_hasChildBorn.2.1 6 = .ok (.getfield 68, 3) := by decide +kernel
theorem dX2_hasChildBorn_9 : decode mX2_hasChildBorn.2.1 9 = .ok (.if_icmp .ge 73, 3) := by decide +kernel
theorem dX2_hasChildBorn_12 : decode mX2_hasChildBorn.2.1 12 = .ok (.aload_n 0, 1) := by decide +kernel
theorem dX2_hasChildBorn_13 : decode mX2_hasChildBorn.2.1 13 = .ok (.getfield 40, 3) := by decide +kernel
theorem dX2_hasChildBorn_16 : decode mX2_hasChildBorn.2.1 16 = .ok (.iload_n 1, 1) := by decide +kernel
theorem dX2_hasChildBorn_17 : decode mX2_hasChildBorn.2.1 17 = .ok (.laload, 1) := by decide +kernel
theorem dX2_hasChildBorn_18 : decode mX2_hasChildBorn.2.1 18 = .ok (.iload 5, 2) := by decide +kernel
theorem dX2_hasChildBorn_20 : decode mX2_hasChildBorn.2.1 20 = .ok (.lshr, 1) := by decide +kernel
theorem dX2_hasChildBorn_21 : decode mX2_hasChildBorn.2.1 21 = .ok (.lconst 1, 1) := by decide +kernel
theorem dX2_hasChildBorn_22 : decode mX2_hasChildBorn.2.1 22 = .ok (.land, 1) := by decide +kernel
theorem dX2_hasChildBorn_23 : decode mX2_hasChildBorn.2.1 23 = .ok (.lconst 0, 1) := by decide +kernel
theorem dX2_hasChildBorn_24 : decode mX2_hasChildBorn.2.1 24 = .ok (.lcmp, 1) := by decide +kernel
theorem dX2_hasChildBorn_25 : decode mX2_hasChildBorn.2.1 25 = .ok (.ifCond .eq 7, 3) := by decide +kernel
theorem dX2_hasChildBorn_28 : decode mX2_hasChildBorn.2.1 28 = .ok (.iconst 1, 1) := by decide +kernel
theorem dX2_hasChildBorn_29 : decode mX2_hasChildBorn.2.1 29 = .ok (.goto 4, 3) := by decide +kernel
theorem dX2_hasChildBorn_32 : decode mX2_hasChildBorn.2.1 32 = .ok (.iconst 0, 1) := by decide +kernel
theorem dX2_hasChildBorn_33 : decode mX2_hasChildBorn.2.1 33 = .ok (.istore 6, 2) := by decide +kernel
theorem dX2_hasChildBorn_35 : decode mX2_hasChildBorn.2.1 35 = .ok (.iload 6, 2) := by decide +kernel
theorem dX2_hasChildBorn_37 : decode mX2_hasChildBorn.2.1 37 = .ok (.ifCond .eq 39, 3) := by decide +kernel
theorem dX2_hasChildBorn_40 : decode mX2_hasChildBorn.2.1 40 = .ok (.aload_n 0, 1) := by decide +kernel
theorem dX2_hasChildBorn_41 : decode mX2_hasChildBorn.2.1 41 = .ok (.getfield 27, 3) := by decide +kernel
theorem dX2_hasChildBorn_44 : decode mX2_hasChildBorn.2.1 44 = .ok (.iload 5, 2) := by decide +kernel
theorem dX2_hasChildBorn_46 : decode mX2_hasChildBorn.2.1 46 = .ok (.iaload, 1) := by decide +kernel
theorem dX2_hasChildBorn_47 : decode mX2_hasChildBorn.2.1 47 = .ok (.iload 4, 2) := by decide +kernel
theorem dX2_hasChildBorn_49 : decode mX2_hasChildBorn.2.1 49 = .ok (.if_icmp .gt 27, 3) := by decide +kernel
theorem dX2_hasChildBorn_52 : decode mX2_hasChildBorn.2.1 52 = .ok (.aload_n 0, 1) := by decide +kernel
theorem dX2_hasChildBorn_53 : decode mX2_hasChildBorn.2.1 53 = .ok (.getfield 24, 3) := by decide +kernel
theorem dX2_hasChildBorn_56 : decode mX2_hasChildBorn.2.1 56 = .ok (.iload 5, 2) := by decide +kernel
theorem dX2_hasChildBorn_58 : decode mX2_hasChildBorn.2.1 58 = .ok (.iaload, 1) := by decide +kernel
theorem dX2_hasChildBorn_59 : decode mX2_hasChildBorn.2.1 59 = .ok (.iload_n 2, 1) := by decide +kernel
theorem dX2_hasChildBorn_60 : decode mX2_hasChildBorn.2.1 60 = .ok (.if_icmp .lt 16, 3) := by decide +kernel
theorem dX2_hasChildBorn_63 : decode mX2_hasChildBorn.2.1 63 = .ok (.aload_n 0, 1) := by decide +kernel
theorem dX2_hasChildBorn_64 : decode mX2_hasChildBorn.2.1 64 = .ok (.getfield 24, 3) := by decide +kernel
theorem dX2_hasChildBorn_67 : decode mX2_hasChildBorn.2.1 67 = .ok (.iload 5, 2) := by decide +kernel
theorem dX2_hasChildBorn_69 : decode mX2_hasChildBorn.2.1 69 = .ok (.iaload, 1) := by decide +kernel
theorem dX2_hasChildBorn_70 : decode mX2_hasChildBorn.2.1 70 = .ok (.iload_n 3, 1) := by decide +kernel
theorem dX2_hasChildBorn_71 : decode mX2_hasChildBorn.2.1 71 = .ok (.if_icmp .gt 5, 3) := by decide +kernel
theorem dX2_hasChildBorn_74 : decode mX2_hasChildBorn.2.1 74 = .ok (.iconst 1, 1) := by decide +kernel
theorem dX2_hasChildBorn_75 : decode mX2_hasChildBorn.2.1 75 = .ok (.ireturn, 1) := by decide +kernel
theorem dX2_hasChildBorn_76 : decode mX2_hasChildBorn.2.1 76 = .ok (.iinc 5 1, 3) := by decide +kernel
theorem dX2_hasChildBorn_79 : decode mX2_hasChildBorn.2.1 79 = .ok (.goto (-76), 3) := by decide +kernel
theorem dX2_hasChildBorn_82 : decode mX2_hasChildBorn.2.1 82 = .ok (.iconst 0, 1) := by decide +kernel
theorem dX2_hasChildBorn_83 : decode mX2_hasChildBorn.2.1 83 = .ok (.ireturn, 1) := by decide +kernel
theorem bX2_hasChildBorn_0 {SC : Nat → Nat} {X : mh_X} {d : Nat} {Q : Option am_V → am_W → Prop} {bc bs : Nat} {w : am_W} {x1 : Int} {x2 : Int} {x3 : Int} {x4 : Int}
    (h : am_A (mh_G X) SC (d + 1) mX2_hasChildBorn Q 3 [(0, .inr (.inr (some (5, 0)))), (1, .inl x1), (2, .inl x2), (3, .inl x3), (4, .inl x4), (5, .inl 0)] [] w bc bs) :
    am_A (mh_G X) SC (d + 1) mX2_hasChildBorn Q 0 [(0, .inr (.inr (some (5, 0)))), (1, .inl x1), (2, .inl x2), (3, .inl x3), (4, .inl x4)] [] w bc bs := by
  refine am_iconst dX2_hasChildBorn_0 (by unfold am_rg; omega) ?_
  refine am_istore (ls' := [(5, .inl 0), (0, .inr (.inr (some (5, 0)))), (1, .inl x1), (2, .inl x2), (3, .inl x3), (4, .inl x4)]) dX2_hasChildBorn_1 (by decide) rfl ?_
  exact am_sub [1, 2, 3, 4, 5, 0] rfl h
theorem bX2_hasChildBorn_3 {SC : Nat → Nat} {X : mh_X} {d : Nat} {Q : Option am_V → am_W → Prop} {bc bs : Nat} {w : am_W} {x1 : Int} {x2 : Int} {x3 : Int} {x4 : Int} {x5 : Int}
    (h : (((w.1 5 0 18) ≤ x5 → Q (some (.inl 0)) w) ∧ (¬ (w.1 5 0 18) ≤ x5 → (0 ≤ x1 ∧ (x1 < 40 ∧ (((am_lcmpv (((w.2.1 42 0 x1.toNat) >>> ((Int32.ofInt x5).toInt64 &&& 63)) &&& (1 : Int64)) (0 : Int64)) = 0 → am_A (mh_G X) SC (d + 1) mX2_hasChildBorn Q 33 [(0, .inr (.inr (some (5, 0)))), (1, .inl x1), (2, .inl x2), (3, .inl x3), (4, .inl x4), (5, .inl x5)] [.inl 0] w bc bs) ∧ (¬ (am_lcmpv (((w.2.1 42 0 x1.toNat) >>> ((Int32.ofInt x5).toInt64 &&& 63)) &&& (1 : Int64)) (0 : Int64)) = 0 → am_A (mh_G X) SC (d + 1) mX2_hasChildBorn Q 33 [(0, .inr (.inr (some (5, 0)))), (1, .inl x1), (2, .inl x2), (3, .inl x3), (4, .inl x4), (5, .inl x5)] [.inl 1] w bc bs))))))) :
    am_A (mh_G X) SC (d + 1) mX2_hasChildBorn Q 3 [(0, .inr (.inr (some (5, 0)))), (1, .inl x1), (2, .inl x2), (3, .inl x3), (4, .inl x4), (5, .inl x5)] [] w bc bs := by
  refine am_iload dX2_hasChildBorn_3 (List.Mem.tail _ (List.Mem.tail _ (List.Mem.tail _ (List.Mem.tail _ (List.Mem.tail _ (List.Mem.head _)))))) ?_
  refine am_aload_n dX2_hasChildBorn_5 (List.Mem.head _) ?_
  refine am_getf (f := 18) (v := .inl (w.1 5 0 18)) dX2_hasChildBorn_6 hc_5 (by decide) wd_339 (by decide) rfl rfl ?_
  refine am_icmpge (tgt := 82) dX2_hasChildBorn_9 (by decide) (fun c1 => ?_) (fun c1 => ?_)
  · replace h := h.1 c1
    refine am_iconst dX2_hasChildBorn_82 (by unfold am_rg; omega) ?_
    exact am_ret (r := some (.inl 0)) dX2_hasChildBorn_83 (Or.inr (Or.inl ⟨rfl, (Or.inl rfl)⟩)) rfl h
  · replace h := h.2 c1
    refine am_aload_n dX2_hasChildBorn_12 (List.Mem.head _) ?_
    refine am_getf (f := 9) (v := .inr (.inr (some (42, 0)))) dX2_hasChildBorn_13 hc_5 (by decide) wd_330 (by decide) rfl rfl ?_
    refine am_iload_n dX2_hasChildBorn_16 (List.Mem.tail _ (List.Mem.head _)) ?_
    have o2 := h.1
    replace h := h.2
    have o3 := h.1
    replace h := h.2
    refine am_laload (x := (w.2.1 42 0 x1.toNat)) dX2_hasChildBorn_17 (by decide) rfl o2 o3 rfl ?_
    refine am_iload dX2_hasChildBorn_18 (List.Mem.tail _ (List.Mem.tail _ (List.Mem.tail _ (List.Mem.tail _ (List.Mem.tail _ (List.Mem.head _)))))) ?_
    refine am_lshr dX2_hasChildBorn_20 ?_
    refine am_lconst (x := 1) dX2_hasChildBorn_21 rfl ?_
    refine am_land dX2_hasChildBorn_22 ?_
    refine am_lconst (x := 0) dX2_hasChildBorn_23 rfl ?_
    refine am_lcmp dX2_hasChildBorn_24 ?_
    refine am_ifeq (tgt := 32) dX2_hasChildBorn_25 (by decide) (fun c4 => ?_) (fun c4 => ?_)
    · replace h := h.1 c4
      refine am_iconst dX2_hasChildBorn_32 (by unfold am_rg; omega) ?_
      exact h
    · replace h := h.2 c4
      refine am_iconst dX2_hasChildBorn_28 (by unfold am_rg; omega) ?_
      refine am_goto (tgt := 33) dX2_hasChildBorn_29 (by decide) ?_
      exact h
theorem bX2_hasChildBorn_33 {SC : Nat → Nat} {X : mh_X} {d : Nat} {Q : Option am_V → am_W → Prop} {bc bs : Nat} {w : am_W} {x1 : Int} {x2 : Int} {x3 : Int} {x4 : Int} {x5 : Int} {xs0 : Int}
    (h : ((xs0 = 0 → am_A (mh_G X) SC (d + 1) mX2_hasChildBorn Q 76 [(0, .inr (.inr (some (5, 0)))), (1, .inl x1), (2, .inl x2), (3, .inl x3), (4, .inl x4), (5, .inl x5)] [] w bc bs) ∧ (¬ xs0 = 0 → (0 ≤ x5 ∧ (x5 < 40 ∧ ((x4 < (w.1 38 0 x5.toNat) → am_A (mh_G X) SC (d + 1) mX2_hasChildBorn Q 76 [(0, .inr (.inr (some (5, 0)))), (1, .inl x1), (2, .inl x2), (3, .inl x3), (4, .inl x4), (5, .inl x5)] [] w bc bs) ∧ (¬ x4 < (w.1 38 0 x5.toNat) → (((w.1 37 0 x5.toNat) < x2 → am_A (mh_G X) SC (d + 1) mX2_hasChildBorn Q 76 [(0, .inr (.inr (some (5, 0)))), (1, .inl x1), (2, .inl x2), (3, .inl x3), (4, .inl x4), (5, .inl x5)] [] w bc bs) ∧ (¬ (w.1 37 0 x5.toNat) < x2 → ((x3 < (w.1 37 0 x5.toNat) → am_A (mh_G X) SC (d + 1) mX2_hasChildBorn Q 76 [(0, .inr (.inr (some (5, 0)))), (1, .inl x1), (2, .inl x2), (3, .inl x3), (4, .inl x4), (5, .inl x5)] [] w bc bs) ∧ (¬ x3 < (w.1 37 0 x5.toNat) → Q (some (.inl 1)) w))))))))))) :
    am_A (mh_G X) SC (d + 1) mX2_hasChildBorn Q 33 [(0, .inr (.inr (some (5, 0)))), (1, .inl x1), (2, .inl x2), (3, .inl x3), (4, .inl x4), (5, .inl x5)] [.inl xs0] w bc bs := by
  refine am_istore (ls' := [(6, .inl xs0), (0, .inr (.inr (some (5, 0)))), (1, .inl x1), (2, .inl x2), (3, .inl x3), (4, .inl x4), (5, .inl x5)]) dX2_hasChildBorn_33 (by decide) rfl ?_
  refine am_iload dX2_hasChildBorn_35 (List.Mem.head _) ?_
  refine am_ifeq (tgt := 76) dX2_hasChildBorn_37 (by decide) (fun c1 => ?_) (fun c1 => ?_)
  · replace h := h.1 c1
    exact am_sub [1, 2, 3, 4, 5, 6] rfl h
  · replace h := h.2 c1
    refine am_aload_n dX2_hasChildBorn_40 (List.Mem.tail _ (List.Mem.head _)) ?_
    refine am_getf (f := 5) (v := .inr (.inr (some (38, 0)))) dX2_hasChildBorn_41 hc_5 (by decide) wd_323 (by decide) rfl rfl ?_
    refine am_iload dX2_hasChildBorn_44 (List.Mem.tail _ (List.Mem.tail _ (List.Mem.tail _ (List.Mem.tail _ (List.Mem.tail _ (List.Mem.tail _ (List.Mem.head _))))))) ?_
    have o2 := h.1
    replace h := h.2
    have o3 := h.1
    replace h := h.2
    refine am_iaload (v := (w.1 38 0 x5.toNat)) dX2_hasChildBorn_46 (by decide) rfl o2 o3 rfl ?_
    refine am_iload dX2_hasChildBorn_47 (List.Mem.tail _ (List.Mem.tail _ (List.Mem.tail _ (List.Mem.tail _ (List.Mem.tail _ (List.Mem.head _)))))) ?_
    refine am_icmpgt (tgt := 76) dX2_hasChildBorn_49 (by decide) (fun c4 => ?_) (fun c4 => ?_)
    · replace h := h.1 c4
      exact am_sub [1, 2, 3, 4, 5, 6] rfl h
    · replace h := h.2 c4
      refine am_aload_n dX2_hasChildBorn_52 (List.Mem.tail _ (List.Mem.head _)) ?_
      refine am_getf (f := 4) (v := .inr (.inr (some (37, 0)))) dX2_hasChildBorn_53 hc_5 (by decide) wd_320 (by decide) rfl rfl ?_
      refine am_iload dX2_hasChildBorn_56 (List.Mem.tail _ (List.Mem.tail _ (List.Mem.tail _ (List.Mem.tail _ (List.Mem.tail _ (List.Mem.tail _ (List.Mem.head _))))))) ?_
      refine am_iaload (v := (w.1 37 0 x5.toNat)) dX2_hasChildBorn_58 (by decide) rfl o2 o3 rfl ?_
      refine am_iload_n dX2_hasChildBorn_59 (List.Mem.tail _ (List.Mem.tail _ (List.Mem.tail _ (List.Mem.head _)))) ?_
      refine am_icmplt (tgt := 76) dX2_hasChildBorn_60 (by decide) (fun c5 => ?_) (fun c5 => ?_)
      · replace h := h.1 c5
        exact am_sub [1, 2, 3, 4, 5, 6] rfl h
      · replace h := h.2 c5
        refine am_aload_n dX2_hasChildBorn_63 (List.Mem.tail _ (List.Mem.head _)) ?_
        refine am_getf (f := 4) (v := .inr (.inr (some (37, 0)))) dX2_hasChildBorn_64 hc_5 (by decide) wd_320 (by decide) rfl rfl ?_
        refine am_iload dX2_hasChildBorn_67 (List.Mem.tail _ (List.Mem.tail _ (List.Mem.tail _ (List.Mem.tail _ (List.Mem.tail _ (List.Mem.tail _ (List.Mem.head _))))))) ?_
        refine am_iaload (v := (w.1 37 0 x5.toNat)) dX2_hasChildBorn_69 (by decide) rfl o2 o3 rfl ?_
        refine am_iload_n dX2_hasChildBorn_70 (List.Mem.tail _ (List.Mem.tail _ (List.Mem.tail _ (List.Mem.tail _ (List.Mem.head _))))) ?_
        refine am_icmpgt (tgt := 76) dX2_hasChildBorn_71 (by decide) (fun c6 => ?_) (fun c6 => ?_)
        · replace h := h.1 c6
          exact am_sub [1, 2, 3, 4, 5, 6] rfl h
        · replace h := h.2 c6
          refine am_iconst dX2_hasChildBorn_74 (by unfold am_rg; omega) ?_
          exact am_ret (r := some (.inl 1)) dX2_hasChildBorn_75 (Or.inr (Or.inl ⟨rfl, (Or.inr rfl)⟩)) rfl h
theorem bX2_hasChildBorn_76 {SC : Nat → Nat} {X : mh_X} {d : Nat} {Q : Option am_V → am_W → Prop} {bc bs : Nat} {w : am_W} {x1 : Int} {x2 : Int} {x3 : Int} {x4 : Int} {x5 : Int}
    (h : am_A (mh_G X) SC (d + 1) mX2_hasChildBorn Q 3 [(0, .inr (.inr (some (5, 0)))), (1, .inl x1), (2, .inl x2), (3, .inl x3), (4, .inl x4), (5, .inl (am_w (x5 + 1)))] [] w bc bs) :
    am_A (mh_G X) SC (d + 1) mX2_hasChildBorn Q 76 [(0, .inr (.inr (some (5, 0)))), (1, .inl x1), (2, .inl x2), (3, .inl x3), (4, .inl x4), (5, .inl x5)] [] w bc bs := by
  refine am_iinc (ls' := [(5, .inl (am_w (x5 + 1))), (0, .inr (.inr (some (5, 0)))), (1, .inl x1), (2, .inl x2), (3, .inl x3), (4, .inl x4)]) dX2_hasChildBorn_76 (List.Mem.tail _ (List.Mem.tail _ (List.Mem.tail _ (List.Mem.tail _ (List.Mem.tail _ (List.Mem.head _)))))) (by decide) rfl ?_
  refine am_goto (tgt := 3) dX2_hasChildBorn_79 (by decide) ?_
  exact am_sub [1, 2, 3, 4, 5, 0] rfl h
-- MourningHouse$Family.gather(II)V
theorem dX2_gather_0 : decode mX2_gather.2.1 0 = .ok (.aload_n 0, 1) := by decide +kernel
theorem dX2_gather_1 : decode mX2_gather.2.1 1 = .ok (.lconst 0, 1) := by decide +kernel
theorem dX2_gather_2 : decode mX2_gather.2.1 2 = .ok (.putfield 65, 3) := by decide +kernel
theorem dX2_gather_5 : decode mX2_gather.2.1 5 = .ok (.iconst 0, 1) := by decide +kernel
theorem dX2_gather_6 : decode mX2_gather.2.1 6 = .ok (.istore_n 3, 1) := by decide +kernel
theorem dX2_gather_7 : decode mX2_gather.2.1 7 = .ok (.iload_n 3, 1) := by decide +kernel
theorem dX2_gather_8 : decode mX2_gather.2.1 8 = .ok (.aload_n 0, 1) := by decide +kernel
theorem dX2_gather_9 : decode mX2_gather.2.1 9 = .ok (.getfield 68, 3) := by decide +kernel
theorem dX2_gather_12 : decode mX2_gather.2.1 12 = .ok (.if_icmp .ge 38, 3) := by decide +kernel
theorem dX2_gather_15 : decode mX2_gather.2.1 15 = .ok (.aload_n 0, 1) := by decide +kernel
theorem dX2_gather_16 : decode mX2_gather.2.1 16 = .ok (.getfield 58, 3) := by decide +kernel
theorem dX2_gather_19 : decode mX2_gather.2.1 19 = .ok (.iload_n 3, 1) := by decide +kernel
theorem dX2_gather_20 : decode mX2_gather.2.1 20 = .ok (.lconst 0, 1) := by decide +kernel
theorem dX2_gather_21 : decode mX2_gather.2.1 21 = .ok (.lastore, 1) := by decide +kernel
theorem dX2_gather_22 : decode mX2_gather.2.1 22 = .ok (.aload_n 0, 1) := by decide +kernel
theorem dX2_gather_23 : decode mX2_gather.2.1 23 = .ok (.getfield 27, 3) := by decide +kernel
theorem dX2_gather_26 : decode mX2_gather.2.1 26 = .ok (.iload_n 3, 1) := by decide +kernel
theorem dX2_gather_27 : decode mX2_gather.2.1 27 = .ok (.iaload, 1) := by decide +kernel
theorem dX2_gather_28 : decode mX2_gather.2.1 28 = .ok (.iload_n 2, 1) := by decide +kernel
theorem dX2_gather_29 : decode mX2_gather.2.1 29 = .ok (.if_icmp .gt 15, 3) := by decide +kernel
theorem dX2_gather_32 : decode mX2_gather.2.1 32 = .ok (.aload_n 0, 1) := by decide +kernel
theorem dX2_gather_33 : decode mX2_gather.2.1 33 = .ok (.dup, 1) := by decide +kernel
theorem dX2_gather_34 : decode mX2_gather.2.1 34 = .ok (.getfield 65, 3) := by decide +kernel
theorem dX2_gather_37 : decode mX2_gather.2.1 37 = .ok (.lconst 1, 1) := by decide +kernel
theorem dX2_gather_38 : decode mX2_gather.2.1 38 = .ok (.iload_n 3, 1) := by decide +kernel
theorem dX2_gather_39 : decode mX2_gather.2.1 39 = .ok (.lshl, 1) := by decide +kernel
theorem dX2_gather_40 : decode mX2_gather.2.1 40 = .ok (.lor, 1) := by decide +kernel
theorem dX2_gather_41 : decode mX2_gather.2.1 41 = .ok (.putfield 65, 3) := by decide +kernel
theorem dX2_gather_44 : decode mX2_gather.2.1 44 = .ok (.iinc 3 1, 3) := by decide +kernel
theorem dX2_gather_47 : decode mX2_gather.2.1 47 = .ok (.goto (-40), 3) := by decide +kernel
theorem dX2_gather_50 : decode mX2_gather.2.1 50 = .ok (.iconst 0, 1) := by decide +kernel
theorem dX2_gather_51 : decode mX2_gather.2.1 51 = .ok (.istore_n 3, 1) := by decide +kernel
theorem dX2_gather_52 : decode mX2_gather.2.1 52 = .ok (.iload_n 3, 1) := by decide +kernel
theorem dX2_gather_53 : decode mX2_gather.2.1 53 = .ok (.aload_n 0, 1) := by decide +kernel
theorem dX2_gather_54 : decode mX2_gather.2.1 54 = .ok (.getfield 72, 3) := by decide +kernel
theorem dX2_gather_57 : decode mX2_gather.2.1 57 = .ok (.if_icmp .ge 73, 3) := by decide +kernel
theorem dX2_gather_60 : decode mX2_gather.2.1 60 = .ok (.aload_n 0, 1) := by decide +kernel
theorem dX2_gather_61 : decode mX2_gather.2.1 61 = .ok (.getfield 55, 3) := by decide +kernel
theorem dX2_gather_64 : decode mX2_gather.2.1 64 = .ok (.iload_n 3, 1) := by decide +kernel
theorem dX2_gather_65 : decode mX2_gather.2.1 65 = .ok (.iaload, 1) := by decide +kernel
theorem dX2_gather_66 : decode mX2_gather.2.1 66 = .ok (.iload_n 2, 1) := by decide +kernel
theorem dX2_gather_67 : decode mX2_gather.2.1 67 = .ok (.if_icmp .gt 57, 3) := by decide +kernel
theorem dX2_gather_70 : decode mX2_gather.2.1 70 = .ok (.aload_n 0, 1) := by decide +kernel
theorem dX2_gather_71 : decode mX2_gather.2.1 71 = .ok (.getfield 52, 3) := by decide +kernel
theorem dX2_gather_74 : decode mX2_gather.2.1 74 = .ok (.iload_n 3, 1) := by decide +kernel
theorem dX2_gather_75 : decode mX2_gather.2.1 75 = .ok (.iaload, 1) := by decide +kernel
theorem dX2_gather_76 : decode mX2_gather.2.1 76 = .ok (.iload_n 1, 1) := by decide +kernel
theorem dX2_gather_77 : decode mX2_gather.2.1 77 = .ok (.if_icmp .gt 47, 3) := by decide +kernel
theorem dX2_gather_80 : decode mX2_gather.2.1 80 = .ok (.aload_n 0, 1) := by decide +kernel
theorem dX2_gather_81 : decode mX2_gather.2.1 81 = .ok (.getfield 58, 3) := by decide +kernel
theorem dX2_gather_84 : decode mX2_gather.2.1 84 = .ok (.aload_n 0, 1) := by decide +kernel
theorem dX2_gather_85 : decode mX2_gather.2.1 85 = .ok (.getfield 46, 3) := by decide +kernel
theorem dX2_gather_88 : decode mX2_gather.2.1 88 = .ok (.iload_n 3, 1) := by decide +kernel
theorem dX2_gather_89 : decode mX2_gather.2.1 89 = .ok (.iaload, 1) := by decide +kernel
theorem dX2_gather_90 : decode mX2_gather.2.1 90 = .ok (.dup2, 1) := by decide +kernel
theorem dX2_gather_91 : decode mX2_gather.2.1 91 = .ok (.laload, 1) := by decide +kernel
theorem dX2_gather_92 : decode mX2_gather.2.1 92 = .ok (.lconst 1, 1) := by decide +kernel
theorem dX2_gather_93 : decode mX2_gather.2.1 93 = .ok (.aload_n 0, 1) := by decide +kernel
theorem dX2_gather_94 : decode mX2_gather.2.1 94 = .ok (.getfield 49, 3) := by decide +kernel
theorem dX2_gather_97 : decode mX2_gather.2.1 97 = .ok (.iload_n 3, 1) := by decide +kernel
theorem dX2_gather_98 : decode mX2_gather.2.1 98 = .ok (.iaload, 1) := by decide +kernel
theorem dX2_gather_99 : decode mX2_gather.2.1 99 = .ok (.lshl, 1) := by decide +kernel
theorem dX2_gather_100 : decode mX2_gather.2.1 100 = .ok (.lor, 1) := by decide +kernel
theorem dX2_gather_101 : decode mX2_gather.2.1 101 = .ok (.lastore, 1) := by decide +kernel
theorem dX2_gather_102 : decode mX2_gather.2.1 102 = .ok (.aload_n 0, 1) := by decide +kernel
theorem dX2_gather_103 : decode mX2_gather.2.1 103 = .ok (.getfield 58, 3) := by decide +kernel
theorem dX2_gather_106 : decode mX2_gather.2.1 106 = .ok (.aload_n 0, 1) := by decide +kernel
theorem dX2_gather_107 : decode mX2_gather.2.1 107 = .ok (.getfield 49, 3) := by decide +kernel
theorem dX2_gather_110 : decode mX2_gather.2.1 110 = .ok (.iload_n 3, 1) := by decide +kernel
theorem dX2_gather_111 : decode mX2_gather.2.1 111 = .ok (.iaload, 1) := by decide +kernel
theorem dX2_gather_112 : decode mX2_gather.2.1 112 = .ok (.dup2, 1) := by decide +kernel
theorem dX2_gather_113 : decode mX2_gather.2.1 113 = .ok (.laload, 1) := by decide +kernel
theorem dX2_gather_114 : decode mX2_gather.2.1 114 = .ok (.lconst 1, 1) := by decide +kernel
theorem dX2_gather_115 : decode mX2_gather.2.1 115 = .ok (.aload_n 0, 1) := by decide +kernel
theorem dX2_gather_116 : decode mX2_gather.2.1 116 = .ok (.getfield 46, 3) := by decide +kernel
theorem dX2_gather_119 : decode mX2_gather.2.1 119 = .ok (.iload_n 3, 1) := by decide +kernel
theorem dX2_gather_120 : decode mX2_gather.2.1 120 = .ok (.iaload, 1) := by decide +kernel
theorem dX2_gather_121 : decode mX2_gather.2.1 121 = .ok (.lshl, 1) := by decide +kernel
theorem dX2_gather_122 : decode mX2_gather.2.1 122 = .ok (.lor, 1) := by decide +kernel
theorem dX2_gather_123 : decode mX2_gather.2.1 123 = .ok (.lastore, 1) := by decide +kernel
theorem dX2_gather_124 : decode mX2_gather.2.1 124 = .ok (.iinc 3 1, 3) := by decide +kernel
theorem dX2_gather_127 : decode mX2_gather.2.1 127 = .ok (.goto (-75), 3) := by decide +kernel
theorem dX2_gather_130 : decode mX2_gather.2.1 130 = .ok (.return_, 1) := by decide +kernel
theorem bX2_gather_0 {SC : Nat → Nat} {X : mh_X} {d : Nat} {Q : Option am_V → am_W → Prop} {bc bs : Nat} {w : am_W} {x1 : Int} {x2 : Int}
    (h : am_A (mh_G X) SC (d + 1) mX2_gather Q 7 [(0, .inr (.inr (some (5, 0)))), (1, .inl x1), (2, .inl x2), (3, .inl 0)] [] (w.1, (am_up w.2.1 5 0 17 (0 : Int64)), w.2.2) bc bs) :
    am_A (mh_G X) SC (d + 1) mX2_gather Q 0 [(0, .inr (.inr (some (5, 0)))), (1, .inl x1), (2, .inl x2)] [] w bc bs := by
  refine am_aload_n dX2_gather_0 (List.Mem.head _) ?_
  refine am_lconst (x := 0) dX2_gather_1 rfl ?_
  refine am_putl (f := 17) dX2_gather_2 hc_5 (by decide) wd_338 rfl rfl (Or.inl (by decide)) rfl ?_
  refine am_iconst dX2_gather_5 (by unfold am_rg; omega) ?_
  refine am_istore_n (ls' := [(3, .inl 0), (0, .inr (.inr (some (5, 0)))), (1, .inl x1), (2, .inl x2)]) dX2_gather_6 (by decide) rfl ?_
  exact am_sub [1, 2, 3, 0] rfl h
theorem bX2_gather_7 {SC : Nat → Nat} {X : mh_X} {d : Nat} {Q : Option am_V → am_W → Prop} {bc bs : Nat} {w : am_W} {x1 : Int} {x2 : Int} {x3 : Int}
    (h : (((w.1 5 0 18) ≤ x3 → am_A (mh_G X) SC (d + 1) mX2_gather Q 52 [(0, .inr (.inr (some (5, 0)))), (1, .inl x1), (2, .inl x2), (3, .inl 0)] [] w bc bs) ∧ (¬ (w.1 5 0 18) ≤ x3 → (0 ≤ x3 ∧ (x3 < 40 ∧ ((x2 < (w.1 38 0 x3.toNat) → am_A (mh_G X) SC (d + 1) mX2_gather Q 44 [(0, .inr (.inr (some (5, 0)))), (1, .inl x1), (2, .inl x2), (3, .inl x3)] [] (w.1, (am_up w.2.1 48 0 x3.toNat (0 : Int64)), w.2.2) bc bs) ∧ (¬ x2 < (w.1 38 0 x3.toNat) → am_A (mh_G X) SC (d + 1) mX2_gather Q 44 [(0, .inr (.inr (some (5, 0)))), (1, .inl x1), (2, .inl x2), (3, .inl x3)] [] (w.1, (am_up (am_up w.2.1 48 0 x3.toNat (0 : Int64)) 5 0 17 ((w.2.1 5 0 17) ||| ((1 : Int64) <<< ((Int32.ofInt x3).toInt64 &&& 63)))), w.2.2) bc bs))))))) :
    am_A (mh_G X) SC (d + 1) mX2_gather Q 7 [(0, .inr (.inr (some (5, 0)))), (1, .inl x1), (2, .inl x2), (3, .inl x3)] [] w bc bs := by
  refine am_iload_n dX2_gather_7 (List.Mem.tail _ (List.Mem.tail _ (List.Mem.tail _ (List.Mem.head _)))) ?_
  refine am_aload_n dX2_gather_8 (List.Mem.head _) ?_
  refine am_getf (f := 18) (v := .inl (w.1 5 0 18)) dX2_gather_9 hc_5 (by decide) wd_339 (by decide) rfl rfl ?_
  refine am_icmpge (tgt := 50) dX2_gather_12 (by decide) (fun c1 => ?_) (fun c1 => ?_)
  · replace h := h.1 c1
    refine am_iconst dX2_gather_50 (by unfold am_rg; omega) ?_
    refine am_istore_n (ls' := [(3, .inl 0), (0, .inr (.inr (some (5, 0)))), (1, .inl x1), (2, .inl x2)]) dX2_gather_51 (by decide) rfl ?_
    exact am_sub [1, 2, 3, 0] rfl h
  · replace h := h.2 c1
    refine am_aload_n dX2_gather_15 (List.Mem.head _) ?_
    refine am_getf (f := 15) (v := .inr (.inr (some (48, 0)))) dX2_gather_16 hc_5 (by decide) wd_336 (by decide) rfl rfl ?_
    refine am_iload_n dX2_gather_19 (List.Mem.tail _ (List.Mem.tail _ (List.Mem.tail _ (List.Mem.head _)))) ?_
    refine am_lconst (x := 0) dX2_gather_20 rfl ?_
    have o2 := h.1
    replace h := h.2
    have o3 := h.1
    replace h := h.2
    refine am_lastore dX2_gather_21 (Or.inl (by decide)) rfl o2 o3 ?_
    refine am_aload_n dX2_gather_22 (List.Mem.head _) ?_
    refine am_getf (f := 5) (v := .inr (.inr (some (38, 0)))) dX2_gather_23 hc_5 (by decide) wd_323 (by decide) rfl rfl ?_
    refine am_iload_n dX2_gather_26 (List.Mem.tail _ (List.Mem.tail _ (List.Mem.tail _ (List.Mem.head _)))) ?_
    refine am_iaload (v := (w.1 38 0 x3.toNat)) dX2_gather_27 (by decide) rfl o2 o3 rfl ?_
    refine am_iload_n dX2_gather_28 (List.Mem.tail _ (List.Mem.tail _ (List.Mem.head _))) ?_
    refine am_icmpgt (tgt := 44) dX2_gather_29 (by decide) (fun c4 => ?_) (fun c4 => ?_)
    · replace h := h.1 c4
      exact h
    · replace h := h.2 c4
      refine am_aload_n dX2_gather_32 (List.Mem.head _) ?_
      refine am_dup dX2_gather_33 rfl ?_
      refine am_getf (f := 17) (v := .inr (.inl (w.2.1 5 0 17))) dX2_gather_34 hc_5 (by decide) wd_338 (by decide) rfl rfl ?_
      refine am_lconst (x := 1) dX2_gather_37 rfl ?_
      refine am_iload_n dX2_gather_38 (List.Mem.tail _ (List.Mem.tail _ (List.Mem.tail _ (List.Mem.head _)))) ?_
      refine am_lshl dX2_gather_39 ?_
      refine am_lor dX2_gather_40 ?_
      refine am_putl (f := 17) dX2_gather_41 hc_5 (by decide) wd_338 rfl rfl (Or.inl (by decide)) rfl ?_
      exact h
theorem bX2_gather_52 {SC : Nat → Nat} {X : mh_X} {d : Nat} {Q : Option am_V → am_W → Prop} {bc bs : Nat} {w : am_W} {x1 : Int} {x2 : Int} {x3 : Int}
    (h : (((w.1 5 0 19) ≤ x3 → Q none w) ∧ (¬ (w.1 5 0 19) ≤ x3 → (0 ≤ x3 ∧ (x3 < 40 ∧ ((x2 < (w.1 47 0 x3.toNat) → am_A (mh_G X) SC (d + 1) mX2_gather Q 124 [(0, .inr (.inr (some (5, 0)))), (1, .inl x1), (2, .inl x2), (3, .inl x3)] [] w bc bs) ∧ (¬ x2 < (w.1 47 0 x3.toNat) → ((x1 < (w.1 46 0 x3.toNat) → am_A (mh_G X) SC (d + 1) mX2_gather Q 124 [(0, .inr (.inr (some (5, 0)))), (1, .inl x1), (2, .inl x2), (3, .inl x3)] [] w bc bs) ∧ (¬ x1 < (w.1 46 0 x3.toNat) → (0 ≤ (w.1 44 0 x3.toNat) ∧ ((w.1 44 0 x3.toNat) < 40 ∧ (0 ≤ (w.1 45 0 x3.toNat) ∧ ((w.1 45 0 x3.toNat) < 40 ∧ am_A (mh_G X) SC (d + 1) mX2_gather Q 124 [(0, .inr (.inr (some (5, 0)))), (1, .inl x1), (2, .inl x2), (3, .inl x3)] [] (w.1, (am_up (am_up w.2.1 48 0 (w.1 44 0 x3.toNat).toNat ((w.2.1 48 0 (w.1 44 0 x3.toNat).toNat) ||| ((1 : Int64) <<< ((Int32.ofInt (w.1 45 0 x3.toNat)).toInt64 &&& 63)))) 48 0 (w.1 45 0 x3.toNat).toNat (((am_up w.2.1 48 0 (w.1 44 0 x3.toNat).toNat ((w.2.1 48 0 (w.1 44 0 x3.toNat).toNat) ||| ((1 : Int64) <<< ((Int32.ofInt (w.1 45 0 x3.toNat)).toInt64 &&& 63)))) 48 0 (w.1 45 0 x3.toNat).toNat) ||| ((1 : Int64) <<< ((Int32.ofInt (w.1 44 0 x3.toNat)).toInt64 &&& 63)))), w.2.2) bc bs))))))))))))) :
    am_A (mh_G X) SC (d + 1) mX2_gather Q 52 [(0, .inr (.inr (some (5, 0)))), (1, .inl x1), (2, .inl x2), (3, .inl x3)] [] w bc bs := by
  refine am_iload_n dX2_gather_52 (List.Mem.tail _ (List.Mem.tail _ (List.Mem.tail _ (List.Mem.head _)))) ?_
  refine am_aload_n dX2_gather_53 (List.Mem.head _) ?_
  refine am_getf (f := 19) (v := .inl (w.1 5 0 19)) dX2_gather_54 hc_5 (by decide) wd_342 (by decide) rfl rfl ?_
  refine am_icmpge (tgt := 130) dX2_gather_57 (by decide) (fun c1 => ?_) (fun c1 => ?_)
  · replace h := h.1 c1
    exact am_ret (r := none) dX2_gather_130 rfl rfl h
  · replace h := h.2 c1
    refine am_aload_n dX2_gather_60 (List.Mem.head _) ?_
    refine am_getf (f := 14) (v := .inr (.inr (some (47, 0)))) dX2_gather_61 hc_5 (by decide) wd_335 (by decide) rfl rfl ?_
    refine am_iload_n dX2_gather_64 (List.Mem.tail _ (List.Mem.tail _ (List.Mem.tail _ (List.Mem.head _)))) ?_
    have o2 := h.1
    replace h := h.2
    have o3 := h.1
    replace h := h.2
    refine am_iaload (v := (w.1 47 0 x3.toNat)) dX2_gather_65 (by decide) rfl o2 o3 rfl ?_
    refine am_iload_n dX2_gather_66 (List.Mem.tail _ (List.Mem.tail _ (List.Mem.head _))) ?_
    refine am_icmpgt (tgt := 124) dX2_gather_67 (by decide) (fun c4 => ?_) (fun c4 => ?_)
    · replace h := h.1 c4
      exact h
    · replace h := h.2 c4
      refine am_aload_n dX2_gather_70 (List.Mem.head _) ?_
      refine am_getf (f := 13) (v := .inr (.inr (some (46, 0)))) dX2_gather_71 hc_5 (by decide) wd_334 (by decide) rfl rfl ?_
      refine am_iload_n dX2_gather_74 (List.Mem.tail _ (List.Mem.tail _ (List.Mem.tail _ (List.Mem.head _)))) ?_
      refine am_iaload (v := (w.1 46 0 x3.toNat)) dX2_gather_75 (by decide) rfl o2 o3 rfl ?_
      refine am_iload_n dX2_gather_76 (List.Mem.tail _ (List.Mem.head _)) ?_
      refine am_icmpgt (tgt := 124) dX2_gather_77 (by decide) (fun c5 => ?_) (fun c5 => ?_)
      · replace h := h.1 c5
        exact h
      · replace h := h.2 c5
        refine am_aload_n dX2_gather_80 (List.Mem.head _) ?_
        refine am_getf (f := 15) (v := .inr (.inr (some (48, 0)))) dX2_gather_81 hc_5 (by decide) wd_336 (by decide) rfl rfl ?_
        refine am_aload_n dX2_gather_84 (List.Mem.head _) ?_
        refine am_getf (f := 11) (v := .inr (.inr (some (44, 0)))) dX2_gather_85 hc_5 (by decide) wd_332 (by decide) rfl rfl ?_
        refine am_iload_n dX2_gather_88 (List.Mem.tail _ (List.Mem.tail _ (List.Mem.tail _ (List.Mem.head _)))) ?_
        refine am_iaload (v := (w.1 44 0 x3.toNat)) dX2_gather_89 (by decide) rfl o2 o3 rfl ?_
        refine am_dup2 dX2_gather_90 rfl rfl ?_
        have o6 := h.1
        replace h := h.2
        have o7 := h.1
        replace h := h.2
        refine am_laload (x := (w.2.1 48 0 (w.1 44 0 x3.toNat).toNat)) dX2_gather_91 (by decide) rfl o6 o7 rfl ?_
        refine am_lconst (x := 1) dX2_gather_92 rfl ?_
        refine am_aload_n dX2_gather_93 (List.Mem.head _) ?_
        refine am_getf (f := 12) (v := .inr (.inr (some (45, 0)))) dX2_gather_94 hc_5 (by decide) wd_333 (by decide) rfl rfl ?_
        refine am_iload_n dX2_gather_97 (List.Mem.tail _ (List.Mem.tail _ (List.Mem.tail _ (List.Mem.head _)))) ?_
        refine am_iaload (v := (w.1 45 0 x3.toNat)) dX2_gather_98 (by decide) rfl o2 o3 rfl ?_
        refine am_lshl dX2_gather_99 ?_
        refine am_lor dX2_gather_100 ?_
        refine am_lastore dX2_gather_101 (Or.inl (by decide)) rfl o6 o7 ?_
        refine am_aload_n dX2_gather_102 (List.Mem.head _) ?_
        refine am_getf (f := 15) (v := .inr (.inr (some (48, 0)))) dX2_gather_103 hc_5 (by decide) wd_336 (by decide) rfl rfl ?_
        refine am_aload_n dX2_gather_106 (List.Mem.head _) ?_
        refine am_getf (f := 12) (v := .inr (.inr (some (45, 0)))) dX2_gather_107 hc_5 (by decide) wd_333 (by decide) rfl rfl ?_
        refine am_iload_n dX2_gather_110 (List.Mem.tail _ (List.Mem.tail _ (List.Mem.tail _ (List.Mem.head _)))) ?_
        refine am_iaload (v := (w.1 45 0 x3.toNat)) dX2_gather_111 (by decide) rfl o2 o3 rfl ?_
        refine am_dup2 dX2_gather_112 rfl rfl ?_
        have o8 := h.1
        replace h := h.2
        have o9 := h.1
        replace h := h.2
        refine am_laload (x := ((am_up w.2.1 48 0 (w.1 44 0 x3.toNat).toNat ((w.2.1 48 0 (w.1 44 0 x3.toNat).toNat) ||| ((1 : Int64) <<< ((Int32.ofInt (w.1 45 0 x3.toNat)).toInt64 &&& 63)))) 48 0 (w.1 45 0 x3.toNat).toNat)) dX2_gather_113 (by decide) rfl o8 o9 rfl ?_
        refine am_lconst (x := 1) dX2_gather_114 rfl ?_
        refine am_aload_n dX2_gather_115 (List.Mem.head _) ?_
        refine am_getf (f := 11) (v := .inr (.inr (some (44, 0)))) dX2_gather_116 hc_5 (by decide) wd_332 (by decide) rfl rfl ?_
        refine am_iload_n dX2_gather_119 (List.Mem.tail _ (List.Mem.tail _ (List.Mem.tail _ (List.Mem.head _)))) ?_
        refine am_iaload (v := (w.1 44 0 x3.toNat)) dX2_gather_120 (by decide) rfl o2 o3 rfl ?_
        refine am_lshl dX2_gather_121 ?_
        refine am_lor dX2_gather_122 ?_
        refine am_lastore dX2_gather_123 (Or.inl (by decide)) rfl o8 o9 ?_
        exact h
theorem bX2_gather_44 {SC : Nat → Nat} {X : mh_X} {d : Nat} {Q : Option am_V → am_W → Prop} {bc bs : Nat} {w : am_W} {x1 : Int} {x2 : Int} {x3 : Int}
    (h : am_A (mh_G X) SC (d + 1) mX2_gather Q 7 [(0, .inr (.inr (some (5, 0)))), (1, .inl x1), (2, .inl x2), (3, .inl (am_w (x3 + 1)))] [] w bc bs) :
    am_A (mh_G X) SC (d + 1) mX2_gather Q 44 [(0, .inr (.inr (some (5, 0)))), (1, .inl x1), (2, .inl x2), (3, .inl x3)] [] w bc bs := by
  refine am_iinc (ls' := [(3, .inl (am_w (x3 + 1))), (0, .inr (.inr (some (5, 0)))), (1, .inl x1), (2, .inl x2)]) dX2_gather_44 (List.Mem.tail _ (List.Mem.tail _ (List.Mem.tail _ (List.Mem.head _)))) (by decide) rfl ?_
  refine am_goto (tgt := 7) dX2_gather_47 (by decide) ?_
  exact am_sub [1, 2, 3, 0] rfl h
theorem bX2_gather_124 {SC : Nat → Nat} {X : mh_X} {d : Nat} {Q : Option am_V → am_W → Prop} {bc bs : Nat} {w : am_W} {x1 : Int} {x2 : Int} {x3 : Int}
    (h : am_A (mh_G X) SC (d + 1) mX2_gather Q 52 [(0, .inr (.inr (some (5, 0)))), (1, .inl x1), (2, .inl x2), (3, .inl (am_w (x3 + 1)))] [] w bc bs) :
    am_A (mh_G X) SC (d + 1) mX2_gather Q 124 [(0, .inr (.inr (some (5, 0)))), (1, .inl x1), (2, .inl x2), (3, .inl x3)] [] w bc bs := by
  refine am_iinc (ls' := [(3, .inl (am_w (x3 + 1))), (0, .inr (.inr (some (5, 0)))), (1, .inl x1), (2, .inl x2)]) dX2_gather_124 (List.Mem.tail _ (List.Mem.tail _ (List.Mem.tail _ (List.Mem.head _)))) (by decide) rfl ?_
  refine am_goto (tgt := 52) dX2_gather_127 (by decide) ?_
  exact am_sub [1, 2, 3, 0] rfl h
-- MourningHouse$Family.isKin(LMourningHouse$Law;III)Z
theorem dX2_isKin_0 : decode mX2_isKin.2.1 0 = .ok (.aload_n 0, 1) := by decide +kernel
theorem dX2_isKin_1 : decode mX2_isKin.2.1 1 = .ok (.getfield 65, 3) := by decide +kernel
theorem dX2_isKin_4 : decode mX2_isKin.2.1 4 = .ok (.lconst 1, 1) := by decide +kernel
theorem dX2_isKin_5 : decode mX2_isKin.2.1 5 = .ok (.iload_n 3, 1) := by decide +kernel
theorem dX2_isKin_6 : decode mX2_isKin.2.1 6 = .ok (.lshl, 1) := by decide +kernel
theorem dX2_isKin_7 : decode mX2_isKin.2.1 7 = .ok (.ldc2_w 94, 3) := by decide +kernel
theorem dX2_isKin_10 : decode mX2_isKin.2.1 10 = .ok (.lxor, 1) := by decide +kernel
theorem dX2_isKin_11 : decode mX2_isKin.2.1 11 = .ok (.land, 1) := by decide +kernel
theorem dX2_isKin_12 : decode mX2_isKin.2.1 12 = .ok (.lstore 5, 2) := by decide +kernel
theorem dX2_isKin_14 : decode mX2_isKin.2.1 14 = .ok (.aload_n 0, 1) := by decide +kernel
theorem dX2_isKin_15 : decode mX2_isKin.2.1 15 = .ok (.getfield 65, 3) := by decide +kernel
theorem dX2_isKin_18 : decode mX2_isKin.2.1 18 = .ok (.lconst 1, 1) := by decide +kernel
theorem dX2_isKin_19 : decode mX2_isKin.2.1 19 = .ok (.iload_n 3, 1) := by decide +kernel
theorem dX2_isKin_20 : decode mX2_isKin.2.1 20 = .ok (.lshl, 1) := by decide +kernel
theorem dX2_isKin_21 : decode mX2_isKin.2.1 21 = .ok (.land, 1) := by decide +kernel
theorem dX2_isKin_22 : decode mX2_isKin.2.1 22 = .ok (.lstore 7, 2) := by decide +kernel
theorem dX2_isKin_24 : decode mX2_isKin.2.1 24 = .ok (.aload_n 1, 1) := by decide +kernel
theorem dX2_isKin_25 : decode mX2_isKin.2.1 25 = .ok (.iload_n 2, 1) := by decide +kernel
theorem dX2_isKin_26 : decode mX2_isKin.2.1 26 = .ok (.invokevirtual 96, 3) := by decide +kernel
theorem dX2_isKin_29 : decode mX2_isKin.2.1 29 = .ok (.iconst 1, 1) := by decide +kernel
theorem dX2_isKin_30 : decode mX2_isKin.2.1 30 = .ok (.isub, 1) := by decide +kernel
theorem dX2_isKin_31 : decode mX2_isKin.2.1 31 = .ok (.istore 9, 2) := by decide +kernel
theorem dX2_isKin_33 : decode mX2_isKin.2.1 33 = .ok (.iload 9, 2) := by decide +kernel
theorem dX2_isKin_35 : decode mX2_isKin.2.1 35 = .ok (.ifCond .lt 27, 3) := by decide +kernel
theorem dX2_isKin_38 : decode mX2_isKin.2.1 38 = .ok (.aload_n 0, 1) := by decide +kernel
theorem dX2_isKin_39 : decode mX2_isKin.2.1 39 = .ok (.lload 7, 2) := by decide +kernel
theorem dX2_isKin_41 : decode mX2_isKin.2.1 41 = .ok (.aload_n 1, 1) := by decide +kernel
theorem dX2_isKin_42 : decode mX2_isKin.2.1 42 = .ok (.iload_n 2, 1) := by decide +kernel
theorem dX2_isKin_43 : decode mX2_isKin.2.1 43 = .ok (.iload 9, 2) := by decide +kernel
theorem dX2_isKin_45 : decode mX2_isKin.2.1 45 = .ok (.invokevirtual 102, 3) := by decide +kernel
theorem dX2_isKin_48 : decode mX2_isKin.2.1 48 = .ok (.invokevirtual 106, 3) := by decide +kernel
theorem dX2_isKin_51 : decode mX2_isKin.2.1 51 = .ok (.lload 5, 2) := by decide +kernel
theorem dX2_isKin_53 : decode mX2_isKin.2.1 53 = .ok (.land, 1) := by decide +kernel
theorem dX2_isKin_54 : decode mX2_isKin.2.1 54 = .ok (.lstore 7, 2) := by decide +kernel
theorem dX2_isKin_56 : decode mX2_isKin.2.1 56 = .ok (.iinc 9 (-1), 3) := by decide +kernel
theorem dX2_isKin_59 : decode mX2_isKin.2.1 59 = .ok (.goto (-26), 3) := by decide +kernel
theorem dX2_isKin_62 : decode mX2_isKin.2.1 62 = .ok (.lload 7, 2) := by decide +kernel
theorem dX2_isKin_64 : decode mX2_isKin.2.1 64 = .ok (.iload 4, 2) := by decide +kernel
theorem dX2_isKin_66 : decode mX2_isKin.2.1 66 = .ok (.lshr, 1) := by decide +kernel
theorem dX2_isKin_67 : decode mX2_isKin.2.1 67 = .ok (.lconst 1, 1) := by decide +kernel
theorem dX2_isKin_68 : decode mX2_isKin.2.1 68 = .ok (.land, 1) := by decide +kernel
theorem dX2_isKin_69 : decode mX2_isKin.2.1 69 = .ok (.lconst 0, 1) := by decide +kernel
theorem dX2_isKin_70 : decode mX2_isKin.2.1 70 = .ok (.lcmp, 1) := by decide +kernel
theorem dX2_isKin_71 : decode mX2_isKin.2.1 71 = .ok (.ifCond .eq 7, 3) := by decide +kernel
theorem dX2_isKin_74 : decode mX2_isKin.2.1 74 = .ok (.iconst 1, 1) := by decide +kernel
theorem dX2_isKin_75 : decode mX2_isKin.2.1 75 = .ok (.goto 4, 3) := by decide +kernel
theorem dX2_isKin_78 : decode mX2_isKin.2.1 78 = .ok (.iconst 0, 1) := by decide +kernel
theorem dX2_isKin_79 : decode mX2_isKin.2.1 79 = .ok (.ireturn, 1) := by decide +kernel
theorem bX2_isKin_0 {SC : Nat → Nat} {X : mh_X} {d : Nat} {Q : Option am_V → am_W → Prop} {bc bs : Nat} {w : am_W} {j1 : Nat} {x2 : Int} {x3 : Int} {x4 : Int}
    (h : am_M (mh_G X) SC d 0 0 mX3_kinCount [.inr (.inr (some (10, j1))), .inl x2] w (fun r w1 => am_A (mh_G X) SC (d + 1) mX2_isKin Q 29 [(7, .inr (.inl ((w.2.1 5 0 17) &&& ((1 : Int64) <<< ((Int32.ofInt x3).toInt64 &&& 63))))), (5, .inr (.inl ((w.2.1 5 0 17) &&& (((1 : Int64) <<< ((Int32.ofInt x3).toInt64 &&& 63)) ^^^ (-1 : Int64))))), (0, .inr (.inr (some (5, 0)))), (1, .inr (.inr (some (10, j1)))), (2, .inl x2), (3, .inl x3), (4, .inl x4)] (r.toList ++ []) w1 bc bs)) :
    am_A (mh_G X) SC (d + 1) mX2_isKin Q 0 [(0, .inr (.inr (some (5, 0)))), (1, .inr (.inr (some (10, j1)))), (2, .inl x2), (3, .inl x3), (4, .inl x4)] [] w bc bs := by
  refine am_aload_n dX2_isKin_0 (List.Mem.head _) ?_
  refine am_getf (f := 17) (v := .inr (.inl (w.2.1 5 0 17))) dX2_isKin_1 hc_5 (by decide) wd_338 (by decide) rfl rfl ?_
  refine am_lconst (x := 1) dX2_isKin_4 rfl ?_
  refine am_iload_n dX2_isKin_5 (List.Mem.tail _ (List.Mem.tail _ (List.Mem.tail _ (List.Mem.head _)))) ?_
  refine am_lshl dX2_isKin_6 ?_
  refine am_ldc2 (x := (-1)) dX2_isKin_7 wd_1147 ?_
  refine am_lxor dX2_isKin_10 ?_
  refine am_land dX2_isKin_11 ?_
  refine am_lstore (ls' := [(5, .inr (.inl ((w.2.1 5 0 17) &&& (((1 : Int64) <<< ((Int32.ofInt x3).toInt64 &&& 63)) ^^^ (-1 : Int64))))), (0, .inr (.inr (some (5, 0)))), (1, .inr (.inr (some (10, j1)))), (2, .inl x2), (3, .inl x3), (4, .inl x4)]) dX2_isKin_12 (by decide) rfl ?_
  refine am_aload_n dX2_isKin_14 (List.Mem.tail _ (List.Mem.head _)) ?_
  refine am_getf (f := 17) (v := .inr (.inl (w.2.1 5 0 17))) dX2_isKin_15 hc_5 (by decide) wd_338 (by decide) rfl rfl ?_
  refine am_lconst (x := 1) dX2_isKin_18 rfl ?_
  refine am_iload_n dX2_isKin_19 (List.Mem.tail _ (List.Mem.tail _ (List.Mem.tail _ (List.Mem.tail _ (List.Mem.head _))))) ?_
  refine am_lshl dX2_isKin_20 ?_
  refine am_land dX2_isKin_21 ?_
  refine am_lstore (ls' := [(7, .inr (.inl ((w.2.1 5 0 17) &&& ((1 : Int64) <<< ((Int32.ofInt x3).toInt64 &&& 63))))), (5, .inr (.inl ((w.2.1 5 0 17) &&& (((1 : Int64) <<< ((Int32.ofInt x3).toInt64 &&& 63)) ^^^ (-1 : Int64))))), (0, .inr (.inr (some (5, 0)))), (1, .inr (.inr (some (10, j1)))), (2, .inl x2), (3, .inl x3), (4, .inl x4)]) dX2_isKin_22 (by decide) rfl ?_
  refine am_aload_n dX2_isKin_24 (List.Mem.tail _ (List.Mem.tail _ (List.Mem.tail _ (List.Mem.head _)))) ?_
  refine am_iload_n dX2_isKin_25 (List.Mem.tail _ (List.Mem.tail _ (List.Mem.tail _ (List.Mem.tail _ (List.Mem.head _))))) ?_
  exact am_callv (d' := d) (kc := 0) (ks := 0) (as := [.inl x2]) dX2_isKin_26 wc_X3_kinCount wd_1148 wd_1149 wd_1150 wd_116 ds_X3_kinCount (by decide) (Nat.le_refl _) (Nat.le_of_ble_eq_true rfl) (Nat.zero_le _) (Nat.zero_le _) hc_4 (by decide) rfl rfl h
theorem bX2_isKin_29 {SC : Nat → Nat} {X : mh_X} {d : Nat} {Q : Option am_V → am_W → Prop} {bc bs : Nat} {w : am_W} {y7 : Int64} {y5 : Int64} {j1 : Nat} {x2 : Int} {x3 : Int} {x4 : Int} {xs0 : Int}
    (h : am_A (mh_G X) SC (d + 1) mX2_isKin Q 33 [(0, .inr (.inr (some (5, 0)))), (1, .inr (.inr (some (10, j1)))), (2, .inl x2), (4, .inl x4), (5, .inr (.inl y5)), (7, .inr (.inl y7)), (9, .inl (am_w (xs0 - 1)))] [] w bc bs) :
    am_A (mh_G X) SC (d + 1) mX2_isKin Q 29 [(7, .inr (.inl y7)), (5, .inr (.inl y5)), (0, .inr (.inr (some (5, 0)))), (1, .inr (.inr (some (10, j1)))), (2, .inl x2), (3, .inl x3), (4, .inl x4)] [.inl xs0] w bc bs := by
  refine am_iconst dX2_isKin_29 (by unfold am_rg; omega) ?_
  refine am_isub dX2_isKin_30 ?_
  refine am_istore (ls' := [(9, .inl (am_w (xs0 - 1))), (7, .inr (.inl y7)), (5, .inr (.inl y5)), (0, .inr (.inr (some (5, 0)))), (1, .inr (.inr (some (10, j1)))), (2, .inl x2), (3, .inl x3), (4, .inl x4)]) dX2_isKin_31 (by decide) rfl ?_
  exact am_sub [3, 4, 5, 7, 2, 1, 0] rfl h
theorem bX2_isKin_33 {SC : Nat → Nat} {X : mh_X} {d : Nat} {Q : Option am_V → am_W → Prop} {bc bs : Nat} {w : am_W} {j1 : Nat} {x2 : Int} {x4 : Int} {y5 : Int64} {y7 : Int64} {x9 : Int}
    (h : ((x9 < 0 → (((am_lcmpv ((y7 >>> ((Int32.ofInt x4).toInt64 &&& 63)) &&& (1 : Int64)) (0 : Int64)) = 0 → Q (some (.inl 0)) w) ∧ (¬ (am_lcmpv ((y7 >>> ((Int32.ofInt x4).toInt64 &&& 63)) &&& (1 : Int64)) (0 : Int64)) = 0 → Q (some (.inl 1)) w))) ∧ (¬ x9 < 0 → am_M (mh_G X) SC d 0 0 mX3_kinWord [.inr (.inr (some (10, j1))), .inl x2, .inl x9] w (fun r w1 => am_A (mh_G X) SC (d + 1) mX2_isKin Q 48 [(0, .inr (.inr (some (5, 0)))), (1, .inr (.inr (some (10, j1)))), (2, .inl x2), (4, .inl x4), (5, .inr (.inl y5)), (7, .inr (.inl y7)), (9, .inl x9)] (r.toList ++ [.inr (.inl y7), .inr (.inr (some (5, 0)))]) w1 bc bs)))) :
    am_A (mh_G X) SC (d + 1) mX2_isKin Q 33 [(0, .inr (.inr (some (5, 0)))), (1, .inr (.inr (some (10, j1)))), (2, .inl x2), (4, .inl x4), (5, .inr (.inl y5)), (7, .inr (.inl y7)), (9, .inl x9)] [] w bc bs := by
  refine am_iload dX2_isKin_33 (List.Mem.tail _ (List.Mem.tail _ (List.Mem.tail _ (List.Mem.tail _ (List.Mem.tail _ (List.Mem.tail _ (List.Mem.head _))))))) ?_
  refine am_iflt (tgt := 62) dX2_isKin_35 (by decide) (fun c1 => ?_) (fun c1 => ?_)
  · replace h := h.1 c1
    refine am_lload dX2_isKin_62 (List.Mem.tail _ (List.Mem.tail _ (List.Mem.tail _ (List.Mem.tail _ (List.Mem.tail _ (List.Mem.head _)))))) ?_
    refine am_iload dX2_isKin_64 (List.Mem.tail _ (List.Mem.tail _ (List.Mem.tail _ (List.Mem.head _)))) ?_
    refine am_lshr dX2_isKin_66 ?_
    refine am_lconst (x := 1) dX2_isKin_67 rfl ?_
    refine am_land dX2_isKin_68 ?_
    refine am_lconst (x := 0) dX2_isKin_69 rfl ?_
    refine am_lcmp dX2_isKin_70 ?_
    refine am_ifeq (tgt := 78) dX2_isKin_71 (by decide) (fun c2 => ?_) (fun c2 => ?_)
    · replace h := h.1 c2
      refine am_iconst dX2_isKin_78 (by unfold am_rg; omega) ?_
      exact am_ret (r := some (.inl 0)) dX2_isKin_79 (Or.inr (Or.inl ⟨rfl, (Or.inl rfl)⟩)) rfl h
    · replace h := h.2 c2
      refine am_iconst dX2_isKin_74 (by unfold am_rg; omega) ?_
      refine am_goto (tgt := 79) dX2_isKin_75 (by decide) ?_
      exact am_ret (r := some (.inl 1)) dX2_isKin_79 (Or.inr (Or.inl ⟨rfl, (Or.inr rfl)⟩)) rfl h
  · replace h := h.2 c1
    refine am_aload_n dX2_isKin_38 (List.Mem.head _) ?_
    refine am_lload dX2_isKin_39 (List.Mem.tail _ (List.Mem.tail _ (List.Mem.tail _ (List.Mem.tail _ (List.Mem.tail _ (List.Mem.head _)))))) ?_
    refine am_aload_n dX2_isKin_41 (List.Mem.tail _ (List.Mem.head _)) ?_
    refine am_iload_n dX2_isKin_42 (List.Mem.tail _ (List.Mem.tail _ (List.Mem.head _))) ?_
    refine am_iload dX2_isKin_43 (List.Mem.tail _ (List.Mem.tail _ (List.Mem.tail _ (List.Mem.tail _ (List.Mem.tail _ (List.Mem.tail _ (List.Mem.head _))))))) ?_
    exact am_callv (d' := d) (kc := 0) (ks := 0) (as := [.inl x2, .inl x9]) dX2_isKin_45 wc_X3_kinWord wd_1152 wd_960 wd_961 wd_116 ds_X3_kinWord (by decide) (Nat.le_refl _) (Nat.le_of_ble_eq_true rfl) (Nat.zero_le _) (Nat.zero_le _) hc_4 (by decide) rfl rfl h
theorem bX2_isKin_48 {SC : Nat → Nat} {X : mh_X} {d : Nat} {Q : Option am_V → am_W → Prop} {bc bs : Nat} {w : am_W} {j1 : Nat} {x2 : Int} {x4 : Int} {y5 : Int64} {y7 : Int64} {x9 : Int} {xs0 : Int} {ys1 : Int64}
    (h : am_M (mh_G X) SC d 0 0 mX2_kinOf [.inr (.inr (some (5, 0))), .inr (.inl ys1), .inl xs0] w (fun r w1 => am_A (mh_G X) SC (d + 1) mX2_isKin Q 51 [(0, .inr (.inr (some (5, 0)))), (1, .inr (.inr (some (10, j1)))), (2, .inl x2), (4, .inl x4), (5, .inr (.inl y5)), (7, .inr (.inl y7)), (9, .inl x9)] (r.toList ++ []) w1 bc bs)) :
    am_A (mh_G X) SC (d + 1) mX2_isKin Q 48 [(0, .inr (.inr (some (5, 0)))), (1, .inr (.inr (some (10, j1)))), (2, .inl x2), (4, .inl x4), (5, .inr (.inl y5)), (7, .inr (.inl y7)), (9, .inl x9)] [.inl xs0, .inr (.inl ys1), .inr (.inr (some (5, 0)))] w bc bs := by
  exact am_callv (d' := d) (kc := 0) (ks := 0) (as := [.inr (.inl ys1), .inl xs0]) dX2_isKin_48 wc_X2_kinOf wd_1153 wd_1155 wd_31 wd_117 ds_X2_kinOf (by decide) (Nat.le_refl _) (Nat.le_of_ble_eq_true rfl) (Nat.zero_le _) (Nat.zero_le _) hc_5 (by decide) rfl rfl h
theorem bX2_isKin_51 {SC : Nat → Nat} {X : mh_X} {d : Nat} {Q : Option am_V → am_W → Prop} {bc bs : Nat} {w : am_W} {j1 : Nat} {x2 : Int} {x4 : Int} {y5 : Int64} {y7 : Int64} {x9 : Int} {ys0 : Int64}
    (h : am_A (mh_G X) SC (d + 1) mX2_isKin Q 33 [(0, .inr (.inr (some (5, 0)))), (1, .inr (.inr (some (10, j1)))), (2, .inl x2), (4, .inl x4), (5, .inr (.inl y5)), (7, .inr (.inl (ys0 &&& y5))), (9, .inl (am_w (x9 + (-1))))] [] w bc bs) :
    am_A (mh_G X) SC (d + 1) mX2_isKin Q 51 [(0, .inr (.inr (some (5, 0)))), (1, .inr (.inr (some (10, j1)))), (2, .inl x2), (4, .inl x4), (5, .inr (.inl y5)), (7, .inr (.inl y7)), (9, .inl x9)] [.inr (.inl ys0)] w bc bs := by
  refine am_lload dX2_isKin_51 (List.Mem.tail _ (List.Mem.tail _ (List.Mem.tail _ (List.Mem.tail _ (List.Mem.head _))))) ?_
  refine am_land dX2_isKin_53 ?_
  refine am_lstore (ls' := [(7, .inr (.inl (ys0 &&& y5))), (0, .inr (.inr (some (5, 0)))), (1, .inr (.inr (some (10, j1)))), (2, .inl x2), (4, .inl x4), (5, .inr (.inl y5)), (9, .inl x9)]) dX2_isKin_54 (by decide) rfl ?_
  refine am_iinc (ls' := [(9, .inl (am_w (x9 + (-1)))), (7, .inr (.inl (ys0 &&& y5))), (0, .inr (.inr (some (5, 0)))), (1, .inr (.inr (some (10, j1)))), (2, .inl x2), (4, .inl x4), (5, .inr (.inl y5))]) dX2_isKin_56 (List.Mem.tail _ (List.Mem.tail _ (List.Mem.tail _ (List.Mem.tail _ (List.Mem.tail _ (List.Mem.tail _ (List.Mem.head _))))))) (by decide) rfl ?_
  refine am_goto (tgt := 33) dX2_isKin_59 (by decide) ?_
  exact am_sub [2, 3, 4, 5, 6, 1, 0] rfl h
-- MourningHouse$Family.kinOf(JI)J
theorem dX2_kinOf_0 : decode mX2_kinOf.2.1 0 = .ok (.lconst 0, 1) := by decide +kernel
theorem dX2_kinOf_1 : decode mX2_kinOf.2.1 1 = .ok (.lstore 4, 2) := by decide +kernel
theorem dX2_kinOf_3 : decode mX2_kinOf.2.1 3 = .ok (.iconst 0, 1) := by decide +kernel
theorem dX2_kinOf_4 : decode mX2_kinOf.2.1 4 = .ok (.istore 6, 2) := by decide +kernel
theorem dX2_kinOf_6 : decode mX2_kinOf.2.1 6 = .ok (.iload 6, 2) := by decide +kernel
theorem dX2_kinOf_8 : decode mX2_kinOf.2.1 8 = .ok (.aload_n 0, 1) := by decide +kernel
theorem dX2_kinOf_9 : decode mX2_kinOf.2.1 9 = .ok (.getfield 68, 3) := by decide +kernel
theorem dX2_kinOf_12 : decode mX2_kinOf.2.1 12 = .ok (.if_icmp .ge 36, 3) := by decide +kernel
theorem dX2_kinOf_15 : decode mX2_kinOf.2.1 15 = .ok (.lload_n 1, 1) := by decide +kernel
theorem dX2_kinOf_16 : decode mX2_kinOf.2.1 16 = .ok (.iload 6, 2) := by decide +kernel
theorem dX2_kinOf_18 : decode mX2_kinOf.2.1 18 = .ok (.lshr, 1) := by decide +kernel
theorem dX2_kinOf_19 : decode mX2_kinOf.2.1 19 = .ok (.lconst 1, 1) := by decide +kernel
theorem dX2_kinOf_20 : decode mX2_kinOf.2.1 20 = .ok (.land, 1) := by decide +kernel
theorem dX2_kinOf_21 : decode mX2_kinOf.2.1 21 = .ok (.lconst 0, 1) := by decide +kernel
theorem dX2_kinOf_22 : decode mX2_kinOf.2.1 22 = .ok (.lcmp, 1) := by decide +kernel
theorem dX2_kinOf_23 : decode mX2_kinOf.2.1 23 = .ok (.ifCond .eq 19, 3) := by decide +kernel
theorem dX2_kinOf_26 : decode mX2_kinOf.2.1 26 = .ok (.lload 4, 2) := by decide +kernel
theorem dX2_kinOf_28 : decode mX2_kinOf.2.1 28 = .ok (.aload_n 0, 1) := by decide +kernel
theorem dX2_kinOf_29 : decode mX2_kinOf.2.1 29 = .ok (.iload 6, 2) := by decide +kernel
theorem dX2_kinOf_31 : decode mX2_kinOf.2.1 31 = .ok (.iload_n 3, 1) := by decide +kernel
theorem dX2_kinOf_32 : decode mX2_kinOf.2.1 32 = .ok (.iload_n 3, 1) := by decide +kernel
theorem dX2_kinOf_33 : decode mX2_kinOf.2.1 33 = .ok (.iconst 3, 1) := by decide +kernel
theorem dX2_kinOf_34 : decode mX2_kinOf.2.1 34 = .ok (.irem, 1) := by decide +kernel
theorem dX2_kinOf_35 : decode mX2_kinOf.2.1 35 = .ok (.isub, 1) := by decide +kernel
theorem dX2_kinOf_36 : decode mX2_kinOf.2.1 36 = .ok (.invokevirtual 110, 3) := by decide +kernel
theorem dX2_kinOf_39 : decode mX2_kinOf.2.1 39 = .ok (.lor, 1) := by decide +kernel
theorem dX2_kinOf_40 : decode mX2_kinOf.2.1 40 = .ok (.lstore 4, 2) := by decide +kernel
theorem dX2_kinOf_42 : decode mX2_kinOf.2.1 42 = .ok (.iinc 6 1, 3) := by decide +kernel
theorem dX2_kinOf_45 : decode mX2_kinOf.2.1 45 = .ok (.goto (-39), 3) := by decide +kernel
theorem dX2_kinOf_48 : decode mX2_kinOf.2.1 48 = .ok (.iload_n 3, 1) := by decide +kernel
theorem dX2_kinOf_49 : decode mX2_kinOf.2.1 49 = .ok (.iconst 3, 1) := by decide +kernel
theorem dX2_kinOf_50 : decode mX2_kinOf.2.1 50 = .ok (.irem, 1) := by decide +kernel
theorem dX2_kinOf_51 : decode mX2_kinOf.2.1 51 = .ok (.istore 6, 2) := by decide +kernel
theorem dX2_kinOf_53 : decode mX2_kinOf.2.1 53 = .ok (.iload 6, 2) := by decide +kernel
theorem dX2_kinOf_55 : decode mX2_kinOf.2.1 55 = .ok (.ifCond .ne 8, 3) := by decide +kernel
theorem dX2_kinOf_58 : decode mX2_kinOf.2.1 58 = .ok (.lload 4, 2) := by decide +kernel
theorem dX2_kinOf_60 : decode mX2_kinOf.2.1 60 = .ok (.goto 30, 3) := by decide +kernel
theorem dX2_kinOf_63 : decode mX2_kinOf.2.1 63 = .ok (.iload 6, 2) := by decide +kernel
theorem dX2_kinOf_65 : decode mX2_kinOf.2.1 65 = .ok (.iconst 1, 1) := by decide +kernel
theorem dX2_kinOf_66 : decode mX2_kinOf.2.1 66 = .ok (.if_icmp .ne 13, 3) := by decide +kernel
theorem dX2_kinOf_69 : decode mX2_kinOf.2.1 69 = .ok (.lload 4, 2) := by decide +kernel
theorem dX2_kinOf_71 : decode mX2_kinOf.2.1 71 = .ok (.aload_n 0, 1) := by decide +kernel
theorem dX2_kinOf_72 : decode mX2_kinOf.2.1 72 = .ok (.getfield 61, 3) := by decide +kernel
theorem dX2_kinOf_75 : decode mX2_kinOf.2.1 75 = .ok (.land, 1) := by decide +kernel
theorem dX2_kinOf_76 : decode mX2_kinOf.2.1 76 = .ok (.goto 14, 3) := by decide +kernel
theorem dX2_kinOf_79 : decode mX2_kinOf.2.1 79 = .ok (.lload 4, 2) := by decide +kernel
theorem dX2_kinOf_81 : decode mX2_kinOf.2.1 81 = .ok (.aload_n 0, 1) := by decide +kernel
theorem dX2_kinOf_82 : decode mX2_kinOf.2.1 82 = .ok (.getfield 61, 3) := by decide +kernel
theorem dX2_kinOf_85 : decode mX2_kinOf.2.1 85 = .ok (.ldc2_w 94, 3) := by decide +kernel
theorem dX2_kinOf_88 : decode mX2_kinOf.2.1 88 = .ok (.lxor, 1) := by decide +kernel
theorem dX2_kinOf_89 : decode mX2_kinOf.2.1 89 = .ok (.land, 1) := by decide +kernel
theorem dX2_kinOf_90 : decode mX2_kinOf.2.1 90 = .ok (.lreturn, 1) := by decide +kernel
theorem bX2_kinOf_0 {SC : Nat → Nat} {X : mh_X} {d : Nat} {Q : Option am_V → am_W → Prop} {bc bs : Nat} {w : am_W} {y1 : Int64} {x3 : Int}
    (h : am_A (mh_G X) SC (d + 1) mX2_kinOf Q 6 [(0, .inr (.inr (some (5, 0)))), (1, .inr (.inl y1)), (3, .inl x3), (4, .inr (.inl (0 : Int64))), (6, .inl 0)] [] w bc bs) :
    am_A (mh_G X) SC (d + 1) mX2_kinOf Q 0 [(0, .inr (.inr (some (5, 0)))), (1, .inr (.inl y1)), (3, .inl x3)] [] w bc bs := by
  refine am_lconst (x := 0) dX2_kinOf_0 rfl ?_
  refine am_lstore (ls' := [(4, .inr (.inl (0 : Int64))), (0, .inr (.inr (some (5, 0)))), (1, .inr (.inl y1)), (3, .inl x3)]) dX2_kinOf_1 (by decide) rfl ?_
  refine am_iconst dX2_kinOf_3 (by unfold am_rg; omega) ?_
  refine am_istore (ls' := [(6, .inl 0), (4, .inr (.inl (0 : Int64))), (0, .inr (.inr (some (5, 0)))), (1, .inr (.inl y1)), (3, .inl x3)]) dX2_kinOf_4 (by decide) rfl ?_
  exact am_sub [2, 3, 4, 1, 0] rfl h
theorem bX2_kinOf_6 {SC : Nat → Nat} {X : mh_X} {d : Nat} {Q : Option am_V → am_W → Prop} {bc bs : Nat} {w : am_W} {y1 : Int64} {x3 : Int} {y4 : Int64} {x6 : Int}
    (h : (((w.1 5 0 18) ≤ x6 → ((¬ (am_w (Int.tmod x3 3)) = 0 → ((¬ (am_w (Int.tmod x3 3)) = 1 → Q (some (.inr (.inl (y4 &&& ((w.2.1 5 0 16) ^^^ (-1 : Int64)))))) w) ∧ ((am_w (Int.tmod x3 3)) = 1 → Q (some (.inr (.inl (y4 &&& (w.2.1 5 0 16))))) w))) ∧ ((am_w (Int.tmod x3 3)) = 0 → Q (some (.inr (.inl y4))) w))) ∧ (¬ (w.1 5 0 18) ≤ x6 → (((am_lcmpv ((y1 >>> ((Int32.ofInt x6).toInt64 &&& 63)) &&& (1 : Int64)) (0 : Int64)) = 0 → am_A (mh_G X) SC (d + 1) mX2_kinOf Q 42 [(0, .inr (.inr (some (5, 0)))), (1, .inr (.inl y1)), (3, .inl x3), (4, .inr (.inl y4)), (6, .inl x6)] [] w bc bs) ∧ (¬ (am_lcmpv ((y1 >>> ((Int32.ofInt x6).toInt64 &&& 63)) &&& (1 : Int64)) (0 : Int64)) = 0 → am_M (mh_G X) SC d 0 0 mX2_relativesOf [.inr (.inr (some (5, 0))), .inl x6, .inl (am_w (x3 - (am_w (Int.tmod x3 3))))] w (fun r w1 => am_A (mh_G X) SC (d + 1) mX2_kinOf Q 39 [(0, .inr (.inr (some (5, 0)))), (1, .inr (.inl y1)), (3, .inl x3), (4, .inr (.inl y4)), (6, .inl x6)] (r.toList ++ [.inr (.inl y4)]) w1 bc bs)))))) :
    am_A (mh_G X) SC (d + 1) mX2_kinOf Q 6 [(0, .inr (.inr (some (5, 0)))), (1, .inr (.inl y1)), (3, .inl x3), (4, .inr (.inl y4)), (6, .inl x6)] [] w bc bs := by
  refine am_iload dX2_kinOf_6 (List.Mem.tail _ (List.Mem.tail _ (List.Mem.tail _ (List.Mem.tail _ (List.Mem.head _))))) ?_
  refine am_aload_n dX2_kinOf_8 (List.Mem.head _) ?_
  refine am_getf (f := 18) (v := .inl (w.1 5 0 18)) dX2_kinOf_9 hc_5 (by decide) wd_339 (by decide) rfl rfl ?_
  refine am_icmpge (tgt := 48) dX2_kinOf_12 (by decide) (fun c1 => ?_) (fun c1 => ?_)
  · replace h := h.1 c1
    refine am_iload_n dX2_kinOf_48 (List.Mem.tail _ (List.Mem.tail _ (List.Mem.head _))) ?_
    refine am_iconst dX2_kinOf_49 (by unfold am_rg; omega) ?_
    refine am_irem dX2_kinOf_50 (by decide) ?_
    refine am_istore (ls' := [(6, .inl (am_w (Int.tmod x3 3))), (0, .inr (.inr (some (5, 0)))), (1, .inr (.inl y1)), (3, .inl x3), (4, .inr (.inl y4))]) dX2_kinOf_51 (by decide) rfl ?_
    refine am_iload dX2_kinOf_53 (List.Mem.head _) ?_
    refine am_ifne (tgt := 63) dX2_kinOf_55 (by decide) (fun c2 => ?_) (fun c2 => ?_)
    · replace h := h.1 c2
      refine am_iload dX2_kinOf_63 (List.Mem.head _) ?_
      refine am_iconst dX2_kinOf_65 (by unfold am_rg; omega) ?_
      refine am_icmpne (tgt := 79) dX2_kinOf_66 (by decide) (fun c3 => ?_) (fun c3 => ?_)
      · replace h := h.1 c3
        refine am_lload dX2_kinOf_79 (List.Mem.tail _ (List.Mem.tail _ (List.Mem.tail _ (List.Mem.tail _ (List.Mem.head _))))) ?_
        refine am_aload_n dX2_kinOf_81 (List.Mem.tail _ (List.Mem.head _)) ?_
        refine am_getf (f := 16) (v := .inr (.inl (w.2.1 5 0 16))) dX2_kinOf_82 hc_5 (by decide) wd_337 (by decide) rfl rfl ?_
        refine am_ldc2 (x := (-1)) dX2_kinOf_85 wd_1147 ?_
        refine am_lxor dX2_kinOf_88 ?_
        refine am_land dX2_kinOf_89 ?_
        exact am_ret (r := some (.inr (.inl (y4 &&& ((w.2.1 5 0 16) ^^^ (-1 : Int64)))))) dX2_kinOf_90 rfl rfl h
      · replace h := h.2 c3
        refine am_lload dX2_kinOf_69 (List.Mem.tail _ (List.Mem.tail _ (List.Mem.tail _ (List.Mem.tail _ (List.Mem.head _))))) ?_
        refine am_aload_n dX2_kinOf_71 (List.Mem.tail _ (List.Mem.head _)) ?_
        refine am_getf (f := 16) (v := .inr (.inl (w.2.1 5 0 16))) dX2_kinOf_72 hc_5 (by decide) wd_337 (by decide) rfl rfl ?_
        refine am_land dX2_kinOf_75 ?_
        refine am_goto (tgt := 90) dX2_kinOf_76 (by decide) ?_
        exact am_ret (r := some (.inr (.inl (y4 &&& (w.2.1 5 0 16))))) dX2_kinOf_90 rfl rfl h
    · replace h := h.2 c2
      refine am_lload dX2_kinOf_58 (List.Mem.tail _ (List.Mem.tail _ (List.Mem.tail _ (List.Mem.tail _ (List.Mem.head _))))) ?_
      refine am_goto (tgt := 90) dX2_kinOf_60 (by decide) ?_
      exact am_ret (r := some (.inr (.inl y4))) dX2_kinOf_90 rfl rfl h
  · replace h := h.2 c1
    refine am_lload_n dX2_kinOf_15 (List.Mem.tail _ (List.Mem.head _)) ?_
    refine am_iload dX2_kinOf_16 (List.Mem.tail _ (List.Mem.tail _ (List.Mem.tail _ (List.Mem.tail _ (List.Mem.head _))))) ?_
    refine am_lshr dX2_kinOf_18 ?_
    refine am_lconst (x := 1) dX2_kinOf_19 rfl ?_
    refine am_land dX2_kinOf_20 ?_
    refine am_lconst (x := 0) dX2_kinOf_21 rfl ?_
    refine am_lcmp dX2_kinOf_22 ?_
    refine am_ifeq (tgt := 42) dX2_kinOf_23 (by decide) (fun c4 => ?_) (fun c4 => ?_)
    · replace h := h.1 c4
      exact h
    · replace h := h.2 c4
      refine am_lload dX2_kinOf_26 (List.Mem.tail _ (List.Mem.tail _ (List.Mem.tail _ (List.Mem.head _)))) ?_
      refine am_aload_n dX2_kinOf_28 (List.Mem.head _) ?_
      refine am_iload dX2_kinOf_29 (List.Mem.tail _ (List.Mem.tail _ (List.Mem.tail _ (List.Mem.tail _ (List.Mem.head _))))) ?_
      refine am_iload_n dX2_kinOf_31 (List.Mem.tail _ (List.Mem.tail _ (List.Mem.head _))) ?_
      refine am_iload_n dX2_kinOf_32 (List.Mem.tail _ (List.Mem.tail _ (List.Mem.head _))) ?_
      refine am_iconst dX2_kinOf_33 (by unfold am_rg; omega) ?_
      refine am_irem dX2_kinOf_34 (by decide) ?_
      refine am_isub dX2_kinOf_35 ?_
      exact am_callv (d' := d) (kc := 0) (ks := 0) (as := [.inl x6, .inl (am_w (x3 - (am_w (Int.tmod x3 3))))]) dX2_kinOf_36 wc_X2_relativesOf wd_1157 wd_1159 wd_32 wd_117 ds_X2_relativesOf (by decide) (Nat.le_refl _) (Nat.le_of_ble_eq_true rfl) (Nat.zero_le _) (Nat.zero_le _) hc_5 (by decide) rfl rfl h
theorem bX2_kinOf_42 {SC : Nat → Nat} {X : mh_X} {d : Nat} {Q : Option am_V → am_W → Prop} {bc bs : Nat} {w : am_W} {y1 : Int64} {x3 : Int} {y4 : Int64} {x6 : Int}
    (h : am_A (mh_G X) SC (d + 1) mX2_kinOf Q 6 [(0, .inr (.inr (some (5, 0)))), (1, .inr (.inl y1)), (3, .inl x3), (4, .inr (.inl y4)), (6, .inl (am_w (x6 + 1)))] [] w bc bs) :
    am_A (mh_G X) SC (d + 1) mX2_kinOf Q 42 [(0, .inr (.inr (some (5, 0)))), (1, .inr (.inl y1)), (3, .inl x3), (4, .inr (.inl y4)), (6, .inl x6)] [] w bc bs := by
  refine am_iinc (ls' := [(6, .inl (am_w (x6 + 1))), (0, .inr (.inr (some (5, 0)))), (1, .inr (.inl y1)), (3, .inl x3), (4, .inr (.inl y4))]) dX2_kinOf_42 (List.Mem.tail _ (List.Mem.tail _ (List.Mem.tail _ (List.Mem.tail _ (List.Mem.head _))))) (by decide) rfl ?_
  refine am_goto (tgt := 6) dX2_kinOf_45 (by decide) ?_
  exact am_sub [1, 2, 3, 4, 0] rfl h
theorem bX2_kinOf_39 {SC : Nat → Nat} {X : mh_X} {d : Nat} {Q : Option am_V → am_W → Prop} {bc bs : Nat} {w : am_W} {y1 : Int64} {x3 : Int} {y4 : Int64} {x6 : Int} {ys0 : Int64} {ys1 : Int64}
    (h : am_A (mh_G X) SC (d + 1) mX2_kinOf Q 42 [(0, .inr (.inr (some (5, 0)))), (1, .inr (.inl y1)), (3, .inl x3), (4, .inr (.inl (ys1 ||| ys0))), (6, .inl x6)] [] w bc bs) :
    am_A (mh_G X) SC (d + 1) mX2_kinOf Q 39 [(0, .inr (.inr (some (5, 0)))), (1, .inr (.inl y1)), (3, .inl x3), (4, .inr (.inl y4)), (6, .inl x6)] [.inr (.inl ys0), .inr (.inl ys1)] w bc bs := by
  refine am_lor dX2_kinOf_39 ?_
  refine am_lstore (ls' := [(4, .inr (.inl (ys1 ||| ys0))), (0, .inr (.inr (some (5, 0)))), (1, .inr (.inl y1)), (3, .inl x3), (6, .inl x6)]) dX2_kinOf_40 (by decide) rfl ?_
  exact am_sub [1, 2, 3, 0, 4] rfl h
-- MourningHouse$Family.relativesOf(II)J
theorem dX2_relativesOf_0 : decode mX2_relativesOf.2.1 0 = .ok (.iload_n 2, 1) := by decide +kernel
theorem dX2_relativesOf_1 : decode mX2_relativesOf.2.1 1 = .ok (.lookupswitch 56 #[(0, 35), (3, 42), (6, 49)], 35) := by decide +kernel
theorem dX2_relativesOf_36 : decode mX2_relativesOf.2.1 36 = .ok (.aload_n 0, 1) := by decide +kernel
theorem dX2_relativesOf_37 : decode mX2_relativesOf.2.1 37 = .ok (.getfield 58, 3) := by decide +kernel
theorem dX2_relativesOf_40 : decode mX2_relativesOf.2.1 40 = .ok (.iload_n 1, 1) := by decide +kernel
theorem dX2_relativesOf_41 : decode mX2_relativesOf.2.1 41 = .ok (.laload, 1) := by decide +kernel
theorem dX2_relativesOf_42 : decode mX2_relativesOf.2.1 42 = .ok (.lreturn, 1) := by decide +kernel
theorem dX2_relativesOf_43 : decode mX2_relativesOf.2.1 43 = .ok (.aload_n 0, 1) := by decide +kernel
theorem dX2_relativesOf_44 : decode mX2_relativesOf.2.1 44 = .ok (.getfield 40, 3) := by decide +kernel
theorem dX2_relativesOf_47 : decode mX2_relativesOf.2.1 47 = .ok (.iload_n 1, 1) := by decide +kernel
theorem dX2_relativesOf_48 : decode mX2_relativesOf.2.1 48 = .ok (.laload, 1) := by decide +kernel
theorem dX2_relativesOf_49 : decode mX2_relativesOf.2.1 49 = .ok (.lreturn, 1) := by decide +kernel
theorem dX2_relativesOf_50 : decode mX2_relativesOf.2.1 50 = .ok (.aload_n 0, 1) := by decide +kernel
theorem dX2_relativesOf_51 : decode mX2_relativesOf.2.1 51 = .ok (.getfield 36, 3) := by decide +kernel
theorem dX2_relativesOf_54 : decode mX2_relativesOf.2.1 54 = .ok (.iload_n 1, 1) := by decide +kernel
theorem dX2_relativesOf_55 : decode mX2_relativesOf.2.1 55 = .ok (.laload, 1) := by decide +kernel
theorem dX2_relativesOf_56 : decode mX2_relativesOf.2.1 56 = .ok (.lreturn, 1) := by decide +kernel
theorem dX2_relativesOf_57 : decode mX2_relativesOf.2.1 57 = .ok (.aload_n 0, 1) := by decide +kernel
theorem dX2_relativesOf_58 : decode mX2_relativesOf.2.1 58 = .ok (.getfield 43, 3) := by decide +kernel
theorem dX2_relativesOf_61 : decode mX2_relativesOf.2.1 61 = .ok (.iload_n 1, 1) := by decide +kernel
theorem dX2_relativesOf_62 : decode mX2_relativesOf.2.1 62 = .ok (.laload, 1) := by decide +kernel
theorem dX2_relativesOf_63 : decode mX2_relativesOf.2.1 63 = .ok (.lreturn, 1) := by decide +kernel
theorem bX2_relativesOf_0 {SC : Nat → Nat} {X : mh_X} {d : Nat} {Q : Option am_V → am_W → Prop} {bc bs : Nat} {w : am_W} {x1 : Int} {x2 : Int}
    (h : ((x2 = 0 → (0 ≤ x1 ∧ (x1 < 40 ∧ Q (some (.inr (.inl (w.2.1 48 0 x1.toNat)))) w))) ∧ (x2 = 3 → (0 ≤ x1 ∧ (x1 < 40 ∧ Q (some (.inr (.inl (w.2.1 42 0 x1.toNat)))) w))) ∧ (x2 = 6 → (0 ≤ x1 ∧ (x1 < 40 ∧ Q (some (.inr (.inl (w.2.1 41 0 x1.toNat)))) w))) ∧ (¬ x2 = 0 → ¬ x2 = 3 → ¬ x2 = 6 → (0 ≤ x1 ∧ (x1 < 40 ∧ Q (some (.inr (.inl (w.2.1 43 0 x1.toNat)))) w))))) :
    am_A (mh_G X) SC (d + 1) mX2_relativesOf Q 0 [(0, .inr (.inr (some (5, 0)))), (1, .inl x1), (2, .inl x2)] [] w bc bs := by
  refine am_iload_n dX2_relativesOf_0 (List.Mem.tail _ (List.Mem.tail _ (List.Mem.head _))) ?_
  by_cases c1 : x2 = 0
  · replace h := h.1 c1
    refine am_lsw (off := 35) (tgt := 36) dX2_relativesOf_1 (by decide) (by rw [c1]; decide) (by decide) ?_
    refine am_aload_n dX2_relativesOf_36 (List.Mem.head _) ?_
    refine am_getf (f := 15) (v := .inr (.inr (some (48, 0)))) dX2_relativesOf_37 hc_5 (by decide) wd_336 (by decide) rfl rfl ?_
    refine am_iload_n dX2_relativesOf_40 (List.Mem.tail _ (List.Mem.head _)) ?_
    have o2 := h.1
    replace h := h.2
    have o3 := h.1
    replace h := h.2
    refine am_laload (x := (w.2.1 48 0 x1.toNat)) dX2_relativesOf_41 (by decide) rfl o2 o3 rfl ?_
    exact am_ret (r := some (.inr (.inl (w.2.1 48 0 x1.toNat)))) dX2_relativesOf_42 rfl rfl h
  have n0_1 := c1
  by_cases c4 : x2 = 3
  · replace h := h.2.1 c4
    refine am_lsw (off := 42) (tgt := 43) dX2_relativesOf_1 (by decide) (by rw [c4]; decide) (by decide) ?_
    refine am_aload_n dX2_relativesOf_43 (List.Mem.head _) ?_
    refine am_getf (f := 9) (v := .inr (.inr (some (42, 0)))) dX2_relativesOf_44 hc_5 (by decide) wd_330 (by decide) rfl rfl ?_
    refine am_iload_n dX2_relativesOf_47 (List.Mem.tail _ (List.Mem.head _)) ?_
    have o5 := h.1
    replace h := h.2
    have o6 := h.1
    replace h := h.2
    refine am_laload (x := (w.2.1 42 0 x1.toNat)) dX2_relativesOf_48 (by decide) rfl o5 o6 rfl ?_
    exact am_ret (r := some (.inr (.inl (w.2.1 42 0 x1.toNat)))) dX2_relativesOf_49 rfl rfl h
  have n1_1 := c4
  by_cases c7 : x2 = 6
  · replace h := h.2.2.1 c7
    refine am_lsw (off := 49) (tgt := 50) dX2_relativesOf_1 (by decide) (by rw [c7]; decide) (by decide) ?_
    refine am_aload_n dX2_relativesOf_50 (List.Mem.head _) ?_
    refine am_getf (f := 8) (v := .inr (.inr (some (41, 0)))) dX2_relativesOf_51 hc_5 (by decide) wd_329 (by decide) rfl rfl ?_
    refine am_iload_n dX2_relativesOf_54 (List.Mem.tail _ (List.Mem.head _)) ?_
    have o8 := h.1
    replace h := h.2
    have o9 := h.1
    replace h := h.2
    refine am_laload (x := (w.2.1 41 0 x1.toNat)) dX2_relativesOf_55 (by decide) rfl o8 o9 rfl ?_
    exact am_ret (r := some (.inr (.inl (w.2.1 41 0 x1.toNat)))) dX2_relativesOf_56 rfl rfl h
  have n2_1 := c7
  replace h := h.2.2.2 n0_1 n1_1 n2_1
  refine am_lsw (off := 56) (tgt := 57) dX2_relativesOf_1 (by decide) (by show Op.lookupswitch.offset [(0, 35), (3, 42), (6, 49)] 56 x2 = 56; rw [am_off1 n0_1, am_off1 n1_1, am_off1 n2_1]; rfl) (by decide) ?_
  refine am_aload_n dX2_relativesOf_57 (List.Mem.head _) ?_
  refine am_getf (f := 10) (v := .inr (.inr (some (43, 0)))) dX2_relativesOf_58 hc_5 (by decide) wd_331 (by decide) rfl rfl ?_
  refine am_iload_n dX2_relativesOf_61 (List.Mem.tail _ (List.Mem.head _)) ?_
  have o11 := h.1
  replace h := h.2
  have o12 := h.1
  replace h := h.2
  refine am_laload (x := (w.2.1 43 0 x1.toNat)) dX2_relativesOf_62 (by decide) rfl o11 o12 rfl ?_
  exact am_ret (r := some (.inr (.inl (w.2.1 43 0 x1.toNat)))) dX2_relativesOf_63 rfl rfl h
-- MourningHouse$Family.factOf(II)I
theorem dX2_factOf_0 : decode mX2_factOf.2.1 0 = .ok (.iload_n 2, 1) := by decide +kernel
theorem dX2_factOf_1 : decode mX2_factOf.2.1 1 = .ok (.tableswitch 148 0 6 #[43, 50, 57, 79, 101, 108, 128], 43) := by decide +kernel
theorem dX2_factOf_44 : decode mX2_factOf.2.1 44 = .ok (.aload_n 0, 1) := by decide +kernel
theorem dX2_factOf_45 : decode mX2_factOf.2.1 45 = .ok (.getfield 11, 3) := by decide +kernel
theorem dX2_factOf_48 : decode mX2_factOf.2.1 48 = .ok (.iload_n 1, 1) := by decide +kernel
theorem dX2_factOf_49 : decode mX2_factOf.2.1 49 = .ok (.iaload, 1) := by decide +kernel
theorem dX2_factOf_50 : decode mX2_factOf.2.1 50 = .ok (.ireturn, 1) := by decide +kernel
theorem dX2_factOf_51 : decode mX2_factOf.2.1 51 = .ok (.aload_n 0, 1) := by decide +kernel
theorem dX2_factOf_52 : decode mX2_factOf.2.1 52 = .ok (.getfield 15, 3) := by decide +kernel
theorem dX2_factOf_55 : decode mX2_factOf.2.1 55 = .ok (.iload_n 1, 1) := by decide +kernel
theorem dX2_factOf_56 : decode mX2_factOf.2.1 56 = .ok (.iaload, 1) := by decide +kernel
theorem dX2_factOf_57 : decode mX2_factOf.2.1 57 = .ok (.ireturn, 1) := by decide +kernel
theorem dX2_factOf_58 : decode mX2_factOf.2.1 58 = .ok (.aload_n 0, 1) := by decide +kernel
theorem dX2_factOf_59 : decode mX2_factOf.2.1 59 = .ok (.getfield 18, 3) := by decide +kernel
theorem dX2_factOf_62 : decode mX2_factOf.2.1 62 = .ok (.iload_n 1, 1) := by decide +kernel
theorem dX2_factOf_63 : decode mX2_factOf.2.1 63 = .ok (.iaload, 1) := by decide +kernel
theorem dX2_factOf_64 : decode mX2_factOf.2.1 64 = .ok (.iconst (-1), 1) := by decide +kernel
theorem dX2_factOf_65 : decode mX2_factOf.2.1 65 = .ok (.if_icmp .ne 8, 3) := by decide +kernel
theorem dX2_factOf_68 : decode mX2_factOf.2.1 68 = .ok (.ldc 114, 2) := by decide +kernel
theorem dX2_factOf_70 : decode mX2_factOf.2.1 70 = .ok (.goto 9, 3) := by decide +kernel
theorem dX2_factOf_73 : decode mX2_factOf.2.1 73 = .ok (.aload_n 0, 1) := by decide +kernel
theorem dX2_factOf_74 : decode mX2_factOf.2.1 74 = .ok (.getfield 18, 3) := by decide +kernel
theorem dX2_factOf_77 : decode mX2_factOf.2.1 77 = .ok (.iload_n 1, 1) := by decide +kernel
theorem dX2_factOf_78 : decode mX2_factOf.2.1 78 = .ok (.iaload, 1) := by decide +kernel
theorem dX2_factOf_79 : decode mX2_factOf.2.1 79 = .ok (.ireturn, 1) := by decide +kernel
theorem dX2_factOf_80 : decode mX2_factOf.2.1 80 = .ok (.aload_n 0, 1) := by decide +kernel
theorem dX2_factOf_81 : decode mX2_factOf.2.1 81 = .ok (.getfield 21, 3) := by decide +kernel
theorem dX2_factOf_84 : decode mX2_factOf.2.1 84 = .ok (.iload_n 1, 1) := by decide +kernel
theorem dX2_factOf_85 : decode mX2_factOf.2.1 85 = .ok (.iaload, 1) := by decide +kernel
theorem dX2_factOf_86 : decode mX2_factOf.2.1 86 = .ok (.iconst (-1), 1) := by decide +kernel
theorem dX2_factOf_87 : decode mX2_factOf.2.1 87 = .ok (.if_icmp .ne 8, 3) := by decide +kernel
theorem dX2_factOf_90 : decode mX2_factOf.2.1 90 = .ok (.ldc 114, 2) := by decide +kernel
theorem dX2_factOf_92 : decode mX2_factOf.2.1 92 = .ok (.goto 9, 3) := by decide +kernel
theorem dX2_factOf_95 : decode mX2_factOf.2.1 95 = .ok (.aload_n 0, 1) := by decide +kernel
theorem dX2_factOf_96 : decode mX2_factOf.2.1 96 = .ok (.getfield 21, 3) := by decide +kernel
theorem dX2_factOf_99 : decode mX2_factOf.2.1 99 = .ok (.iload_n 1, 1) := by decide +kernel
theorem dX2_factOf_100 : decode mX2_factOf.2.1 100 = .ok (.iaload, 1) := by decide +kernel
theorem dX2_factOf_101 : decode mX2_factOf.2.1 101 = .ok (.ireturn, 1) := by decide +kernel
theorem dX2_factOf_102 : decode mX2_factOf.2.1 102 = .ok (.aload_n 0, 1) := by decide +kernel
theorem dX2_factOf_103 : decode mX2_factOf.2.1 103 = .ok (.getfield 24, 3) := by decide +kernel
theorem dX2_factOf_106 : decode mX2_factOf.2.1 106 = .ok (.iload_n 1, 1) := by decide +kernel
theorem dX2_factOf_107 : decode mX2_factOf.2.1 107 = .ok (.iaload, 1) := by decide +kernel
theorem dX2_factOf_108 : decode mX2_factOf.2.1 108 = .ok (.ireturn, 1) := by decide +kernel
theorem dX2_factOf_109 : decode mX2_factOf.2.1 109 = .ok (.aload_n 0, 1) := by decide +kernel
theorem dX2_factOf_110 : decode mX2_factOf.2.1 110 = .ok (.iload_n 1, 1) := by decide +kernel
theorem dX2_factOf_111 : decode mX2_factOf.2.1 111 = .ok (.invokevirtual 91, 3) := by decide +kernel
theorem dX2_factOf_114 : decode mX2_factOf.2.1 114 = .ok (.ifCond .eq 12, 3) := by decide +kernel
theorem dX2_factOf_117 : decode mX2_factOf.2.1 117 = .ok (.aload_n 0, 1) := by decide +kernel
theorem dX2_factOf_118 : decode mX2_factOf.2.1 118 = .ok (.getfield 30, 3) := by decide +kernel
theorem dX2_factOf_121 : decode mX2_factOf.2.1 121 = .ok (.iload_n 1, 1) := by decide +kernel
theorem dX2_factOf_122 : decode mX2_factOf.2.1 122 = .ok (.iaload, 1) := by decide +kernel
theorem dX2_factOf_123 : decode mX2_factOf.2.1 123 = .ok (.goto 5, 3) := by decide +kernel
theorem dX2_factOf_126 : decode mX2_factOf.2.1 126 = .ok (.ldc 114, 2) := by decide +kernel
theorem dX2_factOf_128 : decode mX2_factOf.2.1 128 = .ok (.ireturn, 1) := by decide +kernel
theorem dX2_factOf_129 : decode mX2_factOf.2.1 129 = .ok (.aload_n 0, 1) := by decide +kernel
theorem dX2_factOf_130 : decode mX2_factOf.2.1 130 = .ok (.iload_n 1, 1) := by decide +kernel
theorem dX2_factOf_131 : decode mX2_factOf.2.1 131 = .ok (.invokevirtual 91, 3) := by decide +kernel
theorem dX2_factOf_134 : decode mX2_factOf.2.1 134 = .ok (.ifCond .eq 12, 3) := by decide +kernel
theorem dX2_factOf_137 : decode mX2_factOf.2.1 137 = .ok (.aload_n 0, 1) := by decide +kernel
theorem dX2_factOf_138 : decode mX2_factOf.2.1 138 = .ok (.getfield 33, 3) := by decide +kernel
theorem dX2_factOf_141 : decode mX2_factOf.2.1 141 = .ok (.iload_n 1, 1) := by decide +kernel
theorem dX2_factOf_142 : decode mX2_factOf.2.1 142 = .ok (.iaload, 1) := by decide +kernel
theorem dX2_factOf_143 : decode mX2_factOf.2.1 143 = .ok (.goto 5, 3) := by decide +kernel
theorem dX2_factOf_146 : decode mX2_factOf.2.1 146 = .ok (.ldc 114, 2) := by decide +kernel
theorem dX2_factOf_148 : decode mX2_factOf.2.1 148 = .ok (.ireturn, 1) := by decide +kernel
theorem dX2_factOf_149 : decode mX2_factOf.2.1 149 = .ok (.ldc 114, 2) := by decide +kernel
theorem dX2_factOf_151 : decode mX2_factOf.2.1 151 = .ok (.ireturn, 1) := by decide +kernel
theorem bX2_factOf_0 {SC : Nat → Nat} {X : mh_X} {d : Nat} {Q : Option am_V → am_W → Prop} {bc bs : Nat} {w : am_W} {x1 : Int} {x2 : Int}
    (h : (((x2 < 0 ∨ 6 < x2) → Q (some (.inl (-2147483648))) w) ∧ (x2 = 0 → (0 ≤ x1 ∧ (x1 < 40 ∧ Q (some (.inl (w.1 33 0 x1.toNat))) w))) ∧ (x2 = 1 → (0 ≤ x1 ∧ (x1 < 40 ∧ Q (some (.inl (w.1 34 0 x1.toNat))) w))) ∧ (x2 = 2 → (0 ≤ x1 ∧ (x1 < 40 ∧ ((¬ (w.1 35 0 x1.toNat) = (-1) → Q (some (.inl (w.1 35 0 x1.toNat))) w) ∧ ((w.1 35 0 x1.toNat) = (-1) → Q (some (.inl (-2147483648))) w))))) ∧ (x2 = 3 → (0 ≤ x1 ∧ (x1 < 40 ∧ ((¬ (w.1 36 0 x1.toNat) = (-1) → Q (some (.inl (w.1 36 0 x1.toNat))) w) ∧ ((w.1 36 0 x1.toNat) = (-1) → Q (some (.inl (-2147483648))) w))))) ∧ (x2 = 4 → (0 ≤ x1 ∧ (x1 < 40 ∧ Q (some (.inl (w.1 37 0 x1.toNat))) w))) ∧ (x2 = 5 → am_M (mh_G X) SC d 0 0 mX2_isToldDead [.inr (.inr (some (5, 0))), .inl x1] w (fun r w1 => am_A (mh_G X) SC (d + 1) mX2_factOf Q 114 [(0, .inr (.inr (some (5, 0)))), (1, .inl x1), (2, .inl x2)] (r.toList ++ []) w1 bc bs)) ∧ (x2 = 6 → am_M (mh_G X) SC d 0 0 mX2_isToldDead [.inr (.inr (some (5, 0))), .inl x1] w (fun r w1 => am_A (mh_G X) SC (d + 1) mX2_factOf Q 134 [(0, .inr (.inr (some (5, 0)))), (1, .inl x1), (2, .inl x2)] (r.toList ++ []) w1 bc bs)))) :
    am_A (mh_G X) SC (d + 1) mX2_factOf Q 0 [(0, .inr (.inr (some (5, 0)))), (1, .inl x1), (2, .inl x2)] [] w bc bs := by
  refine am_iload_n dX2_factOf_0 (List.Mem.tail _ (List.Mem.tail _ (List.Mem.head _))) ?_
  by_cases c1 : x2 < 0 ∨ 6 < x2
  · replace h := h.1 c1
    refine am_tswOut (tgt := 149) dX2_factOf_1 c1 (by decide) ?_
    refine am_ldcV (n := (-2147483648)) dX2_factOf_149 (by decide) wd_1499 (by unfold am_rg; omega) ?_
    exact am_ret (r := some (.inl (-2147483648))) dX2_factOf_151 (Or.inl rfl) rfl h
  · replace h := h.2
    rcases (show x2 = 0 ∨ x2 = 1 ∨ x2 = 2 ∨ x2 = 3 ∨ x2 = 4 ∨ x2 = 5 ∨ x2 = 6 by omega) with c1 | c1 | c1 | c1 | c1 | c1 | c1
    · replace h := h.1 c1
      refine am_tswIn (off := 43) (tgt := 44) dX2_factOf_1 (by omega) (by omega) (by rw [c1]; decide) (by decide) ?_
      refine am_aload_n dX2_factOf_44 (List.Mem.head _) ?_
      refine am_getf (f := 0) (v := .inr (.inr (some (33, 0)))) dX2_factOf_45 hc_5 (by decide) wd_315 (by decide) rfl rfl ?_
      refine am_iload_n dX2_factOf_48 (List.Mem.tail _ (List.Mem.head _)) ?_
      have o2 := h.1
      replace h := h.2
      have o3 := h.1
      replace h := h.2
      refine am_iaload (v := (w.1 33 0 x1.toNat)) dX2_factOf_49 (by decide) rfl o2 o3 rfl ?_
      exact am_ret (r := some (.inl (w.1 33 0 x1.toNat))) dX2_factOf_50 (Or.inl rfl) rfl h
    · replace h := h.2.1 c1
      refine am_tswIn (off := 50) (tgt := 51) dX2_factOf_1 (by omega) (by omega) (by rw [c1]; decide) (by decide) ?_
      refine am_aload_n dX2_factOf_51 (List.Mem.head _) ?_
      refine am_getf (f := 1) (v := .inr (.inr (some (34, 0)))) dX2_factOf_52 hc_5 (by decide) wd_316 (by decide) rfl rfl ?_
      refine am_iload_n dX2_factOf_55 (List.Mem.tail _ (List.Mem.head _)) ?_
      have o4 := h.1
      replace h := h.2
      have o5 := h.1
      replace h := h.2
      refine am_iaload (v := (w.1 34 0 x1.toNat)) dX2_factOf_56 (by decide) rfl o4 o5 rfl ?_
      exact am_ret (r := some (.inl (w.1 34 0 x1.toNat))) dX2_factOf_57 (Or.inl rfl) rfl h
    · replace h := h.2.2.1 c1
      refine am_tswIn (off := 57) (tgt := 58) dX2_factOf_1 (by omega) (by omega) (by rw [c1]; decide) (by decide) ?_
      refine am_aload_n dX2_factOf_58 (List.Mem.head _) ?_
      refine am_getf (f := 2) (v := .inr (.inr (some (35, 0)))) dX2_factOf_59 hc_5 (by decide) wd_318 (by decide) rfl rfl ?_
      refine am_iload_n dX2_factOf_62 (List.Mem.tail _ (List.Mem.head _)) ?_
      have o6 := h.1
      replace h := h.2
      have o7 := h.1
      replace h := h.2
      refine am_iaload (v := (w.1 35 0 x1.toNat)) dX2_factOf_63 (by decide) rfl o6 o7 rfl ?_
      refine am_iconst dX2_factOf_64 (by unfold am_rg; omega) ?_
      refine am_icmpne (tgt := 73) dX2_factOf_65 (by decide) (fun c8 => ?_) (fun c8 => ?_)
      · replace h := h.1 c8
        refine am_aload_n dX2_factOf_73 (List.Mem.head _) ?_
        refine am_getf (f := 2) (v := .inr (.inr (some (35, 0)))) dX2_factOf_74 hc_5 (by decide) wd_318 (by decide) rfl rfl ?_
        refine am_iload_n dX2_factOf_77 (List.Mem.tail _ (List.Mem.head _)) ?_
        refine am_iaload (v := (w.1 35 0 x1.toNat)) dX2_factOf_78 (by decide) rfl o6 o7 rfl ?_
        exact am_ret (r := some (.inl (w.1 35 0 x1.toNat))) dX2_factOf_79 (Or.inl rfl) rfl h
      · replace h := h.2 c8
        refine am_ldcV (n := (-2147483648)) dX2_factOf_68 (by decide) wd_1499 (by unfold am_rg; omega) ?_
        refine am_goto (tgt := 79) dX2_factOf_70 (by decide) ?_
        exact am_ret (r := some (.inl (-2147483648))) dX2_factOf_79 (Or.inl rfl) rfl h
    · replace h := h.2.2.2.1 c1
      refine am_tswIn (off := 79) (tgt := 80) dX2_factOf_1 (by omega) (by omega) (by rw [c1]; decide) (by decide) ?_
      refine am_aload_n dX2_factOf_80 (List.Mem.head _) ?_
      refine am_getf (f := 3) (v := .inr (.inr (some (36, 0)))) dX2_factOf_81 hc_5 (by decide) wd_319 (by decide) rfl rfl ?_
      refine am_iload_n dX2_factOf_84 (List.Mem.tail _ (List.Mem.head _)) ?_
      have o9 := h.1
      replace h := h.2
      have o10 := h.1
      replace h := h.2
      refine am_iaload (v := (w.1 36 0 x1.toNat)) dX2_factOf_85 (by decide) rfl o9 o10 rfl ?_
      refine am_iconst dX2_factOf_86 (by unfold am_rg; omega) ?_
      refine am_icmpne (tgt := 95) dX2_factOf_87 (by decide) (fun c11 => ?_) (fun c11 => ?_)
      · replace h := h.1 c11
        refine am_aload_n dX2_factOf_95 (List.Mem.head _) ?_
        refine am_getf (f := 3) (v := .inr (.inr (some (36, 0)))) dX2_factOf_96 hc_5 (by decide) wd_319 (by decide) rfl rfl ?_
        refine am_iload_n dX2_factOf_99 (List.Mem.tail _ (List.Mem.head _)) ?_
        refine am_iaload (v := (w.1 36 0 x1.toNat)) dX2_factOf_100 (by decide) rfl o9 o10 rfl ?_
        exact am_ret (r := some (.inl (w.1 36 0 x1.toNat))) dX2_factOf_101 (Or.inl rfl) rfl h
      · replace h := h.2 c11
        refine am_ldcV (n := (-2147483648)) dX2_factOf_90 (by decide) wd_1499 (by unfold am_rg; omega) ?_
        refine am_goto (tgt := 101) dX2_factOf_92 (by decide) ?_
        exact am_ret (r := some (.inl (-2147483648))) dX2_factOf_101 (Or.inl rfl) rfl h
    · replace h := h.2.2.2.2.1 c1
      refine am_tswIn (off := 101) (tgt := 102) dX2_factOf_1 (by omega) (by omega) (by rw [c1]; decide) (by decide) ?_
      refine am_aload_n dX2_factOf_102 (List.Mem.head _) ?_
      refine am_getf (f := 4) (v := .inr (.inr (some (37, 0)))) dX2_factOf_103 hc_5 (by decide) wd_320 (by decide) rfl rfl ?_
      refine am_iload_n dX2_factOf_106 (List.Mem.tail _ (List.Mem.head _)) ?_
      have o12 := h.1
      replace h := h.2
      have o13 := h.1
      replace h := h.2
      refine am_iaload (v := (w.1 37 0 x1.toNat)) dX2_factOf_107 (by decide) rfl o12 o13 rfl ?_
      exact am_ret (r := some (.inl (w.1 37 0 x1.toNat))) dX2_factOf_108 (Or.inl rfl) rfl h
    · replace h := h.2.2.2.2.2.1 c1
      refine am_tswIn (off := 108) (tgt := 109) dX2_factOf_1 (by omega) (by omega) (by rw [c1]; decide) (by decide) ?_
      refine am_aload_n dX2_factOf_109 (List.Mem.head _) ?_
      refine am_iload_n dX2_factOf_110 (List.Mem.tail _ (List.Mem.head _)) ?_
      exact am_callv (d' := d) (kc := 0) (ks := 0) (as := [.inl x1]) dX2_factOf_111 wc_X2_isToldDead wd_1420 wd_1104 wd_1105 wd_117 ds_X2_isToldDead (by decide) (Nat.le_refl _) (Nat.le_of_ble_eq_true rfl) (Nat.zero_le _) (Nat.zero_le _) hc_5 (by decide) rfl rfl h
    · replace h := h.2.2.2.2.2.2 c1
      refine am_tswIn (off := 128) (tgt := 129) dX2_factOf_1 (by omega) (by omega) (by rw [c1]; decide) (by decide) ?_
      refine am_aload_n dX2_factOf_129 (List.Mem.head _) ?_
      refine am_iload_n dX2_factOf_130 (List.Mem.tail _ (List.Mem.head _)) ?_
      exact am_callv (d' := d) (kc := 0) (ks := 0) (as := [.inl x1]) dX2_factOf_131 wc_X2_isToldDead wd_1420 wd_1104 wd_1105 wd_117 ds_X2_isToldDead (by decide) (Nat.le_refl _) (Nat.le_of_ble_eq_true rfl) (Nat.zero_le _) (Nat.zero_le _) hc_5 (by decide) rfl rfl h
theorem bX2_factOf_114 {SC : Nat → Nat} {X : mh_X} {d : Nat} {Q : Option am_V → am_W → Prop} {bc bs : Nat} {w : am_W} {x1 : Int} {x2 : Int} {xs0 : Int}
    (h : ((xs0 = 0 → Q (some (.inl (-2147483648))) w) ∧ (¬ xs0 = 0 → (0 ≤ x1 ∧ (x1 < 40 ∧ Q (some (.inl (w.1 39 0 x1.toNat))) w))))) :
    am_A (mh_G X) SC (d + 1) mX2_factOf Q 114 [(0, .inr (.inr (some (5, 0)))), (1, .inl x1), (2, .inl x2)] [.inl xs0] w bc bs := by
  refine am_ifeq (tgt := 126) dX2_factOf_114 (by decide) (fun c1 => ?_) (fun c1 => ?_)
  · replace h := h.1 c1
    refine am_ldcV (n := (-2147483648)) dX2_factOf_126 (by decide) wd_1499 (by unfold am_rg; omega) ?_
    exact am_ret (r := some (.inl (-2147483648))) dX2_factOf_128 (Or.inl rfl) rfl h
  · replace h := h.2 c1
    refine am_aload_n dX2_factOf_117 (List.Mem.head _) ?_
    refine am_getf (f := 6) (v := .inr (.inr (some (39, 0)))) dX2_factOf_118 hc_5 (by decide) wd_325 (by decide) rfl rfl ?_
    refine am_iload_n dX2_factOf_121 (List.Mem.tail _ (List.Mem.head _)) ?_
    have o2 := h.1
    replace h := h.2
    have o3 := h.1
    replace h := h.2
    refine am_iaload (v := (w.1 39 0 x1.toNat)) dX2_factOf_122 (by decide) rfl o2 o3 rfl ?_
    refine am_goto (tgt := 128) dX2_factOf_123 (by decide) ?_
    exact am_ret (r := some (.inl (w.1 39 0 x1.toNat))) dX2_factOf_128 (Or.inl rfl) rfl h
theorem bX2_factOf_134 {SC : Nat → Nat} {X : mh_X} {d : Nat} {Q : Option am_V → am_W → Prop} {bc bs : Nat} {w : am_W} {x1 : Int} {x2 : Int} {xs0 : Int}
    (h : ((xs0 = 0 → Q (some (.inl (-2147483648))) w) ∧ (¬ xs0 = 0 → (0 ≤ x1 ∧ (x1 < 40 ∧ Q (some (.inl (w.1 40 0 x1.toNat))) w))))) :
    am_A (mh_G X) SC (d + 1) mX2_factOf Q 134 [(0, .inr (.inr (some (5, 0)))), (1, .inl x1), (2, .inl x2)] [.inl xs0] w bc bs := by
  refine am_ifeq (tgt := 146) dX2_factOf_134 (by decide) (fun c1 => ?_) (fun c1 => ?_)
  · replace h := h.1 c1
    refine am_ldcV (n := (-2147483648)) dX2_factOf_146 (by decide) wd_1499 (by unfold am_rg; omega) ?_
    exact am_ret (r := some (.inl (-2147483648))) dX2_factOf_148 (Or.inl rfl) rfl h
  · replace h := h.2 c1
    refine am_aload_n dX2_factOf_137 (List.Mem.head _) ?_
    refine am_getf (f := 7) (v := .inr (.inr (some (40, 0)))) dX2_factOf_138 hc_5 (by decide) wd_327 (by decide) rfl rfl ?_
    refine am_iload_n dX2_factOf_141 (List.Mem.tail _ (List.Mem.head _)) ?_
    have o2 := h.1
    replace h := h.2
    have o3 := h.1
    replace h := h.2
    refine am_iaload (v := (w.1 40 0 x1.toNat)) dX2_factOf_142 (by decide) rfl o2 o3 rfl ?_
    refine am_goto (tgt := 148) dX2_factOf_143 (by decide) ?_
    exact am_ret (r := some (.inl (w.1 40 0 x1.toNat))) dX2_factOf_148 (Or.inl rfl) rfl h
-- MourningHouse$Law.clear()V
theorem dX3_clear_0 : decode mX3_clear.2.1 0 = .ok (.aload_n 0, 1) := by decide +kernel
theorem dX3_clear_1 : decode mX3_clear.2.1 1 = .ok (.iconst 0, 1) := by decide +kernel
theorem dX3_clear_2 : decode mX3_clear.2.1 2 = .ok (.putfield 42, 3) := by decide +kernel
theorem dX3_clear_5 : decode mX3_clear.2.1 5 = .ok (.aload_n 0, 1) := by decide +kernel
theorem dX3_clear_6 : decode mX3_clear.2.1 6 = .ok (.iconst 0, 1) := by decide +kernel
theorem dX3_clear_7 : decode mX3_clear.2.1 7 = .ok (.putfield 46, 3) := by decide +kernel
theorem dX3_clear_10 : decode mX3_clear.2.1 10 = .ok (.iconst 0, 1) := by decide +kernel
theorem dX3_clear_11 : decode mX3_clear.2.1 11 = .ok (.istore_n 1, 1) := by decide +kernel
theorem dX3_clear_12 : decode mX3_clear.2.1 12 = .ok (.iload_n 1, 1) := by decide +kernel
theorem dX3_clear_13 : decode mX3_clear.2.1 13 = .ok (.iconst 4, 1) := by decide +kernel
theorem dX3_clear_14 : decode mX3_clear.2.1 14 = .ok (.if_icmp .ge 16, 3) := by decide +kernel
theorem dX3_clear_17 : decode mX3_clear.2.1 17 = .ok (.aload_n 0, 1) := by decide +kernel
theorem dX3_clear_18 : decode mX3_clear.2.1 18 = .ok (.getfield 39, 3) := by decide +kernel
theorem dX3_clear_21 : decode mX3_clear.2.1 21 = .ok (.iload_n 1, 1) := by decide +kernel
theorem dX3_clear_22 : decode mX3_clear.2.1 22 = .ok (.iconst 0, 1) := by decide +kernel
theorem dX3_clear_23 : decode mX3_clear.2.1 23 = .ok (.iastore, 1) := by decide +kernel
theorem dX3_clear_24 : decode mX3_clear.2.1 24 = .ok (.iinc 1 1, 3) := by decide +kernel
theorem dX3_clear_27 : decode mX3_clear.2.1 27 = .ok (.goto (-15), 3) := by decide +kernel
theorem dX3_clear_30 : decode mX3_clear.2.1 30 = .ok (.aload_n 0, 1) := by decide +kernel
theorem dX3_clear_31 : decode mX3_clear.2.1 31 = .ok (.iconst 0, 1) := by decide +kernel
theorem dX3_clear_32 : decode mX3_clear.2.1 32 = .ok (.putfield 49, 3) := by decide +kernel
theorem dX3_clear_35 : decode mX3_clear.2.1 35 = .ok (.aload_n 0, 1) := by decide +kernel
theorem dX3_clear_36 : decode mX3_clear.2.1 36 = .ok (.iconst 0, 1) := by decide +kernel
theorem dX3_clear_37 : decode mX3_clear.2.1 37 = .ok (.putfield 52, 3) := by decide +kernel
theorem dX3_clear_40 : decode mX3_clear.2.1 40 = .ok (.aload_n 0, 1) := by decide +kernel
theorem dX3_clear_41 : decode mX3_clear.2.1 41 = .ok (.iconst 0, 1) := by decide +kernel
theorem dX3_clear_42 : decode mX3_clear.2.1 42 = .ok (.putfield 55, 3) := by decide +kernel
theorem dX3_clear_45 : decode mX3_clear.2.1 45 = .ok (.aload_n 0, 1) := by decide +kernel
theorem dX3_clear_46 : decode mX3_clear.2.1 46 = .ok (.iconst 0, 1) := by decide +kernel
theorem dX3_clear_47 : decode mX3_clear.2.1 47 = .ok (.putfield 58, 3) := by decide +kernel
theorem dX3_clear_50 : decode mX3_clear.2.1 50 = .ok (.aload_n 0, 1) := by decide +kernel
theorem dX3_clear_51 : decode mX3_clear.2.1 51 = .ok (.iconst 0, 1) := by decide +kernel
theorem dX3_clear_52 : decode mX3_clear.2.1 52 = .ok (.putfield 61, 3) := by decide +kernel
theorem dX3_clear_55 : decode mX3_clear.2.1 55 = .ok (.return_, 1) := by decide +kernel
theorem bX3_clear_0 {SC : Nat → Nat} {X : mh_X} {d : Nat} {Q : Option am_V → am_W → Prop} {bc bs : Nat} {w : am_W} {j0 : Nat}
    (h : am_A (mh_G X) SC (d + 1) mX3_clear Q 12 [(0, .inr (.inr (some (10, j0)))), (1, .inl 0)] [] ((am_up (am_up w.1 10 j0 10 0) 10 j0 11 0), w.2) bc bs) :
    am_A (mh_G X) SC (d + 1) mX3_clear Q 0 [(0, .inr (.inr (some (10, j0))))] [] w bc bs := by
  refine am_aload_n dX3_clear_0 (List.Mem.head _) ?_
  refine am_iconst dX3_clear_1 (by unfold am_rg; omega) ?_
  refine am_putf (f := 10) dX3_clear_2 hc_4 (by decide) wd_227 rfl (Or.inl rfl) (Or.inl (by decide)) rfl ?_
  refine am_aload_n dX3_clear_5 (List.Mem.head _) ?_
  refine am_iconst dX3_clear_6 (by unfold am_rg; omega) ?_
  refine am_putf (f := 11) dX3_clear_7 hc_4 (by decide) wd_230 rfl (Or.inl rfl) (Or.inl (by decide)) rfl ?_
  refine am_iconst dX3_clear_10 (by unfold am_rg; omega) ?_
  refine am_istore_n (ls' := [(1, .inl 0), (0, .inr (.inr (some (10, j0))))]) dX3_clear_11 (by decide) rfl ?_
  exact am_sub [1, 0] rfl h
theorem bX3_clear_12 {SC : Nat → Nat} {X : mh_X} {d : Nat} {Q : Option am_V → am_W → Prop} {bc bs : Nat} {w : am_W} {j0 : Nat} {x1 : Int}
    (h : ((4 ≤ x1 → Q none ((am_up (am_up (am_up (am_up (am_up w.1 10 j0 12 0) 10 j0 13 0) 10 j0 14 0) 10 j0 15 0) 10 j0 16 0), w.2)) ∧ (¬ 4 ≤ x1 → (0 ≤ x1 ∧ (x1 < 4 ∧ am_A (mh_G X) SC (d + 1) mX3_clear Q 12 [(0, .inr (.inr (some (10, j0)))), (1, .inl (am_w (x1 + 1)))] [] ((am_up w.1 153 j0 x1.toNat 0), w.2) bc bs))))) :
    am_A (mh_G X) SC (d + 1) mX3_clear Q 12 [(0, .inr (.inr (some (10, j0)))), (1, .inl x1)] [] w bc bs := by
  refine am_iload_n dX3_clear_12 (List.Mem.tail _ (List.Mem.head _)) ?_
  refine am_iconst dX3_clear_13 (by unfold am_rg; omega) ?_
  refine am_icmpge (tgt := 30) dX3_clear_14 (by decide) (fun c1 => ?_) (fun c1 => ?_)
  · replace h := h.1 c1
    refine am_aload_n dX3_clear_30 (List.Mem.head _) ?_
    refine am_iconst dX3_clear_31 (by unfold am_rg; omega) ?_
    refine am_putf (f := 12) dX3_clear_32 hc_4 (by decide) wd_231 rfl (Or.inl rfl) (Or.inl (by decide)) rfl ?_
    refine am_aload_n dX3_clear_35 (List.Mem.head _) ?_
    refine am_iconst dX3_clear_36 (by unfold am_rg; omega) ?_
    refine am_putf (f := 13) dX3_clear_37 hc_4 (by decide) wd_234 rfl (Or.inl rfl) (Or.inl (by decide)) rfl ?_
    refine am_aload_n dX3_clear_40 (List.Mem.head _) ?_
    refine am_iconst dX3_clear_41 (by unfold am_rg; omega) ?_
    refine am_putf (f := 14) dX3_clear_42 hc_4 (by decide) wd_237 rfl (Or.inl rfl) (Or.inl (by decide)) rfl ?_
    refine am_aload_n dX3_clear_45 (List.Mem.head _) ?_
    refine am_iconst dX3_clear_46 (by unfold am_rg; omega) ?_
    refine am_putf (f := 15) dX3_clear_47 hc_4 (by decide) wd_240 rfl (Or.inl rfl) (Or.inl (by decide)) rfl ?_
    refine am_aload_n dX3_clear_50 (List.Mem.head _) ?_
    refine am_iconst dX3_clear_51 (by unfold am_rg; omega) ?_
    refine am_putf (f := 16) dX3_clear_52 hc_4 (by decide) wd_243 rfl (Or.inl rfl) (Or.inl (by decide)) rfl ?_
    exact am_ret (r := none) dX3_clear_55 rfl rfl h
  · replace h := h.2 c1
    refine am_aload_n dX3_clear_17 (List.Mem.head _) ?_
    refine am_getf (f := 9) (v := .inr (.inr (some (153, j0)))) dX3_clear_18 hc_4 (by decide) wd_224 (by decide) rfl rfl ?_
    refine am_iload_n dX3_clear_21 (List.Mem.tail _ (List.Mem.head _)) ?_
    refine am_iconst dX3_clear_22 (by unfold am_rg; omega) ?_
    have o2 := h.1
    replace h := h.2
    have o3 := h.1
    replace h := h.2
    refine am_iastore dX3_clear_23 (Or.inl (by decide)) rfl o2 o3 ?_
    refine am_iinc (ls' := [(1, .inl (am_w (x1 + 1))), (0, .inr (.inr (some (10, j0))))]) dX3_clear_24 (List.Mem.tail _ (List.Mem.head _)) (by decide) rfl ?_
    refine am_goto (tgt := 12) dX3_clear_27 (by decide) ?_
    exact am_sub [1, 0] rfl h
-- MourningHouse$Law.hasRoomForRule()Z
theorem dX3_hasRoomForRule_0 : decode mX3_hasRoomForRule.2.1 0 = .ok (.aload_n 0, 1) := by decide +kernel
theorem dX3_hasRoomForRule_1 : decode mX3_hasRoomForRule.2.1 1 = .ok (.getfield 42, 3) := by decide +kernel
theorem dX3_hasRoomForRule_4 : decode mX3_hasRoomForRule.2.1 4 = .ok (.bipush 30, 2) := by decide +kernel
theorem dX3_hasRoomForRule_6 : decode mX3_hasRoomForRule.2.1 6 = .ok (.if_icmp .ge 7, 3) := by decide +kernel
theorem dX3_hasRoomForRule_9 : decode mX3_hasRoomForRule.2.1 9 = .ok (.iconst 1, 1) := by decide +kernel
theorem dX3_hasRoomForRule_10 : decode mX3_hasRoomForRule.2.1 10 = .ok (.goto 4, 3) := by decide +kernel
theorem dX3_hasRoomForRule_13 : decode mX3_hasRoomForRule.2.1 13 = .ok (.iconst 0, 1) := by decide +kernel
theorem dX3_hasRoomForRule_14 : decode mX3_hasRoomForRule.2.1 14 = .ok (.ireturn, 1) := by decide +kernel
theorem bX3_hasRoomForRule_0 {SC : Nat → Nat} {X : mh_X} {d : Nat} {Q : Option am_V → am_W → Prop} {bc bs : Nat} {w : am_W} {j0 : Nat}
    (h : ((30 ≤ (w.1 10 j0 10) → Q (some (.inl 0)) w) ∧ (¬ 30 ≤ (w.1 10 j0 10) → Q (some (.inl 1)) w))) :
    am_A (mh_G X) SC (d + 1) mX3_hasRoomForRule Q 0 [(0, .inr (.inr (some (10, j0))))] [] w bc bs := by
  refine am_aload_n dX3_hasRoomForRule_0 (List.Mem.head _) ?_
  refine am_getf (f := 10) (v := .inl (w.1 10 j0 10)) dX3_hasRoomForRule_1 hc_4 (by decide) wd_227 (by decide) rfl rfl ?_
  refine am_bipush dX3_hasRoomForRule_4 (by decide) (by unfold am_rg; omega) ?_
  refine am_icmpge (tgt := 13) dX3_hasRoomForRule_6 (by decide) (fun c1 => ?_) (fun c1 => ?_)
  · replace h := h.1 c1
    refine am_iconst dX3_hasRoomForRule_13 (by unfold am_rg; omega) ?_
    exact am_ret (r := some (.inl 0)) dX3_hasRoomForRule_14 (Or.inr (Or.inl ⟨rfl, (Or.inl rfl)⟩)) rfl h
  · replace h := h.2 c1
    refine am_iconst dX3_hasRoomForRule_9 (by unfold am_rg; omega) ?_
    refine am_goto (tgt := 14) dX3_hasRoomForRule_10 (by decide) ?_
    exact am_ret (r := some (.inl 1)) dX3_hasRoomForRule_14 (Or.inr (Or.inl ⟨rfl, (Or.inr rfl)⟩)) rfl h
-- MourningHouse$Law.openRule()V
theorem dX3_openRule_0 : decode mX3_openRule.2.1 0 = .ok (.aload_n 0, 1) := by decide +kernel
theorem dX3_openRule_1 : decode mX3_openRule.2.1 1 = .ok (.getfield 11, 3) := by decide +kernel
theorem dX3_openRule_4 : decode mX3_openRule.2.1 4 = .ok (.aload_n 0, 1) := by decide +kernel
theorem dX3_openRule_5 : decode mX3_openRule.2.1 5 = .ok (.getfield 42, 3) := by decide +kernel
theorem dX3_openRule_8 : decode mX3_openRule.2.1 8 = .ok (.iconst 0, 1) := by decide +kernel
theorem dX3_openRule_9 : decode mX3_openRule.2.1 9 = .ok (.iastore, 1) := by decide +kernel
theorem dX3_openRule_10 : decode mX3_openRule.2.1 10 = .ok (.aload_n 0, 1) := by decide +kernel
theorem dX3_openRule_11 : decode mX3_openRule.2.1 11 = .ok (.getfield 18, 3) := by decide +kernel
theorem dX3_openRule_14 : decode mX3_openRule.2.1 14 = .ok (.aload_n 0, 1) := by decide +kernel
theorem dX3_openRule_15 : decode mX3_openRule.2.1 15 = .ok (.getfield 42, 3) := by decide +kernel
theorem dX3_openRule_18 : decode mX3_openRule.2.1 18 = .ok (.iconst 0, 1) := by decide +kernel
theorem dX3_openRule_19 : decode mX3_openRule.2.1 19 = .ok (.iastore, 1) := by decide +kernel
theorem dX3_openRule_20 : decode mX3_openRule.2.1 20 = .ok (.aload_n 0, 1) := by decide +kernel
theorem dX3_openRule_21 : decode mX3_openRule.2.1 21 = .ok (.getfield 30, 3) := by decide +kernel
theorem dX3_openRule_24 : decode mX3_openRule.2.1 24 = .ok (.aload_n 0, 1) := by decide +kernel
theorem dX3_openRule_25 : decode mX3_openRule.2.1 25 = .ok (.getfield 42, 3) := by decide +kernel
theorem dX3_openRule_28 : decode mX3_openRule.2.1 28 = .ok (.iconst 0, 1) := by decide +kernel
theorem dX3_openRule_29 : decode mX3_openRule.2.1 29 = .ok (.iastore, 1) := by decide +kernel
theorem dX3_openRule_30 : decode mX3_openRule.2.1 30 = .ok (.aload_n 0, 1) := by decide +kernel
theorem dX3_openRule_31 : decode mX3_openRule.2.1 31 = .ok (.dup, 1) := by decide +kernel
theorem dX3_openRule_32 : decode mX3_openRule.2.1 32 = .ok (.getfield 42, 3) := by decide +kernel
theorem dX3_openRule_35 : decode mX3_openRule.2.1 35 = .ok (.iconst 1, 1) := by decide +kernel
theorem dX3_openRule_36 : decode mX3_openRule.2.1 36 = .ok (.iadd, 1) := by decide +kernel
theorem dX3_openRule_37 : decode mX3_openRule.2.1 37 = .ok (.putfield 42, 3) := by decide +kernel
theorem dX3_openRule_40 : decode mX3_openRule.2.1 40 = .ok (.return_, 1) := by decide +kernel
theorem bX3_openRule_0 {SC : Nat → Nat} {X : mh_X} {d : Nat} {Q : Option am_V → am_W → Prop} {bc bs : Nat} {w : am_W} {j0 : Nat}
    (h : (0 ≤ (w.1 10 j0 10) ∧ ((w.1 10 j0 10) < 30 ∧ Q none ((am_up (am_up (am_up (am_up w.1 144 j0 (w.1 10 j0 10).toNat 0) 146 j0 (w.1 10 j0 10).toNat 0) 150 j0 (w.1 10 j0 10).toNat 0) 10 j0 10 (am_w ((w.1 10 j0 10) + 1))), w.2)))) :
    am_A (mh_G X) SC (d + 1) mX3_openRule Q 0 [(0, .inr (.inr (some (10, j0))))] [] w bc bs := by
  refine am_aload_n dX3_openRule_0 (List.Mem.head _) ?_
  refine am_getf (f := 0) (v := .inr (.inr (some (144, j0)))) dX3_openRule_1 hc_4 (by decide) wd_215 (by decide) rfl rfl ?_
  refine am_aload_n dX3_openRule_4 (List.Mem.head _) ?_
  refine am_getf (f := 10) (v := .inl (w.1 10 j0 10)) dX3_openRule_5 hc_4 (by decide) wd_227 (by decide) rfl rfl ?_
  refine am_iconst dX3_openRule_8 (by unfold am_rg; omega) ?_
  have o1 := h.1
  replace h := h.2
  have o2 := h.1
  replace h := h.2
  refine am_iastore dX3_openRule_9 (Or.inl (by decide)) rfl o1 o2 ?_
  refine am_aload_n dX3_openRule_10 (List.Mem.head _) ?_
  refine am_getf (f := 2) (v := .inr (.inr (some (146, j0)))) dX3_openRule_11 hc_4 (by decide) wd_217 (by decide) rfl rfl ?_
  refine am_aload_n dX3_openRule_14 (List.Mem.head _) ?_
  refine am_getf (f := 10) (v := .inl (w.1 10 j0 10)) dX3_openRule_15 hc_4 (by decide) wd_227 (by decide) rfl rfl ?_
  refine am_iconst dX3_openRule_18 (by unfold am_rg; omega) ?_
  refine am_iastore dX3_openRule_19 (Or.inl (by decide)) rfl o1 o2 ?_
  refine am_aload_n dX3_openRule_20 (List.Mem.head _) ?_
  refine am_getf (f := 6) (v := .inr (.inr (some (150, j0)))) dX3_openRule_21 hc_4 (by decide) wd_221 (by decide) rfl rfl ?_
  refine am_aload_n dX3_openRule_24 (List.Mem.head _) ?_
  refine am_getf (f := 10) (v := .inl (w.1 10 j0 10)) dX3_openRule_25 hc_4 (by decide) wd_227 (by decide) rfl rfl ?_
  refine am_iconst dX3_openRule_28 (by unfold am_rg; omega) ?_
  refine am_iastore dX3_openRule_29 (Or.inl (by decide)) rfl o1 o2 ?_
  refine am_aload_n dX3_openRule_30 (List.Mem.head _) ?_
  refine am_dup dX3_openRule_31 rfl ?_
  refine am_getf (f := 10) (v := .inl (w.1 10 j0 10)) dX3_openRule_32 hc_4 (by decide) wd_227 (by decide) rfl rfl ?_
  refine am_iconst dX3_openRule_35 (by unfold am_rg; omega) ?_
  refine am_iadd dX3_openRule_36 ?_
  refine am_putf (f := 10) dX3_openRule_37 hc_4 (by decide) wd_227 rfl (Or.inl rfl) (Or.inl (by decide)) rfl ?_
  exact am_ret (r := none) dX3_openRule_40 rfl rfl h
-- MourningHouse$Law.addKin(I)Z
theorem dX3_addKin_0 : decode mX3_addKin.2.1 0 = .ok (.aload_n 0, 1) := by decide +kernel
theorem dX3_addKin_1 : decode mX3_addKin.2.1 1 = .ok (.getfield 11, 3) := by decide +kernel
theorem dX3_addKin_4 : decode mX3_addKin.2.1 4 = .ok (.aload_n 0, 1) := by decide +kernel
theorem dX3_addKin_5 : decode mX3_addKin.2.1 5 = .ok (.getfield 42, 3) := by decide +kernel
theorem dX3_addKin_8 : decode mX3_addKin.2.1 8 = .ok (.iconst 1, 1) := by decide +kernel
theorem dX3_addKin_9 : decode mX3_addKin.2.1 9 = .ok (.isub, 1) := by decide +kernel
theorem dX3_addKin_10 : decode mX3_addKin.2.1 10 = .ok (.iaload, 1) := by decide +kernel
theorem dX3_addKin_11 : decode mX3_addKin.2.1 11 = .ok (.istore_n 2, 1) := by decide +kernel
theorem dX3_addKin_12 : decode mX3_addKin.2.1 12 = .ok (.iload_n 2, 1) := by decide +kernel
theorem dX3_addKin_13 : decode mX3_addKin.2.1 13 = .ok (.iconst 4, 1) := by decide +kernel
theorem dX3_addKin_14 : decode mX3_addKin.2.1 14 = .ok (.if_icmp .lt 5, 3) := by decide +kernel
theorem dX3_addKin_17 : decode mX3_addKin.2.1 17 = .ok (.iconst 0, 1) := by decide +kernel
theorem dX3_addKin_18 : decode mX3_addKin.2.1 18 = .ok (.ireturn, 1) := by decide +kernel
theorem dX3_addKin_19 : decode mX3_addKin.2.1 19 = .ok (.aload_n 0, 1) := by decide +kernel
theorem dX3_addKin_20 : decode mX3_addKin.2.1 20 = .ok (.getfield 15, 3) := by decide +kernel
theorem dX3_addKin_23 : decode mX3_addKin.2.1 23 = .ok (.aload_n 0, 1) := by decide +kernel
theorem dX3_addKin_24 : decode mX3_addKin.2.1 24 = .ok (.getfield 42, 3) := by decide +kernel
theorem dX3_addKin_27 : decode mX3_addKin.2.1 27 = .ok (.iconst 1, 1) := by decide +kernel
theorem dX3_addKin_28 : decode mX3_addKin.2.1 28 = .ok (.isub, 1) := by decide +kernel
theorem dX3_addKin_29 : decode mX3_addKin.2.1 29 = .ok (.iconst 4, 1) := by decide +kernel
theorem dX3_addKin_30 : decode mX3_addKin.2.1 30 = .ok (.imul, 1) := by decide +kernel
theorem dX3_addKin_31 : decode mX3_addKin.2.1 31 = .ok (.iload_n 2, 1) := by decide +kernel
theorem dX3_addKin_32 : decode mX3_addKin.2.1 32 = .ok (.iadd, 1) := by decide +kernel
theorem dX3_addKin_33 : decode mX3_addKin.2.1 33 = .ok (.iload_n 1, 1) := by decide +kernel
theorem dX3_addKin_34 : decode mX3_addKin.2.1 34 = .ok (.iastore, 1) := by decide +kernel
theorem dX3_addKin_35 : decode mX3_addKin.2.1 35 = .ok (.aload_n 0, 1) := by decide +kernel
theorem dX3_addKin_36 : decode mX3_addKin.2.1 36 = .ok (.getfield 11, 3) := by decide +kernel
theorem dX3_addKin_39 : decode mX3_addKin.2.1 39 = .ok (.aload_n 0, 1) := by decide +kernel
theorem dX3_addKin_40 : decode mX3_addKin.2.1 40 = .ok (.getfield 42, 3) := by decide +kernel
theorem dX3_addKin_43 : decode mX3_addKin.2.1 43 = .ok (.iconst 1, 1) := by decide +kernel
theorem dX3_addKin_44 : decode mX3_addKin.2.1 44 = .ok (.isub, 1) := by decide +kernel
theorem dX3_addKin_45 : decode mX3_addKin.2.1 45 = .ok (.iload_n 2, 1) := by decide +kernel
theorem dX3_addKin_46 : decode mX3_addKin.2.1 46 = .ok (.iconst 1, 1) := by decide +kernel
theorem dX3_addKin_47 : decode mX3_addKin.2.1 47 = .ok (.iadd, 1) := by decide +kernel
theorem dX3_addKin_48 : decode mX3_addKin.2.1 48 = .ok (.iastore, 1) := by decide +kernel
theorem dX3_addKin_49 : decode mX3_addKin.2.1 49 = .ok (.iconst 1, 1) := by decide +kernel
theorem dX3_addKin_50 : decode mX3_addKin.2.1 50 = .ok (.ireturn, 1) := by decide +kernel
theorem bX3_addKin_0 {SC : Nat → Nat} {X : mh_X} {d : Nat} {Q : Option am_V → am_W → Prop} {bc bs : Nat} {w : am_W} {j0 : Nat} {x1 : Int}
    (h : (0 ≤ (am_w ((w.1 10 j0 10) - 1)) ∧ ((am_w ((w.1 10 j0 10) - 1)) < 30 ∧ (((w.1 144 j0 (am_w ((w.1 10 j0 10) - 1)).toNat) < 4 → (0 ≤ (am_w ((am_w ((am_w ((w.1 10 j0 10) - 1)) * 4)) + (w.1 144 j0 (am_w ((w.1 10 j0 10) - 1)).toNat))) ∧ ((am_w ((am_w ((am_w ((w.1 10 j0 10) - 1)) * 4)) + (w.1 144 j0 (am_w ((w.1 10 j0 10) - 1)).toNat))) < 120 ∧ Q (some (.inl 1)) ((am_up (am_up w.1 145 j0 (am_w ((am_w ((am_w ((w.1 10 j0 10) - 1)) * 4)) + (w.1 144 j0 (am_w ((w.1 10 j0 10) - 1)).toNat))).toNat x1) 144 j0 (am_w ((w.1 10 j0 10) - 1)).toNat (am_w ((w.1 144 j0 (am_w ((w.1 10 j0 10) - 1)).toNat) + 1))), w.2)))) ∧ (¬ (w.1 144 j0 (am_w ((w.1 10 j0 10) - 1)).toNat) < 4 → Q (some (.inl 0)) w))))) :
    am_A (mh_G X) SC (d + 1) mX3_addKin Q 0 [(0, .inr (.inr (some (10, j0)))), (1, .inl x1)] [] w bc bs := by
  refine am_aload_n dX3_addKin_0 (List.Mem.head _) ?_
  refine am_getf (f := 0) (v := .inr (.inr (some (144, j0)))) dX3_addKin_1 hc_4 (by decide) wd_215 (by decide) rfl rfl ?_
  refine am_aload_n dX3_addKin_4 (List.Mem.head _) ?_
  refine am_getf (f := 10) (v := .inl (w.1 10 j0 10)) dX3_addKin_5 hc_4 (by decide) wd_227 (by decide) rfl rfl ?_
  refine am_iconst dX3_addKin_8 (by unfold am_rg; omega) ?_
  refine am_isub dX3_addKin_9 ?_
  have o1 := h.1
  replace h := h.2
  have o2 := h.1
  replace h := h.2
  refine am_iaload (v := (w.1 144 j0 (am_w ((w.1 10 j0 10) - 1)).toNat)) dX3_addKin_10 (by decide) rfl o1 o2 rfl ?_
  refine am_istore_n (ls' := [(2, .inl (w.1 144 j0 (am_w ((w.1 10 j0 10) - 1)).toNat)), (0, .inr (.inr (some (10, j0)))), (1, .inl x1)]) dX3_addKin_11 (by decide) rfl ?_
  refine am_iload_n dX3_addKin_12 (List.Mem.head _) ?_
  refine am_iconst dX3_addKin_13 (by unfold am_rg; omega) ?_
  refine am_icmplt (tgt := 19) dX3_addKin_14 (by decide) (fun c3 => ?_) (fun c3 => ?_)
  · replace h := h.1 c3
    refine am_aload_n dX3_addKin_19 (List.Mem.tail _ (List.Mem.head _)) ?_
    refine am_getf (f := 1) (v := .inr (.inr (some (145, j0)))) dX3_addKin_20 hc_4 (by decide) wd_216 (by decide) rfl rfl ?_
    refine am_aload_n dX3_addKin_23 (List.Mem.tail _ (List.Mem.head _)) ?_
    refine am_getf (f := 10) (v := .inl (w.1 10 j0 10)) dX3_addKin_24 hc_4 (by decide) wd_227 (by decide) rfl rfl ?_
    refine am_iconst dX3_addKin_27 (by unfold am_rg; omega) ?_
    refine am_isub dX3_addKin_28 ?_
    refine am_iconst dX3_addKin_29 (by unfold am_rg; omega) ?_
    refine am_imul dX3_addKin_30 ?_
    refine am_iload_n dX3_addKin_31 (List.Mem.head _) ?_
    refine am_iadd dX3_addKin_32 ?_
    refine am_iload_n dX3_addKin_33 (List.Mem.tail _ (List.Mem.tail _ (List.Mem.head _))) ?_
    have o4 := h.1
    replace h := h.2
    have o5 := h.1
    replace h := h.2
    refine am_iastore dX3_addKin_34 (Or.inl (by decide)) rfl o4 o5 ?_
    refine am_aload_n dX3_addKin_35 (List.Mem.tail _ (List.Mem.head _)) ?_
    refine am_getf (f := 0) (v := .inr (.inr (some (144, j0)))) dX3_addKin_36 hc_4 (by decide) wd_215 (by decide) rfl rfl ?_
    refine am_aload_n dX3_addKin_39 (List.Mem.tail _ (List.Mem.head _)) ?_
    refine am_getf (f := 10) (v := .inl (w.1 10 j0 10)) dX3_addKin_40 hc_4 (by decide) wd_227 (by decide) rfl rfl ?_
    refine am_iconst dX3_addKin_43 (by unfold am_rg; omega) ?_
    refine am_isub dX3_addKin_44 ?_
    refine am_iload_n dX3_addKin_45 (List.Mem.head _) ?_
    refine am_iconst dX3_addKin_46 (by unfold am_rg; omega) ?_
    refine am_iadd dX3_addKin_47 ?_
    refine am_iastore dX3_addKin_48 (Or.inl (by decide)) rfl o1 o2 ?_
    refine am_iconst dX3_addKin_49 (by unfold am_rg; omega) ?_
    exact am_ret (r := some (.inl 1)) dX3_addKin_50 (Or.inr (Or.inl ⟨rfl, (Or.inr rfl)⟩)) rfl h
  · replace h := h.2 c3
    refine am_iconst dX3_addKin_17 (by unfold am_rg; omega) ?_
    exact am_ret (r := some (.inl 0)) dX3_addKin_18 (Or.inr (Or.inl ⟨rfl, (Or.inl rfl)⟩)) rfl h
-- MourningHouse$Law.hasRoomForPart()Z
theorem dX3_hasRoomForPart_0 : decode mX3_hasRoomForPart.2.1 0 = .ok (.aload_n 0, 1) := by decide +kernel
theorem dX3_hasRoomForPart_1 : decode mX3_hasRoomForPart.2.1 1 = .ok (.getfield 18, 3) := by decide +kernel
theorem dX3_hasRoomForPart_4 : decode mX3_hasRoomForPart.2.1 4 = .ok (.aload_n 0, 1) := by decide +kernel
theorem dX3_hasRoomForPart_5 : decode mX3_hasRoomForPart.2.1 5 = .ok (.getfield 42, 3) := by decide +kernel
theorem dX3_hasRoomForPart_8 : decode mX3_hasRoomForPart.2.1 8 = .ok (.iconst 1, 1) := by decide +kernel
theorem dX3_hasRoomForPart_9 : decode mX3_hasRoomForPart.2.1 9 = .ok (.isub, 1) := by decide +kernel
theorem dX3_hasRoomForPart_10 : decode mX3_hasRoomForPart.2.1 10 = .ok (.iaload, 1) := by decide +kernel
theorem dX3_hasRoomForPart_11 : decode mX3_hasRoomForPart.2.1 11 = .ok (.iconst 4, 1) := by decide +kernel
theorem dX3_hasRoomForPart_12 : decode mX3_hasRoomForPart.2.1 12 = .ok (.if_icmp .ge 7, 3) := by decide +kernel
theorem dX3_hasRoomForPart_15 : decode mX3_hasRoomForPart.2.1 15 = .ok (.iconst 1, 1) := by decide +kernel
theorem dX3_hasRoomForPart_16 : decode mX3_hasRoomForPart.2.1 16 = .ok (.goto 4, 3) := by decide +kernel
theorem dX3_hasRoomForPart_19 : decode mX3_hasRoomForPart.2.1 19 = .ok (.iconst 0, 1) := by decide +kernel
theorem dX3_hasRoomForPart_20 : decode mX3_hasRoomForPart.2.1 20 = .ok (.ireturn, 1) := by decide +kernel
theorem bX3_hasRoomForPart_0 {SC : Nat → Nat} {X : mh_X} {d : Nat} {Q : Option am_V → am_W → Prop} {bc bs : Nat} {w : am_W} {j0 : Nat}
    (h : (0 ≤ (am_w ((w.1 10 j0 10) - 1)) ∧ ((am_w ((w.1 10 j0 10) - 1)) < 30 ∧ ((4 ≤ (w.1 146 j0 (am_w ((w.1 10 j0 10) - 1)).toNat) → Q (some (.inl 0)) w) ∧ (¬ 4 ≤ (w.1 146 j0 (am_w ((w.1 10 j0 10) - 1)).toNat) → Q (some (.inl 1)) w))))) :
    am_A (mh_G X) SC (d + 1) mX3_hasRoomForPart Q 0 [(0, .inr (.inr (some (10, j0))))] [] w bc bs := by
  refine am_aload_n dX3_hasRoomForPart_0 (List.Mem.head _) ?_
  refine am_getf (f := 2) (v := .inr (.inr (some (146, j0)))) dX3_hasRoomForPart_1 hc_4 (by decide) wd_217 (by decide) rfl rfl ?_
  refine am_aload_n dX3_hasRoomForPart_4 (List.Mem.head _) ?_
  refine am_getf (f := 10) (v := .inl (w.1 10 j0 10)) dX3_hasRoomForPart_5 hc_4 (by decide) wd_227 (by decide) rfl rfl ?_
  refine am_iconst dX3_hasRoomForPart_8 (by unfold am_rg; omega) ?_
  refine am_isub dX3_hasRoomForPart_9 ?_
  have o1 := h.1
  replace h := h.2
  have o2 := h.1
  replace h := h.2
  refine am_iaload (v := (w.1 146 j0 (am_w ((w.1 10 j0 10) - 1)).toNat)) dX3_hasRoomForPart_10 (by decide) rfl o1 o2 rfl ?_
  refine am_iconst dX3_hasRoomForPart_11 (by unfold am_rg; omega) ?_
  refine am_icmpge (tgt := 19) dX3_hasRoomForPart_12 (by decide) (fun c3 => ?_) (fun c3 => ?_)
  · replace h := h.1 c3
    refine am_iconst dX3_hasRoomForPart_19 (by unfold am_rg; omega) ?_
    exact am_ret (r := some (.inl 0)) dX3_hasRoomForPart_20 (Or.inr (Or.inl ⟨rfl, (Or.inl rfl)⟩)) rfl h
  · replace h := h.2 c3
    refine am_iconst dX3_hasRoomForPart_15 (by unfold am_rg; omega) ?_
    refine am_goto (tgt := 20) dX3_hasRoomForPart_16 (by decide) ?_
    exact am_ret (r := some (.inl 1)) dX3_hasRoomForPart_20 (Or.inr (Or.inl ⟨rfl, (Or.inr rfl)⟩)) rfl h
-- MourningHouse$Law.isLighter(I)Z
theorem dX3_isLighter_0 : decode mX3_isLighter.2.1 0 = .ok (.aload_n 0, 1) := by decide +kernel
theorem dX3_isLighter_1 : decode mX3_isLighter.2.1 1 = .ok (.getfield 18, 3) := by decide +kernel
theorem dX3_isLighter_4 : decode mX3_isLighter.2.1 4 = .ok (.aload_n 0, 1) := by decide +kernel
theorem dX3_isLighter_5 : decode mX3_isLighter.2.1 5 = .ok (.getfield 42, 3) := by decide +kernel
theorem dX3_isLighter_8 : decode mX3_isLighter.2.1 8 = .ok (.iconst 1, 1) := by decide +kernel
theorem dX3_isLighter_9 : decode mX3_isLighter.2.1 9 = .ok (.isub, 1) := by decide +kernel
theorem dX3_isLighter_10 : decode mX3_isLighter.2.1 10 = .ok (.iaload, 1) := by decide +kernel
theorem dX3_isLighter_11 : decode mX3_isLighter.2.1 11 = .ok (.istore_n 2, 1) := by decide +kernel
theorem dX3_isLighter_12 : decode mX3_isLighter.2.1 12 = .ok (.iload_n 2, 1) := by decide +kernel
theorem dX3_isLighter_13 : decode mX3_isLighter.2.1 13 = .ok (.ifCond .eq 24, 3) := by decide +kernel
theorem dX3_isLighter_16 : decode mX3_isLighter.2.1 16 = .ok (.iload_n 1, 1) := by decide +kernel
theorem dX3_isLighter_17 : decode mX3_isLighter.2.1 17 = .ok (.aload_n 0, 1) := by decide +kernel
theorem dX3_isLighter_18 : decode mX3_isLighter.2.1 18 = .ok (.getfield 21, 3) := by decide +kernel
theorem dX3_isLighter_21 : decode mX3_isLighter.2.1 21 = .ok (.aload_n 0, 1) := by decide +kernel
theorem dX3_isLighter_22 : decode mX3_isLighter.2.1 22 = .ok (.getfield 42, 3) := by decide +kernel
theorem dX3_isLighter_25 : decode mX3_isLighter.2.1 25 = .ok (.iconst 1, 1) := by decide +kernel
theorem dX3_isLighter_26 : decode mX3_isLighter.2.1 26 = .ok (.isub, 1) := by decide +kernel
theorem dX3_isLighter_27 : decode mX3_isLighter.2.1 27 = .ok (.iconst 4, 1) := by decide +kernel
theorem dX3_isLighter_28 : decode mX3_isLighter.2.1 28 = .ok (.imul, 1) := by decide +kernel
theorem dX3_isLighter_29 : decode mX3_isLighter.2.1 29 = .ok (.iload_n 2, 1) := by decide +kernel
theorem dX3_isLighter_30 : decode mX3_isLighter.2.1 30 = .ok (.iadd, 1) := by decide +kernel
theorem dX3_isLighter_31 : decode mX3_isLighter.2.1 31 = .ok (.iconst 1, 1) := by decide +kernel
theorem dX3_isLighter_32 : decode mX3_isLighter.2.1 32 = .ok (.isub, 1) := by decide +kernel
theorem dX3_isLighter_33 : decode mX3_isLighter.2.1 33 = .ok (.iaload, 1) := by decide +kernel
theorem dX3_isLighter_34 : decode mX3_isLighter.2.1 34 = .ok (.if_icmp .ge 7, 3) := by decide +kernel
theorem dX3_isLighter_37 : decode mX3_isLighter.2.1 37 = .ok (.iconst 1, 1) := by decide +kernel
theorem dX3_isLighter_38 : decode mX3_isLighter.2.1 38 = .ok (.goto 4, 3) := by decide +kernel
theorem dX3_isLighter_41 : decode mX3_isLighter.2.1 41 = .ok (.iconst 0, 1) := by decide +kernel
theorem dX3_isLighter_42 : decode mX3_isLighter.2.1 42 = .ok (.ireturn, 1) := by decide +kernel
theorem bX3_isLighter_0 {SC : Nat → Nat} {X : mh_X} {d : Nat} {Q : Option am_V → am_W → Prop} {bc bs : Nat} {w : am_W} {j0 : Nat} {x1 : Int}
    (h : (0 ≤ (am_w ((w.1 10 j0 10) - 1)) ∧ ((am_w ((w.1 10 j0 10) - 1)) < 30 ∧ (((w.1 146 j0 (am_w ((w.1 10 j0 10) - 1)).toNat) = 0 → Q (some (.inl 1)) w) ∧ (¬ (w.1 146 j0 (am_w ((w.1 10 j0 10) - 1)).toNat) = 0 → (0 ≤ (am_w ((am_w ((am_w ((am_w ((w.1 10 j0 10) - 1)) * 4)) + (w.1 146 j0 (am_w ((w.1 10 j0 10) - 1)).toNat))) - 1)) ∧ ((am_w ((am_w ((am_w ((am_w ((w.1 10 j0 10) - 1)) * 4)) + (w.1 146 j0 (am_w ((w.1 10 j0 10) - 1)).toNat))) - 1)) < 120 ∧ (((w.1 147 j0 (am_w ((am_w ((am_w ((am_w ((w.1 10 j0 10) - 1)) * 4)) + (w.1 146 j0 (am_w ((w.1 10 j0 10) - 1)).toNat))) - 1)).toNat) ≤ x1 → Q (some (.inl 0)) w) ∧ (¬ (w.1 147 j0 (am_w ((am_w ((am_w ((am_w ((w.1 10 j0 10) - 1)) * 4)) + (w.1 146 j0 (am_w ((w.1 10 j0 10) - 1)).toNat))) - 1)).toNat) ≤ x1 → Q (some (.inl 1)) w))))))))) :
    am_A (mh_G X) SC (d + 1) mX3_isLighter Q 0 [(0, .inr (.inr (some (10, j0)))), (1, .inl x1)] [] w bc bs := by
  refine am_aload_n dX3_isLighter_0 (List.Mem.head _) ?_
  refine am_getf (f := 2) (v := .inr (.inr (some (146, j0)))) dX3_isLighter_1 hc_4 (by decide) wd_217 (by decide) rfl rfl ?_
  refine am_aload_n dX3_isLighter_4 (List.Mem.head _) ?_
  refine am_getf (f := 10) (v := .inl (w.1 10 j0 10)) dX3_isLighter_5 hc_4 (by decide) wd_227 (by decide) rfl rfl ?_
  refine am_iconst dX3_isLighter_8 (by unfold am_rg; omega) ?_
  refine am_isub dX3_isLighter_9 ?_
  have o1 := h.1
  replace h := h.2
  have o2 := h.1
  replace h := h.2
  refine am_iaload (v := (w.1 146 j0 (am_w ((w.1 10 j0 10) - 1)).toNat)) dX3_isLighter_10 (by decide) rfl o1 o2 rfl ?_
  refine am_istore_n (ls' := [(2, .inl (w.1 146 j0 (am_w ((w.1 10 j0 10) - 1)).toNat)), (0, .inr (.inr (some (10, j0)))), (1, .inl x1)]) dX3_isLighter_11 (by decide) rfl ?_
  refine am_iload_n dX3_isLighter_12 (List.Mem.head _) ?_
  refine am_ifeq (tgt := 37) dX3_isLighter_13 (by decide) (fun c3 => ?_) (fun c3 => ?_)
  · replace h := h.1 c3
    refine am_iconst dX3_isLighter_37 (by unfold am_rg; omega) ?_
    refine am_goto (tgt := 42) dX3_isLighter_38 (by decide) ?_
    exact am_ret (r := some (.inl 1)) dX3_isLighter_42 (Or.inr (Or.inl ⟨rfl, (Or.inr rfl)⟩)) rfl h
  · replace h := h.2 c3
    refine am_iload_n dX3_isLighter_16 (List.Mem.tail _ (List.Mem.tail _ (List.Mem.head _))) ?_
    refine am_aload_n dX3_isLighter_17 (List.Mem.tail _ (List.Mem.head _)) ?_
    refine am_getf (f := 3) (v := .inr (.inr (some (147, j0)))) dX3_isLighter_18 hc_4 (by decide) wd_218 (by decide) rfl rfl ?_
    refine am_aload_n dX3_isLighter_21 (List.Mem.tail _ (List.Mem.head _)) ?_
    refine am_getf (f := 10) (v := .inl (w.1 10 j0 10)) dX3_isLighter_22 hc_4 (by decide) wd_227 (by decide) rfl rfl ?_
    refine am_iconst dX3_isLighter_25 (by unfold am_rg; omega) ?_
    refine am_isub dX3_isLighter_26 ?_
    refine am_iconst dX3_isLighter_27 (by unfold am_rg; omega) ?_
    refine am_imul dX3_isLighter_28 ?_
    refine am_iload_n dX3_isLighter_29 (List.Mem.head _) ?_
    refine am_iadd dX3_isLighter_30 ?_
    refine am_iconst dX3_isLighter_31 (by unfold am_rg; omega) ?_
    refine am_isub dX3_isLighter_32 ?_
    have o4 := h.1
    replace h := h.2
    have o5 := h.1
    replace h := h.2
    refine am_iaload (v := (w.1 147 j0 (am_w ((am_w ((am_w ((am_w ((w.1 10 j0 10) - 1)) * 4)) + (w.1 146 j0 (am_w ((w.1 10 j0 10) - 1)).toNat))) - 1)).toNat)) dX3_isLighter_33 (by decide) rfl o4 o5 rfl ?_
    refine am_icmpge (tgt := 41) dX3_isLighter_34 (by decide) (fun c6 => ?_) (fun c6 => ?_)
    · replace h := h.1 c6
      refine am_iconst dX3_isLighter_41 (by unfold am_rg; omega) ?_
      exact am_ret (r := some (.inl 0)) dX3_isLighter_42 (Or.inr (Or.inl ⟨rfl, (Or.inl rfl)⟩)) rfl h
    · replace h := h.2 c6
      refine am_iconst dX3_isLighter_37 (by unfold am_rg; omega) ?_
      refine am_goto (tgt := 42) dX3_isLighter_38 (by decide) ?_
      exact am_ret (r := some (.inl 1)) dX3_isLighter_42 (Or.inr (Or.inl ⟨rfl, (Or.inr rfl)⟩)) rfl h
-- MourningHouse$Law.addPart(III)V
theorem dX3_addPart_0 : decode mX3_addPart.2.1 0 = .ok (.aload_n 0, 1) := by decide +kernel
theorem dX3_addPart_1 : decode mX3_addPart.2.1 1 = .ok (.getfield 42, 3) := by decide +kernel
theorem dX3_addPart_4 : decode mX3_addPart.2.1 4 = .ok (.iconst 1, 1) := by decide +kernel
theorem dX3_addPart_5 : decode mX3_addPart.2.1 5 = .ok (.isub, 1) := by decide +kernel
theorem dX3_addPart_6 : decode mX3_addPart.2.1 6 = .ok (.iconst 4, 1) := by decide +kernel
theorem dX3_addPart_7 : decode mX3_addPart.2.1 7 = .ok (.imul, 1) := by decide +kernel
theorem dX3_addPart_8 : decode mX3_addPart.2.1 8 = .ok (.aload_n 0, 1) := by decide +kernel
theorem dX3_addPart_9 : decode mX3_addPart.2.1 9 = .ok (.getfield 18, 3) := by decide +kernel
theorem dX3_addPart_12 : decode mX3_addPart.2.1 12 = .ok (.aload_n 0, 1) := by decide +kernel
theorem dX3_addPart_13 : decode mX3_addPart.2.1 13 = .ok (.getfield 42, 3) := by decide +kernel
theorem dX3_addPart_16 : decode mX3_addPart.2.1 16 = .ok (.iconst 1, 1) := by decide +kernel
theorem dX3_addPart_17 : decode mX3_addPart.2.1 17 = .ok (.isub, 1) := by decide +kernel
theorem dX3_addPart_18 : decode mX3_addPart.2.1 18 = .ok (.iaload, 1) := by decide +kernel
theorem dX3_addPart_19 : decode mX3_addPart.2.1 19 = .ok (.iadd, 1) := by decide +kernel
theorem dX3_addPart_20 : decode mX3_addPart.2.1 20 = .ok (.istore 4, 2) := by decide +kernel
theorem dX3_addPart_22 : decode mX3_addPart.2.1 22 = .ok (.aload_n 0, 1) := by decide +kernel
theorem dX3_addPart_23 : decode mX3_addPart.2.1 23 = .ok (.getfield 21, 3) := by decide +kernel
theorem dX3_addPart_26 : decode mX3_addPart.2.1 26 = .ok (.iload 4, 2) := by decide +kernel
theorem dX3_addPart_28 : decode mX3_addPart.2.1 28 = .ok (.iload_n 1, 1) := by decide +kernel
theorem dX3_addPart_29 : decode mX3_addPart.2.1 29 = .ok (.iastore, 1) := by decide +kernel
theorem dX3_addPart_30 : decode mX3_addPart.2.1 30 = .ok (.aload_n 0, 1) := by decide +kernel
theorem dX3_addPart_31 : decode mX3_addPart.2.1 31 = .ok (.getfield 24, 3) := by decide +kernel
theorem dX3_addPart_34 : decode mX3_addPart.2.1 34 = .ok (.iload 4, 2) := by decide +kernel
theorem dX3_addPart_36 : decode mX3_addPart.2.1 36 = .ok (.iload_n 2, 1) := by decide +kernel
theorem dX3_addPart_37 : decode mX3_addPart.2.1 37 = .ok (.iastore, 1) := by decide +kernel
theorem dX3_addPart_38 : decode mX3_addPart.2.1 38 = .ok (.aload_n 0, 1) := by decide +kernel
theorem dX3_addPart_39 : decode mX3_addPart.2.1 39 = .ok (.getfield 27, 3) := by decide +kernel
theorem dX3_addPart_42 : decode mX3_addPart.2.1 42 = .ok (.iload 4, 2) := by decide +kernel
theorem dX3_addPart_44 : decode mX3_addPart.2.1 44 = .ok (.iload_n 3, 1) := by decide +kernel
theorem dX3_addPart_45 : decode mX3_addPart.2.1 45 = .ok (.iastore, 1) := by decide +kernel
theorem dX3_addPart_46 : decode mX3_addPart.2.1 46 = .ok (.aload_n 0, 1) := by decide +kernel
theorem dX3_addPart_47 : decode mX3_addPart.2.1 47 = .ok (.getfield 18, 3) := by decide +kernel
theorem dX3_addPart_50 : decode mX3_addPart.2.1 50 = .ok (.aload_n 0, 1) := by decide +kernel
theorem dX3_addPart_51 : decode mX3_addPart.2.1 51 = .ok (.getfield 42, 3) := by decide +kernel
theorem dX3_addPart_54 : decode mX3_addPart.2.1 54 = .ok (.iconst 1, 1) := by decide +kernel
theorem dX3_addPart_55 : decode mX3_addPart.2.1 55 = .ok (.isub, 1) := by decide +kernel
theorem dX3_addPart_56 : decode mX3_addPart.2.1 56 = .ok (.dup2, 1) := by decide +kernel
theorem dX3_addPart_57 : decode mX3_addPart.2.1 57 = .ok (.iaload, 1) := by decide +kernel
theorem dX3_addPart_58 : decode mX3_addPart.2.1 58 = .ok (.iconst 1, 1) := by decide +kernel
theorem dX3_addPart_59 : decode mX3_addPart.2.1 59 = .ok (.iadd, 1) := by decide +kernel
theorem dX3_addPart_60 : decode mX3_addPart.2.1 60 = .ok (.iastore, 1) := by decide +kernel
theorem dX3_addPart_61 : decode mX3_addPart.2.1 61 = .ok (.return_, 1) := by decide +kernel
theorem bX3_addPart_0 {SC : Nat → Nat} {X : mh_X} {d : Nat} {Q : Option am_V → am_W → Prop} {bc bs : Nat} {w : am_W} {j0 : Nat} {x1 : Int} {x2 : Int} {x3 : Int}
    (h : (0 ≤ (am_w ((w.1 10 j0 10) - 1)) ∧ ((am_w ((w.1 10 j0 10) - 1)) < 30 ∧ (0 ≤ (am_w ((am_w ((am_w ((w.1 10 j0 10) - 1)) * 4)) + (w.1 146 j0 (am_w ((w.1 10 j0 10) - 1)).toNat))) ∧ ((am_w ((am_w ((am_w ((w.1 10 j0 10) - 1)) * 4)) + (w.1 146 j0 (am_w ((w.1 10 j0 10) - 1)).toNat))) < 120 ∧ Q none ((am_up (am_up (am_up (am_up w.1 147 j0 (am_w ((am_w ((am_w ((w.1 10 j0 10) - 1)) * 4)) + (w.1 146 j0 (am_w ((w.1 10 j0 10) - 1)).toNat))).toNat x1) 148 j0 (am_w ((am_w ((am_w ((w.1 10 j0 10) - 1)) * 4)) + (w.1 146 j0 (am_w ((w.1 10 j0 10) - 1)).toNat))).toNat x2) 149 j0 (am_w ((am_w ((am_w ((w.1 10 j0 10) - 1)) * 4)) + (w.1 146 j0 (am_w ((w.1 10 j0 10) - 1)).toNat))).toNat x3) 146 j0 (am_w ((w.1 10 j0 10) - 1)).toNat (am_w ((w.1 146 j0 (am_w ((w.1 10 j0 10) - 1)).toNat) + 1))), w.2)))))) :
    am_A (mh_G X) SC (d + 1) mX3_addPart Q 0 [(0, .inr (.inr (some (10, j0)))), (1, .inl x1), (2, .inl x2), (3, .inl x3)] [] w bc bs := by
  refine am_aload_n dX3_addPart_0 (List.Mem.head _) ?_
  refine am_getf (f := 10) (v := .inl (w.1 10 j0 10)) dX3_addPart_1 hc_4 (by decide) wd_227 (by decide) rfl rfl ?_
  refine am_iconst dX3_addPart_4 (by unfold am_rg; omega) ?_
  refine am_isub dX3_addPart_5 ?_
  refine am_iconst dX3_addPart_6 (by unfold am_rg; omega) ?_
  refine am_imul dX3_addPart_7 ?_
  refine am_aload_n dX3_addPart_8 (List.Mem.head _) ?_
  refine am_getf (f := 2) (v := .inr (.inr (some (146, j0)))) dX3_addPart_9 hc_4 (by decide) wd_217 (by decide) rfl rfl ?_
  refine am_aload_n dX3_addPart_12 (List.Mem.head _) ?_
  refine am_getf (f := 10) (v := .inl (w.1 10 j0 10)) dX3_addPart_13 hc_4 (by decide) wd_227 (by decide) rfl rfl ?_
  refine am_iconst dX3_addPart_16 (by unfold am_rg; omega) ?_
  refine am_isub dX3_addPart_17 ?_
  have o1 := h.1
  replace h := h.2
  have o2 := h.1
  replace h := h.2
  refine am_iaload (v := (w.1 146 j0 (am_w ((w.1 10 j0 10) - 1)).toNat)) dX3_addPart_18 (by decide) rfl o1 o2 rfl ?_
  refine am_iadd dX3_addPart_19 ?_
  refine am_istore (ls' := [(4, .inl (am_w ((am_w ((am_w ((w.1 10 j0 10) - 1)) * 4)) + (w.1 146 j0 (am_w ((w.1 10 j0 10) - 1)).toNat)))), (0, .inr (.inr (some (10, j0)))), (1, .inl x1), (2, .inl x2), (3, .inl x3)]) dX3_addPart_20 (by decide) rfl ?_
  refine am_aload_n dX3_addPart_22 (List.Mem.tail _ (List.Mem.head _)) ?_
  refine am_getf (f := 3) (v := .inr (.inr (some (147, j0)))) dX3_addPart_23 hc_4 (by decide) wd_218 (by decide) rfl rfl ?_
  refine am_iload dX3_addPart_26 (List.Mem.head _) ?_
  refine am_iload_n dX3_addPart_28 (List.Mem.tail _ (List.Mem.tail _ (List.Mem.head _))) ?_
  have o3 := h.1
  replace h := h.2
  have o4 := h.1
  replace h := h.2
  refine am_iastore dX3_addPart_29 (Or.inl (by decide)) rfl o3 o4 ?_
  refine am_aload_n dX3_addPart_30 (List.Mem.tail _ (List.Mem.head _)) ?_
  refine am_getf (f := 4) (v := .inr (.inr (some (148, j0)))) dX3_addPart_31 hc_4 (by decide) wd_219 (by decide) rfl rfl ?_
  refine am_iload dX3_addPart_34 (List.Mem.head _) ?_
  refine am_iload_n dX3_addPart_36 (List.Mem.tail _ (List.Mem.tail _ (List.Mem.tail _ (List.Mem.head _)))) ?_
  refine am_iastore dX3_addPart_37 (Or.inl (by decide)) rfl o3 o4 ?_
  refine am_aload_n dX3_addPart_38 (List.Mem.tail _ (List.Mem.head _)) ?_
  refine am_getf (f := 5) (v := .inr (.inr (some (149, j0)))) dX3_addPart_39 hc_4 (by decide) wd_220 (by decide) rfl rfl ?_
  refine am_iload dX3_addPart_42 (List.Mem.head _) ?_
  refine am_iload_n dX3_addPart_44 (List.Mem.tail _ (List.Mem.tail _ (List.Mem.tail _ (List.Mem.tail _ (List.Mem.head _))))) ?_
  refine am_iastore dX3_addPart_45 (Or.inl (by decide)) rfl o3 o4 ?_
  refine am_aload_n dX3_addPart_46 (List.Mem.tail _ (List.Mem.head _)) ?_
  refine am_getf (f := 2) (v := .inr (.inr (some (146, j0)))) dX3_addPart_47 hc_4 (by decide) wd_217 (by decide) rfl rfl ?_
  refine am_aload_n dX3_addPart_50 (List.Mem.tail _ (List.Mem.head _)) ?_
  refine am_getf (f := 10) (v := .inl (w.1 10 j0 10)) dX3_addPart_51 hc_4 (by decide) wd_227 (by decide) rfl rfl ?_
  refine am_iconst dX3_addPart_54 (by unfold am_rg; omega) ?_
  refine am_isub dX3_addPart_55 ?_
  refine am_dup2 dX3_addPart_56 rfl rfl ?_
  refine am_iaload (v := (w.1 146 j0 (am_w ((w.1 10 j0 10) - 1)).toNat)) dX3_addPart_57 (by decide) rfl o1 o2 rfl ?_
  refine am_iconst dX3_addPart_58 (by unfold am_rg; omega) ?_
  refine am_iadd dX3_addPart_59 ?_
  refine am_iastore dX3_addPart_60 (Or.inl (by decide)) rfl o1 o2 ?_
  exact am_ret (r := none) dX3_addPart_61 rfl rfl h
-- MourningHouse$Law.addOption(I)Z
theorem dX3_addOption_0 : decode mX3_addOption.2.1 0 = .ok (.iconst 1, 1) := by decide +kernel
theorem dX3_addOption_1 : decode mX3_addOption.2.1 1 = .ok (.iload_n 1, 1) := by decide +kernel
theorem dX3_addOption_2 : decode mX3_addOption.2.1 2 = .ok (.ishl, 1) := by decide +kernel
theorem dX3_addOption_3 : decode mX3_addOption.2.1 3 = .ok (.istore_n 2, 1) := by decide +kernel
theorem dX3_addOption_4 : decode mX3_addOption.2.1 4 = .ok (.aload_n 0, 1) := by decide +kernel
theorem dX3_addOption_5 : decode mX3_addOption.2.1 5 = .ok (.getfield 30, 3) := by decide +kernel
theorem dX3_addOption_8 : decode mX3_addOption.2.1 8 = .ok (.aload_n 0, 1) := by decide +kernel
theorem dX3_addOption_9 : decode mX3_addOption.2.1 9 = .ok (.getfield 42, 3) := by decide +kernel
theorem dX3_addOption_12 : decode mX3_addOption.2.1 12 = .ok (.iconst 1, 1) := by decide +kernel
theorem dX3_addOption_13 : decode mX3_addOption.2.1 13 = .ok (.isub, 1) := by decide +kernel
theorem dX3_addOption_14 : decode mX3_addOption.2.1 14 = .ok (.iaload, 1) := by decide +kernel
theorem dX3_addOption_15 : decode mX3_addOption.2.1 15 = .ok (.iload_n 2, 1) := by decide +kernel
theorem dX3_addOption_16 : decode mX3_addOption.2.1 16 = .ok (.iand, 1) := by decide +kernel
theorem dX3_addOption_17 : decode mX3_addOption.2.1 17 = .ok (.ifCond .eq 5, 3) := by decide +kernel
theorem dX3_addOption_20 : decode mX3_addOption.2.1 20 = .ok (.iconst 0, 1) := by decide +kernel
theorem dX3_addOption_21 : decode mX3_addOption.2.1 21 = .ok (.ireturn, 1) := by decide +kernel
theorem dX3_addOption_22 : decode mX3_addOption.2.1 22 = .ok (.aload_n 0, 1) := by decide +kernel
theorem dX3_addOption_23 : decode mX3_addOption.2.1 23 = .ok (.getfield 30, 3) := by decide +kernel
theorem dX3_addOption_26 : decode mX3_addOption.2.1 26 = .ok (.aload_n 0, 1) := by decide +kernel
theorem dX3_addOption_27 : decode mX3_addOption.2.1 27 = .ok (.getfield 42, 3) := by decide +kernel
theorem dX3_addOption_30 : decode mX3_addOption.2.1 30 = .ok (.iconst 1, 1) := by decide +kernel
theorem dX3_addOption_31 : decode mX3_addOption.2.1 31 = .ok (.isub, 1) := by decide +kernel
theorem dX3_addOption_32 : decode mX3_addOption.2.1 32 = .ok (.dup2, 1) := by decide +kernel
theorem dX3_addOption_33 : decode mX3_addOption.2.1 33 = .ok (.iaload, 1) := by decide +kernel
theorem dX3_addOption_34 : decode mX3_addOption.2.1 34 = .ok (.iload_n 2, 1) := by decide +kernel
theorem dX3_addOption_35 : decode mX3_addOption.2.1 35 = .ok (.ior, 1) := by decide +kernel
theorem dX3_addOption_36 : decode mX3_addOption.2.1 36 = .ok (.iastore, 1) := by decide +kernel
theorem dX3_addOption_37 : decode mX3_addOption.2.1 37 = .ok (.iconst 1, 1) := by decide +kernel
theorem dX3_addOption_38 : decode mX3_addOption.2.1 38 = .ok (.ireturn, 1) := by decide +kernel
theorem bX3_addOption_0 {SC : Nat → Nat} {X : mh_X} {d : Nat} {Q : Option am_V → am_W → Prop} {bc bs : Nat} {w : am_W} {j0 : Nat} {x1 : Int}
    (h : (0 ≤ (am_w ((w.1 10 j0 10) - 1)) ∧ ((am_w ((w.1 10 j0 10) - 1)) < 30 ∧ (((am_and (w.1 150 j0 (am_w ((w.1 10 j0 10) - 1)).toNat) (am_shl 1 x1)) = 0 → Q (some (.inl 1)) ((am_up w.1 150 j0 (am_w ((w.1 10 j0 10) - 1)).toNat (am_or (w.1 150 j0 (am_w ((w.1 10 j0 10) - 1)).toNat) (am_shl 1 x1))), w.2)) ∧ (¬ (am_and (w.1 150 j0 (am_w ((w.1 10 j0 10) - 1)).toNat) (am_shl 1 x1)) = 0 → Q (some (.inl 0)) w))))) :
    am_A (mh_G X) SC (d + 1) mX3_addOption Q 0 [(0, .inr (.inr (some (10, j0)))), (1, .inl x1)] [] w bc bs := by
  refine am_iconst dX3_addOption_0 (by unfold am_rg; omega) ?_
  refine am_iload_n dX3_addOption_1 (List.Mem.tail _ (List.Mem.head _)) ?_
  refine am_ishl dX3_addOption_2 ?_
  refine am_istore_n (ls' := [(2, .inl (am_shl 1 x1)), (0, .inr (.inr (some (10, j0)))), (1, .inl x1)]) dX3_addOption_3 (by decide) rfl ?_
  refine am_aload_n dX3_addOption_4 (List.Mem.tail _ (List.Mem.head _)) ?_
  refine am_getf (f := 6) (v := .inr (.inr (some (150, j0)))) dX3_addOption_5 hc_4 (by decide) wd_221 (by decide) rfl rfl ?_
  refine am_aload_n dX3_addOption_8 (List.Mem.tail _ (List.Mem.head _)) ?_
  refine am_getf (f := 10) (v := .inl (w.1 10 j0 10)) dX3_addOption_9 hc_4 (by decide) wd_227 (by decide) rfl rfl ?_
  refine am_iconst dX3_addOption_12 (by unfold am_rg; omega) ?_
  refine am_isub dX3_addOption_13 ?_
  have o1 := h.1
  replace h := h.2
  have o2 := h.1
  replace h := h.2
  refine am_iaload (v := (w.1 150 j0 (am_w ((w.1 10 j0 10) - 1)).toNat)) dX3_addOption_14 (by decide) rfl o1 o2 rfl ?_
  refine am_iload_n dX3_addOption_15 (List.Mem.head _) ?_
  refine am_iand dX3_addOption_16 ?_
  refine am_ifeq (tgt := 22) dX3_addOption_17 (by decide) (fun c3 => ?_) (fun c3 => ?_)
  · replace h := h.1 c3
    refine am_aload_n dX3_addOption_22 (List.Mem.tail _ (List.Mem.head _)) ?_
    refine am_getf (f := 6) (v := .inr (.inr (some (150, j0)))) dX3_addOption_23 hc_4 (by decide) wd_221 (by decide) rfl rfl ?_
    refine am_aload_n dX3_addOption_26 (List.Mem.tail _ (List.Mem.head _)) ?_
    refine am_getf (f := 10) (v := .inl (w.1 10 j0 10)) dX3_addOption_27 hc_4 (by decide) wd_227 (by decide) rfl rfl ?_
    refine am_iconst dX3_addOption_30 (by unfold am_rg; omega) ?_
    refine am_isub dX3_addOption_31 ?_
    refine am_dup2 dX3_addOption_32 rfl rfl ?_
    refine am_iaload (v := (w.1 150 j0 (am_w ((w.1 10 j0 10) - 1)).toNat)) dX3_addOption_33 (by decide) rfl o1 o2 rfl ?_
    refine am_iload_n dX3_addOption_34 (List.Mem.head _) ?_
    refine am_ior dX3_addOption_35 ?_
    refine am_iastore dX3_addOption_36 (Or.inl (by decide)) rfl o1 o2 ?_
    refine am_iconst dX3_addOption_37 (by unfold am_rg; omega) ?_
    exact am_ret (r := some (.inl 1)) dX3_addOption_38 (Or.inr (Or.inl ⟨rfl, (Or.inr rfl)⟩)) rfl h
  · replace h := h.2 c3
    refine am_iconst dX3_addOption_20 (by unfold am_rg; omega) ?_
    exact am_ret (r := some (.inl 0)) dX3_addOption_21 (Or.inr (Or.inl ⟨rfl, (Or.inl rfl)⟩)) rfl h
-- MourningHouse$Law.hasRoomForFeast()Z
theorem dX3_hasRoomForFeast_0 : decode mX3_hasRoomForFeast.2.1 0 = .ok (.aload_n 0, 1) := by decide +kernel
theorem dX3_hasRoomForFeast_1 : decode mX3_hasRoomForFeast.2.1 1 = .ok (.getfield 46, 3) := by decide +kernel
theorem dX3_hasRoomForFeast_4 : decode mX3_hasRoomForFeast.2.1 4 = .ok (.bipush 8, 2) := by decide +kernel
theorem dX3_hasRoomForFeast_6 : decode mX3_hasRoomForFeast.2.1 6 = .ok (.if_icmp .ge 7, 3) := by decide +kernel
theorem dX3_hasRoomForFeast_9 : decode mX3_hasRoomForFeast.2.1 9 = .ok (.iconst 1, 1) := by decide +kernel
theorem dX3_hasRoomForFeast_10 : decode mX3_hasRoomForFeast.2.1 10 = .ok (.goto 4, 3) := by decide +kernel
theorem dX3_hasRoomForFeast_13 : decode mX3_hasRoomForFeast.2.1 13 = .ok (.iconst 0, 1) := by decide +kernel
theorem dX3_hasRoomForFeast_14 : decode mX3_hasRoomForFeast.2.1 14 = .ok (.ireturn, 1) := by decide +kernel
theorem bX3_hasRoomForFeast_0 {SC : Nat → Nat} {X : mh_X} {d : Nat} {Q : Option am_V → am_W → Prop} {bc bs : Nat} {w : am_W} {j0 : Nat}
    (h : ((8 ≤ (w.1 10 j0 11) → Q (some (.inl 0)) w) ∧ (¬ 8 ≤ (w.1 10 j0 11) → Q (some (.inl 1)) w))) :
    am_A (mh_G X) SC (d + 1) mX3_hasRoomForFeast Q 0 [(0, .inr (.inr (some (10, j0))))] [] w bc bs := by
  refine am_aload_n dX3_hasRoomForFeast_0 (List.Mem.head _) ?_
  refine am_getf (f := 11) (v := .inl (w.1 10 j0 11)) dX3_hasRoomForFeast_1 hc_4 (by decide) wd_230 (by decide) rfl rfl ?_
  refine am_bipush dX3_hasRoomForFeast_4 (by decide) (by unfold am_rg; omega) ?_
  refine am_icmpge (tgt := 13) dX3_hasRoomForFeast_6 (by decide) (fun c1 => ?_) (fun c1 => ?_)
  · replace h := h.1 c1
    refine am_iconst dX3_hasRoomForFeast_13 (by unfold am_rg; omega) ?_
    exact am_ret (r := some (.inl 0)) dX3_hasRoomForFeast_14 (Or.inr (Or.inl ⟨rfl, (Or.inl rfl)⟩)) rfl h
  · replace h := h.2 c1
    refine am_iconst dX3_hasRoomForFeast_9 (by unfold am_rg; omega) ?_
    refine am_goto (tgt := 14) dX3_hasRoomForFeast_10 (by decide) ?_
    exact am_ret (r := some (.inl 1)) dX3_hasRoomForFeast_14 (Or.inr (Or.inl ⟨rfl, (Or.inr rfl)⟩)) rfl h
-- MourningHouse$Law.addFeast(II)V
theorem dX3_addFeast_0 : decode mX3_addFeast.2.1 0 = .ok (.aload_n 0, 1) := by decide +kernel
theorem dX3_addFeast_1 : decode mX3_addFeast.2.1 1 = .ok (.getfield 33, 3) := by decide +kernel
theorem dX3_addFeast_4 : decode mX3_addFeast.2.1 4 = .ok (.aload_n 0, 1) := by decide +kernel
theorem dX3_addFeast_5 : decode mX3_addFeast.2.1 5 = .ok (.getfield 46, 3) := by decide +kernel
theorem dX3_addFeast_8 : decode mX3_addFeast.2.1 8 = .ok (.iload_n 1, 1) := by decide +kernel
theorem dX3_addFeast_9 : decode mX3_addFeast.2.1 9 = .ok (.iastore, 1) := by decide +kernel
theorem dX3_addFeast_10 : decode mX3_addFeast.2.1 10 = .ok (.aload_n 0, 1) := by decide +kernel
theorem dX3_addFeast_11 : decode mX3_addFeast.2.1 11 = .ok (.getfield 36, 3) := by decide +kernel
theorem dX3_addFeast_14 : decode mX3_addFeast.2.1 14 = .ok (.aload_n 0, 1) := by decide +kernel
theorem dX3_addFeast_15 : decode mX3_addFeast.2.1 15 = .ok (.getfield 46, 3) := by decide +kernel
theorem dX3_addFeast_18 : decode mX3_addFeast.2.1 18 = .ok (.iload_n 2, 1) := by decide +kernel
theorem dX3_addFeast_19 : decode mX3_addFeast.2.1 19 = .ok (.iastore, 1) := by decide +kernel
theorem dX3_addFeast_20 : decode mX3_addFeast.2.1 20 = .ok (.aload_n 0, 1) := by decide +kernel
theorem dX3_addFeast_21 : decode mX3_addFeast.2.1 21 = .ok (.dup, 1) := by decide +kernel
theorem dX3_addFeast_22 : decode mX3_addFeast.2.1 22 = .ok (.getfield 46, 3) := by decide +kernel
theorem dX3_addFeast_25 : decode mX3_addFeast.2.1 25 = .ok (.iconst 1, 1) := by decide +kernel
theorem dX3_addFeast_26 : decode mX3_addFeast.2.1 26 = .ok (.iadd, 1) := by decide +kernel
theorem dX3_addFeast_27 : decode mX3_addFeast.2.1 27 = .ok (.putfield 46, 3) := by decide +kernel
theorem dX3_addFeast_30 : decode mX3_addFeast.2.1 30 = .ok (.return_, 1) := by decide +kernel
theorem bX3_addFeast_0 {SC : Nat → Nat} {X : mh_X} {d : Nat} {Q : Option am_V → am_W → Prop} {bc bs : Nat} {w : am_W} {j0 : Nat} {x1 : Int} {x2 : Int}
    (h : (0 ≤ (w.1 10 j0 11) ∧ ((w.1 10 j0 11) < 8 ∧ Q none ((am_up (am_up (am_up w.1 151 j0 (w.1 10 j0 11).toNat x1) 152 j0 (w.1 10 j0 11).toNat x2) 10 j0 11 (am_w ((w.1 10 j0 11) + 1))), w.2)))) :
    am_A (mh_G X) SC (d + 1) mX3_addFeast Q 0 [(0, .inr (.inr (some (10, j0)))), (1, .inl x1), (2, .inl x2)] [] w bc bs := by
  refine am_aload_n dX3_addFeast_0 (List.Mem.head _) ?_
  refine am_getf (f := 7) (v := .inr (.inr (some (151, j0)))) dX3_addFeast_1 hc_4 (by decide) wd_222 (by decide) rfl rfl ?_
  refine am_aload_n dX3_addFeast_4 (List.Mem.head _) ?_
  refine am_getf (f := 11) (v := .inl (w.1 10 j0 11)) dX3_addFeast_5 hc_4 (by decide) wd_230 (by decide) rfl rfl ?_
  refine am_iload_n dX3_addFeast_8 (List.Mem.tail _ (List.Mem.head _)) ?_
  have o1 := h.1
  replace h := h.2
  have o2 := h.1
  replace h := h.2
  refine am_iastore dX3_addFeast_9 (Or.inl (by decide)) rfl o1 o2 ?_
  refine am_aload_n dX3_addFeast_10 (List.Mem.head _) ?_
  refine am_getf (f := 8) (v := .inr (.inr (some (152, j0)))) dX3_addFeast_11 hc_4 (by decide) wd_223 (by decide) rfl rfl ?_
  refine am_aload_n dX3_addFeast_14 (List.Mem.head _) ?_
  refine am_getf (f := 11) (v := .inl (w.1 10 j0 11)) dX3_addFeast_15 hc_4 (by decide) wd_230 (by decide) rfl rfl ?_
  refine am_iload_n dX3_addFeast_18 (List.Mem.tail _ (List.Mem.tail _ (List.Mem.head _))) ?_
  refine am_iastore dX3_addFeast_19 (Or.inl (by decide)) rfl o1 o2 ?_
  refine am_aload_n dX3_addFeast_20 (List.Mem.head _) ?_
  refine am_dup dX3_addFeast_21 rfl ?_
  refine am_getf (f := 11) (v := .inl (w.1 10 j0 11)) dX3_addFeast_22 hc_4 (by decide) wd_230 (by decide) rfl rfl ?_
  refine am_iconst dX3_addFeast_25 (by unfold am_rg; omega) ?_
  refine am_iadd dX3_addFeast_26 ?_
  refine am_putf (f := 11) dX3_addFeast_27 hc_4 (by decide) wd_230 rfl (Or.inl rfl) (Or.inl (by decide)) rfl ?_
  exact am_ret (r := none) dX3_addFeast_30 rfl rfl h
-- MourningHouse$Law.hasRule(I)Z
theorem dX3_hasRule_0 : decode mX3_hasRule.2.1 0 = .ok (.iload_n 1, 1) := by decide +kernel
theorem dX3_hasRule_1 : decode mX3_hasRule.2.1 1 = .ok (.ifCond .lt 15, 3) := by decide +kernel
theorem dX3_hasRule_4 : decode mX3_hasRule.2.1 4 = .ok (.iload_n 1, 1) := by decide +kernel
theorem dX3_hasRule_5 : decode mX3_hasRule.2.1 5 = .ok (.aload_n 0, 1) := by decide +kernel
theorem dX3_hasRule_6 : decode mX3_hasRule.2.1 6 = .ok (.getfield 42, 3) := by decide +kernel
theorem dX3_hasRule_9 : decode mX3_hasRule.2.1 9 = .ok (.if_icmp .ge 7, 3) := by decide +kernel
theorem dX3_hasRule_12 : decode mX3_hasRule.2.1 12 = .ok (.iconst 1, 1) := by decide +kernel
theorem dX3_hasRule_13 : decode mX3_hasRule.2.1 13 = .ok (.goto 4, 3) := by decide +kernel
theorem dX3_hasRule_16 : decode mX3_hasRule.2.1 16 = .ok (.iconst 0, 1) := by decide +kernel
theorem dX3_hasRule_17 : decode mX3_hasRule.2.1 17 = .ok (.ireturn, 1) := by decide +kernel
theorem bX3_hasRule_0 {SC : Nat → Nat} {X : mh_X} {d : Nat} {Q : Option am_V → am_W → Prop} {bc bs : Nat} {w : am_W} {j0 : Nat} {x1 : Int}
    (h : ((x1 < 0 → Q (some (.inl 0)) w) ∧ (¬ x1 < 0 → (((w.1 10 j0 10) ≤ x1 → Q (some (.inl 0)) w) ∧ (¬ (w.1 10 j0 10) ≤ x1 → Q (some (.inl 1)) w))))) :
    am_A (mh_G X) SC (d + 1) mX3_hasRule Q 0 [(0, .inr (.inr (some (10, j0)))), (1, .inl x1)] [] w bc bs := by
  refine am_iload_n dX3_hasRule_0 (List.Mem.tail _ (List.Mem.head _)) ?_
  refine am_iflt (tgt := 16) dX3_hasRule_1 (by decide) (fun c1 => ?_) (fun c1 => ?_)
  · replace h := h.1 c1
    refine am_iconst dX3_hasRule_16 (by unfold am_rg; omega) ?_
    exact am_ret (r := some (.inl 0)) dX3_hasRule_17 (Or.inr (Or.inl ⟨rfl, (Or.inl rfl)⟩)) rfl h
  · replace h := h.2 c1
    refine am_iload_n dX3_hasRule_4 (List.Mem.tail _ (List.Mem.head _)) ?_
    refine am_aload_n dX3_hasRule_5 (List.Mem.head _) ?_
    refine am_getf (f := 10) (v := .inl (w.1 10 j0 10)) dX3_hasRule_6 hc_4 (by decide) wd_227 (by decide) rfl rfl ?_
    refine am_icmpge (tgt := 16) dX3_hasRule_9 (by decide) (fun c2 => ?_) (fun c2 => ?_)
    · replace h := h.1 c2
      refine am_iconst dX3_hasRule_16 (by unfold am_rg; omega) ?_
      exact am_ret (r := some (.inl 0)) dX3_hasRule_17 (Or.inr (Or.inl ⟨rfl, (Or.inl rfl)⟩)) rfl h
    · replace h := h.2 c2
      refine am_iconst dX3_hasRule_12 (by unfold am_rg; omega) ?_
      refine am_goto (tgt := 17) dX3_hasRule_13 (by decide) ?_
      exact am_ret (r := some (.inl 1)) dX3_hasRule_17 (Or.inr (Or.inl ⟨rfl, (Or.inr rfl)⟩)) rfl h
-- MourningHouse$Law.kinCount(I)I
theorem dX3_kinCount_0 : decode mX3_kinCount.2.1 0 = .ok (.aload_n 0, 1) := by decide +kernel
theorem dX3_kinCount_1 : decode mX3_kinCount.2.1 1 = .ok (.getfield 11, 3) := by decide +kernel
theorem dX3_kinCount_4 : decode mX3_kinCount.2.1 4 = .ok (.iload_n 1, 1) := by decide +kernel
theorem dX3_kinCount_5 : decode mX3_kinCount.2.1 5 = .ok (.iaload, 1) := by decide +kernel
theorem dX3_kinCount_6 : decode mX3_kinCount.2.1 6 = .ok (.ireturn, 1) := by decide +kernel
theorem bX3_kinCount_0 {SC : Nat → Nat} {X : mh_X} {d : Nat} {Q : Option am_V → am_W → Prop} {bc bs : Nat} {w : am_W} {j0 : Nat} {x1 : Int}
    (h : (0 ≤ x1 ∧ (x1 < 30 ∧ Q (some (.inl (w.1 144 j0 x1.toNat))) w))) :
    am_A (mh_G X) SC (d + 1) mX3_kinCount Q 0 [(0, .inr (.inr (some (10, j0)))), (1, .inl x1)] [] w bc bs := by
  refine am_aload_n dX3_kinCount_0 (List.Mem.head _) ?_
  refine am_getf (f := 0) (v := .inr (.inr (some (144, j0)))) dX3_kinCount_1 hc_4 (by decide) wd_215 (by decide) rfl rfl ?_
  refine am_iload_n dX3_kinCount_4 (List.Mem.tail _ (List.Mem.head _)) ?_
  have o1 := h.1
  replace h := h.2
  have o2 := h.1
  replace h := h.2
  refine am_iaload (v := (w.1 144 j0 x1.toNat)) dX3_kinCount_5 (by decide) rfl o1 o2 rfl ?_
  exact am_ret (r := some (.inl (w.1 144 j0 x1.toNat))) dX3_kinCount_6 (Or.inl rfl) rfl h
-- MourningHouse$Law.kinWord(II)I
theorem dX3_kinWord_0 : decode mX3_kinWord.2.1 0 = .ok (.aload_n 0, 1) := by decide +kernel
theorem dX3_kinWord_1 : decode mX3_kinWord.2.1 1 = .ok (.getfield 15, 3) := by decide +kernel
theorem dX3_kinWord_4 : decode mX3_kinWord.2.1 4 = .ok (.iload_n 1, 1) := by decide +kernel
theorem dX3_kinWord_5 : decode mX3_kinWord.2.1 5 = .ok (.iconst 4, 1) := by decide +kernel
theorem dX3_kinWord_6 : decode mX3_kinWord.2.1 6 = .ok (.imul, 1) := by decide +kernel
theorem dX3_kinWord_7 : decode mX3_kinWord.2.1 7 = .ok (.iload_n 2, 1) := by decide +kernel
theorem dX3_kinWord_8 : decode mX3_kinWord.2.1 8 = .ok (.iadd, 1) := by decide +kernel
theorem dX3_kinWord_9 : decode mX3_kinWord.2.1 9 = .ok (.iaload, 1) := by decide +kernel
theorem dX3_kinWord_10 : decode mX3_kinWord.2.1 10 = .ok (.ireturn, 1) := by decide +kernel
theorem bX3_kinWord_0 {SC : Nat → Nat} {X : mh_X} {d : Nat} {Q : Option am_V → am_W → Prop} {bc bs : Nat} {w : am_W} {j0 : Nat} {x1 : Int} {x2 : Int}
    (h : (0 ≤ (am_w ((am_w (x1 * 4)) + x2)) ∧ ((am_w ((am_w (x1 * 4)) + x2)) < 120 ∧ Q (some (.inl (w.1 145 j0 (am_w ((am_w (x1 * 4)) + x2)).toNat))) w))) :
    am_A (mh_G X) SC (d + 1) mX3_kinWord Q 0 [(0, .inr (.inr (some (10, j0)))), (1, .inl x1), (2, .inl x2)] [] w bc bs := by
  refine am_aload_n dX3_kinWord_0 (List.Mem.head _) ?_
  refine am_getf (f := 1) (v := .inr (.inr (some (145, j0)))) dX3_kinWord_1 hc_4 (by decide) wd_216 (by decide) rfl rfl ?_
  refine am_iload_n dX3_kinWord_4 (List.Mem.tail _ (List.Mem.head _)) ?_
  refine am_iconst dX3_kinWord_5 (by unfold am_rg; omega) ?_
  refine am_imul dX3_kinWord_6 ?_
  refine am_iload_n dX3_kinWord_7 (List.Mem.tail _ (List.Mem.tail _ (List.Mem.head _))) ?_
  refine am_iadd dX3_kinWord_8 ?_
  have o1 := h.1
  replace h := h.2
  have o2 := h.1
  replace h := h.2
  refine am_iaload (v := (w.1 145 j0 (am_w ((am_w (x1 * 4)) + x2)).toNat)) dX3_kinWord_9 (by decide) rfl o1 o2 rfl ?_
  exact am_ret (r := some (.inl (w.1 145 j0 (am_w ((am_w (x1 * 4)) + x2)).toNat))) dX3_kinWord_10 (Or.inl rfl) rfl h
-- MourningHouse$Law.partCount(I)I
theorem dX3_partCount_0 : decode mX3_partCount.2.1 0 = .ok (.aload_n 0, 1) := by decide +kernel
theorem dX3_partCount_1 : decode mX3_partCount.2.1 1 = .ok (.getfield 18, 3) := by decide +kernel
theorem dX3_partCount_4 : decode mX3_partCount.2.1 4 = .ok (.iload_n 1, 1) := by decide +kernel
theorem dX3_partCount_5 : decode mX3_partCount.2.1 5 = .ok (.iaload, 1) := by decide +kernel
theorem dX3_partCount_6 : decode mX3_partCount.2.1 6 = .ok (.ireturn, 1) := by decide +kernel
theorem bX3_partCount_0 {SC : Nat → Nat} {X : mh_X} {d : Nat} {Q : Option am_V → am_W → Prop} {bc bs : Nat} {w : am_W} {j0 : Nat} {x1 : Int}
    (h : (0 ≤ x1 ∧ (x1 < 30 ∧ Q (some (.inl (w.1 146 j0 x1.toNat))) w))) :
    am_A (mh_G X) SC (d + 1) mX3_partCount Q 0 [(0, .inr (.inr (some (10, j0)))), (1, .inl x1)] [] w bc bs := by
  refine am_aload_n dX3_partCount_0 (List.Mem.head _) ?_
  refine am_getf (f := 2) (v := .inr (.inr (some (146, j0)))) dX3_partCount_1 hc_4 (by decide) wd_217 (by decide) rfl rfl ?_
  refine am_iload_n dX3_partCount_4 (List.Mem.tail _ (List.Mem.head _)) ?_
  have o1 := h.1
  replace h := h.2
  have o2 := h.1
  replace h := h.2
  refine am_iaload (v := (w.1 146 j0 x1.toNat)) dX3_partCount_5 (by decide) rfl o1 o2 rfl ?_
  exact am_ret (r := some (.inl (w.1 146 j0 x1.toNat))) dX3_partCount_6 (Or.inl rfl) rfl h
-- MourningHouse$Law.partDepth(II)I
theorem dX3_partDepth_0 : decode mX3_partDepth.2.1 0 = .ok (.aload_n 0, 1) := by decide +kernel
theorem dX3_partDepth_1 : decode mX3_partDepth.2.1 1 = .ok (.getfield 21, 3) := by decide +kernel
theorem dX3_partDepth_4 : decode mX3_partDepth.2.1 4 = .ok (.iload_n 1, 1) := by decide +kernel
theorem dX3_partDepth_5 : decode mX3_partDepth.2.1 5 = .ok (.iconst 4, 1) := by decide +kernel
theorem dX3_partDepth_6 : decode mX3_partDepth.2.1 6 = .ok (.imul, 1) := by decide +kernel
theorem dX3_partDepth_7 : decode mX3_partDepth.2.1 7 = .ok (.iload_n 2, 1) := by decide +kernel
theorem dX3_partDepth_8 : decode mX3_partDepth.2.1 8 = .ok (.iadd, 1) := by decide +kernel
theorem dX3_partDepth_9 : decode mX3_partDepth.2.1 9 = .ok (.iaload, 1) := by decide +kernel
theorem dX3_partDepth_10 : decode mX3_partDepth.2.1 10 = .ok (.ireturn, 1) := by decide +kernel
theorem bX3_partDepth_0 {SC : Nat → Nat} {X : mh_X} {d : Nat} {Q : Option am_V → am_W → Prop} {bc bs : Nat} {w : am_W} {j0 : Nat} {x1 : Int} {x2 : Int}
    (h : (0 ≤ (am_w ((am_w (x1 * 4)) + x2)) ∧ ((am_w ((am_w (x1 * 4)) + x2)) < 120 ∧ Q (some (.inl (w.1 147 j0 (am_w ((am_w (x1 * 4)) + x2)).toNat))) w))) :
    am_A (mh_G X) SC (d + 1) mX3_partDepth Q 0 [(0, .inr (.inr (some (10, j0)))), (1, .inl x1), (2, .inl x2)] [] w bc bs := by
  refine am_aload_n dX3_partDepth_0 (List.Mem.head _) ?_
  refine am_getf (f := 3) (v := .inr (.inr (some (147, j0)))) dX3_partDepth_1 hc_4 (by decide) wd_218 (by decide) rfl rfl ?_
  refine am_iload_n dX3_partDepth_4 (List.Mem.tail _ (List.Mem.head _)) ?_
  refine am_iconst dX3_partDepth_5 (by unfold am_rg; omega) ?_
  refine am_imul dX3_partDepth_6 ?_
  refine am_iload_n dX3_partDepth_7 (List.Mem.tail _ (List.Mem.tail _ (List.Mem.head _))) ?_
  refine am_iadd dX3_partDepth_8 ?_
  have o1 := h.1
  replace h := h.2
  have o2 := h.1
  replace h := h.2
  refine am_iaload (v := (w.1 147 j0 (am_w ((am_w (x1 * 4)) + x2)).toNat)) dX3_partDepth_9 (by decide) rfl o1 o2 rfl ?_
  exact am_ret (r := some (.inl (w.1 147 j0 (am_w ((am_w (x1 * 4)) + x2)).toNat))) dX3_partDepth_10 (Or.inl rfl) rfl h
-- MourningHouse$Law.hasOption(II)Z
theorem dX3_hasOption_0 : decode mX3_hasOption.2.1 0 = .ok (.aload_n 0, 1) := by decide +kernel
theorem dX3_hasOption_1 : decode mX3_hasOption.2.1 1 = .ok (.getfield 30, 3) := by decide +kernel
theorem dX3_hasOption_4 : decode mX3_hasOption.2.1 4 = .ok (.iload_n 1, 1) := by decide +kernel
theorem dX3_hasOption_5 : decode mX3_hasOption.2.1 5 = .ok (.iaload, 1) := by decide +kernel
theorem dX3_hasOption_6 : decode mX3_hasOption.2.1 6 = .ok (.iload_n 2, 1) := by decide +kernel
theorem dX3_hasOption_7 : decode mX3_hasOption.2.1 7 = .ok (.ishr, 1) := by decide +kernel
theorem dX3_hasOption_8 : decode mX3_hasOption.2.1 8 = .ok (.iconst 1, 1) := by decide +kernel
theorem dX3_hasOption_9 : decode mX3_hasOption.2.1 9 = .ok (.iand, 1) := by decide +kernel
theorem dX3_hasOption_10 : decode mX3_hasOption.2.1 10 = .ok (.ifCond .eq 7, 3) := by decide +kernel
theorem dX3_hasOption_13 : decode mX3_hasOption.2.1 13 = .ok (.iconst 1, 1) := by decide +kernel
theorem dX3_hasOption_14 : decode mX3_hasOption.2.1 14 = .ok (.goto 4, 3) := by decide +kernel
theorem dX3_hasOption_17 : decode mX3_hasOption.2.1 17 = .ok (.iconst 0, 1) := by decide +kernel
theorem dX3_hasOption_18 : decode mX3_hasOption.2.1 18 = .ok (.ireturn, 1) := by decide +kernel
theorem bX3_hasOption_0 {SC : Nat → Nat} {X : mh_X} {d : Nat} {Q : Option am_V → am_W → Prop} {bc bs : Nat} {w : am_W} {j0 : Nat} {x1 : Int} {x2 : Int}
    (h : (0 ≤ x1 ∧ (x1 < 30 ∧ (((am_and (am_shr (w.1 150 j0 x1.toNat) x2) 1) = 0 → Q (some (.inl 0)) w) ∧ (¬ (am_and (am_shr (w.1 150 j0 x1.toNat) x2) 1) = 0 → Q (some (.inl 1)) w))))) :
    am_A (mh_G X) SC (d + 1) mX3_hasOption Q 0 [(0, .inr (.inr (some (10, j0)))), (1, .inl x1), (2, .inl x2)] [] w bc bs := by
  refine am_aload_n dX3_hasOption_0 (List.Mem.head _) ?_
  refine am_getf (f := 6) (v := .inr (.inr (some (150, j0)))) dX3_hasOption_1 hc_4 (by decide) wd_221 (by decide) rfl rfl ?_
  refine am_iload_n dX3_hasOption_4 (List.Mem.tail _ (List.Mem.head _)) ?_
  have o1 := h.1
  replace h := h.2
  have o2 := h.1
  replace h := h.2
  refine am_iaload (v := (w.1 150 j0 x1.toNat)) dX3_hasOption_5 (by decide) rfl o1 o2 rfl ?_
  refine am_iload_n dX3_hasOption_6 (List.Mem.tail _ (List.Mem.tail _ (List.Mem.head _))) ?_
  refine am_ishr dX3_hasOption_7 ?_
  refine am_iconst dX3_hasOption_8 (by unfold am_rg; omega) ?_
  refine am_iand dX3_hasOption_9 ?_
  refine am_ifeq (tgt := 17) dX3_hasOption_10 (by decide) (fun c3 => ?_) (fun c3 => ?_)
  · replace h := h.1 c3
    refine am_iconst dX3_hasOption_17 (by unfold am_rg; omega) ?_
    exact am_ret (r := some (.inl 0)) dX3_hasOption_18 (Or.inr (Or.inl ⟨rfl, (Or.inl rfl)⟩)) rfl h
  · replace h := h.2 c3
    refine am_iconst dX3_hasOption_13 (by unfold am_rg; omega) ?_
    refine am_goto (tgt := 18) dX3_hasOption_14 (by decide) ?_
    exact am_ret (r := some (.inl 1)) dX3_hasOption_18 (Or.inr (Or.inl ⟨rfl, (Or.inr rfl)⟩)) rfl h
-- MourningHouse$Law.endOfPart(III)I
theorem dX3_endOfPart_0 : decode mX3_endOfPart.2.1 0 = .ok (.aload_n 0, 1) := by decide +kernel
theorem dX3_endOfPart_1 : decode mX3_endOfPart.2.1 1 = .ok (.getfield 24, 3) := by decide +kernel
theorem dX3_endOfPart_4 : decode mX3_endOfPart.2.1 4 = .ok (.iload_n 1, 1) := by decide +kernel
theorem dX3_endOfPart_5 : decode mX3_endOfPart.2.1 5 = .ok (.iconst 4, 1) := by decide +kernel
theorem dX3_endOfPart_6 : decode mX3_endOfPart.2.1 6 = .ok (.imul, 1) := by decide +kernel
theorem dX3_endOfPart_7 : decode mX3_endOfPart.2.1 7 = .ok (.iload_n 2, 1) := by decide +kernel
theorem dX3_endOfPart_8 : decode mX3_endOfPart.2.1 8 = .ok (.iadd, 1) := by decide +kernel
theorem dX3_endOfPart_9 : decode mX3_endOfPart.2.1 9 = .ok (.iaload, 1) := by decide +kernel
theorem dX3_endOfPart_10 : decode mX3_endOfPart.2.1 10 = .ok (.istore 4, 2) := by decide +kernel
theorem dX3_endOfPart_12 : decode mX3_endOfPart.2.1 12 = .ok (.aload_n 0, 1) := by decide +kernel
theorem dX3_endOfPart_13 : decode mX3_endOfPart.2.1 13 = .ok (.getfield 27, 3) := by decide +kernel
theorem dX3_endOfPart_16 : decode mX3_endOfPart.2.1 16 = .ok (.iload_n 1, 1) := by decide +kernel
theorem dX3_endOfPart_17 : decode mX3_endOfPart.2.1 17 = .ok (.iconst 4, 1) := by decide +kernel
theorem dX3_endOfPart_18 : decode mX3_endOfPart.2.1 18 = .ok (.imul, 1) := by decide +kernel
theorem dX3_endOfPart_19 : decode mX3_endOfPart.2.1 19 = .ok (.iload_n 2, 1) := by decide +kernel
theorem dX3_endOfPart_20 : decode mX3_endOfPart.2.1 20 = .ok (.iadd, 1) := by decide +kernel
theorem dX3_endOfPart_21 : decode mX3_endOfPart.2.1 21 = .ok (.iaload, 1) := by decide +kernel
theorem dX3_endOfPart_22 : decode mX3_endOfPart.2.1 22 = .ok (.tableswitch 46 17 19 #[26, 31, 39], 26) := by decide +kernel
theorem dX3_endOfPart_48 : decode mX3_endOfPart.2.1 48 = .ok (.iload_n 3, 1) := by decide +kernel
theorem dX3_endOfPart_49 : decode mX3_endOfPart.2.1 49 = .ok (.iload 4, 2) := by decide +kernel
theorem dX3_endOfPart_51 : decode mX3_endOfPart.2.1 51 = .ok (.iadd, 1) := by decide +kernel
theorem dX3_endOfPart_52 : decode mX3_endOfPart.2.1 52 = .ok (.ireturn, 1) := by decide +kernel
theorem dX3_endOfPart_53 : decode mX3_endOfPart.2.1 53 = .ok (.iload_n 3, 1) := by decide +kernel
theorem dX3_endOfPart_54 : decode mX3_endOfPart.2.1 54 = .ok (.iload 4, 2) := by decide +kernel
theorem dX3_endOfPart_56 : decode mX3_endOfPart.2.1 56 = .ok (.bipush 7, 2) := by decide +kernel
theorem dX3_endOfPart_58 : decode mX3_endOfPart.2.1 58 = .ok (.imul, 1) := by decide +kernel
theorem dX3_endOfPart_59 : decode mX3_endOfPart.2.1 59 = .ok (.iadd, 1) := by decide +kernel
theorem dX3_endOfPart_60 : decode mX3_endOfPart.2.1 60 = .ok (.ireturn, 1) := by decide +kernel
theorem dX3_endOfPart_61 : decode mX3_endOfPart.2.1 61 = .ok (.iload_n 3, 1) := by decide +kernel
theorem dX3_endOfPart_62 : decode mX3_endOfPart.2.1 62 = .ok (.iload 4, 2) := by decide +kernel
theorem dX3_endOfPart_64 : decode mX3_endOfPart.2.1 64 = .ok (.invokestatic 67, 3) := by decide +kernel
theorem dX3_endOfPart_67 : decode mX3_endOfPart.2.1 67 = .ok (.ireturn, 1) := by decide +kernel
theorem dX3_endOfPart_68 : decode mX3_endOfPart.2.1 68 = .ok (.iload_n 3, 1) := by decide +kernel
theorem dX3_endOfPart_69 : decode mX3_endOfPart.2.1 69 = .ok (.iload 4, 2) := by decide +kernel
theorem dX3_endOfPart_71 : decode mX3_endOfPart.2.1 71 = .ok (.bipush 12, 2) := by decide +kernel
theorem dX3_endOfPart_73 : decode mX3_endOfPart.2.1 73 = .ok (.imul, 1) := by decide +kernel
theorem dX3_endOfPart_74 : decode mX3_endOfPart.2.1 74 = .ok (.invokestatic 67, 3) := by decide +kernel
theorem dX3_endOfPart_77 : decode mX3_endOfPart.2.1 77 = .ok (.ireturn, 1) := by decide +kernel
theorem bX3_endOfPart_0 {SC : Nat → Nat} {X : mh_X} {d : Nat} {Q : Option am_V → am_W → Prop} {bc bs : Nat} {w : am_W} {j0 : Nat} {x1 : Int} {x2 : Int} {x3 : Int}
    (h : (0 ≤ (am_w ((am_w (x1 * 4)) + x2)) ∧ ((am_w ((am_w (x1 * 4)) + x2)) < 120 ∧ ((((w.1 149 j0 (am_w ((am_w (x1 * 4)) + x2)).toNat) < 17 ∨ 19 < (w.1 149 j0 (am_w ((am_w (x1 * 4)) + x2)).toNat)) → am_M (mh_G X) SC d 0 0 mX0_later [.inl x3, .inl (am_w ((w.1 148 j0 (am_w ((am_w (x1 * 4)) + x2)).toNat) * 12))] w (fun r w1 => am_A (mh_G X) SC (d + 1) mX3_endOfPart Q 77 [(4, .inl (w.1 148 j0 (am_w ((am_w (x1 * 4)) + x2)).toNat)), (0, .inr (.inr (some (10, j0)))), (1, .inl x1), (2, .inl x2), (3, .inl x3)] (r.toList ++ []) w1 bc bs)) ∧ ((w.1 149 j0 (am_w ((am_w (x1 * 4)) + x2)).toNat) = 17 → Q (some (.inl (am_w (x3 + (w.1 148 j0 (am_w ((am_w (x1 * 4)) + x2)).toNat))))) w) ∧ ((w.1 149 j0 (am_w ((am_w (x1 * 4)) + x2)).toNat) = 18 → Q (some (.inl (am_w (x3 + (am_w ((w.1 148 j0 (am_w ((am_w (x1 * 4)) + x2)).toNat) * 7)))))) w) ∧ ((w.1 149 j0 (am_w ((am_w (x1 * 4)) + x2)).toNat) = 19 → am_M (mh_G X) SC d 0 0 mX0_later [.inl x3, .inl (w.1 148 j0 (am_w ((am_w (x1 * 4)) + x2)).toNat)] w (fun r w1 => am_A (mh_G X) SC (d + 1) mX3_endOfPart Q 67 [(4, .inl (w.1 148 j0 (am_w ((am_w (x1 * 4)) + x2)).toNat)), (0, .inr (.inr (some (10, j0)))), (1, .inl x1), (2, .inl x2), (3, .inl x3)] (r.toList ++ []) w1 bc bs)))))) :
    am_A (mh_G X) SC (d + 1) mX3_endOfPart Q 0 [(0, .inr (.inr (some (10, j0)))), (1, .inl x1), (2, .inl x2), (3, .inl x3)] [] w bc bs := by
  refine am_aload_n dX3_endOfPart_0 (List.Mem.head _) ?_
  refine am_getf (f := 4) (v := .inr (.inr (some (148, j0)))) dX3_endOfPart_1 hc_4 (by decide) wd_219 (by decide) rfl rfl ?_
  refine am_iload_n dX3_endOfPart_4 (List.Mem.tail _ (List.Mem.head _)) ?_
  refine am_iconst dX3_endOfPart_5 (by unfold am_rg; omega) ?_
  refine am_imul dX3_endOfPart_6 ?_
  refine am_iload_n dX3_endOfPart_7 (List.Mem.tail _ (List.Mem.tail _ (List.Mem.head _))) ?_
  refine am_iadd dX3_endOfPart_8 ?_
  have o1 := h.1
  replace h := h.2
  have o2 := h.1
  replace h := h.2
  refine am_iaload (v := (w.1 148 j0 (am_w ((am_w (x1 * 4)) + x2)).toNat)) dX3_endOfPart_9 (by decide) rfl o1 o2 rfl ?_
  refine am_istore (ls' := [(4, .inl (w.1 148 j0 (am_w ((am_w (x1 * 4)) + x2)).toNat)), (0, .inr (.inr (some (10, j0)))), (1, .inl x1), (2, .inl x2), (3, .inl x3)]) dX3_endOfPart_10 (by decide) rfl ?_
  refine am_aload_n dX3_endOfPart_12 (List.Mem.tail _ (List.Mem.head _)) ?_
  refine am_getf (f := 5) (v := .inr (.inr (some (149, j0)))) dX3_endOfPart_13 hc_4 (by decide) wd_220 (by decide) rfl rfl ?_
  refine am_iload_n dX3_endOfPart_16 (List.Mem.tail _ (List.Mem.tail _ (List.Mem.head _))) ?_
  refine am_iconst dX3_endOfPart_17 (by unfold am_rg; omega) ?_
  refine am_imul dX3_endOfPart_18 ?_
  refine am_iload_n dX3_endOfPart_19 (List.Mem.tail _ (List.Mem.tail _ (List.Mem.tail _ (List.Mem.head _)))) ?_
  refine am_iadd dX3_endOfPart_20 ?_
  refine am_iaload (v := (w.1 149 j0 (am_w ((am_w (x1 * 4)) + x2)).toNat)) dX3_endOfPart_21 (by decide) rfl o1 o2 rfl ?_
  by_cases c3 : (w.1 149 j0 (am_w ((am_w (x1 * 4)) + x2)).toNat) < 17 ∨ 19 < (w.1 149 j0 (am_w ((am_w (x1 * 4)) + x2)).toNat)
  · replace h := h.1 c3
    refine am_tswOut (tgt := 68) dX3_endOfPart_22 c3 (by decide) ?_
    refine am_iload_n dX3_endOfPart_68 (List.Mem.tail _ (List.Mem.tail _ (List.Mem.tail _ (List.Mem.tail _ (List.Mem.head _))))) ?_
    refine am_iload dX3_endOfPart_69 (List.Mem.head _) ?_
    refine am_bipush dX3_endOfPart_71 (by decide) (by unfold am_rg; omega) ?_
    refine am_imul dX3_endOfPart_73 ?_
    exact am_calls (d' := d) (kc := 0) (ks := 0) (as := [.inl x3, .inl (am_w ((w.1 148 j0 (am_w ((am_w (x1 * 4)) + x2)).toNat) * 12))]) dX3_endOfPart_74 wc_X0_later wd_1206 wd_1034 wd_129 ds_X0_later (by decide) (Nat.le_refl _) (Nat.le_of_ble_eq_true rfl) (Nat.zero_le _) (Nat.zero_le _) rfl h
  · replace h := h.2
    rcases (show (w.1 149 j0 (am_w ((am_w (x1 * 4)) + x2)).toNat) = 17 ∨ (w.1 149 j0 (am_w ((am_w (x1 * 4)) + x2)).toNat) = 18 ∨ (w.1 149 j0 (am_w ((am_w (x1 * 4)) + x2)).toNat) = 19 by omega) with c3 | c3 | c3
    · replace h := h.1 c3
      refine am_tswIn (off := 26) (tgt := 48) dX3_endOfPart_22 (by omega) (by omega) (by rw [c3]; decide) (by decide) ?_
      refine am_iload_n dX3_endOfPart_48 (List.Mem.tail _ (List.Mem.tail _ (List.Mem.tail _ (List.Mem.tail _ (List.Mem.head _))))) ?_
      refine am_iload dX3_endOfPart_49 (List.Mem.head _) ?_
      refine am_iadd dX3_endOfPart_51 ?_
      exact am_ret (r := some (.inl (am_w (x3 + (w.1 148 j0 (am_w ((am_w (x1 * 4)) + x2)).toNat))))) dX3_endOfPart_52 (Or.inl rfl) rfl h
    · replace h := h.2.1 c3
      refine am_tswIn (off := 31) (tgt := 53) dX3_endOfPart_22 (by omega) (by omega) (by rw [c3]; decide) (by decide) ?_
      refine am_iload_n dX3_endOfPart_53 (List.Mem.tail _ (List.Mem.tail _ (List.Mem.tail _ (List.Mem.tail _ (List.Mem.head _))))) ?_
      refine am_iload dX3_endOfPart_54 (List.Mem.head _) ?_
      refine am_bipush dX3_endOfPart_56 (by decide) (by unfold am_rg; omega) ?_
      refine am_imul dX3_endOfPart_58 ?_
      refine am_iadd dX3_endOfPart_59 ?_
      exact am_ret (r := some (.inl (am_w (x3 + (am_w ((w.1 148 j0 (am_w ((am_w (x1 * 4)) + x2)).toNat) * 7)))))) dX3_endOfPart_60 (Or.inl rfl) rfl h
    · replace h := h.2.2 c3
      refine am_tswIn (off := 39) (tgt := 61) dX3_endOfPart_22 (by omega) (by omega) (by rw [c3]; decide) (by decide) ?_
      refine am_iload_n dX3_endOfPart_61 (List.Mem.tail _ (List.Mem.tail _ (List.Mem.tail _ (List.Mem.tail _ (List.Mem.head _))))) ?_
      refine am_iload dX3_endOfPart_62 (List.Mem.head _) ?_
      exact am_calls (d' := d) (kc := 0) (ks := 0) (as := [.inl x3, .inl (w.1 148 j0 (am_w ((am_w (x1 * 4)) + x2)).toNat)]) dX3_endOfPart_64 wc_X0_later wd_1206 wd_1034 wd_129 ds_X0_later (by decide) (Nat.le_refl _) (Nat.le_of_ble_eq_true rfl) (Nat.zero_le _) (Nat.zero_le _) rfl h
theorem bX3_endOfPart_77 {SC : Nat → Nat} {X : mh_X} {d : Nat} {Q : Option am_V → am_W → Prop} {bc bs : Nat} {w : am_W} {x4 : Int} {j0 : Nat} {x1 : Int} {x2 : Int} {x3 : Int} {xs0 : Int}
    (h : Q (some (.inl xs0)) w) :
    am_A (mh_G X) SC (d + 1) mX3_endOfPart Q 77 [(4, .inl x4), (0, .inr (.inr (some (10, j0)))), (1, .inl x1), (2, .inl x2), (3, .inl x3)] [.inl xs0] w bc bs := by
  exact am_ret (r := some (.inl xs0)) dX3_endOfPart_77 (Or.inl rfl) rfl h
theorem bX3_endOfPart_67 {SC : Nat → Nat} {X : mh_X} {d : Nat} {Q : Option am_V → am_W → Prop} {bc bs : Nat} {w : am_W} {x4 : Int} {j0 : Nat} {x1 : Int} {x2 : Int} {x3 : Int} {xs0 : Int}
    (h : Q (some (.inl xs0)) w) :
    am_A (mh_G X) SC (d + 1) mX3_endOfPart Q 67 [(4, .inl x4), (0, .inr (.inr (some (10, j0)))), (1, .inl x1), (2, .inl x2), (3, .inl x3)] [.inl xs0] w bc bs := by
  exact am_ret (r := some (.inl xs0)) dX3_endOfPart_67 (Or.inl rfl) rfl h
-- MourningHouse$Law.onFeasts(II)I
theorem dX3_onFeasts_0 : decode mX3_onFeasts.2.1 0 = .ok (.iload_n 1, 1) := by decide +kernel
theorem dX3_onFeasts_1 : decode mX3_onFeasts.2.1 1 = .ok (.istore_n 3, 1) := by decide +kernel
theorem dX3_onFeasts_2 : decode mX3_onFeasts.2.1 2 = .ok (.iconst 0, 1) := by decide +kernel
theorem dX3_onFeasts_3 : decode mX3_onFeasts.2.1 3 = .ok (.istore 4, 2) := by decide +kernel
theorem dX3_onFeasts_5 : decode mX3_onFeasts.2.1 5 = .ok (.iload 4, 2) := by decide +kernel
theorem dX3_onFeasts_7 : decode mX3_onFeasts.2.1 7 = .ok (.aload_n 0, 1) := by decide +kernel
theorem dX3_onFeasts_8 : decode mX3_onFeasts.2.1 8 = .ok (.getfield 46, 3) := by decide +kernel
theorem dX3_onFeasts_11 : decode mX3_onFeasts.2.1 11 = .ok (.if_icmp .ge 36, 3) := by decide +kernel
theorem dX3_onFeasts_14 : decode mX3_onFeasts.2.1 14 = .ok (.aload_n 0, 1) := by decide +kernel
theorem dX3_onFeasts_15 : decode mX3_onFeasts.2.1 15 = .ok (.getfield 33, 3) := by decide +kernel
theorem dX3_onFeasts_18 : decode mX3_onFeasts.2.1 18 = .ok (.iload 4, 2) := by decide +kernel
theorem dX3_onFeasts_20 : decode mX3_onFeasts.2.1 20 = .ok (.iaload, 1) := by decide +kernel
theorem dX3_onFeasts_21 : decode mX3_onFeasts.2.1 21 = .ok (.iload_n 2, 1) := by decide +kernel
theorem dX3_onFeasts_22 : decode mX3_onFeasts.2.1 22 = .ok (.sipush 10000, 3) := by decide +kernel
theorem dX3_onFeasts_25 : decode mX3_onFeasts.2.1 25 = .ok (.irem, 1) := by decide +kernel
theorem dX3_onFeasts_26 : decode mX3_onFeasts.2.1 26 = .ok (.if_icmp .ne 15, 3) := by decide +kernel
theorem dX3_onFeasts_29 : decode mX3_onFeasts.2.1 29 = .ok (.iload_n 3, 1) := by decide +kernel
theorem dX3_onFeasts_30 : decode mX3_onFeasts.2.1 30 = .ok (.aload_n 0, 1) := by decide +kernel
theorem dX3_onFeasts_31 : decode mX3_onFeasts.2.1 31 = .ok (.getfield 36, 3) := by decide +kernel
theorem dX3_onFeasts_34 : decode mX3_onFeasts.2.1 34 = .ok (.iload 4, 2) := by decide +kernel
theorem dX3_onFeasts_36 : decode mX3_onFeasts.2.1 36 = .ok (.iaload, 1) := by decide +kernel
theorem dX3_onFeasts_37 : decode mX3_onFeasts.2.1 37 = .ok (.invokestatic 73, 3) := by decide +kernel
theorem dX3_onFeasts_40 : decode mX3_onFeasts.2.1 40 = .ok (.istore_n 3, 1) := by decide +kernel
theorem dX3_onFeasts_41 : decode mX3_onFeasts.2.1 41 = .ok (.iinc 4 1, 3) := by decide +kernel
theorem dX3_onFeasts_44 : decode mX3_onFeasts.2.1 44 = .ok (.goto (-39), 3) := by decide +kernel
theorem dX3_onFeasts_47 : decode mX3_onFeasts.2.1 47 = .ok (.iload_n 3, 1) := by decide +kernel
theorem dX3_onFeasts_48 : decode mX3_onFeasts.2.1 48 = .ok (.ireturn, 1) := by decide +kernel
theorem bX3_onFeasts_0 {SC : Nat → Nat} {X : mh_X} {d : Nat} {Q : Option am_V → am_W → Prop} {bc bs : Nat} {w : am_W} {j0 : Nat} {x1 : Int} {x2 : Int}
    (h : am_A (mh_G X) SC (d + 1) mX3_onFeasts Q 5 [(0, .inr (.inr (some (10, j0)))), (2, .inl x2), (3, .inl x1), (4, .inl 0)] [] w bc bs) :
    am_A (mh_G X) SC (d + 1) mX3_onFeasts Q 0 [(0, .inr (.inr (some (10, j0)))), (1, .inl x1), (2, .inl x2)] [] w bc bs := by
  refine am_iload_n dX3_onFeasts_0 (List.Mem.tail _ (List.Mem.head _)) ?_
  refine am_istore_n (ls' := [(3, .inl x1), (0, .inr (.inr (some (10, j0)))), (1, .inl x1), (2, .inl x2)]) dX3_onFeasts_1 (by decide) rfl ?_
  refine am_iconst dX3_onFeasts_2 (by unfold am_rg; omega) ?_
  refine am_istore (ls' := [(4, .inl 0), (3, .inl x1), (0, .inr (.inr (some (10, j0)))), (1, .inl x1), (2, .inl x2)]) dX3_onFeasts_3 (by decide) rfl ?_
  exact am_sub [2, 4, 1, 0] rfl h
theorem bX3_onFeasts_5 {SC : Nat → Nat} {X : mh_X} {d : Nat} {Q : Option am_V → am_W → Prop} {bc bs : Nat} {w : am_W} {j0 : Nat} {x2 : Int} {x3 : Int} {x4 : Int}
    (h : (((w.1 10 j0 11) ≤ x4 → Q (some (.inl x3)) w) ∧ (¬ (w.1 10 j0 11) ≤ x4 → (0 ≤ x4 ∧ (x4 < 8 ∧ ((¬ (w.1 151 j0 x4.toNat) = (am_w (Int.tmod x2 10000)) → am_A (mh_G X) SC (d + 1) mX3_onFeasts Q 41 [(0, .inr (.inr (some (10, j0)))), (2, .inl x2), (3, .inl x3), (4, .inl x4)] [] w bc bs) ∧ ((w.1 151 j0 x4.toNat) = (am_w (Int.tmod x2 10000)) → am_M (mh_G X) SC d 0 0 mJ9_min_7cf53 [.inl x3, .inl (w.1 152 j0 x4.toNat)] w (fun r w1 => am_A (mh_G X) SC (d + 1) mX3_onFeasts Q 40 [(0, .inr (.inr (some (10, j0)))), (2, .inl x2), (3, .inl x3), (4, .inl x4)] (r.toList ++ []) w1 bc bs)))))))) :
    am_A (mh_G X) SC (d + 1) mX3_onFeasts Q 5 [(0, .inr (.inr (some (10, j0)))), (2, .inl x2), (3, .inl x3), (4, .inl x4)] [] w bc bs := by
  refine am_iload dX3_onFeasts_5 (List.Mem.tail _ (List.Mem.tail _ (List.Mem.tail _ (List.Mem.head _)))) ?_
  refine am_aload_n dX3_onFeasts_7 (List.Mem.head _) ?_
  refine am_getf (f := 11) (v := .inl (w.1 10 j0 11)) dX3_onFeasts_8 hc_4 (by decide) wd_230 (by decide) rfl rfl ?_
  refine am_icmpge (tgt := 47) dX3_onFeasts_11 (by decide) (fun c1 => ?_) (fun c1 => ?_)
  · replace h := h.1 c1
    refine am_iload_n dX3_onFeasts_47 (List.Mem.tail _ (List.Mem.tail _ (List.Mem.head _))) ?_
    exact am_ret (r := some (.inl x3)) dX3_onFeasts_48 (Or.inl rfl) rfl h
  · replace h := h.2 c1
    refine am_aload_n dX3_onFeasts_14 (List.Mem.head _) ?_
    refine am_getf (f := 7) (v := .inr (.inr (some (151, j0)))) dX3_onFeasts_15 hc_4 (by decide) wd_222 (by decide) rfl rfl ?_
    refine am_iload dX3_onFeasts_18 (List.Mem.tail _ (List.Mem.tail _ (List.Mem.tail _ (List.Mem.head _)))) ?_
    have o2 := h.1
    replace h := h.2
    have o3 := h.1
    replace h := h.2
    refine am_iaload (v := (w.1 151 j0 x4.toNat)) dX3_onFeasts_20 (by decide) rfl o2 o3 rfl ?_
    refine am_iload_n dX3_onFeasts_21 (List.Mem.tail _ (List.Mem.head _)) ?_
    refine am_sipush dX3_onFeasts_22 (by decide) (by unfold am_rg; omega) ?_
    refine am_irem dX3_onFeasts_25 (by decide) ?_
    refine am_icmpne (tgt := 41) dX3_onFeasts_26 (by decide) (fun c4 => ?_) (fun c4 => ?_)
    · replace h := h.1 c4
      exact h
    · replace h := h.2 c4
      refine am_iload_n dX3_onFeasts_29 (List.Mem.tail _ (List.Mem.tail _ (List.Mem.head _))) ?_
      refine am_aload_n dX3_onFeasts_30 (List.Mem.head _) ?_
      refine am_getf (f := 8) (v := .inr (.inr (some (152, j0)))) dX3_onFeasts_31 hc_4 (by decide) wd_223 (by decide) rfl rfl ?_
      refine am_iload dX3_onFeasts_34 (List.Mem.tail _ (List.Mem.tail _ (List.Mem.tail _ (List.Mem.head _)))) ?_
      refine am_iaload (v := (w.1 152 j0 x4.toNat)) dX3_onFeasts_36 (by decide) rfl o2 o3 rfl ?_
      exact am_calls (d' := d) (kc := 0) (ks := 0) (as := [.inl x3, .inl (w.1 152 j0 x4.toNat)]) dX3_onFeasts_37 wc_J9_min_7cf53 wd_1273 wd_782 wd_128 ds_J9_min_7cf53 (by decide) (Nat.le_refl _) (Nat.le_of_ble_eq_true rfl) (Nat.zero_le _) (Nat.zero_le _) rfl h
theorem bX3_onFeasts_41 {SC : Nat → Nat} {X : mh_X} {d : Nat} {Q : Option am_V → am_W → Prop} {bc bs : Nat} {w : am_W} {j0 : Nat} {x2 : Int} {x3 : Int} {x4 : Int}
    (h : am_A (mh_G X) SC (d + 1) mX3_onFeasts Q 5 [(0, .inr (.inr (some (10, j0)))), (2, .inl x2), (3, .inl x3), (4, .inl (am_w (x4 + 1)))] [] w bc bs) :
    am_A (mh_G X) SC (d + 1) mX3_onFeasts Q 41 [(0, .inr (.inr (some (10, j0)))), (2, .inl x2), (3, .inl x3), (4, .inl x4)] [] w bc bs := by
  refine am_iinc (ls' := [(4, .inl (am_w (x4 + 1))), (0, .inr (.inr (some (10, j0)))), (2, .inl x2), (3, .inl x3)]) dX3_onFeasts_41 (List.Mem.tail _ (List.Mem.tail _ (List.Mem.tail _ (List.Mem.head _)))) (by decide) rfl ?_
  refine am_goto (tgt := 5) dX3_onFeasts_44 (by decide) ?_
  exact am_sub [1, 2, 3, 0] rfl h
theorem bX3_onFeasts_40 {SC : Nat → Nat} {X : mh_X} {d : Nat} {Q : Option am_V → am_W → Prop} {bc bs : Nat} {w : am_W} {j0 : Nat} {x2 : Int} {x3 : Int} {x4 : Int} {xs0 : Int}
    (h : am_A (mh_G X) SC (d + 1) mX3_onFeasts Q 41 [(0, .inr (.inr (some (10, j0)))), (2, .inl x2), (3, .inl xs0), (4, .inl x4)] [] w bc bs) :
    am_A (mh_G X) SC (d + 1) mX3_onFeasts Q 40 [(0, .inr (.inr (some (10, j0)))), (2, .inl x2), (3, .inl x3), (4, .inl x4)] [.inl xs0] w bc bs := by
  refine am_istore_n (ls' := [(3, .inl xs0), (0, .inr (.inr (some (10, j0)))), (2, .inl x2), (4, .inl x4)]) dX3_onFeasts_40 (by decide) rfl ?_
  exact am_sub [1, 2, 0, 3] rfl h
-- MourningHouse$Law.spell(ILMourningHouse$Page;)V
theorem dX3_spell_0 : decode mX3_spell.2.1 0 = .ok (.aload_n 2, 1) := by decide +kernel
theorem dX3_spell_1 : decode mX3_spell.2.1 1 = .ok (.invokevirtual 78, 3) := by decide +kernel
theorem dX3_spell_4 : decode mX3_spell.2.1 4 = .ok (.aload_n 2, 1) := by decide +kernel
theorem dX3_spell_5 : decode mX3_spell.2.1 5 = .ok (.bipush 30, 2) := by decide +kernel
theorem dX3_spell_7 : decode mX3_spell.2.1 7 = .ok (.invokevirtual 85, 3) := by decide +kernel
theorem dX3_spell_10 : decode mX3_spell.2.1 10 = .ok (.iconst 0, 1) := by decide +kernel
theorem dX3_spell_11 : decode mX3_spell.2.1 11 = .ok (.istore_n 3, 1) := by decide +kernel
theorem dX3_spell_12 : decode mX3_spell.2.1 12 = .ok (.iload_n 3, 1) := by decide +kernel
theorem dX3_spell_13 : decode mX3_spell.2.1 13 = .ok (.aload_n 0, 1) := by decide +kernel
theorem dX3_spell_14 : decode mX3_spell.2.1 14 = .ok (.getfield 11, 3) := by decide +kernel
theorem dX3_spell_17 : decode mX3_spell.2.1 17 = .ok (.iload_n 1, 1) := by decide +kernel
theorem dX3_spell_18 : decode mX3_spell.2.1 18 = .ok (.iaload, 1) := by decide +kernel
theorem dX3_spell_19 : decode mX3_spell.2.1 19 = .ok (.if_icmp .ge 34, 3) := by decide +kernel
theorem dX3_spell_22 : decode mX3_spell.2.1 22 = .ok (.aload_n 2, 1) := by decide +kernel
theorem dX3_spell_23 : decode mX3_spell.2.1 23 = .ok (.iload_n 3, 1) := by decide +kernel
theorem dX3_spell_24 : decode mX3_spell.2.1 24 = .ok (.ifCond .ne 8, 3) := by decide +kernel
theorem dX3_spell_27 : decode mX3_spell.2.1 27 = .ok (.ldc 89, 2) := by decide +kernel
theorem dX3_spell_29 : decode mX3_spell.2.1 29 = .ok (.goto 5, 3) := by decide +kernel
theorem dX3_spell_32 : decode mX3_spell.2.1 32 = .ok (.ldc 91, 2) := by decide +kernel
theorem dX3_spell_34 : decode mX3_spell.2.1 34 = .ok (.invokevirtual 93, 3) := by decide +kernel
theorem dX3_spell_37 : decode mX3_spell.2.1 37 = .ok (.aload_n 2, 1) := by decide +kernel
theorem dX3_spell_38 : decode mX3_spell.2.1 38 = .ok (.aload_n 0, 1) := by decide +kernel
theorem dX3_spell_39 : decode mX3_spell.2.1 39 = .ok (.iload_n 1, 1) := by decide +kernel
theorem dX3_spell_40 : decode mX3_spell.2.1 40 = .ok (.iload_n 3, 1) := by decide +kernel
theorem dX3_spell_41 : decode mX3_spell.2.1 41 = .ok (.invokevirtual 97, 3) := by decide +kernel
theorem dX3_spell_44 : decode mX3_spell.2.1 44 = .ok (.invokevirtual 85, 3) := by decide +kernel
theorem dX3_spell_47 : decode mX3_spell.2.1 47 = .ok (.iinc 3 1, 3) := by decide +kernel
theorem dX3_spell_50 : decode mX3_spell.2.1 50 = .ok (.goto (-38), 3) := by decide +kernel
theorem dX3_spell_53 : decode mX3_spell.2.1 53 = .ok (.iconst 0, 1) := by decide +kernel
theorem dX3_spell_54 : decode mX3_spell.2.1 54 = .ok (.istore_n 3, 1) := by decide +kernel
theorem dX3_spell_55 : decode mX3_spell.2.1 55 = .ok (.iload_n 3, 1) := by decide +kernel
theorem dX3_spell_56 : decode mX3_spell.2.1 56 = .ok (.aload_n 0, 1) := by decide +kernel
theorem dX3_spell_57 : decode mX3_spell.2.1 57 = .ok (.getfield 18, 3) := by decide +kernel
theorem dX3_spell_60 : decode mX3_spell.2.1 60 = .ok (.iload_n 1, 1) := by decide +kernel
theorem dX3_spell_61 : decode mX3_spell.2.1 61 = .ok (.iaload, 1) := by decide +kernel
theorem dX3_spell_62 : decode mX3_spell.2.1 62 = .ok (.if_icmp .ge 79, 3) := by decide +kernel
theorem dX3_spell_65 : decode mX3_spell.2.1 65 = .ok (.iload_n 1, 1) := by decide +kernel
theorem dX3_spell_66 : decode mX3_spell.2.1 66 = .ok (.iconst 4, 1) := by decide +kernel
theorem dX3_spell_67 : decode mX3_spell.2.1 67 = .ok (.imul, 1) := by decide +kernel
theorem dX3_spell_68 : decode mX3_spell.2.1 68 = .ok (.iload_n 3, 1) := by decide +kernel
theorem dX3_spell_69 : decode mX3_spell.2.1 69 = .ok (.iadd, 1) := by decide +kernel
theorem dX3_spell_70 : decode mX3_spell.2.1 70 = .ok (.istore 4, 2) := by decide +kernel
theorem dX3_spell_72 : decode mX3_spell.2.1 72 = .ok (.aload_n 2, 1) := by decide +kernel
theorem dX3_spell_73 : decode mX3_spell.2.1 73 = .ok (.iload_n 3, 1) := by decide +kernel
theorem dX3_spell_74 : decode mX3_spell.2.1 74 = .ok (.ifCond .ne 8, 3) := by decide +kernel
theorem dX3_spell_77 : decode mX3_spell.2.1 77 = .ok (.ldc 100, 2) := by decide +kernel
theorem dX3_spell_79 : decode mX3_spell.2.1 79 = .ok (.goto 5, 3) := by decide +kernel
theorem dX3_spell_82 : decode mX3_spell.2.1 82 = .ok (.ldc 102, 2) := by decide +kernel
theorem dX3_spell_84 : decode mX3_spell.2.1 84 = .ok (.invokevirtual 93, 3) := by decide +kernel
theorem dX3_spell_87 : decode mX3_spell.2.1 87 = .ok (.aload_n 2, 1) := by decide +kernel
theorem dX3_spell_88 : decode mX3_spell.2.1 88 = .ok (.bipush 12, 2) := by decide +kernel
theorem dX3_spell_90 : decode mX3_spell.2.1 90 = .ok (.aload_n 0, 1) := by decide +kernel
theorem dX3_spell_91 : decode mX3_spell.2.1 91 = .ok (.getfield 21, 3) := by decide +kernel
theorem dX3_spell_94 : decode mX3_spell.2.1 94 = .ok (.iload 4, 2) := by decide +kernel
theorem dX3_spell_96 : decode mX3_spell.2.1 96 = .ok (.iaload, 1) := by decide +kernel
theorem dX3_spell_97 : decode mX3_spell.2.1 97 = .ok (.iadd, 1) := by decide +kernel
theorem dX3_spell_98 : decode mX3_spell.2.1 98 = .ok (.invokevirtual 85, 3) := by decide +kernel
theorem dX3_spell_101 : decode mX3_spell.2.1 101 = .ok (.aload_n 2, 1) := by decide +kernel
theorem dX3_spell_102 : decode mX3_spell.2.1 102 = .ok (.ldc 89, 2) := by decide +kernel
theorem dX3_spell_104 : decode mX3_spell.2.1 104 = .ok (.invokevirtual 93, 3) := by decide +kernel
theorem dX3_spell_107 : decode mX3_spell.2.1 107 = .ok (.aload_n 2, 1) := by decide +kernel
theorem dX3_spell_108 : decode mX3_spell.2.1 108 = .ok (.aload_n 0, 1) := by decide +kernel
theorem dX3_spell_109 : decode mX3_spell.2.1 109 = .ok (.getfield 24, 3) := by decide +kernel
theorem dX3_spell_112 : decode mX3_spell.2.1 112 = .ok (.iload 4, 2) := by decide +kernel
theorem dX3_spell_114 : decode mX3_spell.2.1 114 = .ok (.iaload, 1) := by decide +kernel
theorem dX3_spell_115 : decode mX3_spell.2.1 115 = .ok (.invokevirtual 104, 3) := by decide +kernel
theorem dX3_spell_118 : decode mX3_spell.2.1 118 = .ok (.aload_n 2, 1) := by decide +kernel
theorem dX3_spell_119 : decode mX3_spell.2.1 119 = .ok (.ldc 89, 2) := by decide +kernel
theorem dX3_spell_121 : decode mX3_spell.2.1 121 = .ok (.invokevirtual 93, 3) := by decide +kernel
theorem dX3_spell_124 : decode mX3_spell.2.1 124 = .ok (.aload_n 2, 1) := by decide +kernel
theorem dX3_spell_125 : decode mX3_spell.2.1 125 = .ok (.aload_n 0, 1) := by decide +kernel
theorem dX3_spell_126 : decode mX3_spell.2.1 126 = .ok (.getfield 27, 3) := by decide +kernel
theorem dX3_spell_129 : decode mX3_spell.2.1 129 = .ok (.iload 4, 2) := by decide +kernel
theorem dX3_spell_131 : decode mX3_spell.2.1 131 = .ok (.iaload, 1) := by decide +kernel
theorem dX3_spell_132 : decode mX3_spell.2.1 132 = .ok (.invokevirtual 85, 3) := by decide +kernel
theorem dX3_spell_135 : decode mX3_spell.2.1 135 = .ok (.iinc 3 1, 3) := by decide +kernel
theorem dX3_spell_138 : decode mX3_spell.2.1 138 = .ok (.goto (-83), 3) := by decide +kernel
theorem dX3_spell_141 : decode mX3_spell.2.1 141 = .ok (.iconst 0, 1) := by decide +kernel
theorem dX3_spell_142 : decode mX3_spell.2.1 142 = .ok (.istore_n 3, 1) := by decide +kernel
theorem dX3_spell_143 : decode mX3_spell.2.1 143 = .ok (.iload_n 3, 1) := by decide +kernel
theorem dX3_spell_144 : decode mX3_spell.2.1 144 = .ok (.iconst 3, 1) := by decide +kernel
theorem dX3_spell_145 : decode mX3_spell.2.1 145 = .ok (.if_icmp .gt 47, 3) := by decide +kernel
theorem dX3_spell_148 : decode mX3_spell.2.1 148 = .ok (.aload_n 0, 1) := by decide +kernel
theorem dX3_spell_149 : decode mX3_spell.2.1 149 = .ok (.iload_n 1, 1) := by decide +kernel
theorem dX3_spell_150 : decode mX3_spell.2.1 150 = .ok (.iload_n 3, 1) := by decide +kernel
theorem dX3_spell_151 : decode mX3_spell.2.1 151 = .ok (.invokevirtual 107, 3) := by decide +kernel
theorem dX3_spell_154 : decode mX3_spell.2.1 154 = .ok (.ifCond .eq 32, 3) := by decide +kernel
theorem dX3_spell_157 : decode mX3_spell.2.1 157 = .ok (.aload_n 2, 1) := by decide +kernel
theorem dX3_spell_158 : decode mX3_spell.2.1 158 = .ok (.ldc 111, 2) := by decide +kernel
theorem dX3_spell_160 : decode mX3_spell.2.1 160 = .ok (.invokevirtual 93, 3) := by decide +kernel
theorem dX3_spell_163 : decode mX3_spell.2.1 163 = .ok (.aload_n 2, 1) := by decide +kernel
theorem dX3_spell_164 : decode mX3_spell.2.1 164 = .ok (.bipush 25, 2) := by decide +kernel
theorem dX3_spell_166 : decode mX3_spell.2.1 166 = .ok (.iload_n 3, 1) := by decide +kernel
theorem dX3_spell_167 : decode mX3_spell.2.1 167 = .ok (.iadd, 1) := by decide +kernel
theorem dX3_spell_168 : decode mX3_spell.2.1 168 = .ok (.invokevirtual 85, 3) := by decide +kernel
theorem dX3_spell_171 : decode mX3_spell.2.1 171 = .ok (.aload_n 2, 1) := by decide +kernel
theorem dX3_spell_172 : decode mX3_spell.2.1 172 = .ok (.iload_n 3, 1) := by decide +kernel
theorem dX3_spell_173 : decode mX3_spell.2.1 173 = .ok (.ifCond .ne 8, 3) := by decide +kernel
theorem dX3_spell_176 : decode mX3_spell.2.1 176 = .ok (.ldc 113, 2) := by decide +kernel
theorem dX3_spell_178 : decode mX3_spell.2.1 178 = .ok (.goto 5, 3) := by decide +kernel
theorem dX3_spell_181 : decode mX3_spell.2.1 181 = .ok (.ldc 115, 2) := by decide +kernel
theorem dX3_spell_183 : decode mX3_spell.2.1 183 = .ok (.invokevirtual 93, 3) := by decide +kernel
theorem dX3_spell_186 : decode mX3_spell.2.1 186 = .ok (.iinc 3 1, 3) := by decide +kernel
theorem dX3_spell_189 : decode mX3_spell.2.1 189 = .ok (.goto (-46), 3) := by decide +kernel
theorem dX3_spell_192 : decode mX3_spell.2.1 192 = .ok (.return_, 1) := by decide +kernel
theorem bX3_spell_0 {SC : Nat → Nat} {X : mh_X} {d : Nat} {Q : Option am_V → am_W → Prop} {bc bs : Nat} {w : am_W} {j0 : Nat} {x1 : Int}
    (h : am_M (mh_G X) SC d 0 0 mX6_clear [.inr (.inr (some (3, 0)))] w (fun r w1 => am_A (mh_G X) SC (d + 1) mX3_spell Q 4 [(0, .inr (.inr (some (10, j0)))), (1, .inl x1), (2, .inr (.inr (some (3, 0))))] (r.toList ++ []) w1 bc bs)) :
    am_A (mh_G X) SC (d + 1) mX3_spell Q 0 [(0, .inr (.inr (some (10, j0)))), (1, .inl x1), (2, .inr (.inr (some (3, 0))))] [] w bc bs := by
  refine am_aload_n dX3_spell_0 (List.Mem.tail _ (List.Mem.tail _ (List.Mem.head _))) ?_
  exact am_callv (d' := d) (kc := 0) (ks := 0) (as := []) dX3_spell_1 wc_X6_clear wd_937 wd_938 wd_939 wd_114 ds_X6_clear (by decide) (Nat.le_refl _) (Nat.le_of_ble_eq_true rfl) (Nat.zero_le _) (Nat.zero_le _) hc_2 (by decide) rfl rfl h
theorem bX3_spell_4 {SC : Nat → Nat} {X : mh_X} {d : Nat} {Q : Option am_V → am_W → Prop} {bc bs : Nat} {w : am_W} {j0 : Nat} {x1 : Int}
    (h : am_M (mh_G X) SC d 0 0 mX6_addWord [.inr (.inr (some (3, 0))), .inl 30] w (fun r w1 => am_A (mh_G X) SC (d + 1) mX3_spell Q 10 [(0, .inr (.inr (some (10, j0)))), (1, .inl x1), (2, .inr (.inr (some (3, 0))))] (r.toList ++ []) w1 bc bs)) :
    am_A (mh_G X) SC (d + 1) mX3_spell Q 4 [(0, .inr (.inr (some (10, j0)))), (1, .inl x1), (2, .inr (.inr (some (3, 0))))] [] w bc bs := by
  refine am_aload_n dX3_spell_4 (List.Mem.tail _ (List.Mem.tail _ (List.Mem.head _))) ?_
  refine am_bipush dX3_spell_5 (by decide) (by unfold am_rg; omega) ?_
  exact am_callv (d' := d) (kc := 0) (ks := 0) (as := [.inl 30]) dX3_spell_7 wc_X6_addWord wd_941 wd_942 wd_943 wd_114 ds_X6_addWord (by decide) (Nat.le_refl _) (Nat.le_of_ble_eq_true rfl) (Nat.zero_le _) (Nat.zero_le _) hc_2 (by decide) rfl rfl h
theorem bX3_spell_10 {SC : Nat → Nat} {X : mh_X} {d : Nat} {Q : Option am_V → am_W → Prop} {bc bs : Nat} {w : am_W} {j0 : Nat} {x1 : Int}
    (h : am_A (mh_G X) SC (d + 1) mX3_spell Q 12 [(0, .inr (.inr (some (10, j0)))), (1, .inl x1), (2, .inr (.inr (some (3, 0)))), (3, .inl 0)] [] w bc bs) :
    am_A (mh_G X) SC (d + 1) mX3_spell Q 10 [(0, .inr (.inr (some (10, j0)))), (1, .inl x1), (2, .inr (.inr (some (3, 0))))] [] w bc bs := by
  refine am_iconst dX3_spell_10 (by unfold am_rg; omega) ?_
  refine am_istore_n (ls' := [(3, .inl 0), (0, .inr (.inr (some (10, j0)))), (1, .inl x1), (2, .inr (.inr (some (3, 0))))]) dX3_spell_11 (by decide) rfl ?_
  exact am_sub [1, 2, 3, 0] rfl h
theorem bX3_spell_12 {SC : Nat → Nat} {X : mh_X} {d : Nat} {Q : Option am_V → am_W → Prop} {bc bs : Nat} {w : am_W} {j0 : Nat} {x1 : Int} {x3 : Int}
    (h : (0 ≤ x1 ∧ (x1 < 30 ∧ (((w.1 144 j0 x1.toNat) ≤ x3 → am_A (mh_G X) SC (d + 1) mX3_spell Q 55 [(0, .inr (.inr (some (10, j0)))), (1, .inl x1), (2, .inr (.inr (some (3, 0)))), (3, .inl 0)] [] w bc bs) ∧ (¬ (w.1 144 j0 x1.toNat) ≤ x3 → ((¬ x3 = 0 → am_A (mh_G X) SC (d + 1) mX3_spell Q 34 [(0, .inr (.inr (some (10, j0)))), (1, .inl x1), (2, .inr (.inr (some (3, 0)))), (3, .inl x3)] [.inr (.inr (some (1000, 41))), .inr (.inr (some (3, 0)))] w bc bs) ∧ (x3 = 0 → am_A (mh_G X) SC (d + 1) mX3_spell Q 34 [(0, .inr (.inr (some (10, j0)))), (1, .inl x1), (2, .inr (.inr (some (3, 0)))), (3, .inl x3)] [.inr (.inr (some (1000, 40))), .inr (.inr (some (3, 0)))] w bc bs))))))) :
    am_A (mh_G X) SC (d + 1) mX3_spell Q 12 [(0, .inr (.inr (some (10, j0)))), (1, .inl x1), (2, .inr (.inr (some (3, 0)))), (3, .inl x3)] [] w bc bs := by
  refine am_iload_n dX3_spell_12 (List.Mem.tail _ (List.Mem.tail _ (List.Mem.tail _ (List.Mem.head _)))) ?_
  refine am_aload_n dX3_spell_13 (List.Mem.head _) ?_
  refine am_getf (f := 0) (v := .inr (.inr (some (144, j0)))) dX3_spell_14 hc_4 (by decide) wd_215 (by decide) rfl rfl ?_
  refine am_iload_n dX3_spell_17 (List.Mem.tail _ (List.Mem.head _)) ?_
  have o1 := h.1
  replace h := h.2
  have o2 := h.1
  replace h := h.2
  refine am_iaload (v := (w.1 144 j0 x1.toNat)) dX3_spell_18 (by decide) rfl o1 o2 rfl ?_
  refine am_icmpge (tgt := 53) dX3_spell_19 (by decide) (fun c3 => ?_) (fun c3 => ?_)
  · replace h := h.1 c3
    refine am_iconst dX3_spell_53 (by unfold am_rg; omega) ?_
    refine am_istore_n (ls' := [(3, .inl 0), (0, .inr (.inr (some (10, j0)))), (1, .inl x1), (2, .inr (.inr (some (3, 0))))]) dX3_spell_54 (by decide) rfl ?_
    exact am_sub [1, 2, 3, 0] rfl h
  · replace h := h.2 c3
    refine am_aload_n dX3_spell_22 (List.Mem.tail _ (List.Mem.tail _ (List.Mem.head _))) ?_
    refine am_iload_n dX3_spell_23 (List.Mem.tail _ (List.Mem.tail _ (List.Mem.tail _ (List.Mem.head _)))) ?_
    refine am_ifne (tgt := 32) dX3_spell_24 (by decide) (fun c4 => ?_) (fun c4 => ?_)
    · replace h := h.1 c4
      refine am_ldcS (sid := 41) dX3_spell_32 rfl ?_
      exact h
    · replace h := h.2 c4
      refine am_ldcS (sid := 40) dX3_spell_27 rfl ?_
      refine am_goto (tgt := 34) dX3_spell_29 (by decide) ?_
      exact h
theorem bX3_spell_55 {SC : Nat → Nat} {X : mh_X} {d : Nat} {Q : Option am_V → am_W → Prop} {bc bs : Nat} {w : am_W} {j0 : Nat} {x1 : Int} {x3 : Int}
    (h : (0 ≤ x1 ∧ (x1 < 30 ∧ (((w.1 146 j0 x1.toNat) ≤ x3 → am_A (mh_G X) SC (d + 1) mX3_spell Q 143 [(0, .inr (.inr (some (10, j0)))), (1, .inl x1), (2, .inr (.inr (some (3, 0)))), (3, .inl 0)] [] w bc bs) ∧ (¬ (w.1 146 j0 x1.toNat) ≤ x3 → ((¬ x3 = 0 → am_A (mh_G X) SC (d + 1) mX3_spell Q 84 [(0, .inr (.inr (some (10, j0)))), (1, .inl x1), (2, .inr (.inr (some (3, 0)))), (3, .inl x3), (4, .inl (am_w ((am_w (x1 * 4)) + x3)))] [.inr (.inr (some (1000, 43))), .inr (.inr (some (3, 0)))] w bc bs) ∧ (x3 = 0 → am_A (mh_G X) SC (d + 1) mX3_spell Q 84 [(0, .inr (.inr (some (10, j0)))), (1, .inl x1), (2, .inr (.inr (some (3, 0)))), (3, .inl x3), (4, .inl (am_w ((am_w (x1 * 4)) + x3)))] [.inr (.inr (some (1000, 42))), .inr (.inr (some (3, 0)))] w bc bs))))))) :
    am_A (mh_G X) SC (d + 1) mX3_spell Q 55 [(0, .inr (.inr (some (10, j0)))), (1, .inl x1), (2, .inr (.inr (some (3, 0)))), (3, .inl x3)] [] w bc bs := by
  refine am_iload_n dX3_spell_55 (List.Mem.tail _ (List.Mem.tail _ (List.Mem.tail _ (List.Mem.head _)))) ?_
  refine am_aload_n dX3_spell_56 (List.Mem.head _) ?_
  refine am_getf (f := 2) (v := .inr (.inr (some (146, j0)))) dX3_spell_57 hc_4 (by decide) wd_217 (by decide) rfl rfl ?_
  refine am_iload_n dX3_spell_60 (List.Mem.tail _ (List.Mem.head _)) ?_
  have o1 := h.1
  replace h := h.2
  have o2 := h.1
  replace h := h.2
  refine am_iaload (v := (w.1 146 j0 x1.toNat)) dX3_spell_61 (by decide) rfl o1 o2 rfl ?_
  refine am_icmpge (tgt := 141) dX3_spell_62 (by decide) (fun c3 => ?_) (fun c3 => ?_)
  · replace h := h.1 c3
    refine am_iconst dX3_spell_141 (by unfold am_rg; omega) ?_
    refine am_istore_n (ls' := [(3, .inl 0), (0, .inr (.inr (some (10, j0)))), (1, .inl x1), (2, .inr (.inr (some (3, 0))))]) dX3_spell_142 (by decide) rfl ?_
    exact am_sub [1, 2, 3, 0] rfl h
  · replace h := h.2 c3
    refine am_iload_n dX3_spell_65 (List.Mem.tail _ (List.Mem.head _)) ?_
    refine am_iconst dX3_spell_66 (by unfold am_rg; omega) ?_
    refine am_imul dX3_spell_67 ?_
    refine am_iload_n dX3_spell_68 (List.Mem.tail _ (List.Mem.tail _ (List.Mem.tail _ (List.Mem.head _)))) ?_
    refine am_iadd dX3_spell_69 ?_
    refine am_istore (ls' := [(4, .inl (am_w ((am_w (x1 * 4)) + x3))), (0, .inr (.inr (some (10, j0)))), (1, .inl x1), (2, .inr (.inr (some (3, 0)))), (3, .inl x3)]) dX3_spell_70 (by decide) rfl ?_
    refine am_aload_n dX3_spell_72 (List.Mem.tail _ (List.Mem.tail _ (List.Mem.tail _ (List.Mem.head _)))) ?_
    refine am_iload_n dX3_spell_73 (List.Mem.tail _ (List.Mem.tail _ (List.Mem.tail _ (List.Mem.tail _ (List.Mem.head _))))) ?_
    refine am_ifne (tgt := 82) dX3_spell_74 (by decide) (fun c4 => ?_) (fun c4 => ?_)
    · replace h := h.1 c4
      refine am_ldcS (sid := 43) dX3_spell_82 rfl ?_
      exact am_sub [1, 2, 3, 4, 0] rfl h
    · replace h := h.2 c4
      refine am_ldcS (sid := 42) dX3_spell_77 rfl ?_
      refine am_goto (tgt := 84) dX3_spell_79 (by decide) ?_
      exact am_sub [1, 2, 3, 4, 0] rfl h
theorem bX3_spell_34 {SC : Nat → Nat} {X : mh_X} {d : Nat} {Q : Option am_V → am_W → Prop} {bc bs : Nat} {w : am_W} {j0 : Nat} {x1 : Int} {x3 : Int}
    (h : am_M (mh_G X) SC d 0 0 mX6_add [.inr (.inr (some (3, 0))), .inr (.inr (some (1000, 0)))] w (fun r w1 => am_A (mh_G X) SC (d + 1) mX3_spell Q 37 [(0, .inr (.inr (some (10, j0)))), (1, .inl x1), (2, .inr (.inr (some (3, 0)))), (3, .inl x3)] (r.toList ++ []) w1 bc bs)) :
    am_A (mh_G X) SC (d + 1) mX3_spell Q 34 [(0, .inr (.inr (some (10, j0)))), (1, .inl x1), (2, .inr (.inr (some (3, 0)))), (3, .inl x3)] [.inr (.inr (some (1000, 0))), .inr (.inr (some (3, 0)))] w bc bs := by
  exact am_callv (d' := d) (kc := 0) (ks := 0) (as := [.inr (.inr (some (1000, 0)))]) dX3_spell_34 wc_X6_add wd_958 wd_947 wd_948 wd_114 ds_X6_add (by decide) (Nat.le_refl _) (Nat.le_of_ble_eq_true rfl) (Nat.zero_le _) (Nat.zero_le _) hc_2 (by decide) rfl rfl h
theorem bX3_spell_143 {SC : Nat → Nat} {X : mh_X} {d : Nat} {Q : Option am_V → am_W → Prop} {bc bs : Nat} {w : am_W} {j0 : Nat} {x1 : Int} {x3 : Int}
    (h : ((3 < x3 → Q none w) ∧ (¬ 3 < x3 → am_M (mh_G X) SC d 0 0 mX3_hasOption [.inr (.inr (some (10, j0))), .inl x1, .inl x3] w (fun r w1 => am_A (mh_G X) SC (d + 1) mX3_spell Q 154 [(0, .inr (.inr (some (10, j0)))), (1, .inl x1), (2, .inr (.inr (some (3, 0)))), (3, .inl x3)] (r.toList ++ []) w1 bc bs)))) :
    am_A (mh_G X) SC (d + 1) mX3_spell Q 143 [(0, .inr (.inr (some (10, j0)))), (1, .inl x1), (2, .inr (.inr (some (3, 0)))), (3, .inl x3)] [] w bc bs := by
  refine am_iload_n dX3_spell_143 (List.Mem.tail _ (List.Mem.tail _ (List.Mem.tail _ (List.Mem.head _)))) ?_
  refine am_iconst dX3_spell_144 (by unfold am_rg; omega) ?_
  refine am_icmpgt (tgt := 192) dX3_spell_145 (by decide) (fun c1 => ?_) (fun c1 => ?_)
  · replace h := h.1 c1
    exact am_ret (r := none) dX3_spell_192 rfl rfl h
  · replace h := h.2 c1
    refine am_aload_n dX3_spell_148 (List.Mem.head _) ?_
    refine am_iload_n dX3_spell_149 (List.Mem.tail _ (List.Mem.head _)) ?_
    refine am_iload_n dX3_spell_150 (List.Mem.tail _ (List.Mem.tail _ (List.Mem.tail _ (List.Mem.head _)))) ?_
    exact am_callv (d' := d) (kc := 0) (ks := 0) (as := [.inl x1, .inl x3]) dX3_spell_151 wc_X3_hasOption wd_969 wd_970 wd_971 wd_116 ds_X3_hasOption (by decide) (Nat.le_refl _) (Nat.le_of_ble_eq_true rfl) (Nat.zero_le _) (Nat.zero_le _) hc_4 (by decide) rfl rfl h
theorem bX3_spell_84 {SC : Nat → Nat} {X : mh_X} {d : Nat} {Q : Option am_V → am_W → Prop} {bc bs : Nat} {w : am_W} {j0 : Nat} {x1 : Int} {x3 : Int} {x4 : Int}
    (h : am_M (mh_G X) SC d 0 0 mX6_add [.inr (.inr (some (3, 0))), .inr (.inr (some (1000, 0)))] w (fun r w1 => am_A (mh_G X) SC (d + 1) mX3_spell Q 87 [(0, .inr (.inr (some (10, j0)))), (1, .inl x1), (2, .inr (.inr (some (3, 0)))), (3, .inl x3), (4, .inl x4)] (r.toList ++ []) w1 bc bs)) :
    am_A (mh_G X) SC (d + 1) mX3_spell Q 84 [(0, .inr (.inr (some (10, j0)))), (1, .inl x1), (2, .inr (.inr (some (3, 0)))), (3, .inl x3), (4, .inl x4)] [.inr (.inr (some (1000, 0))), .inr (.inr (some (3, 0)))] w bc bs := by
  exact am_callv (d' := d) (kc := 0) (ks := 0) (as := [.inr (.inr (some (1000, 0)))]) dX3_spell_84 wc_X6_add wd_958 wd_947 wd_948 wd_114 ds_X6_add (by decide) (Nat.le_refl _) (Nat.le_of_ble_eq_true rfl) (Nat.zero_le _) (Nat.zero_le _) hc_2 (by decide) rfl rfl h
theorem bX3_spell_37 {SC : Nat → Nat} {X : mh_X} {d : Nat} {Q : Option am_V → am_W → Prop} {bc bs : Nat} {w : am_W} {j0 : Nat} {x1 : Int} {x3 : Int}
    (h : am_M (mh_G X) SC d 0 0 mX3_kinWord [.inr (.inr (some (10, j0))), .inl x1, .inl x3] w (fun r w1 => am_A (mh_G X) SC (d + 1) mX3_spell Q 44 [(0, .inr (.inr (some (10, j0)))), (1, .inl x1), (2, .inr (.inr (some (3, 0)))), (3, .inl x3)] (r.toList ++ [.inr (.inr (some (3, 0)))]) w1 bc bs)) :
    am_A (mh_G X) SC (d + 1) mX3_spell Q 37 [(0, .inr (.inr (some (10, j0)))), (1, .inl x1), (2, .inr (.inr (some (3, 0)))), (3, .inl x3)] [] w bc bs := by
  refine am_aload_n dX3_spell_37 (List.Mem.tail _ (List.Mem.tail _ (List.Mem.head _))) ?_
  refine am_aload_n dX3_spell_38 (List.Mem.head _) ?_
  refine am_iload_n dX3_spell_39 (List.Mem.tail _ (List.Mem.head _)) ?_
  refine am_iload_n dX3_spell_40 (List.Mem.tail _ (List.Mem.tail _ (List.Mem.tail _ (List.Mem.head _)))) ?_
  exact am_callv (d' := d) (kc := 0) (ks := 0) (as := [.inl x1, .inl x3]) dX3_spell_41 wc_X3_kinWord wd_959 wd_960 wd_961 wd_116 ds_X3_kinWord (by decide) (Nat.le_refl _) (Nat.le_of_ble_eq_true rfl) (Nat.zero_le _) (Nat.zero_le _) hc_4 (by decide) rfl rfl h
theorem bX3_spell_154 {SC : Nat → Nat} {X : mh_X} {d : Nat} {Q : Option am_V → am_W → Prop} {bc bs : Nat} {w : am_W} {j0 : Nat} {x1 : Int} {x3 : Int} {xs0 : Int}
    (h : ((xs0 = 0 → am_A (mh_G X) SC (d + 1) mX3_spell Q 186 [(0, .inr (.inr (some (10, j0)))), (1, .inl x1), (2, .inr (.inr (some (3, 0)))), (3, .inl x3)] [] w bc bs) ∧ (¬ xs0 = 0 → am_M (mh_G X) SC d 0 0 mX6_add [.inr (.inr (some (3, 0))), .inr (.inr (some (1000, 44)))] w (fun r w1 => am_A (mh_G X) SC (d + 1) mX3_spell Q 163 [(0, .inr (.inr (some (10, j0)))), (1, .inl x1), (2, .inr (.inr (some (3, 0)))), (3, .inl x3)] (r.toList ++ []) w1 bc bs)))) :
    am_A (mh_G X) SC (d + 1) mX3_spell Q 154 [(0, .inr (.inr (some (10, j0)))), (1, .inl x1), (2, .inr (.inr (some (3, 0)))), (3, .inl x3)] [.inl xs0] w bc bs := by
  refine am_ifeq (tgt := 186) dX3_spell_154 (by decide) (fun c1 => ?_) (fun c1 => ?_)
  · replace h := h.1 c1
    exact h
  · replace h := h.2 c1
    refine am_aload_n dX3_spell_157 (List.Mem.tail _ (List.Mem.tail _ (List.Mem.head _))) ?_
    refine am_ldcS (sid := 44) dX3_spell_158 rfl ?_
    exact am_callv (d' := d) (kc := 0) (ks := 0) (as := [.inr (.inr (some (1000, 44)))]) dX3_spell_160 wc_X6_add wd_958 wd_947 wd_948 wd_114 ds_X6_add (by decide) (Nat.le_refl _) (Nat.le_of_ble_eq_true rfl) (Nat.zero_le _) (Nat.zero_le _) hc_2 (by decide) rfl rfl h
theorem bX3_spell_87 {SC : Nat → Nat} {X : mh_X} {d : Nat} {Q : Option am_V → am_W → Prop} {bc bs : Nat} {w : am_W} {j0 : Nat} {x1 : Int} {x3 : Int} {x4 : Int}
    (h : (0 ≤ x4 ∧ (x4 < 120 ∧ am_M (mh_G X) SC d 0 0 mX6_addWord [.inr (.inr (some (3, 0))), .inl (am_w (12 + (w.1 147 j0 x4.toNat)))] w (fun r w1 => am_A (mh_G X) SC (d + 1) mX3_spell Q 101 [(0, .inr (.inr (some (10, j0)))), (1, .inl x1), (2, .inr (.inr (some (3, 0)))), (3, .inl x3), (4, .inl x4)] (r.toList ++ []) w1 bc bs)))) :
    am_A (mh_G X) SC (d + 1) mX3_spell Q 87 [(0, .inr (.inr (some (10, j0)))), (1, .inl x1), (2, .inr (.inr (some (3, 0)))), (3, .inl x3), (4, .inl x4)] [] w bc bs := by
  refine am_aload_n dX3_spell_87 (List.Mem.tail _ (List.Mem.tail _ (List.Mem.head _))) ?_
  refine am_bipush dX3_spell_88 (by decide) (by unfold am_rg; omega) ?_
  refine am_aload_n dX3_spell_90 (List.Mem.head _) ?_
  refine am_getf (f := 3) (v := .inr (.inr (some (147, j0)))) dX3_spell_91 hc_4 (by decide) wd_218 (by decide) rfl rfl ?_
  refine am_iload dX3_spell_94 (List.Mem.tail _ (List.Mem.tail _ (List.Mem.tail _ (List.Mem.tail _ (List.Mem.head _))))) ?_
  have o1 := h.1
  replace h := h.2
  have o2 := h.1
  replace h := h.2
  refine am_iaload (v := (w.1 147 j0 x4.toNat)) dX3_spell_96 (by decide) rfl o1 o2 rfl ?_
  refine am_iadd dX3_spell_97 ?_
  exact am_callv (d' := d) (kc := 0) (ks := 0) (as := [.inl (am_w (12 + (w.1 147 j0 x4.toNat)))]) dX3_spell_98 wc_X6_addWord wd_941 wd_942 wd_943 wd_114 ds_X6_addWord (by decide) (Nat.le_refl _) (Nat.le_of_ble_eq_true rfl) (Nat.zero_le _) (Nat.zero_le _) hc_2 (by decide) rfl rfl h
theorem bX3_spell_44 {SC : Nat → Nat} {X : mh_X} {d : Nat} {Q : Option am_V → am_W → Prop} {bc bs : Nat} {w : am_W} {j0 : Nat} {x1 : Int} {x3 : Int} {xs0 : Int}
    (h : am_M (mh_G X) SC d 0 0 mX6_addWord [.inr (.inr (some (3, 0))), .inl xs0] w (fun r w1 => am_A (mh_G X) SC (d + 1) mX3_spell Q 47 [(0, .inr (.inr (some (10, j0)))), (1, .inl x1), (2, .inr (.inr (some (3, 0)))), (3, .inl x3)] (r.toList ++ []) w1 bc bs)) :
    am_A (mh_G X) SC (d + 1) mX3_spell Q 44 [(0, .inr (.inr (some (10, j0)))), (1, .inl x1), (2, .inr (.inr (some (3, 0)))), (3, .inl x3)] [.inl xs0, .inr (.inr (some (3, 0)))] w bc bs := by
  exact am_callv (d' := d) (kc := 0) (ks := 0) (as := [.inl xs0]) dX3_spell_44 wc_X6_addWord wd_941 wd_942 wd_943 wd_114 ds_X6_addWord (by decide) (Nat.le_refl _) (Nat.le_of_ble_eq_true rfl) (Nat.zero_le _) (Nat.zero_le _) hc_2 (by decide) rfl rfl h
theorem bX3_spell_186 {SC : Nat → Nat} {X : mh_X} {d : Nat} {Q : Option am_V → am_W → Prop} {bc bs : Nat} {w : am_W} {j0 : Nat} {x1 : Int} {x3 : Int}
    (h : am_A (mh_G X) SC (d + 1) mX3_spell Q 143 [(0, .inr (.inr (some (10, j0)))), (1, .inl x1), (2, .inr (.inr (some (3, 0)))), (3, .inl (am_w (x3 + 1)))] [] w bc bs) :
    am_A (mh_G X) SC (d + 1) mX3_spell Q 186 [(0, .inr (.inr (some (10, j0)))), (1, .inl x1), (2, .inr (.inr (some (3, 0)))), (3, .inl x3)] [] w bc bs := by
  refine am_iinc (ls' := [(3, .inl (am_w (x3 + 1))), (0, .inr (.inr (some (10, j0)))), (1, .inl x1), (2, .inr (.inr (some (3, 0))))]) dX3_spell_186 (List.Mem.tail _ (List.Mem.tail _ (List.Mem.tail _ (List.Mem.head _)))) (by decide) rfl ?_
  refine am_goto (tgt := 143) dX3_spell_189 (by decide) ?_
  exact am_sub [1, 2, 3, 0] rfl h
theorem bX3_spell_163 {SC : Nat → Nat} {X : mh_X} {d : Nat} {Q : Option am_V → am_W → Prop} {bc bs : Nat} {w : am_W} {j0 : Nat} {x1 : Int} {x3 : Int}
    (h : am_M (mh_G X) SC d 0 0 mX6_addWord [.inr (.inr (some (3, 0))), .inl (am_w (25 + x3))] w (fun r w1 => am_A (mh_G X) SC (d + 1) mX3_spell Q 171 [(0, .inr (.inr (some (10, j0)))), (1, .inl x1), (2, .inr (.inr (some (3, 0)))), (3, .inl x3)] (r.toList ++ []) w1 bc bs)) :
    am_A (mh_G X) SC (d + 1) mX3_spell Q 163 [(0, .inr (.inr (some (10, j0)))), (1, .inl x1), (2, .inr (.inr (some (3, 0)))), (3, .inl x3)] [] w bc bs := by
  refine am_aload_n dX3_spell_163 (List.Mem.tail _ (List.Mem.tail _ (List.Mem.head _))) ?_
  refine am_bipush dX3_spell_164 (by decide) (by unfold am_rg; omega) ?_
  refine am_iload_n dX3_spell_166 (List.Mem.tail _ (List.Mem.tail _ (List.Mem.tail _ (List.Mem.head _)))) ?_
  refine am_iadd dX3_spell_167 ?_
  exact am_callv (d' := d) (kc := 0) (ks := 0) (as := [.inl (am_w (25 + x3))]) dX3_spell_168 wc_X6_addWord wd_941 wd_942 wd_943 wd_114 ds_X6_addWord (by decide) (Nat.le_refl _) (Nat.le_of_ble_eq_true rfl) (Nat.zero_le _) (Nat.zero_le _) hc_2 (by decide) rfl rfl h
theorem bX3_spell_101 {SC : Nat → Nat} {X : mh_X} {d : Nat} {Q : Option am_V → am_W → Prop} {bc bs : Nat} {w : am_W} {j0 : Nat} {x1 : Int} {x3 : Int} {x4 : Int}
    (h : am_M (mh_G X) SC d 0 0 mX6_add [.inr (.inr (some (3, 0))), .inr (.inr (some (1000, 40)))] w (fun r w1 => am_A (mh_G X) SC (d + 1) mX3_spell Q 107 [(0, .inr (.inr (some (10, j0)))), (1, .inl x1), (2, .inr (.inr (some (3, 0)))), (3, .inl x3), (4, .inl x4)] (r.toList ++ []) w1 bc bs)) :
    am_A (mh_G X) SC (d + 1) mX3_spell Q 101 [(0, .inr (.inr (some (10, j0)))), (1, .inl x1), (2, .inr (.inr (some (3, 0)))), (3, .inl x3), (4, .inl x4)] [] w bc bs := by
  refine am_aload_n dX3_spell_101 (List.Mem.tail _ (List.Mem.tail _ (List.Mem.head _))) ?_
  refine am_ldcS (sid := 40) dX3_spell_102 rfl ?_
  exact am_callv (d' := d) (kc := 0) (ks := 0) (as := [.inr (.inr (some (1000, 40)))]) dX3_spell_104 wc_X6_add wd_958 wd_947 wd_948 wd_114 ds_X6_add (by decide) (Nat.le_refl _) (Nat.le_of_ble_eq_true rfl) (Nat.zero_le _) (Nat.zero_le _) hc_2 (by decide) rfl rfl h
theorem bX3_spell_47 {SC : Nat → Nat} {X : mh_X} {d : Nat} {Q : Option am_V → am_W → Prop} {bc bs : Nat} {w : am_W} {j0 : Nat} {x1 : Int} {x3 : Int}
    (h : am_A (mh_G X) SC (d + 1) mX3_spell Q 12 [(0, .inr (.inr (some (10, j0)))), (1, .inl x1), (2, .inr (.inr (some (3, 0)))), (3, .inl (am_w (x3 + 1)))] [] w bc bs) :
    am_A (mh_G X) SC (d + 1) mX3_spell Q 47 [(0, .inr (.inr (some (10, j0)))), (1, .inl x1), (2, .inr (.inr (some (3, 0)))), (3, .inl x3)] [] w bc bs := by
  refine am_iinc (ls' := [(3, .inl (am_w (x3 + 1))), (0, .inr (.inr (some (10, j0)))), (1, .inl x1), (2, .inr (.inr (some (3, 0))))]) dX3_spell_47 (List.Mem.tail _ (List.Mem.tail _ (List.Mem.tail _ (List.Mem.head _)))) (by decide) rfl ?_
  refine am_goto (tgt := 12) dX3_spell_50 (by decide) ?_
  exact am_sub [1, 2, 3, 0] rfl h
theorem bX3_spell_171 {SC : Nat → Nat} {X : mh_X} {d : Nat} {Q : Option am_V → am_W → Prop} {bc bs : Nat} {w : am_W} {j0 : Nat} {x1 : Int} {x3 : Int}
    (h : ((¬ x3 = 0 → am_A (mh_G X) SC (d + 1) mX3_spell Q 183 [(0, .inr (.inr (some (10, j0)))), (1, .inl x1), (2, .inr (.inr (some (3, 0)))), (3, .inl x3)] [.inr (.inr (some (1000, 46))), .inr (.inr (some (3, 0)))] w bc bs) ∧ (x3 = 0 → am_A (mh_G X) SC (d + 1) mX3_spell Q 183 [(0, .inr (.inr (some (10, j0)))), (1, .inl x1), (2, .inr (.inr (some (3, 0)))), (3, .inl x3)] [.inr (.inr (some (1000, 45))), .inr (.inr (some (3, 0)))] w bc bs))) :
    am_A (mh_G X) SC (d + 1) mX3_spell Q 171 [(0, .inr (.inr (some (10, j0)))), (1, .inl x1), (2, .inr (.inr (some (3, 0)))), (3, .inl x3)] [] w bc bs := by
  refine am_aload_n dX3_spell_171 (List.Mem.tail _ (List.Mem.tail _ (List.Mem.head _))) ?_
  refine am_iload_n dX3_spell_172 (List.Mem.tail _ (List.Mem.tail _ (List.Mem.tail _ (List.Mem.head _)))) ?_
  refine am_ifne (tgt := 181) dX3_spell_173 (by decide) (fun c1 => ?_) (fun c1 => ?_)
  · replace h := h.1 c1
    refine am_ldcS (sid := 46) dX3_spell_181 rfl ?_
    exact h
  · replace h := h.2 c1
    refine am_ldcS (sid := 45) dX3_spell_176 rfl ?_
    refine am_goto (tgt := 183) dX3_spell_178 (by decide) ?_
    exact h
theorem bX3_spell_107 {SC : Nat → Nat} {X : mh_X} {d : Nat} {Q : Option am_V → am_W → Prop} {bc bs : Nat} {w : am_W} {j0 : Nat} {x1 : Int} {x3 : Int} {x4 : Int}
    (h : (0 ≤ x4 ∧ (x4 < 120 ∧ am_M (mh_G X) SC d 0 0 mX6_addNumber [.inr (.inr (some (3, 0))), .inl (w.1 148 j0 x4.toNat)] w (fun r w1 => am_A (mh_G X) SC (d + 1) mX3_spell Q 118 [(0, .inr (.inr (some (10, j0)))), (1, .inl x1), (2, .inr (.inr (some (3, 0)))), (3, .inl x3), (4, .inl x4)] (r.toList ++ []) w1 bc bs)))) :
    am_A (mh_G X) SC (d + 1) mX3_spell Q 107 [(0, .inr (.inr (some (10, j0)))), (1, .inl x1), (2, .inr (.inr (some (3, 0)))), (3, .inl x3), (4, .inl x4)] [] w bc bs := by
  refine am_aload_n dX3_spell_107 (List.Mem.tail _ (List.Mem.tail _ (List.Mem.head _))) ?_
  refine am_aload_n dX3_spell_108 (List.Mem.head _) ?_
  refine am_getf (f := 4) (v := .inr (.inr (some (148, j0)))) dX3_spell_109 hc_4 (by decide) wd_219 (by decide) rfl rfl ?_
  refine am_iload dX3_spell_112 (List.Mem.tail _ (List.Mem.tail _ (List.Mem.tail _ (List.Mem.tail _ (List.Mem.head _))))) ?_
  have o1 := h.1
  replace h := h.2
  have o2 := h.1
  replace h := h.2
  refine am_iaload (v := (w.1 148 j0 x4.toNat)) dX3_spell_114 (by decide) rfl o1 o2 rfl ?_
  exact am_callv (d' := d) (kc := 0) (ks := 0) (as := [.inl (w.1 148 j0 x4.toNat)]) dX3_spell_115 wc_X6_addNumber wd_965 wd_966 wd_967 wd_114 ds_X6_addNumber (by decide) (Nat.le_refl _) (Nat.le_of_ble_eq_true rfl) (Nat.zero_le _) (Nat.zero_le _) hc_2 (by decide) rfl rfl h
theorem bX3_spell_183 {SC : Nat → Nat} {X : mh_X} {d : Nat} {Q : Option am_V → am_W → Prop} {bc bs : Nat} {w : am_W} {j0 : Nat} {x1 : Int} {x3 : Int}
    (h : am_M (mh_G X) SC d 0 0 mX6_add [.inr (.inr (some (3, 0))), .inr (.inr (some (1000, 0)))] w (fun r w1 => am_A (mh_G X) SC (d + 1) mX3_spell Q 186 [(0, .inr (.inr (some (10, j0)))), (1, .inl x1), (2, .inr (.inr (some (3, 0)))), (3, .inl x3)] (r.toList ++ []) w1 bc bs)) :
    am_A (mh_G X) SC (d + 1) mX3_spell Q 183 [(0, .inr (.inr (some (10, j0)))), (1, .inl x1), (2, .inr (.inr (some (3, 0)))), (3, .inl x3)] [.inr (.inr (some (1000, 0))), .inr (.inr (some (3, 0)))] w bc bs := by
  exact am_callv (d' := d) (kc := 0) (ks := 0) (as := [.inr (.inr (some (1000, 0)))]) dX3_spell_183 wc_X6_add wd_958 wd_947 wd_948 wd_114 ds_X6_add (by decide) (Nat.le_refl _) (Nat.le_of_ble_eq_true rfl) (Nat.zero_le _) (Nat.zero_le _) hc_2 (by decide) rfl rfl h
theorem bX3_spell_118 {SC : Nat → Nat} {X : mh_X} {d : Nat} {Q : Option am_V → am_W → Prop} {bc bs : Nat} {w : am_W} {j0 : Nat} {x1 : Int} {x3 : Int} {x4 : Int}
    (h : am_M (mh_G X) SC d 0 0 mX6_add [.inr (.inr (some (3, 0))), .inr (.inr (some (1000, 40)))] w (fun r w1 => am_A (mh_G X) SC (d + 1) mX3_spell Q 124 [(0, .inr (.inr (some (10, j0)))), (1, .inl x1), (2, .inr (.inr (some (3, 0)))), (3, .inl x3), (4, .inl x4)] (r.toList ++ []) w1 bc bs)) :
    am_A (mh_G X) SC (d + 1) mX3_spell Q 118 [(0, .inr (.inr (some (10, j0)))), (1, .inl x1), (2, .inr (.inr (some (3, 0)))), (3, .inl x3), (4, .inl x4)] [] w bc bs := by
  refine am_aload_n dX3_spell_118 (List.Mem.tail _ (List.Mem.tail _ (List.Mem.head _))) ?_
  refine am_ldcS (sid := 40) dX3_spell_119 rfl ?_
  exact am_callv (d' := d) (kc := 0) (ks := 0) (as := [.inr (.inr (some (1000, 40)))]) dX3_spell_121 wc_X6_add wd_958 wd_947 wd_948 wd_114 ds_X6_add (by decide) (Nat.le_refl _) (Nat.le_of_ble_eq_true rfl) (Nat.zero_le _) (Nat.zero_le _) hc_2 (by decide) rfl rfl h
theorem bX3_spell_124 {SC : Nat → Nat} {X : mh_X} {d : Nat} {Q : Option am_V → am_W → Prop} {bc bs : Nat} {w : am_W} {j0 : Nat} {x1 : Int} {x3 : Int} {x4 : Int}
    (h : (0 ≤ x4 ∧ (x4 < 120 ∧ am_M (mh_G X) SC d 0 0 mX6_addWord [.inr (.inr (some (3, 0))), .inl (w.1 149 j0 x4.toNat)] w (fun r w1 => am_A (mh_G X) SC (d + 1) mX3_spell Q 135 [(0, .inr (.inr (some (10, j0)))), (1, .inl x1), (2, .inr (.inr (some (3, 0)))), (3, .inl x3), (4, .inl x4)] (r.toList ++ []) w1 bc bs)))) :
    am_A (mh_G X) SC (d + 1) mX3_spell Q 124 [(0, .inr (.inr (some (10, j0)))), (1, .inl x1), (2, .inr (.inr (some (3, 0)))), (3, .inl x3), (4, .inl x4)] [] w bc bs := by
  refine am_aload_n dX3_spell_124 (List.Mem.tail _ (List.Mem.tail _ (List.Mem.head _))) ?_
  refine am_aload_n dX3_spell_125 (List.Mem.head _) ?_
  refine am_getf (f := 5) (v := .inr (.inr (some (149, j0)))) dX3_spell_126 hc_4 (by decide) wd_220 (by decide) rfl rfl ?_
  refine am_iload dX3_spell_129 (List.Mem.tail _ (List.Mem.tail _ (List.Mem.tail _ (List.Mem.tail _ (List.Mem.head _))))) ?_
  have o1 := h.1
  replace h := h.2
  have o2 := h.1
  replace h := h.2
  refine am_iaload (v := (w.1 149 j0 x4.toNat)) dX3_spell_131 (by decide) rfl o1 o2 rfl ?_
  exact am_callv (d' := d) (kc := 0) (ks := 0) (as := [.inl (w.1 149 j0 x4.toNat)]) dX3_spell_132 wc_X6_addWord wd_941 wd_942 wd_943 wd_114 ds_X6_addWord (by decide) (Nat.le_refl _) (Nat.le_of_ble_eq_true rfl) (Nat.zero_le _) (Nat.zero_le _) hc_2 (by decide) rfl rfl h
theorem bX3_spell_135 {SC : Nat → Nat} {X : mh_X} {d : Nat} {Q : Option am_V → am_W → Prop} {bc bs : Nat} {w : am_W} {j0 : Nat} {x1 : Int} {x3 : Int} {x4 : Int}
    (h : am_A (mh_G X) SC (d + 1) mX3_spell Q 55 [(0, .inr (.inr (some (10, j0)))), (1, .inl x1), (2, .inr (.inr (some (3, 0)))), (3, .inl (am_w (x3 + 1)))] [] w bc bs) :
    am_A (mh_G X) SC (d + 1) mX3_spell Q 135 [(0, .inr (.inr (some (10, j0)))), (1, .inl x1), (2, .inr (.inr (some (3, 0)))), (3, .inl x3), (4, .inl x4)] [] w bc bs := by
  refine am_iinc (ls' := [(3, .inl (am_w (x3 + 1))), (0, .inr (.inr (some (10, j0)))), (1, .inl x1), (2, .inr (.inr (some (3, 0)))), (4, .inl x4)]) dX3_spell_135 (List.Mem.tail _ (List.Mem.tail _ (List.Mem.tail _ (List.Mem.head _)))) (by decide) rfl ?_
  refine am_goto (tgt := 55) dX3_spell_138 (by decide) ?_
  exact am_sub [1, 2, 3, 0] rfl h
-- MourningHouse$Law.quarrelNumbered(I)I
theorem dX3_quarrelNumbered_0 : decode mX3_quarrelNumbered.2.1 0 = .ok (.iload_n 1, 1) := by decide +kernel
theorem dX3_quarrelNumbered_1 : decode mX3_quarrelNumbered.2.1 1 = .ok (.istore_n 2, 1) := by decide +kernel
theorem dX3_quarrelNumbered_2 : decode mX3_quarrelNumbered.2.1 2 = .ok (.iconst 0, 1) := by decide +kernel
theorem dX3_quarrelNumbered_3 : decode mX3_quarrelNumbered.2.1 3 = .ok (.istore_n 3, 1) := by decide +kernel
theorem dX3_quarrelNumbered_4 : decode mX3_quarrelNumbered.2.1 4 = .ok (.iload_n 3, 1) := by decide +kernel
theorem dX3_quarrelNumbered_5 : decode mX3_quarrelNumbered.2.1 5 = .ok (.aload_n 0, 1) := by decide +kernel
theorem dX3_quarrelNumbered_6 : decode mX3_quarrelNumbered.2.1 6 = .ok (.getfield 42, 3) := by decide +kernel
theorem dX3_quarrelNumbered_9 : decode mX3_quarrelNumbered.2.1 9 = .ok (.if_icmp .ge 64, 3) := by decide +kernel
theorem dX3_quarrelNumbered_12 : decode mX3_quarrelNumbered.2.1 12 = .ok (.iload_n 3, 1) := by decide +kernel
theorem dX3_quarrelNumbered_13 : decode mX3_quarrelNumbered.2.1 13 = .ok (.iconst 1, 1) := by decide +kernel
theorem dX3_quarrelNumbered_14 : decode mX3_quarrelNumbered.2.1 14 = .ok (.iadd, 1) := by decide +kernel
theorem dX3_quarrelNumbered_15 : decode mX3_quarrelNumbered.2.1 15 = .ok (.istore 4, 2) := by decide +kernel
theorem dX3_quarrelNumbered_17 : decode mX3_quarrelNumbered.2.1 17 = .ok (.iload 4, 2) := by decide +kernel
theorem dX3_quarrelNumbered_19 : decode mX3_quarrelNumbered.2.1 19 = .ok (.aload_n 0, 1) := by decide +kernel
theorem dX3_quarrelNumbered_20 : decode mX3_quarrelNumbered.2.1 20 = .ok (.getfield 42, 3) := by decide +kernel
theorem dX3_quarrelNumbered_23 : decode mX3_quarrelNumbered.2.1 23 = .ok (.if_icmp .ge 44, 3) := by decide +kernel
theorem dX3_quarrelNumbered_26 : decode mX3_quarrelNumbered.2.1 26 = .ok (.aload_n 0, 1) := by decide +kernel
theorem dX3_quarrelNumbered_27 : decode mX3_quarrelNumbered.2.1 27 = .ok (.iload_n 3, 1) := by decide +kernel
theorem dX3_quarrelNumbered_28 : decode mX3_quarrelNumbered.2.1 28 = .ok (.iload 4, 2) := by decide +kernel
theorem dX3_quarrelNumbered_30 : decode mX3_quarrelNumbered.2.1 30 = .ok (.invokevirtual 117, 3) := by decide +kernel
theorem dX3_quarrelNumbered_33 : decode mX3_quarrelNumbered.2.1 33 = .ok (.ifCond .eq 28, 3) := by decide +kernel
theorem dX3_quarrelNumbered_36 : decode mX3_quarrelNumbered.2.1 36 = .ok (.aload_n 0, 1) := by decide +kernel
theorem dX3_quarrelNumbered_37 : decode mX3_quarrelNumbered.2.1 37 = .ok (.iload_n 3, 1) := by decide +kernel
theorem dX3_quarrelNumbered_38 : decode mX3_quarrelNumbered.2.1 38 = .ok (.iload 4, 2) := by decide +kernel
theorem dX3_quarrelNumbered_40 : decode mX3_quarrelNumbered.2.1 40 = .ok (.invokevirtual 120, 3) := by decide +kernel
theorem dX3_quarrelNumbered_43 : decode mX3_quarrelNumbered.2.1 43 = .ok (.ifCond .ne 18, 3) := by decide +kernel
theorem dX3_quarrelNumbered_46 : decode mX3_quarrelNumbered.2.1 46 = .ok (.iload_n 2, 1) := by decide +kernel
theorem dX3_quarrelNumbered_47 : decode mX3_quarrelNumbered.2.1 47 = .ok (.ifCond .ne 11, 3) := by decide +kernel
theorem dX3_quarrelNumbered_50 : decode mX3_quarrelNumbered.2.1 50 = .ok (.iload_n 3, 1) := by decide +kernel
theorem dX3_quarrelNumbered_51 : decode mX3_quarrelNumbered.2.1 51 = .ok (.bipush 100, 2) := by decide +kernel
theorem dX3_quarrelNumbered_53 : decode mX3_quarrelNumbered.2.1 53 = .ok (.imul, 1) := by decide +kernel
theorem dX3_quarrelNumbered_54 : decode mX3_quarrelNumbered.2.1 54 = .ok (.iload 4, 2) := by decide +kernel
theorem dX3_quarrelNumbered_56 : decode mX3_quarrelNumbered.2.1 56 = .ok (.iadd, 1) := by decide +kernel
theorem dX3_quarrelNumbered_57 : decode mX3_quarrelNumbered.2.1 57 = .ok (.ireturn, 1) := by decide +kernel
theorem dX3_quarrelNumbered_58 : decode mX3_quarrelNumbered.2.1 58 = .ok (.iinc 2 (-1), 3) := by decide +kernel
theorem dX3_quarrelNumbered_61 : decode mX3_quarrelNumbered.2.1 61 = .ok (.iinc 4 1, 3) := by decide +kernel
theorem dX3_quarrelNumbered_64 : decode mX3_quarrelNumbered.2.1 64 = .ok (.goto (-47), 3) := by decide +kernel
theorem dX3_quarrelNumbered_67 : decode mX3_quarrelNumbered.2.1 67 = .ok (.iinc 3 1, 3) := by decide +kernel
theorem dX3_quarrelNumbered_70 : decode mX3_quarrelNumbered.2.1 70 = .ok (.goto (-66), 3) := by decide +kernel
theorem dX3_quarrelNumbered_73 : decode mX3_quarrelNumbered.2.1 73 = .ok (.iconst (-1), 1) := by decide +kernel
theorem dX3_quarrelNumbered_74 : decode mX3_quarrelNumbered.2.1 74 = .ok (.ireturn, 1) := by decide +kernel
theorem bX3_quarrelNumbered_0 {SC : Nat → Nat} {X : mh_X} {d : Nat} {Q : Option am_V → am_W → Prop} {bc bs : Nat} {w : am_W} {j0 : Nat} {x1 : Int}
    (h : am_A (mh_G X) SC (d + 1) mX3_quarrelNumbered Q 4 [(0, .inr (.inr (some (10, j0)))), (2, .inl x1), (3, .inl 0)] [] w bc bs) :
    am_A (mh_G X) SC (d + 1) mX3_quarrelNumbered Q 0 [(0, .inr (.inr (some (10, j0)))), (1, .inl x1)] [] w bc bs := by
  refine am_iload_n dX3_quarrelNumbered_0 (List.Mem.tail _ (List.Mem.head _)) ?_
  refine am_istore_n (ls' := [(2, .inl x1), (0, .inr (.inr (some (10, j0)))), (1, .inl x1)]) dX3_quarrelNumbered_1 (by decide) rfl ?_
  refine am_iconst dX3_quarrelNumbered_2 (by unfold am_rg; omega) ?_
  refine am_istore_n (ls' := [(3, .inl 0), (2, .inl x1), (0, .inr (.inr (some (10, j0)))), (1, .inl x1)]) dX3_quarrelNumbered_3 (by decide) rfl ?_
  exact am_sub [2, 1, 0] rfl h
theorem bX3_quarrelNumbered_4 {SC : Nat → Nat} {X : mh_X} {d : Nat} {Q : Option am_V → am_W → Prop} {bc bs : Nat} {w : am_W} {j0 : Nat} {x2 : Int} {x3 : Int}
    (h : (((w.1 10 j0 10) ≤ x3 → Q (some (.inl (-1))) w) ∧ (¬ (w.1 10 j0 10) ≤ x3 → am_A (mh_G X) SC (d + 1) mX3_quarrelNumbered Q 17 [(0, .inr (.inr (some (10, j0)))), (2, .inl x2), (3, .inl x3), (4, .inl (am_w (x3 + 1)))] [] w bc bs))) :
    am_A (mh_G X) SC (d + 1) mX3_quarrelNumbered Q 4 [(0, .inr (.inr (some (10, j0)))), (2, .inl x2), (3, .inl x3)] [] w bc bs := by
  refine am_iload_n dX3_quarrelNumbered_4 (List.Mem.tail _ (List.Mem.tail _ (List.Mem.head _))) ?_
  refine am_aload_n dX3_quarrelNumbered_5 (List.Mem.head _) ?_
  refine am_getf (f := 10) (v := .inl (w.1 10 j0 10)) dX3_quarrelNumbered_6 hc_4 (by decide) wd_227 (by decide) rfl rfl ?_
  refine am_icmpge (tgt := 73) dX3_quarrelNumbered_9 (by decide) (fun c1 => ?_) (fun c1 => ?_)
  · replace h := h.1 c1
    refine am_iconst dX3_quarrelNumbered_73 (by unfold am_rg; omega) ?_
    exact am_ret (r := some (.inl (-1))) dX3_quarrelNumbered_74 (Or.inl rfl) rfl h
  · replace h := h.2 c1
    refine am_iload_n dX3_quarrelNumbered_12 (List.Mem.tail _ (List.Mem.tail _ (List.Mem.head _))) ?_
    refine am_iconst dX3_quarrelNumbered_13 (by unfold am_rg; omega) ?_
    refine am_iadd dX3_quarrelNumbered_14 ?_
    refine am_istore (ls' := [(4, .inl (am_w (x3 + 1))), (0, .inr (.inr (some (10, j0)))), (2, .inl x2), (3, .inl x3)]) dX3_quarrelNumbered_15 (by decide) rfl ?_
    exact am_sub [1, 2, 3, 0] rfl h
theorem bX3_quarrelNumbered_17 {SC : Nat → Nat} {X : mh_X} {d : Nat} {Q : Option am_V → am_W → Prop} {bc bs : Nat} {w : am_W} {j0 : Nat} {x2 : Int} {x3 : Int} {x4 : Int}
    (h : (((w.1 10 j0 10) ≤ x4 → am_A (mh_G X) SC (d + 1) mX3_quarrelNumbered Q 4 [(0, .inr (.inr (some (10, j0)))), (2, .inl x2), (3, .inl (am_w (x3 + 1)))] [] w bc bs) ∧ (¬ (w.1 10 j0 10) ≤ x4 → am_M (mh_G X) SC d 0 0 mX3_isSameKin [.inr (.inr (some (10, j0))), .inl x3, .inl x4] w (fun r w1 => am_A (mh_G X) SC (d + 1) mX3_quarrelNumbered Q 33 [(0, .inr (.inr (some (10, j0)))), (2, .inl x2), (3, .inl x3), (4, .inl x4)] (r.toList ++ []) w1 bc bs)))) :
    am_A (mh_G X) SC (d + 1) mX3_quarrelNumbered Q 17 [(0, .inr (.inr (some (10, j0)))), (2, .inl x2), (3, .inl x3), (4, .inl x4)] [] w bc bs := by
  refine am_iload dX3_quarrelNumbered_17 (List.Mem.tail _ (List.Mem.tail _ (List.Mem.tail _ (List.Mem.head _)))) ?_
  refine am_aload_n dX3_quarrelNumbered_19 (List.Mem.head _) ?_
  refine am_getf (f := 10) (v := .inl (w.1 10 j0 10)) dX3_quarrelNumbered_20 hc_4 (by decide) wd_227 (by decide) rfl rfl ?_
  refine am_icmpge (tgt := 67) dX3_quarrelNumbered_23 (by decide) (fun c1 => ?_) (fun c1 => ?_)
  · replace h := h.1 c1
    refine am_iinc (ls' := [(3, .inl (am_w (x3 + 1))), (0, .inr (.inr (some (10, j0)))), (2, .inl x2), (4, .inl x4)]) dX3_quarrelNumbered_67 (List.Mem.tail _ (List.Mem.tail _ (List.Mem.head _))) (by decide) rfl ?_
    refine am_goto (tgt := 4) dX3_quarrelNumbered_70 (by decide) ?_
    exact am_sub [1, 2, 0] rfl h
  · replace h := h.2 c1
    refine am_aload_n dX3_quarrelNumbered_26 (List.Mem.head _) ?_
    refine am_iload_n dX3_quarrelNumbered_27 (List.Mem.tail _ (List.Mem.tail _ (List.Mem.head _))) ?_
    refine am_iload dX3_quarrelNumbered_28 (List.Mem.tail _ (List.Mem.tail _ (List.Mem.tail _ (List.Mem.head _)))) ?_
    exact am_callv (d' := d) (kc := 0) (ks := 0) (as := [.inl x3, .inl x4]) dX3_quarrelNumbered_30 wc_X3_isSameKin wd_992 wd_994 wd_24 wd_116 ds_X3_isSameKin (by decide) (Nat.le_refl _) (Nat.le_of_ble_eq_true rfl) (Nat.zero_le _) (Nat.zero_le _) hc_4 (by decide) rfl rfl h
theorem bX3_quarrelNumbered_33 {SC : Nat → Nat} {X : mh_X} {d : Nat} {Q : Option am_V → am_W → Prop} {bc bs : Nat} {w : am_W} {j0 : Nat} {x2 : Int} {x3 : Int} {x4 : Int} {xs0 : Int}
    (h : ((xs0 = 0 → am_A (mh_G X) SC (d + 1) mX3_quarrelNumbered Q 61 [(0, .inr (.inr (some (10, j0)))), (2, .inl x2), (3, .inl x3), (4, .inl x4)] [] w bc bs) ∧ (¬ xs0 = 0 → am_M (mh_G X) SC d 0 0 mX3_isSameOtherwise [.inr (.inr (some (10, j0))), .inl x3, .inl x4] w (fun r w1 => am_A (mh_G X) SC (d + 1) mX3_quarrelNumbered Q 43 [(0, .inr (.inr (some (10, j0)))), (2, .inl x2), (3, .inl x3), (4, .inl x4)] (r.toList ++ []) w1 bc bs)))) :
    am_A (mh_G X) SC (d + 1) mX3_quarrelNumbered Q 33 [(0, .inr (.inr (some (10, j0)))), (2, .inl x2), (3, .inl x3), (4, .inl x4)] [.inl xs0] w bc bs := by
  refine am_ifeq (tgt := 61) dX3_quarrelNumbered_33 (by decide) (fun c1 => ?_) (fun c1 => ?_)
  · replace h := h.1 c1
    exact h
  · replace h := h.2 c1
    refine am_aload_n dX3_quarrelNumbered_36 (List.Mem.head _) ?_
    refine am_iload_n dX3_quarrelNumbered_37 (List.Mem.tail _ (List.Mem.tail _ (List.Mem.head _))) ?_
    refine am_iload dX3_quarrelNumbered_38 (List.Mem.tail _ (List.Mem.tail _ (List.Mem.tail _ (List.Mem.head _)))) ?_
    exact am_callv (d' := d) (kc := 0) (ks := 0) (as := [.inl x3, .inl x4]) dX3_quarrelNumbered_40 wc_X3_isSameOtherwise wd_996 wd_998 wd_25 wd_116 ds_X3_isSameOtherwise (by decide) (Nat.le_refl _) (Nat.le_of_ble_eq_true rfl) (Nat.zero_le _) (Nat.zero_le _) hc_4 (by decide) rfl rfl h
theorem bX3_quarrelNumbered_61 {SC : Nat → Nat} {X : mh_X} {d : Nat} {Q : Option am_V → am_W → Prop} {bc bs : Nat} {w : am_W} {j0 : Nat} {x2 : Int} {x3 : Int} {x4 : Int}
    (h : am_A (mh_G X) SC (d + 1) mX3_quarrelNumbered Q 17 [(0, .inr (.inr (some (10, j0)))), (2, .inl x2), (3, .inl x3), (4, .inl (am_w (x4 + 1)))] [] w bc bs) :
    am_A (mh_G X) SC (d + 1) mX3_quarrelNumbered Q 61 [(0, .inr (.inr (some (10, j0)))), (2, .inl x2), (3, .inl x3), (4, .inl x4)] [] w bc bs := by
  refine am_iinc (ls' := [(4, .inl (am_w (x4 + 1))), (0, .inr (.inr (some (10, j0)))), (2, .inl x2), (3, .inl x3)]) dX3_quarrelNumbered_61 (List.Mem.tail _ (List.Mem.tail _ (List.Mem.tail _ (List.Mem.head _)))) (by decide) rfl ?_
  refine am_goto (tgt := 17) dX3_quarrelNumbered_64 (by decide) ?_
  exact am_sub [1, 2, 3, 0] rfl h
theorem bX3_quarrelNumbered_43 {SC : Nat → Nat} {X : mh_X} {d : Nat} {Q : Option am_V → am_W → Prop} {bc bs : Nat} {w : am_W} {j0 : Nat} {x2 : Int} {x3 : Int} {x4 : Int} {xs0 : Int}
    (h : ((¬ xs0 = 0 → am_A (mh_G X) SC (d + 1) mX3_quarrelNumbered Q 61 [(0, .inr (.inr (some (10, j0)))), (2, .inl x2), (3, .inl x3), (4, .inl x4)] [] w bc bs) ∧ (xs0 = 0 → ((¬ x2 = 0 → am_A (mh_G X) SC (d + 1) mX3_quarrelNumbered Q 61 [(0, .inr (.inr (some (10, j0)))), (2, .inl (am_w (x2 + (-1)))), (3, .inl x3), (4, .inl x4)] [] w bc bs) ∧ (x2 = 0 → Q (some (.inl (am_w ((am_w (x3 * 100)) + x4)))) w))))) :
    am_A (mh_G X) SC (d + 1) mX3_quarrelNumbered Q 43 [(0, .inr (.inr (some (10, j0)))), (2, .inl x2), (3, .inl x3), (4, .inl x4)] [.inl xs0] w bc bs := by
  refine am_ifne (tgt := 61) dX3_quarrelNumbered_43 (by decide) (fun c1 => ?_) (fun c1 => ?_)
  · replace h := h.1 c1
    exact h
  · replace h := h.2 c1
    refine am_iload_n dX3_quarrelNumbered_46 (List.Mem.tail _ (List.Mem.head _)) ?_
    refine am_ifne (tgt := 58) dX3_quarrelNumbered_47 (by decide) (fun c2 => ?_) (fun c2 => ?_)
    · replace h := h.1 c2
      refine am_iinc (ls' := [(2, .inl (am_w (x2 + (-1)))), (0, .inr (.inr (some (10, j0)))), (3, .inl x3), (4, .inl x4)]) dX3_quarrelNumbered_58 (List.Mem.tail _ (List.Mem.head _)) (by decide) rfl ?_
      exact am_sub [1, 0, 2, 3] rfl h
    · replace h := h.2 c2
      refine am_iload_n dX3_quarrelNumbered_50 (List.Mem.tail _ (List.Mem.tail _ (List.Mem.head _))) ?_
      refine am_bipush dX3_quarrelNumbered_51 (by decide) (by unfold am_rg; omega) ?_
      refine am_imul dX3_quarrelNumbered_53 ?_
      refine am_iload dX3_quarrelNumbered_54 (List.Mem.tail _ (List.Mem.tail _ (List.Mem.tail _ (List.Mem.head _)))) ?_
      refine am_iadd dX3_quarrelNumbered_56 ?_
      exact am_ret (r := some (.inl (am_w ((am_w (x3 * 100)) + x4)))) dX3_quarrelNumbered_57 (Or.inl rfl) rfl h
-- MourningHouse$Law.isSameKin(II)Z
theorem dX3_isSameKin_0 : decode mX3_isSameKin.2.1 0 = .ok (.aload_n 0, 1) := by decide +kernel
theorem dX3_isSameKin_1 : decode mX3_isSameKin.2.1 1 = .ok (.getfield 11, 3) := by decide +kernel
theorem dX3_isSameKin_4 : decode mX3_isSameKin.2.1 4 = .ok (.iload_n 1, 1) := by decide +kernel
theorem dX3_isSameKin_5 : decode mX3_isSameKin.2.1 5 = .ok (.iaload, 1) := by decide +kernel
theorem dX3_isSameKin_6 : decode mX3_isSameKin.2.1 6 = .ok (.aload_n 0, 1) := by decide +kernel
theorem dX3_isSameKin_7 : decode mX3_isSameKin.2.1 7 = .ok (.getfield 11, 3) := by decide +kernel
theorem dX3_isSameKin_10 : decode mX3_isSameKin.2.1 10 = .ok (.iload_n 2, 1) := by decide +kernel
theorem dX3_isSameKin_11 : decode mX3_isSameKin.2.1 11 = .ok (.iaload, 1) := by decide +kernel
theorem dX3_isSameKin_12 : decode mX3_isSameKin.2.1 12 = .ok (.if_icmp .ne 7, 3) := by decide +kernel
theorem dX3_isSameKin_15 : decode mX3_isSameKin.2.1 15 = .ok (.iconst 1, 1) := by decide +kernel
theorem dX3_isSameKin_16 : decode mX3_isSameKin.2.1 16 = .ok (.goto 4, 3) := by decide +kernel
theorem dX3_isSameKin_19 : decode mX3_isSameKin.2.1 19 = .ok (.iconst 0, 1) := by decide +kernel
theorem dX3_isSameKin_20 : decode mX3_isSameKin.2.1 20 = .ok (.istore_n 3, 1) := by decide +kernel
theorem dX3_isSameKin_21 : decode mX3_isSameKin.2.1 21 = .ok (.iconst 0, 1) := by decide +kernel
theorem dX3_isSameKin_22 : decode mX3_isSameKin.2.1 22 = .ok (.istore 4, 2) := by decide +kernel
theorem dX3_isSameKin_24 : decode mX3_isSameKin.2.1 24 = .ok (.iload_n 3, 1) := by decide +kernel
theorem dX3_isSameKin_25 : decode mX3_isSameKin.2.1 25 = .ok (.ifCond .eq 43, 3) := by decide +kernel
theorem dX3_isSameKin_28 : decode mX3_isSameKin.2.1 28 = .ok (.iload 4, 2) := by decide +kernel
theorem dX3_isSameKin_30 : decode mX3_isSameKin.2.1 30 = .ok (.aload_n 0, 1) := by decide +kernel
theorem dX3_isSameKin_31 : decode mX3_isSameKin.2.1 31 = .ok (.getfield 11, 3) := by decide +kernel
theorem dX3_isSameKin_34 : decode mX3_isSameKin.2.1 34 = .ok (.iload_n 1, 1) := by decide +kernel
theorem dX3_isSameKin_35 : decode mX3_isSameKin.2.1 35 = .ok (.iaload, 1) := by decide +kernel
theorem dX3_isSameKin_36 : decode mX3_isSameKin.2.1 36 = .ok (.if_icmp .ge 32, 3) := by decide +kernel
theorem dX3_isSameKin_39 : decode mX3_isSameKin.2.1 39 = .ok (.aload_n 0, 1) := by decide +kernel
theorem dX3_isSameKin_40 : decode mX3_isSameKin.2.1 40 = .ok (.iload_n 1, 1) := by decide +kernel
theorem dX3_isSameKin_41 : decode mX3_isSameKin.2.1 41 = .ok (.iload 4, 2) := by decide +kernel
theorem dX3_isSameKin_43 : decode mX3_isSameKin.2.1 43 = .ok (.invokevirtual 97, 3) := by decide +kernel
theorem dX3_isSameKin_46 : decode mX3_isSameKin.2.1 46 = .ok (.aload_n 0, 1) := by decide +kernel
theorem dX3_isSameKin_47 : decode mX3_isSameKin.2.1 47 = .ok (.iload_n 2, 1) := by decide +kernel
theorem dX3_isSameKin_48 : decode mX3_isSameKin.2.1 48 = .ok (.iload 4, 2) := by decide +kernel
theorem dX3_isSameKin_50 : decode mX3_isSameKin.2.1 50 = .ok (.invokevirtual 97, 3) := by decide +kernel
theorem dX3_isSameKin_53 : decode mX3_isSameKin.2.1 53 = .ok (.if_icmp .ne 7, 3) := by decide +kernel
theorem dX3_isSameKin_56 : decode mX3_isSameKin.2.1 56 = .ok (.iconst 1, 1) := by decide +kernel
theorem dX3_isSameKin_57 : decode mX3_isSameKin.2.1 57 = .ok (.goto 4, 3) := by decide +kernel
theorem dX3_isSameKin_60 : decode mX3_isSameKin.2.1 60 = .ok (.iconst 0, 1) := by decide +kernel
theorem dX3_isSameKin_61 : decode mX3_isSameKin.2.1 61 = .ok (.istore_n 3, 1) := by decide +kernel
theorem dX3_isSameKin_62 : decode mX3_isSameKin.2.1 62 = .ok (.iinc 4 1, 3) := by decide +kernel
theorem dX3_isSameKin_65 : decode mX3_isSameKin.2.1 65 = .ok (.goto (-41), 3) := by decide +kernel
theorem dX3_isSameKin_68 : decode mX3_isSameKin.2.1 68 = .ok (.iload_n 3, 1) := by decide +kernel
theorem dX3_isSameKin_69 : decode mX3_isSameKin.2.1 69 = .ok (.ireturn, 1) := by decide +kernel
theorem bX3_isSameKin_0 {SC : Nat → Nat} {X : mh_X} {d : Nat} {Q : Option am_V → am_W → Prop} {bc bs : Nat} {w : am_W} {j0 : Nat} {x1 : Int} {x2 : Int}
    (h : (0 ≤ x1 ∧ (x1 < 30 ∧ (0 ≤ x2 ∧ (x2 < 30 ∧ ((¬ (w.1 144 j0 x1.toNat) = (w.1 144 j0 x2.toNat) → am_A (mh_G X) SC (d + 1) mX3_isSameKin Q 20 [(0, .inr (.inr (some (10, j0)))), (1, .inl x1), (2, .inl x2)] [.inl 0] w bc bs) ∧ ((w.1 144 j0 x1.toNat) = (w.1 144 j0 x2.toNat) → am_A (mh_G X) SC (d + 1) mX3_isSameKin Q 20 [(0, .inr (.inr (some (10, j0)))), (1, .inl x1), (2, .inl x2)] [.inl 1] w bc bs))))))) :
    am_A (mh_G X) SC (d + 1) mX3_isSameKin Q 0 [(0, .inr (.inr (some (10, j0)))), (1, .inl x1), (2, .inl x2)] [] w bc bs := by
  refine am_aload_n dX3_isSameKin_0 (List.Mem.head _) ?_
  refine am_getf (f := 0) (v := .inr (.inr (some (144, j0)))) dX3_isSameKin_1 hc_4 (by decide) wd_215 (by decide) rfl rfl ?_
  refine am_iload_n dX3_isSameKin_4 (List.Mem.tail _ (List.Mem.head _)) ?_
  have o1 := h.1
  replace h := h.2
  have o2 := h.1
  replace h := h.2
  refine am_iaload (v := (w.1 144 j0 x1.toNat)) dX3_isSameKin_5 (by decide) rfl o1 o2 rfl ?_
  refine am_aload_n dX3_isSameKin_6 (List.Mem.head _) ?_
  refine am_getf (f := 0) (v := .inr (.inr (some (144, j0)))) dX3_isSameKin_7 hc_4 (by decide) wd_215 (by decide) rfl rfl ?_
  refine am_iload_n dX3_isSameKin_10 (List.Mem.tail _ (List.Mem.tail _ (List.Mem.head _))) ?_
  have o3 := h.1
  replace h := h.2
  have o4 := h.1
  replace h := h.2
  refine am_iaload (v := (w.1 144 j0 x2.toNat)) dX3_isSameKin_11 (by decide) rfl o3 o4 rfl ?_
  refine am_icmpne (tgt := 19) dX3_isSameKin_12 (by decide) (fun c5 => ?_) (fun c5 => ?_)
  · replace h := h.1 c5
    refine am_iconst dX3_isSameKin_19 (by unfold am_rg; omega) ?_
    exact h
  · replace h := h.2 c5
    refine am_iconst dX3_isSameKin_15 (by unfold am_rg; omega) ?_
    refine am_goto (tgt := 20) dX3_isSameKin_16 (by decide) ?_
    exact h
theorem bX3_isSameKin_20 {SC : Nat → Nat} {X : mh_X} {d : Nat} {Q : Option am_V → am_W → Prop} {bc bs : Nat} {w : am_W} {j0 : Nat} {x1 : Int} {x2 : Int} {xs0 : Int}
    (h : am_A (mh_G X) SC (d + 1) mX3_isSameKin Q 24 [(0, .inr (.inr (some (10, j0)))), (1, .inl x1), (2, .inl x2), (3, .inl xs0), (4, .inl 0)] [] w bc bs) :
    am_A (mh_G X) SC (d + 1) mX3_isSameKin Q 20 [(0, .inr (.inr (some (10, j0)))), (1, .inl x1), (2, .inl x2)] [.inl xs0] w bc bs := by
  refine am_istore_n (ls' := [(3, .inl xs0), (0, .inr (.inr (some (10, j0)))), (1, .inl x1), (2, .inl x2)]) dX3_isSameKin_20 (by decide) rfl ?_
  refine am_iconst dX3_isSameKin_21 (by unfold am_rg; omega) ?_
  refine am_istore (ls' := [(4, .inl 0), (3, .inl xs0), (0, .inr (.inr (some (10, j0)))), (1, .inl x1), (2, .inl x2)]) dX3_isSameKin_22 (by decide) rfl ?_
  exact am_sub [2, 3, 4, 1, 0] rfl h
theorem bX3_isSameKin_24 {SC : Nat → Nat} {X : mh_X} {d : Nat} {Q : Option am_V → am_W → Prop} {bc bs : Nat} {w : am_W} {j0 : Nat} {x1 : Int} {x2 : Int} {x3 : Int} {x4 : Int}
    (h : ((x3 = 0 → ((x3 = 0 ∨ x3 = 1) ∧ Q (some (.inl x3)) w)) ∧ (¬ x3 = 0 → (0 ≤ x1 ∧ (x1 < 30 ∧ (((w.1 144 j0 x1.toNat) ≤ x4 → ((x3 = 0 ∨ x3 = 1) ∧ Q (some (.inl x3)) w)) ∧ (¬ (w.1 144 j0 x1.toNat) ≤ x4 → am_M (mh_G X) SC d 0 0 mX3_kinWord [.inr (.inr (some (10, j0))), .inl x1, .inl x4] w (fun r w1 => am_A (mh_G X) SC (d + 1) mX3_isSameKin Q 46 [(0, .inr (.inr (some (10, j0)))), (1, .inl x1), (2, .inl x2), (3, .inl x3), (4, .inl x4)] (r.toList ++ []) w1 bc bs)))))))) :
    am_A (mh_G X) SC (d + 1) mX3_isSameKin Q 24 [(0, .inr (.inr (some (10, j0)))), (1, .inl x1), (2, .inl x2), (3, .inl x3), (4, .inl x4)] [] w bc bs := by
  refine am_iload_n dX3_isSameKin_24 (List.Mem.tail _ (List.Mem.tail _ (List.Mem.tail _ (List.Mem.head _)))) ?_
  refine am_ifeq (tgt := 68) dX3_isSameKin_25 (by decide) (fun c1 => ?_) (fun c1 => ?_)
  · replace h := h.1 c1
    refine am_iload_n dX3_isSameKin_68 (List.Mem.tail _ (List.Mem.tail _ (List.Mem.tail _ (List.Mem.head _)))) ?_
    have o2 := h.1
    replace h := h.2
    exact am_ret (r := some (.inl x3)) dX3_isSameKin_69 (Or.inr (Or.inl ⟨rfl, o2⟩)) rfl h
  · replace h := h.2 c1
    refine am_iload dX3_isSameKin_28 (List.Mem.tail _ (List.Mem.tail _ (List.Mem.tail _ (List.Mem.tail _ (List.Mem.head _))))) ?_
    refine am_aload_n dX3_isSameKin_30 (List.Mem.head _) ?_
    refine am_getf (f := 0) (v := .inr (.inr (some (144, j0)))) dX3_isSameKin_31 hc_4 (by decide) wd_215 (by decide) rfl rfl ?_
    refine am_iload_n dX3_isSameKin_34 (List.Mem.tail _ (List.Mem.head _)) ?_
    have o3 := h.1
    replace h := h.2
    have o4 := h.1
    replace h := h.2
    refine am_iaload (v := (w.1 144 j0 x1.toNat)) dX3_isSameKin_35 (by decide) rfl o3 o4 rfl ?_
    refine am_icmpge (tgt := 68) dX3_isSameKin_36 (by decide) (fun c5 => ?_) (fun c5 => ?_)
    · replace h := h.1 c5
      refine am_iload_n dX3_isSameKin_68 (List.Mem.tail _ (List.Mem.tail _ (List.Mem.tail _ (List.Mem.head _)))) ?_
      have o6 := h.1
      replace h := h.2
      exact am_ret (r := some (.inl x3)) dX3_isSameKin_69 (Or.inr (Or.inl ⟨rfl, o6⟩)) rfl h
    · replace h := h.2 c5
      refine am_aload_n dX3_isSameKin_39 (List.Mem.head _) ?_
      refine am_iload_n dX3_isSameKin_40 (List.Mem.tail _ (List.Mem.head _)) ?_
      refine am_iload dX3_isSameKin_41 (List.Mem.tail _ (List.Mem.tail _ (List.Mem.tail _ (List.Mem.tail _ (List.Mem.head _))))) ?_
      exact am_callv (d' := d) (kc := 0) (ks := 0) (as := [.inl x1, .inl x4]) dX3_isSameKin_43 wc_X3_kinWord wd_959 wd_960 wd_961 wd_116 ds_X3_kinWord (by decide) (Nat.le_refl _) (Nat.le_of_ble_eq_true rfl) (Nat.zero_le _) (Nat.zero_le _) hc_4 (by decide) rfl rfl h
theorem bX3_isSameKin_46 {SC : Nat → Nat} {X : mh_X} {d : Nat} {Q : Option am_V → am_W → Prop} {bc bs : Nat} {w : am_W} {j0 : Nat} {x1 : Int} {x2 : Int} {x3 : Int} {x4 : Int} {xs0 : Int}
    (h : am_M (mh_G X) SC d 0 0 mX3_kinWord [.inr (.inr (some (10, j0))), .inl x2, .inl x4] w (fun r w1 => am_A (mh_G X) SC (d + 1) mX3_isSameKin Q 53 [(0, .inr (.inr (some (10, j0)))), (1, .inl x1), (2, .inl x2), (3, .inl x3), (4, .inl x4)] (r.toList ++ [.inl xs0]) w1 bc bs)) :
    am_A (mh_G X) SC (d + 1) mX3_isSameKin Q 46 [(0, .inr (.inr (some (10, j0)))), (1, .inl x1), (2, .inl x2), (3, .inl x3), (4, .inl x4)] [.inl xs0] w bc bs := by
  refine am_aload_n dX3_isSameKin_46 (List.Mem.head _) ?_
  refine am_iload_n dX3_isSameKin_47 (List.Mem.tail _ (List.Mem.tail _ (List.Mem.head _))) ?_
  refine am_iload dX3_isSameKin_48 (List.Mem.tail _ (List.Mem.tail _ (List.Mem.tail _ (List.Mem.tail _ (List.Mem.head _))))) ?_
  exact am_callv (d' := d) (kc := 0) (ks := 0) (as := [.inl x2, .inl x4]) dX3_isSameKin_50 wc_X3_kinWord wd_959 wd_960 wd_961 wd_116 ds_X3_kinWord (by decide) (Nat.le_refl _) (Nat.le_of_ble_eq_true rfl) (Nat.zero_le _) (Nat.zero_le _) hc_4 (by decide) rfl rfl h
theorem bX3_isSameKin_53 {SC : Nat → Nat} {X : mh_X} {d : Nat} {Q : Option am_V → am_W → Prop} {bc bs : Nat} {w : am_W} {j0 : Nat} {x1 : Int} {x2 : Int} {x3 : Int} {x4 : Int} {xs0 : Int} {xs1 : Int}
    (h : ((¬ xs1 = xs0 → am_A (mh_G X) SC (d + 1) mX3_isSameKin Q 61 [(0, .inr (.inr (some (10, j0)))), (1, .inl x1), (2, .inl x2), (4, .inl x4)] [.inl 0] w bc bs) ∧ (xs1 = xs0 → am_A (mh_G X) SC (d + 1) mX3_isSameKin Q 61 [(0, .inr (.inr (some (10, j0)))), (1, .inl x1), (2, .inl x2), (4, .inl x4)] [.inl 1] w bc bs))) :
    am_A (mh_G X) SC (d + 1) mX3_isSameKin Q 53 [(0, .inr (.inr (some (10, j0)))), (1, .inl x1), (2, .inl x2), (3, .inl x3), (4, .inl x4)] [.inl xs0, .inl xs1] w bc bs := by
  refine am_icmpne (tgt := 60) dX3_isSameKin_53 (by decide) (fun c1 => ?_) (fun c1 => ?_)
  · replace h := h.1 c1
    refine am_iconst dX3_isSameKin_60 (by unfold am_rg; omega) ?_
    exact am_sub [0, 1, 2, 4] rfl h
  · replace h := h.2 c1
    refine am_iconst dX3_isSameKin_56 (by unfold am_rg; omega) ?_
    refine am_goto (tgt := 61) dX3_isSameKin_57 (by decide) ?_
    exact am_sub [0, 1, 2, 4] rfl h
theorem bX3_isSameKin_61 {SC : Nat → Nat} {X : mh_X} {d : Nat} {Q : Option am_V → am_W → Prop} {bc bs : Nat} {w : am_W} {j0 : Nat} {x1 : Int} {x2 : Int} {x4 : Int} {xs0 : Int}
    (h : am_A (mh_G X) SC (d + 1) mX3_isSameKin Q 24 [(0, .inr (.inr (some (10, j0)))), (1, .inl x1), (2, .inl x2), (3, .inl xs0), (4, .inl (am_w (x4 + 1)))] [] w bc bs) :
    am_A (mh_G X) SC (d + 1) mX3_isSameKin Q 61 [(0, .inr (.inr (some (10, j0)))), (1, .inl x1), (2, .inl x2), (4, .inl x4)] [.inl xs0] w bc bs := by
  refine am_istore_n (ls' := [(3, .inl xs0), (0, .inr (.inr (some (10, j0)))), (1, .inl x1), (2, .inl x2), (4, .inl x4)]) dX3_isSameKin_61 (by decide) rfl ?_
  refine am_iinc (ls' := [(4, .inl (am_w (x4 + 1))), (3, .inl xs0), (0, .inr (.inr (some (10, j0)))), (1, .inl x1), (2, .inl x2)]) dX3_isSameKin_62 (List.Mem.tail _ (List.Mem.tail _ (List.Mem.tail _ (List.Mem.tail _ (List.Mem.head _))))) (by decide) rfl ?_
  refine am_goto (tgt := 24) dX3_isSameKin_65 (by decide) ?_
  exact am_sub [2, 3, 4, 1, 0] rfl h
-- MourningHouse$Law.isSameOtherwise(II)Z
theorem dX3_isSameOtherwise_0 : decode mX3_isSameOtherwise.2.1 0 = .ok (.aload_n 0, 1) := by decide +kernel
theorem dX3_isSameOtherwise_1 : decode mX3_isSameOtherwise.2.1 1 = .ok (.getfield 18, 3) := by decide +kernel
theorem dX3_isSameOtherwise_4 : decode mX3_isSameOtherwise.2.1 4 = .ok (.iload_n 1, 1) := by decide +kernel
theorem dX3_isSameOtherwise_5 : decode mX3_isSameOtherwise.2.1 5 = .ok (.iaload, 1) := by decide +kernel
theorem dX3_isSameOtherwise_6 : decode mX3_isSameOtherwise.2.1 6 = .ok (.aload_n 0, 1) := by decide +kernel
theorem dX3_isSameOtherwise_7 : decode mX3_isSameOtherwise.2.1 7 = .ok (.getfield 18, 3) := by decide +kernel
theorem dX3_isSameOtherwise_10 : decode mX3_isSameOtherwise.2.1 10 = .ok (.iload_n 2, 1) := by decide +kernel
theorem dX3_isSameOtherwise_11 : decode mX3_isSameOtherwise.2.1 11 = .ok (.iaload, 1) := by decide +kernel
theorem dX3_isSameOtherwise_12 : decode mX3_isSameOtherwise.2.1 12 = .ok (.if_icmp .ne 22, 3) := by decide +kernel
theorem dX3_isSameOtherwise_15 : decode mX3_isSameOtherwise.2.1 15 = .ok (.aload_n 0, 1) := by decide +kernel
theorem dX3_isSameOtherwise_16 : decode mX3_isSameOtherwise.2.1 16 = .ok (.getfield 30, 3) := by decide +kernel
theorem dX3_isSameOtherwise_19 : decode mX3_isSameOtherwise.2.1 19 = .ok (.iload_n 1, 1) := by decide +kernel
theorem dX3_isSameOtherwise_20 : decode mX3_isSameOtherwise.2.1 20 = .ok (.iaload, 1) := by decide +kernel
theorem dX3_isSameOtherwise_21 : decode mX3_isSameOtherwise.2.1 21 = .ok (.aload_n 0, 1) := by decide +kernel
theorem dX3_isSameOtherwise_22 : decode mX3_isSameOtherwise.2.1 22 = .ok (.getfield 30, 3) := by decide +kernel
theorem dX3_isSameOtherwise_25 : decode mX3_isSameOtherwise.2.1 25 = .ok (.iload_n 2, 1) := by decide +kernel
theorem dX3_isSameOtherwise_26 : decode mX3_isSameOtherwise.2.1 26 = .ok (.iaload, 1) := by decide +kernel
theorem dX3_isSameOtherwise_27 : decode mX3_isSameOtherwise.2.1 27 = .ok (.if_icmp .ne 7, 3) := by decide +kernel
theorem dX3_isSameOtherwise_30 : decode mX3_isSameOtherwise.2.1 30 = .ok (.iconst 1, 1) := by decide +kernel
theorem dX3_isSameOtherwise_31 : decode mX3_isSameOtherwise.2.1 31 = .ok (.goto 4, 3) := by decide +kernel
theorem dX3_isSameOtherwise_34 : decode mX3_isSameOtherwise.2.1 34 = .ok (.iconst 0, 1) := by decide +kernel
theorem dX3_isSameOtherwise_35 : decode mX3_isSameOtherwise.2.1 35 = .ok (.istore_n 3, 1) := by decide +kernel
theorem dX3_isSameOtherwise_36 : decode mX3_isSameOtherwise.2.1 36 = .ok (.iconst 0, 1) := by decide +kernel
theorem dX3_isSameOtherwise_37 : decode mX3_isSameOtherwise.2.1 37 = .ok (.istore 4, 2) := by decide +kernel
theorem dX3_isSameOtherwise_39 : decode mX3_isSameOtherwise.2.1 39 = .ok (.iload_n 3, 1) := by decide +kernel
theorem dX3_isSameOtherwise_40 : decode mX3_isSameOtherwise.2.1 40 = .ok (.ifCond .eq 93, 3) := by decide +kernel
theorem dX3_isSameOtherwise_43 : decode mX3_isSameOtherwise.2.1 43 = .ok (.iload 4, 2) := by decide +kernel
theorem dX3_isSameOtherwise_45 : decode mX3_isSameOtherwise.2.1 45 = .ok (.aload_n 0, 1) := by decide +kernel
theorem dX3_isSameOtherwise_46 : decode mX3_isSameOtherwise.2.1 46 = .ok (.getfield 18, 3) := by decide +kernel
theorem dX3_isSameOtherwise_49 : decode mX3_isSameOtherwise.2.1 49 = .ok (.iload_n 1, 1) := by decide +kernel
theorem dX3_isSameOtherwise_50 : decode mX3_isSameOtherwise.2.1 50 = .ok (.iaload, 1) := by decide +kernel
theorem dX3_isSameOtherwise_51 : decode mX3_isSameOtherwise.2.1 51 = .ok (.if_icmp .ge 82, 3) := by decide +kernel
theorem dX3_isSameOtherwise_54 : decode mX3_isSameOtherwise.2.1 54 = .ok (.iload_n 1, 1) := by decide +kernel
theorem dX3_isSameOtherwise_55 : decode mX3_isSameOtherwise.2.1 55 = .ok (.iconst 4, 1) := by decide +kernel
theorem dX3_isSameOtherwise_56 : decode mX3_isSameOtherwise.2.1 56 = .ok (.imul, 1) := by decide +kernel
theorem dX3_isSameOtherwise_57 : decode mX3_isSameOtherwise.2.1 57 = .ok (.iload 4, 2) := by decide +kernel
theorem dX3_isSameOtherwise_59 : decode mX3_isSameOtherwise.2.1 59 = .ok (.iadd, 1) := by decide +kernel
theorem dX3_isSameOtherwise_60 : decode mX3_isSameOtherwise.2.1 60 = .ok (.istore 5, 2) := by decide +kernel
theorem dX3_isSameOtherwise_62 : decode mX3_isSameOtherwise.2.1 62 = .ok (.iload_n 2, 1) := by decide +kernel
theorem dX3_isSameOtherwise_63 : decode mX3_isSameOtherwise.2.1 63 = .ok (.iconst 4, 1) := by decide +kernel
theorem dX3_isSameOtherwise_64 : decode mX3_isSameOtherwise.2.1 64 = .ok (.imul, 1) := by decide +kernel
theorem dX3_isSameOtherwise_65 : decode mX3_isSameOtherwise.2.1 65 = .ok (.iload 4, 2) := by decide +kernel
theorem dX3_isSameOtherwise_67 : decode mX3_isSameOtherwise.2.1 67 = .ok (.iadd, 1) := by decide +kernel
theorem dX3_isSameOtherwise_68 : decode mX3_isSameOtherwise.2.1 68 = .ok (.istore 6, 2) := by decide +kernel
theorem dX3_isSameOtherwise_70 : decode mX3_isSameOtherwise.2.1 70 = .ok (.aload_n 0, 1) := by decide +kernel
theorem dX3_isSameOtherwise_71 : decode mX3_isSameOtherwise.2.1 71 = .ok (.getfield 21, 3) := by decide +kernel
theorem dX3_isSameOtherwise_74 : decode mX3_isSameOtherwise.2.1 74 = .ok (.iload 5, 2) := by decide +kernel
theorem dX3_isSameOtherwise_76 : decode mX3_isSameOtherwise.2.1 76 = .ok (.iaload, 1) := by decide +kernel
theorem dX3_isSameOtherwise_77 : decode mX3_isSameOtherwise.2.1 77 = .ok (.aload_n 0, 1) := by decide +kernel
theorem dX3_isSameOtherwise_78 : decode mX3_isSameOtherwise.2.1 78 = .ok (.getfield 21, 3) := by decide +kernel
theorem dX3_isSameOtherwise_81 : decode mX3_isSameOtherwise.2.1 81 = .ok (.iload 6, 2) := by decide +kernel
theorem dX3_isSameOtherwise_83 : decode mX3_isSameOtherwise.2.1 83 = .ok (.iaload, 1) := by decide +kernel
theorem dX3_isSameOtherwise_84 : decode mX3_isSameOtherwise.2.1 84 = .ok (.if_icmp .ne 41, 3) := by decide +kernel
theorem dX3_isSameOtherwise_87 : decode mX3_isSameOtherwise.2.1 87 = .ok (.aload_n 0, 1) := by decide +kernel
theorem dX3_isSameOtherwise_88 : decode mX3_isSameOtherwise.2.1 88 = .ok (.getfield 24, 3) := by decide +kernel
theorem dX3_isSameOtherwise_91 : decode mX3_isSameOtherwise.2.1 91 = .ok (.iload 5, 2) := by decide +kernel
theorem dX3_isSameOtherwise_93 : decode mX3_isSameOtherwise.2.1 93 = .ok (.iaload, 1) := by decide +kernel
theorem dX3_isSameOtherwise_94 : decode mX3_isSameOtherwise.2.1 94 = .ok (.aload_n 0, 1) := by decide +kernel
theorem dX3_isSameOtherwise_95 : decode mX3_isSameOtherwise.2.1 95 = .ok (.getfield 24, 3) := by decide +kernel
theorem dX3_isSameOtherwise_98 : decode mX3_isSameOtherwise.2.1 98 = .ok (.iload 6, 2) := by decide +kernel
theorem dX3_isSameOtherwise_100 : decode mX3_isSameOtherwise.2.1 100 = .ok (.iaload, 1) := by decide +kernel
theorem dX3_isSameOtherwise_101 : decode mX3_isSameOtherwise.2.1 101 = .ok (.if_icmp .ne 24, 3) := by decide +kernel
theorem dX3_isSameOtherwise_104 : decode mX3_isSameOtherwise.2.1 104 = .ok (.aload_n 0, 1) := by decide +kernel
theorem dX3_isSameOtherwise_105 : decode mX3_isSameOtherwise.2.1 105 = .ok (.getfield 27, 3) := by decide +kernel
theorem dX3_isSameOtherwise_108 : decode mX3_isSameOtherwise.2.1 108 = .ok (.iload 5, 2) := by decide +kernel
theorem dX3_isSameOtherwise_110 : decode mX3_isSameOtherwise.2.1 110 = .ok (.iaload, 1) := by decide +kernel
theorem dX3_isSameOtherwise_111 : decode mX3_isSameOtherwise.2.1 111 = .ok (.aload_n 0, 1) := by decide +kernel
theorem dX3_isSameOtherwise_112 : decode mX3_isSameOtherwise.2.1 112 = .ok (.getfield 27, 3) := by decide +kernel
theorem dX3_isSameOtherwise_115 : decode mX3_isSameOtherwise.2.1 115 = .ok (.iload 6, 2) := by decide +kernel
theorem dX3_isSameOtherwise_117 : decode mX3_isSameOtherwise.2.1 117 = .ok (.iaload, 1) := by decide +kernel
theorem dX3_isSameOtherwise_118 : decode mX3_isSameOtherwise.2.1 118 = .ok (.if_icmp .ne 7, 3) := by decide +kernel
theorem dX3_isSameOtherwise_121 : decode mX3_isSameOtherwise.2.1 121 = .ok (.iconst 1, 1) := by decide +kernel
theorem dX3_isSameOtherwise_122 : decode mX3_isSameOtherwise.2.1 122 = .ok (.goto 4, 3) := by decide +kernel
theorem dX3_isSameOtherwise_125 : decode mX3_isSameOtherwise.2.1 125 = .ok (.iconst 0, 1) := by decide +kernel
theorem dX3_isSameOtherwise_126 : decode mX3_isSameOtherwise.2.1 126 = .ok (.istore_n 3, 1) := by decide +kernel
theorem dX3_isSameOtherwise_127 : decode mX3_isSameOtherwise.2.1 127 = .ok (.iinc 4 1, 3) := by decide +kernel
theorem dX3_isSameOtherwise_130 : decode mX3_isSameOtherwise.2.1 130 = .ok (.goto (-91), 3) := by decide +kernel
theorem dX3_isSameOtherwise_133 : decode mX3_isSameOtherwise.2.1 133 = .ok (.iload_n 3, 1) := by decide +kernel
theorem dX3_isSameOtherwise_134 : decode mX3_isSameOtherwise.2.1 134 = .ok (.ireturn, 1) := by decide +kernel
theorem bX3_isSameOtherwise_0 {SC : Nat → Nat} {X : mh_X} {d : Nat} {Q : Option am_V → am_W → Prop} {bc bs : Nat} {w : am_W} {j0 : Nat} {x1 : Int} {x2 : Int}
    (h : (0 ≤ x1 ∧ (x1 < 30 ∧ (0 ≤ x2 ∧ (x2 < 30 ∧ ((¬ (w.1 146 j0 x1.toNat) = (w.1 146 j0 x2.toNat) → am_A (mh_G X) SC (d + 1) mX3_isSameOtherwise Q 34 [(0, .inr (.inr (some (10, j0)))), (1, .inl x1), (2, .inl x2)] [] w bc bs) ∧ ((w.1 146 j0 x1.toNat) = (w.1 146 j0 x2.toNat) → ((¬ (w.1 150 j0 x1.toNat) = (w.1 150 j0 x2.toNat) → am_A (mh_G X) SC (d + 1) mX3_isSameOtherwise Q 34 [(0, .inr (.inr (some (10, j0)))), (1, .inl x1), (2, .inl x2)] [] w bc bs) ∧ ((w.1 150 j0 x1.toNat) = (w.1 150 j0 x2.toNat) → am_A (mh_G X) SC (d + 1) mX3_isSameOtherwise Q 35 [(0, .inr (.inr (some (10, j0)))), (1, .inl x1), (2, .inl x2)] [.inl 1] w bc bs))))))))) :
    am_A (mh_G X) SC (d + 1) mX3_isSameOtherwise Q 0 [(0, .inr (.inr (some (10, j0)))), (1, .inl x1), (2, .inl x2)] [] w bc bs := by
  refine am_aload_n dX3_isSameOtherwise_0 (List.Mem.head _) ?_
  refine am_getf (f := 2) (v := .inr (.inr (some (146, j0)))) dX3_isSameOtherwise_1 hc_4 (by decide) wd_217 (by decide) rfl rfl ?_
  refine am_iload_n dX3_isSameOtherwise_4 (List.Mem.tail _ (List.Mem.head _)) ?_
  have o1 := h.1
  replace h := h.2
  have o2 := h.1
  replace h := h.2
  refine am_iaload (v := (w.1 146 j0 x1.toNat)) dX3_isSameOtherwise_5 (by decide) rfl o1 o2 rfl ?_
  refine am_aload_n dX3_isSameOtherwise_6 (List.Mem.head _) ?_
  refine am_getf (f := 2) (v := .inr (.inr (some (146, j0)))) dX3_isSameOtherwise_7 hc_4 (by decide) wd_217 (by decide) rfl rfl ?_
  refine am_iload_n dX3_isSameOtherwise_10 (List.Mem.tail _ (List.Mem.tail _ (List.Mem.head _))) ?_
  have o3 := h.1
  replace h := h.2
  have o4 := h.1
  replace h := h.2
  refine am_iaload (v := (w.1 146 j0 x2.toNat)) dX3_isSameOtherwise_11 (by decide) rfl o3 o4 rfl ?_
  refine am_icmpne (tgt := 34) dX3_isSameOtherwise_12 (by decide) (fun c5 => ?_) (fun c5 => ?_)
  · replace h := h.1 c5
    exact h
  · replace h := h.2 c5
    refine am_aload_n dX3_isSameOtherwise_15 (List.Mem.head _) ?_
    refine am_getf (f := 6) (v := .inr (.inr (some (150, j0)))) dX3_isSameOtherwise_16 hc_4 (by decide) wd_221 (by decide) rfl rfl ?_
    refine am_iload_n dX3_isSameOtherwise_19 (List.Mem.tail _ (List.Mem.head _)) ?_
    refine am_iaload (v := (w.1 150 j0 x1.toNat)) dX3_isSameOtherwise_20 (by decide) rfl o1 o2 rfl ?_
    refine am_aload_n dX3_isSameOtherwise_21 (List.Mem.head _) ?_
    refine am_getf (f := 6) (v := .inr (.inr (some (150, j0)))) dX3_isSameOtherwise_22 hc_4 (by decide) wd_221 (by decide) rfl rfl ?_
    refine am_iload_n dX3_isSameOtherwise_25 (List.Mem.tail _ (List.Mem.tail _ (List.Mem.head _))) ?_
    refine am_iaload (v := (w.1 150 j0 x2.toNat)) dX3_isSameOtherwise_26 (by decide) rfl o3 o4 rfl ?_
    refine am_icmpne (tgt := 34) dX3_isSameOtherwise_27 (by decide) (fun c6 => ?_) (fun c6 => ?_)
    · replace h := h.1 c6
      exact h
    · replace h := h.2 c6
      refine am_iconst dX3_isSameOtherwise_30 (by unfold am_rg; omega) ?_
      refine am_goto (tgt := 35) dX3_isSameOtherwise_31 (by decide) ?_
      exact h
theorem bX3_isSameOtherwise_34 {SC : Nat → Nat} {X : mh_X} {d : Nat} {Q : Option am_V → am_W → Prop} {bc bs : Nat} {w : am_W} {j0 : Nat} {x1 : Int} {x2 : Int}
    (h : am_A (mh_G X) SC (d + 1) mX3_isSameOtherwise Q 35 [(0, .inr (.inr (some (10, j0)))), (1, .inl x1), (2, .inl x2)] [.inl 0] w bc bs) :
    am_A (mh_G X) SC (d + 1) mX3_isSameOtherwise Q 34 [(0, .inr (.inr (some (10, j0)))), (1, .inl x1), (2, .inl x2)] [] w bc bs := by
  refine am_iconst dX3_isSameOtherwise_34 (by unfold am_rg; omega) ?_
  exact h
theorem bX3_isSameOtherwise_35 {SC : Nat → Nat} {X : mh_X} {d : Nat} {Q : Option am_V → am_W → Prop} {bc bs : Nat} {w : am_W} {j0 : Nat} {x1 : Int} {x2 : Int} {xs0 : Int}
    (h : am_A (mh_G X) SC (d + 1) mX3_isSameOtherwise Q 39 [(0, .inr (.inr (some (10, j0)))), (1, .inl x1), (2, .inl x2), (3, .inl xs0), (4, .inl 0)] [] w bc bs) :
    am_A (mh_G X) SC (d + 1) mX3_isSameOtherwise Q 35 [(0, .inr (.inr (some (10, j0)))), (1, .inl x1), (2, .inl x2)] [.inl xs0] w bc bs := by
  refine am_istore_n (ls' := [(3, .inl xs0), (0, .inr (.inr (some (10, j0)))), (1, .inl x1), (2, .inl x2)]) dX3_isSameOtherwise_35 (by decide) rfl ?_
  refine am_iconst dX3_isSameOtherwise_36 (by unfold am_rg; omega) ?_
  refine am_istore (ls' := [(4, .inl 0), (3, .inl xs0), (0, .inr (.inr (some (10, j0)))), (1, .inl x1), (2, .inl x2)]) dX3_isSameOtherwise_37 (by decide) rfl ?_
  exact am_sub [2, 3, 4, 1, 0] rfl h
theorem bX3_isSameOtherwise_39 {SC : Nat → Nat} {X : mh_X} {d : Nat} {Q : Option am_V → am_W → Prop} {bc bs : Nat} {w : am_W} {j0 : Nat} {x1 : Int} {x2 : Int} {x3 : Int} {x4 : Int}
    (h : ((x3 = 0 → ((x3 = 0 ∨ x3 = 1) ∧ Q (some (.inl x3)) w)) ∧ (¬ x3 = 0 → (0 ≤ x1 ∧ (x1 < 30 ∧ (((w.1 146 j0 x1.toNat) ≤ x4 → ((x3 = 0 ∨ x3 = 1) ∧ Q (some (.inl x3)) w)) ∧ (¬ (w.1 146 j0 x1.toNat) ≤ x4 → (0 ≤ (am_w ((am_w (x1 * 4)) + x4)) ∧ ((am_w ((am_w (x1 * 4)) + x4)) < 120 ∧ (0 ≤ (am_w ((am_w (x2 * 4)) + x4)) ∧ ((am_w ((am_w (x2 * 4)) + x4)) < 120 ∧ ((¬ (w.1 147 j0 (am_w ((am_w (x1 * 4)) + x4)).toNat) = (w.1 147 j0 (am_w ((am_w (x2 * 4)) + x4)).toNat) → am_A (mh_G X) SC (d + 1) mX3_isSameOtherwise Q 125 [(0, .inr (.inr (some (10, j0)))), (1, .inl x1), (2, .inl x2), (4, .inl x4)] [] w bc bs) ∧ ((w.1 147 j0 (am_w ((am_w (x1 * 4)) + x4)).toNat) = (w.1 147 j0 (am_w ((am_w (x2 * 4)) + x4)).toNat) → ((¬ (w.1 148 j0 (am_w ((am_w (x1 * 4)) + x4)).toNat) = (w.1 148 j0 (am_w ((am_w (x2 * 4)) + x4)).toNat) → am_A (mh_G X) SC (d + 1) mX3_isSameOtherwise Q 125 [(0, .inr (.inr (some (10, j0)))), (1, .inl x1), (2, .inl x2), (4, .inl x4)] [] w bc bs) ∧ ((w.1 148 j0 (am_w ((am_w (x1 * 4)) + x4)).toNat) = (w.1 148 j0 (am_w ((am_w (x2 * 4)) + x4)).toNat) → ((¬ (w.1 149 j0 (am_w ((am_w (x1 * 4)) + x4)).toNat) = (w.1 149 j0 (am_w ((am_w (x2 * 4)) + x4)).toNat) → am_A (mh_G X) SC (d + 1) mX3_isSameOtherwise Q 125 [(0, .inr (.inr (some (10, j0)))), (1, .inl x1), (2, .inl x2), (4, .inl x4)] [] w bc bs) ∧ ((w.1 149 j0 (am_w ((am_w (x1 * 4)) + x4)).toNat) = (w.1 149 j0 (am_w ((am_w (x2 * 4)) + x4)).toNat) → am_A (mh_G X) SC (d + 1) mX3_isSameOtherwise Q 126 [(0, .inr (.inr (some (10, j0)))), (1, .inl x1), (2, .inl x2), (4, .inl x4)] [.inl 1] w bc bs))))))))))))))))) :
    am_A (mh_G X) SC (d + 1) mX3_isSameOtherwise Q 39 [(0, .inr (.inr (some (10, j0)))), (1, .inl x1), (2, .inl x2), (3, .inl x3), (4, .inl x4)] [] w bc bs := by
  refine am_iload_n dX3_isSameOtherwise_39 (List.Mem.tail _ (List.Mem.tail _ (List.Mem.tail _ (List.Mem.head _)))) ?_
  refine am_ifeq (tgt := 133) dX3_isSameOtherwise_40 (by decide) (fun c1 => ?_) (fun c1 => ?_)
  · replace h := h.1 c1
    refine am_iload_n dX3_isSameOtherwise_133 (List.Mem.tail _ (List.Mem.tail _ (List.Mem.tail _ (List.Mem.head _)))) ?_
    have o2 := h.1
    replace h := h.2
    exact am_ret (r := some (.inl x3)) dX3_isSameOtherwise_134 (Or.inr (Or.inl ⟨rfl, o2⟩)) rfl h
  · replace h := h.2 c1
    refine am_iload dX3_isSameOtherwise_43 (List.Mem.tail _ (List.Mem.tail _ (List.Mem.tail _ (List.Mem.tail _ (List.Mem.head _))))) ?_
    refine am_aload_n dX3_isSameOtherwise_45 (List.Mem.head _) ?_
    refine am_getf (f := 2) (v := .inr (.inr (some (146, j0)))) dX3_isSameOtherwise_46 hc_4 (by decide) wd_217 (by decide) rfl rfl ?_
    refine am_iload_n dX3_isSameOtherwise_49 (List.Mem.tail _ (List.Mem.head _)) ?_
    have o3 := h.1
    replace h := h.2
    have o4 := h.1
    replace h := h.2
    refine am_iaload (v := (w.1 146 j0 x1.toNat)) dX3_isSameOtherwise_50 (by decide) rfl o3 o4 rfl ?_
    refine am_icmpge (tgt := 133) dX3_isSameOtherwise_51 (by decide) (fun c5 => ?_) (fun c5 => ?_)
    · replace h := h.1 c5
      refine am_iload_n dX3_isSameOtherwise_133 (List.Mem.tail _ (List.Mem.tail _ (List.Mem.tail _ (List.Mem.head _)))) ?_
      have o6 := h.1
      replace h := h.2
      exact am_ret (r := some (.inl x3)) dX3_isSameOtherwise_134 (Or.inr (Or.inl ⟨rfl, o6⟩)) rfl h
    · replace h := h.2 c5
      refine am_iload_n dX3_isSameOtherwise_54 (List.Mem.tail _ (List.Mem.head _)) ?_
      refine am_iconst dX3_isSameOtherwise_55 (by unfold am_rg; omega) ?_
      refine am_imul dX3_isSameOtherwise_56 ?_
      refine am_iload dX3_isSameOtherwise_57 (List.Mem.tail _ (List.Mem.tail _ (List.Mem.tail _ (List.Mem.tail _ (List.Mem.head _))))) ?_
      refine am_iadd dX3_isSameOtherwise_59 ?_
      refine am_istore (ls' := [(5, .inl (am_w ((am_w (x1 * 4)) + x4))), (0, .inr (.inr (some (10, j0)))), (1, .inl x1), (2, .inl x2), (3, .inl x3), (4, .inl x4)]) dX3_isSameOtherwise_60 (by decide) rfl ?_
      refine am_iload_n dX3_isSameOtherwise_62 (List.Mem.tail _ (List.Mem.tail _ (List.Mem.tail _ (List.Mem.head _)))) ?_
      refine am_iconst dX3_isSameOtherwise_63 (by unfold am_rg; omega) ?_
      refine am_imul dX3_isSameOtherwise_64 ?_
      refine am_iload dX3_isSameOtherwise_65 (List.Mem.tail _ (List.Mem.tail _ (List.Mem.tail _ (List.Mem.tail _ (List.Mem.tail _ (List.Mem.head _)))))) ?_
      refine am_iadd dX3_isSameOtherwise_67 ?_
      refine am_istore (ls' := [(6, .inl (am_w ((am_w (x2 * 4)) + x4))), (5, .inl (am_w ((am_w (x1 * 4)) + x4))), (0, .inr (.inr (some (10, j0)))), (1, .inl x1), (2, .inl x2), (3, .inl x3), (4, .inl x4)]) dX3_isSameOtherwise_68 (by decide) rfl ?_
      refine am_aload_n dX3_isSameOtherwise_70 (List.Mem.tail _ (List.Mem.tail _ (List.Mem.head _))) ?_
      refine am_getf (f := 3) (v := .inr (.inr (some (147, j0)))) dX3_isSameOtherwise_71 hc_4 (by decide) wd_218 (by decide) rfl rfl ?_
      refine am_iload dX3_isSameOtherwise_74 (List.Mem.tail _ (List.Mem.head _)) ?_
      have o7 := h.1
      replace h := h.2
      have o8 := h.1
      replace h := h.2
      refine am_iaload (v := (w.1 147 j0 (am_w ((am_w (x1 * 4)) + x4)).toNat)) dX3_isSameOtherwise_76 (by decide) rfl o7 o8 rfl ?_
      refine am_aload_n dX3_isSameOtherwise_77 (List.Mem.tail _ (List.Mem.tail _ (List.Mem.head _))) ?_
      refine am_getf (f := 3) (v := .inr (.inr (some (147, j0)))) dX3_isSameOtherwise_78 hc_4 (by decide) wd_218 (by decide) rfl rfl ?_
      refine am_iload dX3_isSameOtherwise_81 (List.Mem.head _) ?_
      have o9 := h.1
      replace h := h.2
      have o10 := h.1
      replace h := h.2
      refine am_iaload (v := (w.1 147 j0 (am_w ((am_w (x2 * 4)) + x4)).toNat)) dX3_isSameOtherwise_83 (by decide) rfl o9 o10 rfl ?_
      refine am_icmpne (tgt := 125) dX3_isSameOtherwise_84 (by decide) (fun c11 => ?_) (fun c11 => ?_)
      · replace h := h.1 c11
        exact am_sub [2, 3, 4, 6] rfl h
      · replace h := h.2 c11
        refine am_aload_n dX3_isSameOtherwise_87 (List.Mem.tail _ (List.Mem.tail _ (List.Mem.head _))) ?_
        refine am_getf (f := 4) (v := .inr (.inr (some (148, j0)))) dX3_isSameOtherwise_88 hc_4 (by decide) wd_219 (by decide) rfl rfl ?_
        refine am_iload dX3_isSameOtherwise_91 (List.Mem.tail _ (List.Mem.head _)) ?_
        refine am_iaload (v := (w.1 148 j0 (am_w ((am_w (x1 * 4)) + x4)).toNat)) dX3_isSameOtherwise_93 (by decide) rfl o7 o8 rfl ?_
        refine am_aload_n dX3_isSameOtherwise_94 (List.Mem.tail _ (List.Mem.tail _ (List.Mem.head _))) ?_
        refine am_getf (f := 4) (v := .inr (.inr (some (148, j0)))) dX3_isSameOtherwise_95 hc_4 (by decide) wd_219 (by decide) rfl rfl ?_
        refine am_iload dX3_isSameOtherwise_98 (List.Mem.head _) ?_
        refine am_iaload (v := (w.1 148 j0 (am_w ((am_w (x2 * 4)) + x4)).toNat)) dX3_isSameOtherwise_100 (by decide) rfl o9 o10 rfl ?_
        refine am_icmpne (tgt := 125) dX3_isSameOtherwise_101 (by decide) (fun c12 => ?_) (fun c12 => ?_)
        · replace h := h.1 c12
          exact am_sub [2, 3, 4, 6] rfl h
        · replace h := h.2 c12
          refine am_aload_n dX3_isSameOtherwise_104 (List.Mem.tail _ (List.Mem.tail _ (List.Mem.head _))) ?_
          refine am_getf (f := 5) (v := .inr (.inr (some (149, j0)))) dX3_isSameOtherwise_105 hc_4 (by decide) wd_220 (by decide) rfl rfl ?_
          refine am_iload dX3_isSameOtherwise_108 (List.Mem.tail _ (List.Mem.head _)) ?_
          refine am_iaload (v := (w.1 149 j0 (am_w ((am_w (x1 * 4)) + x4)).toNat)) dX3_isSameOtherwise_110 (by decide) rfl o7 o8 rfl ?_
          refine am_aload_n dX3_isSameOtherwise_111 (List.Mem.tail _ (List.Mem.tail _ (List.Mem.head _))) ?_
          refine am_getf (f := 5) (v := .inr (.inr (some (149, j0)))) dX3_isSameOtherwise_112 hc_4 (by decide) wd_220 (by decide) rfl rfl ?_
          refine am_iload dX3_isSameOtherwise_115 (List.Mem.head _) ?_
          refine am_iaload (v := (w.1 149 j0 (am_w ((am_w (x2 * 4)) + x4)).toNat)) dX3_isSameOtherwise_117 (by decide) rfl o9 o10 rfl ?_
          refine am_icmpne (tgt := 125) dX3_isSameOtherwise_118 (by decide) (fun c13 => ?_) (fun c13 => ?_)
          · replace h := h.1 c13
            exact am_sub [2, 3, 4, 6] rfl h
          · replace h := h.2 c13
            refine am_iconst dX3_isSameOtherwise_121 (by unfold am_rg; omega) ?_
            refine am_goto (tgt := 126) dX3_isSameOtherwise_122 (by decide) ?_
            exact am_sub [2, 3, 4, 6] rfl h
theorem bX3_isSameOtherwise_125 {SC : Nat → Nat} {X : mh_X} {d : Nat} {Q : Option am_V → am_W → Prop} {bc bs : Nat} {w : am_W} {j0 : Nat} {x1 : Int} {x2 : Int} {x4 : Int}
    (h : am_A (mh_G X) SC (d + 1) mX3_isSameOtherwise Q 126 [(0, .inr (.inr (some (10, j0)))), (1, .inl x1), (2, .inl x2), (4, .inl x4)] [.inl 0] w bc bs) :
    am_A (mh_G X) SC (d + 1) mX3_isSameOtherwise Q 125 [(0, .inr (.inr (some (10, j0)))), (1, .inl x1), (2, .inl x2), (4, .inl x4)] [] w bc bs := by
  refine am_iconst dX3_isSameOtherwise_125 (by unfold am_rg; omega) ?_
  exact h
theorem bX3_isSameOtherwise_126 {SC : Nat → Nat} {X : mh_X} {d : Nat} {Q : Option am_V → am_W → Prop} {bc bs : Nat} {w : am_W} {j0 : Nat} {x1 : Int} {x2 : Int} {x4 : Int} {xs0 : Int}
    (h : am_A (mh_G X) SC (d + 1) mX3_isSameOtherwise Q 39 [(0, .inr (.inr (some (10, j0)))), (1, .inl x1), (2, .inl x2), (3, .inl xs0), (4, .inl (am_w (x4 + 1)))] [] w bc bs) :
    am_A (mh_G X) SC (d + 1) mX3_isSameOtherwise Q 126 [(0, .inr (.inr (some (10, j0)))), (1, .inl x1), (2, .inl x2), (4, .inl x4)] [.inl xs0] w bc bs := by
  refine am_istore_n (ls' := [(3, .inl xs0), (0, .inr (.inr (some (10, j0)))), (1, .inl x1), (2, .inl x2), (4, .inl x4)]) dX3_isSameOtherwise_126 (by decide) rfl ?_
  refine am_iinc (ls' := [(4, .inl (am_w (x4 + 1))), (3, .inl xs0), (0, .inr (.inr (some (10, j0)))), (1, .inl x1), (2, .inl x2)]) dX3_isSameOtherwise_127 (List.Mem.tail _ (List.Mem.tail _ (List.Mem.tail _ (List.Mem.tail _ (List.Mem.head _))))) (by decide) rfl ?_
  refine am_goto (tgt := 39) dX3_isSameOtherwise_130 (by decide) ?_
  exact am_sub [2, 3, 4, 1, 0] rfl h
