-- MourningHouse.end(I)Z
theorem dX11_end_0 : decode mX11_end.2.1 0 = .ok (.iload_n 1, 1) := by decide +kernel
theorem dX11_end_1 : decode mX11_end.2.1 1 = .ok (.ifCond .lt 14, 3) := by decide +kernel
theorem dX11_end_4 : decode mX11_end.2.1 4 = .ok (.iload_n 1, 1) := by decide +kernel
theorem dX11_end_5 : decode mX11_end.2.1 5 = .ok (.aload_n 0, 1) := by decide +kernel
theorem dX11_end_6 : decode mX11_end.2.1 6 = .ok (.getfield 10, 3) := by decide +kernel
theorem dX11_end_9 : decode mX11_end.2.1 9 = .ok (.getfield 90, 3) := by decide +kernel
theorem dX11_end_12 : decode mX11_end.2.1 12 = .ok (.if_icmp .le 5, 3) := by decide +kernel
theorem dX11_end_15 : decode mX11_end.2.1 15 = .ok (.iconst 0, 1) := by decide +kernel
theorem dX11_end_16 : decode mX11_end.2.1 16 = .ok (.ireturn, 1) := by decide +kernel
theorem dX11_end_17 : decode mX11_end.2.1 17 = .ok (.aload_n 0, 1) := by decide +kernel
theorem dX11_end_18 : decode mX11_end.2.1 18 = .ok (.getfield 10, 3) := by decide +kernel
theorem dX11_end_21 : decode mX11_end.2.1 21 = .ok (.iload_n 1, 1) := by decide +kernel
theorem dX11_end_22 : decode mX11_end.2.1 22 = .ok (.putfield 90, 3) := by decide +kernel
theorem dX11_end_25 : decode mX11_end.2.1 25 = .ok (.iconst 1, 1) := by decide +kernel
theorem dX11_end_26 : decode mX11_end.2.1 26 = .ok (.ireturn, 1) := by decide +kernel
theorem bX11_end_0 {SC : Nat → Nat} {X : mh_X} {d : Nat} {Q : Option am_V → am_W → Prop} {bc bs : Nat} {w : am_W} {x1 : Int}
    (h : ((x1 < 0 → Q (some (.inl 0)) w) ∧ (¬ x1 < 0 → ((x1 ≤ (w.1 2 0 3) → Q (some (.inl 1)) ((am_up w.1 2 0 3 x1), w.2)) ∧ (¬ x1 ≤ (w.1 2 0 3) → Q (some (.inl 0)) w))))) :
    am_A (mh_G X) SC (d + 1) mX11_end Q 0 [(0, .inr (.inr (some (1, 0)))), (1, .inl x1)] [] w bc bs := by
  refine am_iload_n dX11_end_0 (List.Mem.tail _ (List.Mem.head _)) ?_
  refine am_iflt (tgt := 15) dX11_end_1 (by decide) (fun c1 => ?_) (fun c1 => ?_)
  · replace h := h.1 c1
    refine am_iconst dX11_end_15 (by unfold am_rg; omega) ?_
    exact am_ret (r := some (.inl 0)) dX11_end_16 (Or.inr (Or.inl ⟨rfl, (Or.inl rfl)⟩)) rfl h
  · replace h := h.2 c1
    refine am_iload_n dX11_end_4 (List.Mem.tail _ (List.Mem.head _)) ?_
    refine am_aload_n dX11_end_5 (List.Mem.head _) ?_
    refine am_getf (f := 0) (v := .inr (.inr (some (2, 0)))) dX11_end_6 hc_0 (by decide) wd_569 (by decide) rfl rfl ?_
    refine am_getf (f := 3) (v := .inl (w.1 2 0 3)) dX11_end_9 hc_1 (by decide) wd_154 (by decide) rfl rfl ?_
    refine am_icmple (tgt := 17) dX11_end_12 (by decide) (fun c2 => ?_) (fun c2 => ?_)
    · replace h := h.1 c2
      refine am_aload_n dX11_end_17 (List.Mem.head _) ?_
      refine am_getf (f := 0) (v := .inr (.inr (some (2, 0)))) dX11_end_18 hc_0 (by decide) wd_569 (by decide) rfl rfl ?_
      refine am_iload_n dX11_end_21 (List.Mem.tail _ (List.Mem.head _)) ?_
      refine am_putf (f := 3) dX11_end_22 hc_1 (by decide) wd_154 rfl (Or.inl rfl) (Or.inl (by decide)) rfl ?_
      refine am_iconst dX11_end_25 (by unfold am_rg; omega) ?_
      exact am_ret (r := some (.inl 1)) dX11_end_26 (Or.inr (Or.inl ⟨rfl, (Or.inr rfl)⟩)) rfl h
    · replace h := h.2 c2
      refine am_iconst dX11_end_15 (by unfold am_rg; omega) ?_
      exact am_ret (r := some (.inl 0)) dX11_end_16 (Or.inr (Or.inl ⟨rfl, (Or.inl rfl)⟩)) rfl h
-- MourningHouse.take()I
theorem dX11_take_0 : decode mX11_take.2.1 0 = .ok (.aload_n 0, 1) := by decide +kernel
theorem dX11_take_1 : decode mX11_take.2.1 1 = .ok (.getfield 26, 3) := by decide +kernel
theorem dX11_take_4 : decode mX11_take.2.1 4 = .ok (.invokevirtual 93, 3) := by decide +kernel
theorem dX11_take_7 : decode mX11_take.2.1 7 = .ok (.astore_n 1, 1) := by decide +kernel
theorem dX11_take_8 : decode mX11_take.2.1 8 = .ok (.aload_n 1, 1) := by decide +kernel
theorem dX11_take_9 : decode mX11_take.2.1 9 = .ok (.ifnonnull 5, 3) := by decide +kernel
theorem dX11_take_12 : decode mX11_take.2.1 12 = .ok (.iconst (-1), 1) := by decide +kernel
theorem dX11_take_13 : decode mX11_take.2.1 13 = .ok (.ireturn, 1) := by decide +kernel
theorem dX11_take_14 : decode mX11_take.2.1 14 = .ok (.aload_n 0, 1) := by decide +kernel
theorem dX11_take_15 : decode mX11_take.2.1 15 = .ok (.getfield 10, 3) := by decide +kernel
theorem dX11_take_18 : decode mX11_take.2.1 18 = .ok (.aload_n 1, 1) := by decide +kernel
theorem dX11_take_19 : decode mX11_take.2.1 19 = .ok (.invokevirtual 97, 3) := by decide +kernel
theorem dX11_take_22 : decode mX11_take.2.1 22 = .ok (.istore_n 2, 1) := by decide +kernel
theorem dX11_take_23 : decode mX11_take.2.1 23 = .ok (.aload_n 0, 1) := by decide +kernel
theorem dX11_take_24 : decode mX11_take.2.1 24 = .ok (.getfield 10, 3) := by decide +kernel
theorem dX11_take_27 : decode mX11_take.2.1 27 = .ok (.iconst 0, 1) := by decide +kernel
theorem dX11_take_28 : decode mX11_take.2.1 28 = .ok (.putfield 90, 3) := by decide +kernel
theorem dX11_take_31 : decode mX11_take.2.1 31 = .ok (.iload_n 2, 1) := by decide +kernel
theorem dX11_take_32 : decode mX11_take.2.1 32 = .ok (.ifCond .ne 5, 3) := by decide +kernel
theorem dX11_take_35 : decode mX11_take.2.1 35 = .ok (.iconst (-1), 1) := by decide +kernel
theorem dX11_take_36 : decode mX11_take.2.1 36 = .ok (.ireturn, 1) := by decide +kernel
theorem dX11_take_37 : decode mX11_take.2.1 37 = .ok (.aload_n 0, 1) := by decide +kernel
theorem dX11_take_38 : decode mX11_take.2.1 38 = .ok (.getfield 26, 3) := by decide +kernel
theorem dX11_take_41 : decode mX11_take.2.1 41 = .ok (.aload_n 1, 1) := by decide +kernel
theorem dX11_take_42 : decode mX11_take.2.1 42 = .ok (.aload_n 0, 1) := by decide +kernel
theorem dX11_take_43 : decode mX11_take.2.1 43 = .ok (.getfield 79, 3) := by decide +kernel
theorem dX11_take_46 : decode mX11_take.2.1 46 = .ok (.invokevirtual 101, 3) := by decide +kernel
theorem dX11_take_49 : decode mX11_take.2.1 49 = .ok (.aload_n 1, 1) := by decide +kernel
theorem dX11_take_50 : decode mX11_take.2.1 50 = .ok (.getfield 105, 3) := by decide +kernel
theorem dX11_take_53 : decode mX11_take.2.1 53 = .ok (.ireturn, 1) := by decide +kernel
theorem bX11_take_0 {SC : Nat → Nat} {X : mh_X} {d : Nat} {Q : Option am_V → am_W → Prop} {bc bs : Nat} {w : am_W} 
    (h : am_M (mh_G X) SC (d + 11) 0 0 mX1_blankLaw [.inr (.inr (some (4, 0)))] w (fun r w1 => am_A (mh_G X) SC (d + 12) mX11_take Q 7 [(0, .inr (.inr (some (1, 0))))] (r.toList ++ []) w1 bc bs)) :
    am_A (mh_G X) SC (d + 12) mX11_take Q 0 [(0, .inr (.inr (some (1, 0))))] [] w bc bs := by
  refine am_aload_n dX11_take_0 (List.Mem.head _) ?_
  refine am_getf (f := 2) (v := .inr (.inr (some (4, 0)))) dX11_take_1 hc_0 (by decide) wd_571 (by decide) rfl rfl ?_
  exact am_callv (d' := d + 11) (kc := 0) (ks := 0) (as := []) dX11_take_4 wc_X1_blankLaw wd_629 wd_630 wd_631 wd_115 ds_X1_blankLaw (by decide) (by omega) (Nat.le_of_ble_eq_true rfl) (Nat.zero_le _) (Nat.zero_le _) hc_3 (by decide) rfl rfl h
theorem bX11_take_7 {SC : Nat → Nat} {X : mh_X} {d : Nat} {Q : Option am_V → am_W → Prop} {bc bs : Nat} {w : am_W} 
    (h : Q (some (.inl (-1))) w) :
    am_A (mh_G X) SC (d + 12) mX11_take Q 7 [(0, .inr (.inr (some (1, 0))))] [.inr (.inr none)] w bc bs := by
  refine am_astore_n (ls' := [(1, .inr (.inr none)), (0, .inr (.inr (some (1, 0))))]) dX11_take_7 (by decide) rfl ?_
  refine am_aload_n dX11_take_8 (List.Mem.head _) ?_
  refine am_ifnonnull (tgt := 14) dX11_take_9 (by decide) (fun e => absurd rfl e) (fun _ => ?_)
  refine am_iconst dX11_take_12 (by unfold am_rg; omega) ?_
  exact am_ret (r := some (.inl (-1))) dX11_take_13 (Or.inl rfl) rfl h
theorem bX11_take_7a {SC : Nat → Nat} {X : mh_X} {d : Nat} {Q : Option am_V → am_W → Prop} {bc bs : Nat} {w : am_W} {js0 : Nat}
    (h : am_M (mh_G X) SC (d + 11) 0 0 mX8_readInto [.inr (.inr (some (2, 0))), .inr (.inr (some (10, js0)))] w (fun r w1 => am_A (mh_G X) SC (d + 12) mX11_take Q 22 [(1, .inr (.inr (some (10, js0)))), (0, .inr (.inr (some (1, 0))))] (r.toList ++ []) w1 bc bs)) :
    am_A (mh_G X) SC (d + 12) mX11_take Q 7 [(0, .inr (.inr (some (1, 0))))] [.inr (.inr (some (10, js0)))] w bc bs := by
  refine am_astore_n (ls' := [(1, .inr (.inr (some (10, js0)))), (0, .inr (.inr (some (1, 0))))]) dX11_take_7 (by decide) rfl ?_
  refine am_aload_n dX11_take_8 (List.Mem.head _) ?_
  refine am_ifnonnull (tgt := 14) dX11_take_9 (by decide) (fun _ => ?_) (fun e => by cases e)
  refine am_aload_n dX11_take_14 (List.Mem.tail _ (List.Mem.head _)) ?_
  refine am_getf (f := 0) (v := .inr (.inr (some (2, 0)))) dX11_take_15 hc_0 (by decide) wd_569 (by decide) rfl rfl ?_
  refine am_aload_n dX11_take_18 (List.Mem.head _) ?_
  exact am_callv (d' := d + 11) (kc := 0) (ks := 0) (as := [.inr (.inr (some (10, js0)))]) dX11_take_19 wc_X8_readInto wd_633 wd_634 wd_635 wd_113 ds_X8_readInto (by decide) (by omega) (Nat.le_of_ble_eq_true rfl) (Nat.zero_le _) (Nat.zero_le _) hc_1 (by decide) rfl rfl h
theorem bX11_take_22 {SC : Nat → Nat} {X : mh_X} {d : Nat} {Q : Option am_V → am_W → Prop} {bc bs : Nat} {w : am_W} {j1 : Nat} {xs0 : Int}
    (h : ((¬ xs0 = 0 → Q (some (.inl ((am_up w.1 10 j1 17 (w.1 1 0 12)) 10 j1 10))) ((am_up (am_up (am_up w.1 2 0 3 0) 10 j1 17 (w.1 1 0 12)) 4 0 5 (am_w ((w.1 4 0 5) + 1))), w.2)) ∧ (xs0 = 0 → Q (some (.inl (-1))) ((am_up w.1 2 0 3 0), w.2)))) :
    am_A (mh_G X) SC (d + 12) mX11_take Q 22 [(1, .inr (.inr (some (10, j1)))), (0, .inr (.inr (some (1, 0))))] [.inl xs0] w bc bs := by
  refine am_istore_n (ls' := [(2, .inl xs0), (1, .inr (.inr (some (10, j1)))), (0, .inr (.inr (some (1, 0))))]) dX11_take_22 (by decide) rfl ?_
  refine am_aload_n dX11_take_23 (List.Mem.tail _ (List.Mem.tail _ (List.Mem.head _))) ?_
  refine am_getf (f := 0) (v := .inr (.inr (some (2, 0)))) dX11_take_24 hc_0 (by decide) wd_569 (by decide) rfl rfl ?_
  refine am_iconst dX11_take_27 (by unfold am_rg; omega) ?_
  refine am_putf (f := 3) dX11_take_28 hc_1 (by decide) wd_154 rfl (Or.inl rfl) (Or.inl (by decide)) rfl ?_
  refine am_iload_n dX11_take_31 (List.Mem.head _) ?_
  refine am_ifne (tgt := 37) dX11_take_32 (by decide) (fun c1 => ?_) (fun c1 => ?_)
  · replace h := h.1 c1
    refine am_aload_n dX11_take_37 (List.Mem.tail _ (List.Mem.tail _ (List.Mem.head _))) ?_
    refine am_getf (f := 2) (v := .inr (.inr (some (4, 0)))) dX11_take_38 hc_0 (by decide) wd_571 (by decide) rfl rfl ?_
    refine am_aload_n dX11_take_41 (List.Mem.tail _ (List.Mem.head _)) ?_
    refine am_aload_n dX11_take_42 (List.Mem.tail _ (List.Mem.tail _ (List.Mem.head _))) ?_
    refine am_getf (f := 12) (v := .inl (w.1 1 0 12)) dX11_take_43 hc_0 (by decide) wd_581 (by decide) rfl rfl ?_
    refine am_callv (d' := d + 11) (kc := 0) (ks := 0) (as := [.inr (.inr (some (10, j1))), .inl (w.1 1 0 12)]) dX11_take_46 wc_X1_enact wd_912 wd_913 wd_914 wd_115 ds_X1_enact (by decide) (by omega) (Nat.le_of_ble_eq_true rfl) (Nat.zero_le _) (Nat.zero_le _) hc_3 (by decide) rfl rfl (sX1_enact (d := d + 10) (j1 := j1) (x2 := (w.1 1 0 12))  ?_)
    show am_A (mh_G X) SC (d + 12) mX11_take Q 49 [(2, .inl xs0), (1, .inr (.inr (some (10, j1)))), (0, .inr (.inr (some (1, 0))))] [] ((am_up (am_up (am_up w.1 2 0 3 0) 10 j1 17 (w.1 1 0 12)) 4 0 5 (am_w ((w.1 4 0 5) + 1))), w.2) bc bs
    refine am_aload_n dX11_take_49 (List.Mem.tail _ (List.Mem.head _)) ?_
    refine am_getf (f := 10) (v := .inl ((am_up w.1 10 j1 17 (w.1 1 0 12)) 10 j1 10)) dX11_take_50 hc_4 (by decide) wd_229 (by decide) rfl rfl ?_
    exact am_ret (r := some (.inl ((am_up w.1 10 j1 17 (w.1 1 0 12)) 10 j1 10))) dX11_take_53 (Or.inl rfl) rfl h
  · replace h := h.2 c1
    refine am_iconst dX11_take_35 (by unfold am_rg; omega) ?_
    exact am_ret (r := some (.inl (-1))) dX11_take_36 (Or.inl rfl) rfl h
-- MourningHouse.fault(I)I
theorem dX11_fault_0 : decode mX11_fault.2.1 0 = .ok (.iload_n 1, 1) := by decide +kernel
theorem dX11_fault_1 : decode mX11_fault.2.1 1 = .ok (.tableswitch 51 0 2 #[27, 35, 43], 27) := by decide +kernel
theorem dX11_fault_28 : decode mX11_fault.2.1 28 = .ok (.aload_n 0, 1) := by decide +kernel
theorem dX11_fault_29 : decode mX11_fault.2.1 29 = .ok (.getfield 10, 3) := by decide +kernel
theorem dX11_fault_32 : decode mX11_fault.2.1 32 = .ok (.getfield 110, 3) := by decide +kernel
theorem dX11_fault_35 : decode mX11_fault.2.1 35 = .ok (.ireturn, 1) := by decide +kernel
theorem dX11_fault_36 : decode mX11_fault.2.1 36 = .ok (.aload_n 0, 1) := by decide +kernel
theorem dX11_fault_37 : decode mX11_fault.2.1 37 = .ok (.getfield 10, 3) := by decide +kernel
theorem dX11_fault_40 : decode mX11_fault.2.1 40 = .ok (.getfield 113, 3) := by decide +kernel
theorem dX11_fault_43 : decode mX11_fault.2.1 43 = .ok (.ireturn, 1) := by decide +kernel
theorem dX11_fault_44 : decode mX11_fault.2.1 44 = .ok (.aload_n 0, 1) := by decide +kernel
theorem dX11_fault_45 : decode mX11_fault.2.1 45 = .ok (.getfield 10, 3) := by decide +kernel
theorem dX11_fault_48 : decode mX11_fault.2.1 48 = .ok (.getfield 116, 3) := by decide +kernel
theorem dX11_fault_51 : decode mX11_fault.2.1 51 = .ok (.ireturn, 1) := by decide +kernel
theorem dX11_fault_52 : decode mX11_fault.2.1 52 = .ok (.iconst (-1), 1) := by decide +kernel
theorem dX11_fault_53 : decode mX11_fault.2.1 53 = .ok (.ireturn, 1) := by decide +kernel
theorem sX11_fault {SC : Nat → Nat} {X : mh_X} {d kc ks : Nat} {Q : Option am_V → am_W → Prop} {w : am_W} {x1 : Int}
    (h : Q (some (.inl (if x1 = 2 then (w.1 2 0 6) else (if x1 = 1 then (w.1 2 0 5) else (if x1 = 0 then (w.1 2 0 4) else (-1)))))) w) : am_M (mh_G X) SC (d + 1) kc ks mX11_fault [.inr (.inr (some (1, 0))), .inl x1] w Q := by
  refine am_M_of (by decide) (Nat.le_of_ble_eq_true rfl) ?_
  show am_A (mh_G X) SC (d + 1) mX11_fault Q 0 [(0, .inr (.inr (some (1, 0)))), (1, .inl x1)] [] w kc ks
  refine am_iload_n dX11_fault_0 (List.Mem.tail _ (List.Mem.head _)) ?_
  by_cases c1 : (x1 < 0 ∨ 2 < x1)
  · refine am_tswOut (tgt := 52) dX11_fault_1 c1 (by decide) ?_
    refine am_iconst dX11_fault_52 (by unfold am_rg; omega) ?_
    rw [show ((if x1 = 2 then (w.1 2 0 6) else (if x1 = 1 then (w.1 2 0 5) else (if x1 = 0 then (w.1 2 0 4) else (-1)))) : Int) = (-1) from (if_neg (show ¬ x1 = 2 by omega)).trans ((if_neg (show ¬ x1 = 1 by omega)).trans (if_neg (show ¬ x1 = 0 by omega)))] at h
    exact am_ret (r := some (.inl (-1))) dX11_fault_53 (Or.inl rfl) rfl h
  · rcases (show x1 = 0 ∨ x1 = 1 ∨ x1 = 2 by omega) with c1 | c1 | c1
    · refine am_tswIn (off := 27) (tgt := 28) dX11_fault_1 (by omega) (by omega) (by rw [c1]; decide) (by decide) ?_
      refine am_aload_n dX11_fault_28 (List.Mem.head _) ?_
      refine am_getf (f := 0) (v := .inr (.inr (some (2, 0)))) dX11_fault_29 hc_0 (by decide) wd_569 (by decide) rfl rfl ?_
      refine am_getf (f := 4) (v := .inl (w.1 2 0 4)) dX11_fault_32 hc_1 (by decide) wd_156 (by decide) rfl rfl ?_
      rw [show ((if x1 = 2 then (w.1 2 0 6) else (if x1 = 1 then (w.1 2 0 5) else (if x1 = 0 then (w.1 2 0 4) else (-1)))) : Int) = (w.1 2 0 4) from (if_neg (show ¬ x1 = 2 by omega)).trans ((if_neg (show ¬ x1 = 1 by omega)).trans (if_pos c1))] at h
      exact am_ret (r := some (.inl (w.1 2 0 4))) dX11_fault_35 (Or.inl rfl) rfl h
    · refine am_tswIn (off := 35) (tgt := 36) dX11_fault_1 (by omega) (by omega) (by rw [c1]; decide) (by decide) ?_
      refine am_aload_n dX11_fault_36 (List.Mem.head _) ?_
      refine am_getf (f := 0) (v := .inr (.inr (some (2, 0)))) dX11_fault_37 hc_0 (by decide) wd_569 (by decide) rfl rfl ?_
      refine am_getf (f := 5) (v := .inl (w.1 2 0 5)) dX11_fault_40 hc_1 (by decide) wd_158 (by decide) rfl rfl ?_
      rw [show ((if x1 = 2 then (w.1 2 0 6) else (if x1 = 1 then (w.1 2 0 5) else (if x1 = 0 then (w.1 2 0 4) else (-1)))) : Int) = (w.1 2 0 5) from (if_neg (show ¬ x1 = 2 by omega)).trans (if_pos c1)] at h
      exact am_ret (r := some (.inl (w.1 2 0 5))) dX11_fault_43 (Or.inl rfl) rfl h
    · refine am_tswIn (off := 43) (tgt := 44) dX11_fault_1 (by omega) (by omega) (by rw [c1]; decide) (by decide) ?_
      refine am_aload_n dX11_fault_44 (List.Mem.head _) ?_
      refine am_getf (f := 0) (v := .inr (.inr (some (2, 0)))) dX11_fault_45 hc_0 (by decide) wd_569 (by decide) rfl rfl ?_
      refine am_getf (f := 6) (v := .inl (w.1 2 0 6)) dX11_fault_48 hc_1 (by decide) wd_160 (by decide) rfl rfl ?_
      rw [show ((if x1 = 2 then (w.1 2 0 6) else (if x1 = 1 then (w.1 2 0 5) else (if x1 = 0 then (w.1 2 0 4) else (-1)))) : Int) = (w.1 2 0 6) from if_pos c1] at h
      exact am_ret (r := some (.inl (w.1 2 0 6))) dX11_fault_51 (Or.inl rfl) rfl h
-- MourningHouse.write(II)I
theorem dX11_write_0 : decode mX11_write.2.1 0 = .ok (.aload_n 0, 1) := by decide +kernel
theorem dX11_write_1 : decode mX11_write.2.1 1 = .ok (.getfield 26, 3) := by decide +kernel
theorem dX11_write_4 : decode mX11_write.2.1 4 = .ok (.iload_n 1, 1) := by decide +kernel
theorem dX11_write_5 : decode mX11_write.2.1 5 = .ok (.invokevirtual 119, 3) := by decide +kernel
theorem dX11_write_8 : decode mX11_write.2.1 8 = .ok (.astore_n 3, 1) := by decide +kernel
theorem dX11_write_9 : decode mX11_write.2.1 9 = .ok (.aload_n 3, 1) := by decide +kernel
theorem dX11_write_10 : decode mX11_write.2.1 10 = .ok (.ifnull 11, 3) := by decide +kernel
theorem dX11_write_13 : decode mX11_write.2.1 13 = .ok (.aload_n 3, 1) := by decide +kernel
theorem dX11_write_14 : decode mX11_write.2.1 14 = .ok (.iload_n 2, 1) := by decide +kernel
theorem dX11_write_15 : decode mX11_write.2.1 15 = .ok (.invokevirtual 123, 3) := by decide +kernel
theorem dX11_write_18 : decode mX11_write.2.1 18 = .ok (.ifCond .ne 5, 3) := by decide +kernel
theorem dX11_write_21 : decode mX11_write.2.1 21 = .ok (.iconst (-1), 1) := by decide +kernel
theorem dX11_write_22 : decode mX11_write.2.1 22 = .ok (.ireturn, 1) := by decide +kernel
theorem dX11_write_23 : decode mX11_write.2.1 23 = .ok (.aload_n 3, 1) := by decide +kernel
theorem dX11_write_24 : decode mX11_write.2.1 24 = .ok (.iload_n 2, 1) := by decide +kernel
theorem dX11_write_25 : decode mX11_write.2.1 25 = .ok (.aload_n 0, 1) := by decide +kernel
theorem dX11_write_26 : decode mX11_write.2.1 26 = .ok (.getfield 19, 3) := by decide +kernel
theorem dX11_write_29 : decode mX11_write.2.1 29 = .ok (.invokevirtual 127, 3) := by decide +kernel
theorem dX11_write_32 : decode mX11_write.2.1 32 = .ok (.aload_n 0, 1) := by decide +kernel
theorem dX11_write_33 : decode mX11_write.2.1 33 = .ok (.getfield 19, 3) := by decide +kernel
theorem dX11_write_36 : decode mX11_write.2.1 36 = .ok (.getfield 131, 3) := by decide +kernel
theorem dX11_write_39 : decode mX11_write.2.1 39 = .ok (.ireturn, 1) := by decide +kernel
theorem bX11_write_0 {SC : Nat → Nat} {X : mh_X} {d : Nat} {Q : Option am_V → am_W → Prop} {bc bs : Nat} {w : am_W} {x1 : Int} {x2 : Int}
    (h : am_M (mh_G X) SC (d + 8) 0 0 mX1_lawNumbered [.inr (.inr (some (4, 0))), .inl x1] w (fun r w1 => am_A (mh_G X) SC (d + 9) mX11_write Q 8 [(0, .inr (.inr (some (1, 0)))), (1, .inl x1), (2, .inl x2)] (r.toList ++ []) w1 bc bs)) :
    am_A (mh_G X) SC (d + 9) mX11_write Q 0 [(0, .inr (.inr (some (1, 0)))), (1, .inl x1), (2, .inl x2)] [] w bc bs := by
  refine am_aload_n dX11_write_0 (List.Mem.head _) ?_
  refine am_getf (f := 2) (v := .inr (.inr (some (4, 0)))) dX11_write_1 hc_0 (by decide) wd_571 (by decide) rfl rfl ?_
  refine am_iload_n dX11_write_4 (List.Mem.tail _ (List.Mem.head _)) ?_
  exact am_callv (d' := d + 8) (kc := 0) (ks := 0) (as := [.inl x1]) dX11_write_5 wc_X1_lawNumbered wd_925 wd_926 wd_927 wd_115 ds_X1_lawNumbered (by decide) (by omega) (Nat.le_of_ble_eq_true rfl) (Nat.zero_le _) (Nat.zero_le _) hc_3 (by decide) rfl rfl h
theorem bX11_write_8 {SC : Nat → Nat} {X : mh_X} {d : Nat} {Q : Option am_V → am_W → Prop} {bc bs : Nat} {w : am_W} {x1 : Int} {x2 : Int}
    (h : Q (some (.inl (-1))) w) :
    am_A (mh_G X) SC (d + 9) mX11_write Q 8 [(0, .inr (.inr (some (1, 0)))), (1, .inl x1), (2, .inl x2)] [.inr (.inr none)] w bc bs := by
  refine am_astore_n (ls' := [(3, .inr (.inr none)), (0, .inr (.inr (some (1, 0)))), (1, .inl x1), (2, .inl x2)]) dX11_write_8 (by decide) rfl ?_
  refine am_aload_n dX11_write_9 (List.Mem.head _) ?_
  refine am_ifnull (tgt := 21) dX11_write_10 (by decide) (fun _ => ?_) (fun e => absurd rfl e)
  refine am_iconst dX11_write_21 (by unfold am_rg; omega) ?_
  exact am_ret (r := some (.inl (-1))) dX11_write_22 (Or.inl rfl) rfl h
theorem bX11_write_8a {SC : Nat → Nat} {X : mh_X} {d : Nat} {Q : Option am_V → am_W → Prop} {bc bs : Nat} {w : am_W} {x1 : Int} {x2 : Int} {js0 : Nat}
    (h : (((¬ x2 < 0 ∧ (¬ (w.1 10 js0 10) ≤ x2)) → am_M (mh_G X) SC (d + 8) 0 0 mX3_spell [.inr (.inr (some (10, js0))), .inl x2, .inr (.inr (some (3, 0)))] w (fun r w1 => am_A (mh_G X) SC (d + 9) mX11_write Q 32 [(3, .inr (.inr (some (10, js0)))), (0, .inr (.inr (some (1, 0)))), (1, .inl x1), (2, .inl x2)] (r.toList ++ []) w1 bc bs)) ∧ (¬ (¬ x2 < 0 ∧ (¬ (w.1 10 js0 10) ≤ x2)) → Q (some (.inl (-1))) w))) :
    am_A (mh_G X) SC (d + 9) mX11_write Q 8 [(0, .inr (.inr (some (1, 0)))), (1, .inl x1), (2, .inl x2)] [.inr (.inr (some (10, js0)))] w bc bs := by
  refine am_astore_n (ls' := [(3, .inr (.inr (some (10, js0)))), (0, .inr (.inr (some (1, 0)))), (1, .inl x1), (2, .inl x2)]) dX11_write_8 (by decide) rfl ?_
  refine am_aload_n dX11_write_9 (List.Mem.head _) ?_
  refine am_ifnull (tgt := 21) dX11_write_10 (by decide) (fun e => by cases e) (fun _ => ?_)
  refine am_aload_n dX11_write_13 (List.Mem.head _) ?_
  refine am_iload_n dX11_write_14 (List.Mem.tail _ (List.Mem.tail _ (List.Mem.tail _ (List.Mem.head _)))) ?_
  refine am_callv (d' := d + 8) (kc := 0) (ks := 0) (as := [.inl x2]) dX11_write_15 wc_X3_hasRule wd_929 wd_930 wd_931 wd_116 ds_X3_hasRule (by decide) (by omega) (Nat.le_of_ble_eq_true rfl) (Nat.zero_le _) (Nat.zero_le _) hc_4 (by decide) rfl rfl (sX3_hasRule (d := d + 7) (j0 := js0) (x1 := x2)  ?_)
  show am_A (mh_G X) SC (d + 9) mX11_write Q 18 [(3, .inr (.inr (some (10, js0)))), (0, .inr (.inr (some (1, 0)))), (1, .inl x1), (2, .inl x2)] [.inl (if (¬ x2 < 0 ∧ (¬ (w.1 10 js0 10) ≤ x2)) then 1 else 0)] w bc bs
  refine am_ifne (tgt := 23) dX11_write_18 (by decide) (fun c1 => ?_) (fun c1 => ?_)
  · replace c1 := am_bne1 c1
    replace h := h.1 c1
    refine am_aload_n dX11_write_23 (List.Mem.head _) ?_
    refine am_iload_n dX11_write_24 (List.Mem.tail _ (List.Mem.tail _ (List.Mem.tail _ (List.Mem.head _)))) ?_
    refine am_aload_n dX11_write_25 (List.Mem.tail _ (List.Mem.head _)) ?_
    refine am_getf (f := 1) (v := .inr (.inr (some (3, 0)))) dX11_write_26 hc_0 (by decide) wd_570 (by decide) rfl rfl ?_
    exact am_callv (d' := d + 8) (kc := 0) (ks := 0) (as := [.inl x2, .inr (.inr (some (3, 0)))]) dX11_write_29 wc_X3_spell wd_933 wd_934 wd_935 wd_116 ds_X3_spell (by decide) (by omega) (Nat.le_of_ble_eq_true rfl) (Nat.zero_le _) (Nat.zero_le _) hc_4 (by decide) rfl rfl h
  · replace c1 := am_bne2 c1
    replace h := h.2 c1
    refine am_iconst dX11_write_21 (by unfold am_rg; omega) ?_
    exact am_ret (r := some (.inl (-1))) dX11_write_22 (Or.inl rfl) rfl h
theorem bX11_write_32 {SC : Nat → Nat} {X : mh_X} {d : Nat} {Q : Option am_V → am_W → Prop} {bc bs : Nat} {w : am_W} {j3 : Nat} {x1 : Int} {x2 : Int}
    (h : Q (some (.inl (w.1 3 0 1))) w) :
    am_A (mh_G X) SC (d + 9) mX11_write Q 32 [(3, .inr (.inr (some (10, j3)))), (0, .inr (.inr (some (1, 0)))), (1, .inl x1), (2, .inl x2)] [] w bc bs := by
  refine am_aload_n dX11_write_32 (List.Mem.tail _ (List.Mem.head _)) ?_
  refine am_getf (f := 1) (v := .inr (.inr (some (3, 0)))) dX11_write_33 hc_0 (by decide) wd_570 (by decide) rfl rfl ?_
  refine am_getf (f := 1) (v := .inl (w.1 3 0 1)) dX11_write_36 hc_2 (by decide) wd_196 (by decide) rfl rfl ?_
  exact am_ret (r := some (.inl (w.1 3 0 1))) dX11_write_39 (Or.inl rfl) rfl h
-- MourningHouse.out(I)I
theorem dX11_out_0 : decode mX11_out.2.1 0 = .ok (.aload_n 0, 1) := by decide +kernel
theorem dX11_out_1 : decode mX11_out.2.1 1 = .ok (.getfield 19, 3) := by decide +kernel
theorem dX11_out_4 : decode mX11_out.2.1 4 = .ok (.iload_n 1, 1) := by decide +kernel
theorem dX11_out_5 : decode mX11_out.2.1 5 = .ok (.invokevirtual 132, 3) := by decide +kernel
theorem dX11_out_8 : decode mX11_out.2.1 8 = .ok (.ifCond .eq 15, 3) := by decide +kernel
theorem dX11_out_11 : decode mX11_out.2.1 11 = .ok (.aload_n 0, 1) := by decide +kernel
theorem dX11_out_12 : decode mX11_out.2.1 12 = .ok (.getfield 19, 3) := by decide +kernel
theorem dX11_out_15 : decode mX11_out.2.1 15 = .ok (.getfield 135, 3) := by decide +kernel
theorem dX11_out_18 : decode mX11_out.2.1 18 = .ok (.iload_n 1, 1) := by decide +kernel
theorem dX11_out_19 : decode mX11_out.2.1 19 = .ok (.caload, 1) := by decide +kernel
theorem dX11_out_20 : decode mX11_out.2.1 20 = .ok (.goto 4, 3) := by decide +kernel
theorem dX11_out_23 : decode mX11_out.2.1 23 = .ok (.iconst (-1), 1) := by decide +kernel
theorem dX11_out_24 : decode mX11_out.2.1 24 = .ok (.ireturn, 1) := by decide +kernel
theorem sX11_out {SC : Nat → Nat} {X : mh_X} {d kc ks : Nat} {Q : Option am_V → am_W → Prop} {w : am_W} {x1 : Int} (Ho2 : (¬ x1 < 0 ∧ (¬ (w.1 3 0 1) ≤ x1)) → 0 ≤ x1) (Ho3 : (¬ x1 < 0 ∧ (¬ (w.1 3 0 1) ≤ x1)) → x1 < 256)
    (h : Q (some (.inl (if (¬ x1 < 0 ∧ (¬ (w.1 3 0 1) ≤ x1)) then (w.1 27 0 x1.toNat) else (-1)))) w) : am_M (mh_G X) SC (d + 2) kc ks mX11_out [.inr (.inr (some (1, 0))), .inl x1] w Q := by
  refine am_M_of (by decide) (Nat.le_of_ble_eq_true rfl) ?_
  show am_A (mh_G X) SC (d + 2) mX11_out Q 0 [(0, .inr (.inr (some (1, 0)))), (1, .inl x1)] [] w kc ks
  refine am_aload_n dX11_out_0 (List.Mem.head _) ?_
  refine am_getf (f := 1) (v := .inr (.inr (some (3, 0)))) dX11_out_1 hc_0 (by decide) wd_570 (by decide) rfl rfl ?_
  refine am_iload_n dX11_out_4 (List.Mem.tail _ (List.Mem.head _)) ?_
  refine am_callv (d' := d + 1) (kc := 0) (ks := 0) (as := [.inl x1]) dX11_out_5 wc_X6_has wd_980 wd_981 wd_982 wd_114 ds_X6_has (by decide) (by omega) (Nat.le_of_ble_eq_true rfl) (Nat.zero_le _) (Nat.zero_le _) hc_2 (by decide) rfl rfl (sX6_has (d := d + 0) (x1 := x1)  ?_)
  show am_A (mh_G X) SC (d + 2) mX11_out Q 8 [(0, .inr (.inr (some (1, 0)))), (1, .inl x1)] [.inl (if (¬ x1 < 0 ∧ (¬ (w.1 3 0 1) ≤ x1)) then 1 else 0)] w kc ks
  refine am_ifeq (tgt := 23) dX11_out_8 (by decide) (fun c1 => ?_) (fun c1 => ?_)
  · replace c1 := am_beq1 c1
    refine am_iconst dX11_out_23 (by unfold am_rg; omega) ?_
    rw [show ((if (¬ x1 < 0 ∧ (¬ (w.1 3 0 1) ≤ x1)) then (w.1 27 0 x1.toNat) else (-1)) : Int) = (-1) from if_neg c1] at h
    exact am_ret (r := some (.inl (-1))) dX11_out_24 (Or.inl rfl) rfl h
  · replace c1 := am_beq2 c1
    refine am_aload_n dX11_out_11 (List.Mem.head _) ?_
    refine am_getf (f := 1) (v := .inr (.inr (some (3, 0)))) dX11_out_12 hc_0 (by decide) wd_570 (by decide) rfl rfl ?_
    refine am_getf (f := 0) (v := .inr (.inr (some (27, 0)))) dX11_out_15 hc_2 (by decide) wd_194 (by decide) rfl rfl ?_
    refine am_iload_n dX11_out_18 (List.Mem.tail _ (List.Mem.head _)) ?_
    have o2 := Ho2 c1
    have o3 := Ho3 c1
    refine am_caload (v := (w.1 27 0 x1.toNat)) dX11_out_19 (by decide) rfl o2 o3 rfl ?_
    refine am_goto (tgt := 24) dX11_out_20 (by decide) ?_
    rw [show ((if (¬ x1 < 0 ∧ (¬ (w.1 3 0 1) ≤ x1)) then (w.1 27 0 x1.toNat) else (-1)) : Int) = (w.1 27 0 x1.toNat) from if_pos c1] at h
    exact am_ret (r := some (.inl (w.1 27 0 x1.toNat))) dX11_out_24 (Or.inl rfl) rfl h
-- MourningHouse.quarrel(II)I
theorem dX11_quarrel_0 : decode mX11_quarrel.2.1 0 = .ok (.aload_n 0, 1) := by decide +kernel
theorem dX11_quarrel_1 : decode mX11_quarrel.2.1 1 = .ok (.getfield 26, 3) := by decide +kernel
theorem dX11_quarrel_4 : decode mX11_quarrel.2.1 4 = .ok (.iload_n 1, 1) := by decide +kernel
theorem dX11_quarrel_5 : decode mX11_quarrel.2.1 5 = .ok (.invokevirtual 119, 3) := by decide +kernel
theorem dX11_quarrel_8 : decode mX11_quarrel.2.1 8 = .ok (.astore_n 3, 1) := by decide +kernel
theorem dX11_quarrel_9 : decode mX11_quarrel.2.1 9 = .ok (.aload_n 3, 1) := by decide +kernel
theorem dX11_quarrel_10 : decode mX11_quarrel.2.1 10 = .ok (.ifnull 7, 3) := by decide +kernel
theorem dX11_quarrel_13 : decode mX11_quarrel.2.1 13 = .ok (.iload_n 2, 1) := by decide +kernel
theorem dX11_quarrel_14 : decode mX11_quarrel.2.1 14 = .ok (.ifCond .ge 5, 3) := by decide +kernel
theorem dX11_quarrel_17 : decode mX11_quarrel.2.1 17 = .ok (.iconst (-1), 1) := by decide +kernel
theorem dX11_quarrel_18 : decode mX11_quarrel.2.1 18 = .ok (.ireturn, 1) := by decide +kernel
theorem dX11_quarrel_19 : decode mX11_quarrel.2.1 19 = .ok (.aload_n 3, 1) := by decide +kernel
theorem dX11_quarrel_20 : decode mX11_quarrel.2.1 20 = .ok (.iload_n 2, 1) := by decide +kernel
theorem dX11_quarrel_21 : decode mX11_quarrel.2.1 21 = .ok (.invokevirtual 139, 3) := by decide +kernel
theorem dX11_quarrel_24 : decode mX11_quarrel.2.1 24 = .ok (.ireturn, 1) := by decide +kernel
theorem bX11_quarrel_0 {SC : Nat → Nat} {X : mh_X} {d : Nat} {Q : Option am_V → am_W → Prop} {bc bs : Nat} {w : am_W} {x1 : Int} {x2 : Int}
    (h : am_M (mh_G X) SC (d + 3) 0 0 mX1_lawNumbered [.inr (.inr (some (4, 0))), .inl x1] w (fun r w1 => am_A (mh_G X) SC (d + 4) mX11_quarrel Q 8 [(0, .inr (.inr (some (1, 0)))), (1, .inl x1), (2, .inl x2)] (r.toList ++ []) w1 bc bs)) :
    am_A (mh_G X) SC (d + 4) mX11_quarrel Q 0 [(0, .inr (.inr (some (1, 0)))), (1, .inl x1), (2, .inl x2)] [] w bc bs := by
  refine am_aload_n dX11_quarrel_0 (List.Mem.head _) ?_
  refine am_getf (f := 2) (v := .inr (.inr (some (4, 0)))) dX11_quarrel_1 hc_0 (by decide) wd_571 (by decide) rfl rfl ?_
  refine am_iload_n dX11_quarrel_4 (List.Mem.tail _ (List.Mem.head _)) ?_
  exact am_callv (d' := d + 3) (kc := 0) (ks := 0) (as := [.inl x1]) dX11_quarrel_5 wc_X1_lawNumbered wd_925 wd_926 wd_927 wd_115 ds_X1_lawNumbered (by decide) (by omega) (Nat.le_of_ble_eq_true rfl) (Nat.zero_le _) (Nat.zero_le _) hc_3 (by decide) rfl rfl h
theorem bX11_quarrel_8 {SC : Nat → Nat} {X : mh_X} {d : Nat} {Q : Option am_V → am_W → Prop} {bc bs : Nat} {w : am_W} {x1 : Int} {x2 : Int}
    (h : Q (some (.inl (-1))) w) :
    am_A (mh_G X) SC (d + 4) mX11_quarrel Q 8 [(0, .inr (.inr (some (1, 0)))), (1, .inl x1), (2, .inl x2)] [.inr (.inr none)] w bc bs := by
  refine am_astore_n (ls' := [(3, .inr (.inr none)), (0, .inr (.inr (some (1, 0)))), (1, .inl x1), (2, .inl x2)]) dX11_quarrel_8 (by decide) rfl ?_
  refine am_aload_n dX11_quarrel_9 (List.Mem.head _) ?_
  refine am_ifnull (tgt := 17) dX11_quarrel_10 (by decide) (fun _ => ?_) (fun e => absurd rfl e)
  refine am_iconst dX11_quarrel_17 (by unfold am_rg; omega) ?_
  exact am_ret (r := some (.inl (-1))) dX11_quarrel_18 (Or.inl rfl) rfl h
theorem bX11_quarrel_8a {SC : Nat → Nat} {X : mh_X} {d : Nat} {Q : Option am_V → am_W → Prop} {bc bs : Nat} {w : am_W} {x1 : Int} {x2 : Int} {js0 : Nat}
    (h : ((0 ≤ x2 → am_M (mh_G X) SC (d + 3) 0 0 mX3_quarrelNumbered [.inr (.inr (some (10, js0))), .inl x2] w (fun r w1 => am_A (mh_G X) SC (d + 4) mX11_quarrel Q 24 [(3, .inr (.inr (some (10, js0)))), (0, .inr (.inr (some (1, 0)))), (1, .inl x1), (2, .inl x2)] (r.toList ++ []) w1 bc bs)) ∧ (¬ 0 ≤ x2 → Q (some (.inl (-1))) w))) :
    am_A (mh_G X) SC (d + 4) mX11_quarrel Q 8 [(0, .inr (.inr (some (1, 0)))), (1, .inl x1), (2, .inl x2)] [.inr (.inr (some (10, js0)))] w bc bs := by
  refine am_astore_n (ls' := [(3, .inr (.inr (some (10, js0)))), (0, .inr (.inr (some (1, 0)))), (1, .inl x1), (2, .inl x2)]) dX11_quarrel_8 (by decide) rfl ?_
  refine am_aload_n dX11_quarrel_9 (List.Mem.head _) ?_
  refine am_ifnull (tgt := 17) dX11_quarrel_10 (by decide) (fun e => by cases e) (fun _ => ?_)
  refine am_iload_n dX11_quarrel_13 (List.Mem.tail _ (List.Mem.tail _ (List.Mem.tail _ (List.Mem.head _)))) ?_
  refine am_ifge (tgt := 19) dX11_quarrel_14 (by decide) (fun c1 => ?_) (fun c1 => ?_)
  · replace h := h.1 c1
    refine am_aload_n dX11_quarrel_19 (List.Mem.head _) ?_
    refine am_iload_n dX11_quarrel_20 (List.Mem.tail _ (List.Mem.tail _ (List.Mem.tail _ (List.Mem.head _)))) ?_
    exact am_callv (d' := d + 3) (kc := 0) (ks := 0) (as := [.inl x2]) dX11_quarrel_21 wc_X3_quarrelNumbered wd_988 wd_989 wd_990 wd_116 ds_X3_quarrelNumbered (by decide) (by omega) (Nat.le_of_ble_eq_true rfl) (Nat.zero_le _) (Nat.zero_le _) hc_4 (by decide) rfl rfl h
  · replace h := h.2 c1
    refine am_iconst dX11_quarrel_17 (by unfold am_rg; omega) ?_
    exact am_ret (r := some (.inl (-1))) dX11_quarrel_18 (Or.inl rfl) rfl h
theorem bX11_quarrel_24 {SC : Nat → Nat} {X : mh_X} {d : Nat} {Q : Option am_V → am_W → Prop} {bc bs : Nat} {w : am_W} {j3 : Nat} {x1 : Int} {x2 : Int} {xs0 : Int}
    (h : Q (some (.inl xs0)) w) :
    am_A (mh_G X) SC (d + 4) mX11_quarrel Q 24 [(3, .inr (.inr (some (10, j3)))), (0, .inr (.inr (some (1, 0)))), (1, .inl x1), (2, .inl x2)] [.inl xs0] w bc bs := by
  exact am_ret (r := some (.inl xs0)) dX11_quarrel_24 (Or.inl rfl) rfl h
-- MourningHouse.date(I)I
theorem dX11_date_0 : decode mX11_date.2.1 0 = .ok (.iload_n 1, 1) := by decide +kernel
theorem dX11_date_1 : decode mX11_date.2.1 1 = .ok (.invokestatic 143, 3) := by decide +kernel
theorem dX11_date_4 : decode mX11_date.2.1 4 = .ok (.ifCond .eq 10, 3) := by decide +kernel
theorem dX11_date_7 : decode mX11_date.2.1 7 = .ok (.iload_n 1, 1) := by decide +kernel
theorem dX11_date_8 : decode mX11_date.2.1 8 = .ok (.invokestatic 146, 3) := by decide +kernel
theorem dX11_date_11 : decode mX11_date.2.1 11 = .ok (.goto 4, 3) := by decide +kernel
theorem dX11_date_14 : decode mX11_date.2.1 14 = .ok (.iconst (-1), 1) := by decide +kernel
theorem dX11_date_15 : decode mX11_date.2.1 15 = .ok (.ireturn, 1) := by decide +kernel
theorem bX11_date_0 {SC : Nat → Nat} {X : mh_X} {d : Nat} {Q : Option am_V → am_W → Prop} {bc bs : Nat} {w : am_W} {x1 : Int}
    (h : ((¬ (¬ x1 < (-36524) ∧ (¬ 73047 < x1)) → Q (some (.inl (-1))) w) ∧ ((¬ x1 < (-36524) ∧ (¬ 73047 < x1)) → am_M (mh_G X) SC (d + 1) 0 0 mX0_dateOf [.inl x1] w (fun r w1 => am_A (mh_G X) SC (d + 2) mX11_date Q 11 [(0, .inr (.inr (some (1, 0)))), (1, .inl x1)] (r.toList ++ []) w1 bc bs)))) :
    am_A (mh_G X) SC (d + 2) mX11_date Q 0 [(0, .inr (.inr (some (1, 0)))), (1, .inl x1)] [] w bc bs := by
  refine am_iload_n dX11_date_0 (List.Mem.tail _ (List.Mem.head _)) ?_
  refine am_calls (d' := d + 1) (kc := 0) (ks := 0) (as := [.inl x1]) dX11_date_1 wc_X0_has wd_1004 wd_1005 wd_129 ds_X0_has (by decide) (by omega) (Nat.le_of_ble_eq_true rfl) (Nat.zero_le _) (Nat.zero_le _) rfl (sX0_has (d := d + 0) (x0 := x1)  ?_)
  show am_A (mh_G X) SC (d + 2) mX11_date Q 4 [(0, .inr (.inr (some (1, 0)))), (1, .inl x1)] [.inl (if (¬ x1 < (-36524) ∧ (¬ 73047 < x1)) then 1 else 0)] w bc bs
  refine am_ifeq (tgt := 14) dX11_date_4 (by decide) (fun c1 => ?_) (fun c1 => ?_)
  · replace c1 := am_beq1 c1
    replace h := h.1 c1
    refine am_iconst dX11_date_14 (by unfold am_rg; omega) ?_
    exact am_ret (r := some (.inl (-1))) dX11_date_15 (Or.inl rfl) rfl h
  · replace c1 := am_beq2 c1
    replace h := h.2 c1
    refine am_iload_n dX11_date_7 (List.Mem.tail _ (List.Mem.head _)) ?_
    exact am_calls (d' := d + 1) (kc := 0) (ks := 0) (as := [.inl x1]) dX11_date_8 wc_X0_dateOf wd_1009 wd_1010 wd_129 ds_X0_dateOf (by decide) (by omega) (Nat.le_of_ble_eq_true rfl) (Nat.zero_le _) (Nat.zero_le _) rfl h
theorem bX11_date_11 {SC : Nat → Nat} {X : mh_X} {d : Nat} {Q : Option am_V → am_W → Prop} {bc bs : Nat} {w : am_W} {x1 : Int} {xs0 : Int}
    (h : Q (some (.inl xs0)) w) :
    am_A (mh_G X) SC (d + 2) mX11_date Q 11 [(0, .inr (.inr (some (1, 0)))), (1, .inl x1)] [.inl xs0] w bc bs := by
  refine am_goto (tgt := 15) dX11_date_11 (by decide) ?_
  exact am_ret (r := some (.inl xs0)) dX11_date_15 (Or.inl rfl) rfl h
-- MourningHouse.day(I)I
theorem dX11_day_0 : decode mX11_day.2.1 0 = .ok (.iload_n 1, 1) := by decide +kernel
theorem dX11_day_1 : decode mX11_day.2.1 1 = .ok (.invokestatic 149, 3) := by decide +kernel
theorem dX11_day_4 : decode mX11_day.2.1 4 = .ok (.ifCond .eq 25, 3) := by decide +kernel
theorem dX11_day_7 : decode mX11_day.2.1 7 = .ok (.iload_n 1, 1) := by decide +kernel
theorem dX11_day_8 : decode mX11_day.2.1 8 = .ok (.sipush 10000, 3) := by decide +kernel
theorem dX11_day_11 : decode mX11_day.2.1 11 = .ok (.idiv, 1) := by decide +kernel
theorem dX11_day_12 : decode mX11_day.2.1 12 = .ok (.iload_n 1, 1) := by decide +kernel
theorem dX11_day_13 : decode mX11_day.2.1 13 = .ok (.bipush 100, 2) := by decide +kernel
theorem dX11_day_15 : decode mX11_day.2.1 15 = .ok (.idiv, 1) := by decide +kernel
theorem dX11_day_16 : decode mX11_day.2.1 16 = .ok (.bipush 100, 2) := by decide +kernel
theorem dX11_day_18 : decode mX11_day.2.1 18 = .ok (.irem, 1) := by decide +kernel
theorem dX11_day_19 : decode mX11_day.2.1 19 = .ok (.iload_n 1, 1) := by decide +kernel
theorem dX11_day_20 : decode mX11_day.2.1 20 = .ok (.bipush 100, 2) := by decide +kernel
theorem dX11_day_22 : decode mX11_day.2.1 22 = .ok (.irem, 1) := by decide +kernel
theorem dX11_day_23 : decode mX11_day.2.1 23 = .ok (.invokestatic 152, 3) := by decide +kernel
theorem dX11_day_26 : decode mX11_day.2.1 26 = .ok (.goto 5, 3) := by decide +kernel
theorem dX11_day_29 : decode mX11_day.2.1 29 = .ok (.ldc 156, 2) := by decide +kernel
theorem dX11_day_31 : decode mX11_day.2.1 31 = .ok (.ireturn, 1) := by decide +kernel
theorem bX11_day_0 {SC : Nat → Nat} {X : mh_X} {d : Nat} {Q : Option am_V → am_W → Prop} {bc bs : Nat} {w : am_W} {x1 : Int}
    (h : am_M (mh_G X) SC (d + 2) 0 0 mX0_hasDate [.inl x1] w (fun r w1 => am_A (mh_G X) SC (d + 3) mX11_day Q 4 [(0, .inr (.inr (some (1, 0)))), (1, .inl x1)] (r.toList ++ []) w1 bc bs)) :
    am_A (mh_G X) SC (d + 3) mX11_day Q 0 [(0, .inr (.inr (some (1, 0)))), (1, .inl x1)] [] w bc bs := by
  refine am_iload_n dX11_day_0 (List.Mem.tail _ (List.Mem.head _)) ?_
  exact am_calls (d' := d + 2) (kc := 0) (ks := 0) (as := [.inl x1]) dX11_day_1 wc_X0_hasDate wd_1020 wd_1021 wd_129 ds_X0_hasDate (by decide) (by omega) (Nat.le_of_ble_eq_true rfl) (Nat.zero_le _) (Nat.zero_le _) rfl h
theorem bX11_day_4 {SC : Nat → Nat} {X : mh_X} {d : Nat} {Q : Option am_V → am_W → Prop} {bc bs : Nat} {w : am_W} {x1 : Int} {xs0 : Int}
    (h : ((xs0 = 0 → Q (some (.inl (-2147483648))) w) ∧ (¬ xs0 = 0 → am_M (mh_G X) SC (d + 2) 0 0 mX0_dayOf [.inl (am_w (Int.tdiv x1 10000)), .inl (am_w (Int.tmod (am_w (Int.tdiv x1 100)) 100)), .inl (am_w (Int.tmod x1 100))] w (fun r w1 => am_A (mh_G X) SC (d + 3) mX11_day Q 26 [(0, .inr (.inr (some (1, 0)))), (1, .inl x1)] (r.toList ++ []) w1 bc bs)))) :
    am_A (mh_G X) SC (d + 3) mX11_day Q 4 [(0, .inr (.inr (some (1, 0)))), (1, .inl x1)] [.inl xs0] w bc bs := by
  refine am_ifeq (tgt := 29) dX11_day_4 (by decide) (fun c1 => ?_) (fun c1 => ?_)
  · replace h := h.1 c1
    refine am_ldcV (n := (-2147483648)) dX11_day_29 (by decide) wd_1028 (by unfold am_rg; omega) ?_
    exact am_ret (r := some (.inl (-2147483648))) dX11_day_31 (Or.inl rfl) rfl h
  · replace h := h.2 c1
    refine am_iload_n dX11_day_7 (List.Mem.tail _ (List.Mem.head _)) ?_
    refine am_sipush dX11_day_8 (by decide) (by unfold am_rg; omega) ?_
    refine am_idiv dX11_day_11 (by decide) ?_
    refine am_iload_n dX11_day_12 (List.Mem.tail _ (List.Mem.head _)) ?_
    refine am_bipush dX11_day_13 (by decide) (by unfold am_rg; omega) ?_
    refine am_idiv dX11_day_15 (by decide) ?_
    refine am_bipush dX11_day_16 (by decide) (by unfold am_rg; omega) ?_
    refine am_irem dX11_day_18 (by decide) ?_
    refine am_iload_n dX11_day_19 (List.Mem.tail _ (List.Mem.head _)) ?_
    refine am_bipush dX11_day_20 (by decide) (by unfold am_rg; omega) ?_
    refine am_irem dX11_day_22 (by decide) ?_
    exact am_calls (d' := d + 2) (kc := 0) (ks := 0) (as := [.inl (am_w (Int.tdiv x1 10000)), .inl (am_w (Int.tmod (am_w (Int.tdiv x1 100)) 100)), .inl (am_w (Int.tmod x1 100))]) dX11_day_23 wc_X0_dayOf wd_1025 wd_1026 wd_129 ds_X0_dayOf (by decide) (by omega) (Nat.le_of_ble_eq_true rfl) (Nat.zero_le _) (Nat.zero_le _) rfl h
theorem bX11_day_26 {SC : Nat → Nat} {X : mh_X} {d : Nat} {Q : Option am_V → am_W → Prop} {bc bs : Nat} {w : am_W} {x1 : Int} {xs0 : Int}
    (h : Q (some (.inl xs0)) w) :
    am_A (mh_G X) SC (d + 3) mX11_day Q 26 [(0, .inr (.inr (some (1, 0)))), (1, .inl x1)] [.inl xs0] w bc bs := by
  refine am_goto (tgt := 31) dX11_day_26 (by decide) ?_
  exact am_ret (r := some (.inl xs0)) dX11_day_31 (Or.inl rfl) rfl h
-- MourningHouse.months(II)I
theorem dX11_months_0 : decode mX11_months.2.1 0 = .ok (.iload_n 1, 1) := by decide +kernel
theorem dX11_months_1 : decode mX11_months.2.1 1 = .ok (.invokestatic 143, 3) := by decide +kernel
theorem dX11_months_4 : decode mX11_months.2.1 4 = .ok (.ifCond .eq 14, 3) := by decide +kernel
theorem dX11_months_7 : decode mX11_months.2.1 7 = .ok (.iload_n 2, 1) := by decide +kernel
theorem dX11_months_8 : decode mX11_months.2.1 8 = .ok (.ifCond .lt 10, 3) := by decide +kernel
theorem dX11_months_11 : decode mX11_months.2.1 11 = .ok (.iload_n 2, 1) := by decide +kernel
theorem dX11_months_12 : decode mX11_months.2.1 12 = .ok (.sipush 12000, 3) := by decide +kernel
theorem dX11_months_15 : decode mX11_months.2.1 15 = .ok (.if_icmp .le 6, 3) := by decide +kernel
theorem dX11_months_18 : decode mX11_months.2.1 18 = .ok (.ldc 156, 2) := by decide +kernel
theorem dX11_months_20 : decode mX11_months.2.1 20 = .ok (.ireturn, 1) := by decide +kernel
theorem dX11_months_21 : decode mX11_months.2.1 21 = .ok (.iload_n 1, 1) := by decide +kernel
theorem dX11_months_22 : decode mX11_months.2.1 22 = .ok (.iload_n 2, 1) := by decide +kernel
theorem dX11_months_23 : decode mX11_months.2.1 23 = .ok (.invokestatic 157, 3) := by decide +kernel
theorem dX11_months_26 : decode mX11_months.2.1 26 = .ok (.istore_n 3, 1) := by decide +kernel
theorem dX11_months_27 : decode mX11_months.2.1 27 = .ok (.iload_n 3, 1) := by decide +kernel
theorem dX11_months_28 : decode mX11_months.2.1 28 = .ok (.invokestatic 143, 3) := by decide +kernel
theorem dX11_months_31 : decode mX11_months.2.1 31 = .ok (.ifCond .eq 7, 3) := by decide +kernel
theorem dX11_months_34 : decode mX11_months.2.1 34 = .ok (.iload_n 3, 1) := by decide +kernel
theorem dX11_months_35 : decode mX11_months.2.1 35 = .ok (.goto 5, 3) := by decide +kernel
theorem dX11_months_38 : decode mX11_months.2.1 38 = .ok (.ldc 156, 2) := by decide +kernel
theorem dX11_months_40 : decode mX11_months.2.1 40 = .ok (.ireturn, 1) := by decide +kernel
theorem bX11_months_0 {SC : Nat → Nat} {X : mh_X} {d : Nat} {Q : Option am_V → am_W → Prop} {bc bs : Nat} {w : am_W} {x1 : Int} {x2 : Int}
    (h : ((¬ (¬ x1 < (-36524) ∧ (¬ 73047 < x1)) → Q (some (.inl (-2147483648))) w) ∧ ((¬ x1 < (-36524) ∧ (¬ 73047 < x1)) → ((x2 < 0 → Q (some (.inl (-2147483648))) w) ∧ (¬ x2 < 0 → ((x2 ≤ 12000 → am_M (mh_G X) SC (d + 2) 0 0 mX0_later [.inl x1, .inl x2] w (fun r w1 => am_A (mh_G X) SC (d + 3) mX11_months Q 26 [(0, .inr (.inr (some (1, 0)))), (1, .inl x1), (2, .inl x2)] (r.toList ++ []) w1 bc bs)) ∧ (¬ x2 ≤ 12000 → Q (some (.inl (-2147483648))) w))))))) :
    am_A (mh_G X) SC (d + 3) mX11_months Q 0 [(0, .inr (.inr (some (1, 0)))), (1, .inl x1), (2, .inl x2)] [] w bc bs := by
  refine am_iload_n dX11_months_0 (List.Mem.tail _ (List.Mem.head _)) ?_
  refine am_calls (d' := d + 2) (kc := 0) (ks := 0) (as := [.inl x1]) dX11_months_1 wc_X0_has wd_1004 wd_1005 wd_129 ds_X0_has (by decide) (by omega) (Nat.le_of_ble_eq_true rfl) (Nat.zero_le _) (Nat.zero_le _) rfl (sX0_has (d := d + 1) (x0 := x1)  ?_)
  show am_A (mh_G X) SC (d + 3) mX11_months Q 4 [(0, .inr (.inr (some (1, 0)))), (1, .inl x1), (2, .inl x2)] [.inl (if (¬ x1 < (-36524) ∧ (¬ 73047 < x1)) then 1 else 0)] w bc bs
  refine am_ifeq (tgt := 18) dX11_months_4 (by decide) (fun c1 => ?_) (fun c1 => ?_)
  · replace c1 := am_beq1 c1
    replace h := h.1 c1
    refine am_ldcV (n := (-2147483648)) dX11_months_18 (by decide) wd_1028 (by unfold am_rg; omega) ?_
    exact am_ret (r := some (.inl (-2147483648))) dX11_months_20 (Or.inl rfl) rfl h
  · replace c1 := am_beq2 c1
    replace h := h.2 c1
    refine am_iload_n dX11_months_7 (List.Mem.tail _ (List.Mem.tail _ (List.Mem.head _))) ?_
    refine am_iflt (tgt := 18) dX11_months_8 (by decide) (fun c2 => ?_) (fun c2 => ?_)
    · replace h := h.1 c2
      refine am_ldcV (n := (-2147483648)) dX11_months_18 (by decide) wd_1028 (by unfold am_rg; omega) ?_
      exact am_ret (r := some (.inl (-2147483648))) dX11_months_20 (Or.inl rfl) rfl h
    · replace h := h.2 c2
      refine am_iload_n dX11_months_11 (List.Mem.tail _ (List.Mem.tail _ (List.Mem.head _))) ?_
      refine am_sipush dX11_months_12 (by decide) (by unfold am_rg; omega) ?_
      refine am_icmple (tgt := 21) dX11_months_15 (by decide) (fun c3 => ?_) (fun c3 => ?_)
      · replace h := h.1 c3
        refine am_iload_n dX11_months_21 (List.Mem.tail _ (List.Mem.head _)) ?_
        refine am_iload_n dX11_months_22 (List.Mem.tail _ (List.Mem.tail _ (List.Mem.head _))) ?_
        exact am_calls (d' := d + 2) (kc := 0) (ks := 0) (as := [.inl x1, .inl x2]) dX11_months_23 wc_X0_later wd_1033 wd_1034 wd_129 ds_X0_later (by decide) (by omega) (Nat.le_of_ble_eq_true rfl) (Nat.zero_le _) (Nat.zero_le _) rfl h
      · replace h := h.2 c3
        refine am_ldcV (n := (-2147483648)) dX11_months_18 (by decide) wd_1028 (by unfold am_rg; omega) ?_
        exact am_ret (r := some (.inl (-2147483648))) dX11_months_20 (Or.inl rfl) rfl h
theorem bX11_months_26 {SC : Nat → Nat} {X : mh_X} {d : Nat} {Q : Option am_V → am_W → Prop} {bc bs : Nat} {w : am_W} {x1 : Int} {x2 : Int} {xs0 : Int}
    (h : ((¬ (¬ xs0 < (-36524) ∧ (¬ 73047 < xs0)) → Q (some (.inl (-2147483648))) w) ∧ ((¬ xs0 < (-36524) ∧ (¬ 73047 < xs0)) → Q (some (.inl xs0)) w))) :
    am_A (mh_G X) SC (d + 3) mX11_months Q 26 [(0, .inr (.inr (some (1, 0)))), (1, .inl x1), (2, .inl x2)] [.inl xs0] w bc bs := by
  refine am_istore_n (ls' := [(3, .inl xs0), (0, .inr (.inr (some (1, 0)))), (1, .inl x1), (2, .inl x2)]) dX11_months_26 (by decide) rfl ?_
  refine am_iload_n dX11_months_27 (List.Mem.head _) ?_
  refine am_calls (d' := d + 2) (kc := 0) (ks := 0) (as := [.inl xs0]) dX11_months_28 wc_X0_has wd_1004 wd_1005 wd_129 ds_X0_has (by decide) (by omega) (Nat.le_of_ble_eq_true rfl) (Nat.zero_le _) (Nat.zero_le _) rfl (sX0_has (d := d + 1) (x0 := xs0)  ?_)
  show am_A (mh_G X) SC (d + 3) mX11_months Q 31 [(3, .inl xs0), (0, .inr (.inr (some (1, 0)))), (1, .inl x1), (2, .inl x2)] [.inl (if (¬ xs0 < (-36524) ∧ (¬ 73047 < xs0)) then 1 else 0)] w bc bs
  refine am_ifeq (tgt := 38) dX11_months_31 (by decide) (fun c1 => ?_) (fun c1 => ?_)
  · replace c1 := am_beq1 c1
    replace h := h.1 c1
    refine am_ldcV (n := (-2147483648)) dX11_months_38 (by decide) wd_1028 (by unfold am_rg; omega) ?_
    exact am_ret (r := some (.inl (-2147483648))) dX11_months_40 (Or.inl rfl) rfl h
  · replace c1 := am_beq2 c1
    replace h := h.2 c1
    refine am_iload_n dX11_months_34 (List.Mem.head _) ?_
    refine am_goto (tgt := 40) dX11_months_35 (by decide) ?_
    exact am_ret (r := some (.inl xs0)) dX11_months_40 (Or.inl rfl) rfl h
-- MourningHouse.go(I)I
theorem dX11_go_0 : decode mX11_go.2.1 0 = .ok (.iload_n 1, 1) := by decide +kernel
theorem dX11_go_1 : decode mX11_go.2.1 1 = .ok (.ifCond .lt 10, 3) := by decide +kernel
theorem dX11_go_4 : decode mX11_go.2.1 4 = .ok (.iload_n 1, 1) := by decide +kernel
theorem dX11_go_5 : decode mX11_go.2.1 5 = .ok (.sipush 2000, 3) := by decide +kernel
theorem dX11_go_8 : decode mX11_go.2.1 8 = .ok (.if_icmp .le 5, 3) := by decide +kernel
theorem dX11_go_11 : decode mX11_go.2.1 11 = .ok (.iconst (-1), 1) := by decide +kernel
theorem dX11_go_12 : decode mX11_go.2.1 12 = .ok (.ireturn, 1) := by decide +kernel
theorem dX11_go_13 : decode mX11_go.2.1 13 = .ok (.aload_n 0, 1) := by decide +kernel
theorem dX11_go_14 : decode mX11_go.2.1 14 = .ok (.getfield 79, 3) := by decide +kernel
theorem dX11_go_17 : decode mX11_go.2.1 17 = .ok (.iload_n 1, 1) := by decide +kernel
theorem dX11_go_18 : decode mX11_go.2.1 18 = .ok (.iadd, 1) := by decide +kernel
theorem dX11_go_19 : decode mX11_go.2.1 19 = .ok (.ldc 161, 2) := by decide +kernel
theorem dX11_go_21 : decode mX11_go.2.1 21 = .ok (.invokestatic 162, 3) := by decide +kernel
theorem dX11_go_24 : decode mX11_go.2.1 24 = .ok (.istore_n 2, 1) := by decide +kernel
theorem dX11_go_25 : decode mX11_go.2.1 25 = .ok (.aload_n 0, 1) := by decide +kernel
theorem dX11_go_26 : decode mX11_go.2.1 26 = .ok (.getfield 49, 3) := by decide +kernel
theorem dX11_go_29 : decode mX11_go.2.1 29 = .ok (.iload_n 2, 1) := by decide +kernel
theorem dX11_go_30 : decode mX11_go.2.1 30 = .ok (.aload_n 0, 1) := by decide +kernel
theorem dX11_go_31 : decode mX11_go.2.1 31 = .ok (.getfield 79, 3) := by decide +kernel
theorem dX11_go_34 : decode mX11_go.2.1 34 = .ok (.isub, 1) := by decide +kernel
theorem dX11_go_35 : decode mX11_go.2.1 35 = .ok (.invokevirtual 167, 3) := by decide +kernel
theorem dX11_go_38 : decode mX11_go.2.1 38 = .ok (.aload_n 0, 1) := by decide +kernel
theorem dX11_go_39 : decode mX11_go.2.1 39 = .ok (.iload_n 2, 1) := by decide +kernel
theorem dX11_go_40 : decode mX11_go.2.1 40 = .ok (.putfield 79, 3) := by decide +kernel
theorem dX11_go_43 : decode mX11_go.2.1 43 = .ok (.aload_n 0, 1) := by decide +kernel
theorem dX11_go_44 : decode mX11_go.2.1 44 = .ok (.getfield 79, 3) := by decide +kernel
theorem dX11_go_47 : decode mX11_go.2.1 47 = .ok (.ireturn, 1) := by decide +kernel
theorem bX11_go_0 {SC : Nat → Nat} {X : mh_X} {d : Nat} {Q : Option am_V → am_W → Prop} {bc bs : Nat} {w : am_W} {x1 : Int}
    (h : ((x1 < 0 → Q (some (.inl (-1))) w) ∧ (¬ x1 < 0 → ((x1 ≤ 2000 → am_M (mh_G X) SC (d + 4) 0 0 mX9_work [.inr (.inr (some (7, 0))), .inl (am_w ((min (am_w ((w.1 1 0 12) + x1)) 73047) - (w.1 1 0 12)))] w (fun r w1 => am_A (mh_G X) SC (d + 5) mX11_go Q 38 [(2, .inl (min (am_w ((w.1 1 0 12) + x1)) 73047)), (0, .inr (.inr (some (1, 0)))), (1, .inl x1)] (r.toList ++ []) w1 bc bs)) ∧ (¬ x1 ≤ 2000 → Q (some (.inl (-1))) w))))) :
    am_A (mh_G X) SC (d + 5) mX11_go Q 0 [(0, .inr (.inr (some (1, 0)))), (1, .inl x1)] [] w bc bs := by
  refine am_iload_n dX11_go_0 (List.Mem.tail _ (List.Mem.head _)) ?_
  refine am_iflt (tgt := 11) dX11_go_1 (by decide) (fun c1 => ?_) (fun c1 => ?_)
  · replace h := h.1 c1
    refine am_iconst dX11_go_11 (by unfold am_rg; omega) ?_
    exact am_ret (r := some (.inl (-1))) dX11_go_12 (Or.inl rfl) rfl h
  · replace h := h.2 c1
    refine am_iload_n dX11_go_4 (List.Mem.tail _ (List.Mem.head _)) ?_
    refine am_sipush dX11_go_5 (by decide) (by unfold am_rg; omega) ?_
    refine am_icmple (tgt := 13) dX11_go_8 (by decide) (fun c2 => ?_) (fun c2 => ?_)
    · replace h := h.1 c2
      refine am_aload_n dX11_go_13 (List.Mem.head _) ?_
      refine am_getf (f := 12) (v := .inl (w.1 1 0 12)) dX11_go_14 hc_0 (by decide) wd_581 (by decide) rfl rfl ?_
      refine am_iload_n dX11_go_17 (List.Mem.tail _ (List.Mem.head _)) ?_
      refine am_iadd dX11_go_18 ?_
      refine am_ldcV (n := 73047) dX11_go_19 (by decide) wd_1043 (by unfold am_rg; omega) ?_
      refine am_mmin dX11_go_21 wd_1044 (by omega) (Nat.le_of_ble_eq_true rfl) ?_
      refine am_istore_n (ls' := [(2, .inl (min (am_w ((w.1 1 0 12) + x1)) 73047)), (0, .inr (.inr (some (1, 0)))), (1, .inl x1)]) dX11_go_24 (by decide) rfl ?_
      refine am_aload_n dX11_go_25 (List.Mem.tail _ (List.Mem.head _)) ?_
      refine am_getf (f := 5) (v := .inr (.inr (some (7, 0)))) dX11_go_26 hc_0 (by decide) wd_574 (by decide) rfl rfl ?_
      refine am_iload_n dX11_go_29 (List.Mem.head _) ?_
      refine am_aload_n dX11_go_30 (List.Mem.tail _ (List.Mem.head _)) ?_
      refine am_getf (f := 12) (v := .inl (w.1 1 0 12)) dX11_go_31 hc_0 (by decide) wd_581 (by decide) rfl rfl ?_
      refine am_isub dX11_go_34 ?_
      exact am_callv (d' := d + 4) (kc := 0) (ks := 0) (as := [.inl (am_w ((min (am_w ((w.1 1 0 12) + x1)) 73047) - (w.1 1 0 12)))]) dX11_go_35 wc_X9_work wd_1045 wd_1046 wd_1047 wd_120 ds_X9_work (by decide) (by omega) (Nat.le_of_ble_eq_true rfl) (Nat.zero_le _) (Nat.zero_le _) hc_8 (by decide) rfl rfl h
    · replace h := h.2 c2
      refine am_iconst dX11_go_11 (by unfold am_rg; omega) ?_
      exact am_ret (r := some (.inl (-1))) dX11_go_12 (Or.inl rfl) rfl h
theorem bX11_go_38 {SC : Nat → Nat} {X : mh_X} {d : Nat} {Q : Option am_V → am_W → Prop} {bc bs : Nat} {w : am_W} {x2 : Int} {x1 : Int}
    (h : Q (some (.inl ((am_up w.1 1 0 12 x2) 1 0 12))) ((am_up w.1 1 0 12 x2), w.2)) :
    am_A (mh_G X) SC (d + 5) mX11_go Q 38 [(2, .inl x2), (0, .inr (.inr (some (1, 0)))), (1, .inl x1)] [] w bc bs := by
  refine am_aload_n dX11_go_38 (List.Mem.tail _ (List.Mem.head _)) ?_
  refine am_iload_n dX11_go_39 (List.Mem.head _) ?_
  refine am_putf (f := 12) dX11_go_40 hc_0 (by decide) wd_581 rfl (Or.inl rfl) (Or.inl (by decide)) rfl ?_
  refine am_aload_n dX11_go_43 (List.Mem.tail _ (List.Mem.head _)) ?_
  refine am_getf (f := 12) (v := .inl ((am_up w.1 1 0 12 x2) 1 0 12)) dX11_go_44 hc_0 (by decide) wd_581 (by decide) rfl rfl ?_
  exact am_ret (r := some (.inl ((am_up w.1 1 0 12 x2) 1 0 12))) dX11_go_47 (Or.inl rfl) rfl h
-- MourningHouse.isPast(I)Z
theorem dX11_isPast_0 : decode mX11_isPast.2.1 0 = .ok (.iload_n 1, 1) := by decide +kernel
theorem dX11_isPast_1 : decode mX11_isPast.2.1 1 = .ok (.invokestatic 143, 3) := by decide +kernel
theorem dX11_isPast_4 : decode mX11_isPast.2.1 4 = .ok (.ifCond .eq 15, 3) := by decide +kernel
theorem dX11_isPast_7 : decode mX11_isPast.2.1 7 = .ok (.iload_n 1, 1) := by decide +kernel
theorem dX11_isPast_8 : decode mX11_isPast.2.1 8 = .ok (.aload_n 0, 1) := by decide +kernel
theorem dX11_isPast_9 : decode mX11_isPast.2.1 9 = .ok (.getfield 79, 3) := by decide +kernel
theorem dX11_isPast_12 : decode mX11_isPast.2.1 12 = .ok (.if_icmp .gt 7, 3) := by decide +kernel
theorem dX11_isPast_15 : decode mX11_isPast.2.1 15 = .ok (.iconst 1, 1) := by decide +kernel
theorem dX11_isPast_16 : decode mX11_isPast.2.1 16 = .ok (.goto 4, 3) := by decide +kernel
theorem dX11_isPast_19 : decode mX11_isPast.2.1 19 = .ok (.iconst 0, 1) := by decide +kernel
theorem dX11_isPast_20 : decode mX11_isPast.2.1 20 = .ok (.ireturn, 1) := by decide +kernel
theorem sX11_isPast {SC : Nat → Nat} {X : mh_X} {d kc ks : Nat} {Q : Option am_V → am_W → Prop} {w : am_W} {x1 : Int}
    (h : Q (some (.inl (if ((¬ x1 < (-36524) ∧ (¬ 73047 < x1)) ∧ (¬ (w.1 1 0 12) < x1)) then 1 else 0))) w) : am_M (mh_G X) SC (d + 2) kc ks mX11_isPast [.inr (.inr (some (1, 0))), .inl x1] w Q := by
  refine am_M_of (by decide) (Nat.le_of_ble_eq_true rfl) ?_
  show am_A (mh_G X) SC (d + 2) mX11_isPast Q 0 [(0, .inr (.inr (some (1, 0)))), (1, .inl x1)] [] w kc ks
  refine am_iload_n dX11_isPast_0 (List.Mem.tail _ (List.Mem.head _)) ?_
  refine am_calls (d' := d + 1) (kc := 0) (ks := 0) (as := [.inl x1]) dX11_isPast_1 wc_X0_has wd_1004 wd_1005 wd_129 ds_X0_has (by decide) (by omega) (Nat.le_of_ble_eq_true rfl) (Nat.zero_le _) (Nat.zero_le _) rfl (sX0_has (d := d + 0) (x0 := x1)  ?_)
  show am_A (mh_G X) SC (d + 2) mX11_isPast Q 4 [(0, .inr (.inr (some (1, 0)))), (1, .inl x1)] [.inl (if (¬ x1 < (-36524) ∧ (¬ 73047 < x1)) then 1 else 0)] w kc ks
  refine am_ifeq (tgt := 19) dX11_isPast_4 (by decide) (fun c1 => ?_) (fun c1 => ?_)
  · replace c1 := am_beq1 c1
    refine am_iconst dX11_isPast_19 (by unfold am_rg; omega) ?_
    rw [if_neg (by omega)] at h
    exact am_ret (r := some (.inl 0)) dX11_isPast_20 (Or.inr (Or.inl ⟨rfl, (Or.inl rfl)⟩)) rfl h
  · replace c1 := am_beq2 c1
    refine am_iload_n dX11_isPast_7 (List.Mem.tail _ (List.Mem.head _)) ?_
    refine am_aload_n dX11_isPast_8 (List.Mem.head _) ?_
    refine am_getf (f := 12) (v := .inl (w.1 1 0 12)) dX11_isPast_9 hc_0 (by decide) wd_581 (by decide) rfl rfl ?_
    refine am_icmpgt (tgt := 19) dX11_isPast_12 (by decide) (fun c2 => ?_) (fun c2 => ?_)
    · refine am_iconst dX11_isPast_19 (by unfold am_rg; omega) ?_
      rw [if_neg (by omega)] at h
      exact am_ret (r := some (.inl 0)) dX11_isPast_20 (Or.inr (Or.inl ⟨rfl, (Or.inl rfl)⟩)) rfl h
    · refine am_iconst dX11_isPast_15 (by unfold am_rg; omega) ?_
      refine am_goto (tgt := 20) dX11_isPast_16 (by decide) ?_
      rw [if_pos (by omega)] at h
      exact am_ret (r := some (.inl 1)) dX11_isPast_20 (Or.inr (Or.inl ⟨rfl, (Or.inr rfl)⟩)) rfl h
-- MourningHouse.person(IIII)I
theorem dX11_person_0 : decode mX11_person.2.1 0 = .ok (.aload_n 0, 1) := by decide +kernel
theorem dX11_person_1 : decode mX11_person.2.1 1 = .ok (.iload 4, 2) := by decide +kernel
theorem dX11_person_3 : decode mX11_person.2.1 3 = .ok (.invokevirtual 170, 3) := by decide +kernel
theorem dX11_person_6 : decode mX11_person.2.1 6 = .ok (.ifCond .eq 18, 3) := by decide +kernel
theorem dX11_person_9 : decode mX11_person.2.1 9 = .ok (.aload_n 0, 1) := by decide +kernel
theorem dX11_person_10 : decode mX11_person.2.1 10 = .ok (.getfield 33, 3) := by decide +kernel
theorem dX11_person_13 : decode mX11_person.2.1 13 = .ok (.iload_n 1, 1) := by decide +kernel
theorem dX11_person_14 : decode mX11_person.2.1 14 = .ok (.iload_n 2, 1) := by decide +kernel
theorem dX11_person_15 : decode mX11_person.2.1 15 = .ok (.iload_n 3, 1) := by decide +kernel
theorem dX11_person_16 : decode mX11_person.2.1 16 = .ok (.iload 4, 2) := by decide +kernel
theorem dX11_person_18 : decode mX11_person.2.1 18 = .ok (.invokevirtual 173, 3) := by decide +kernel
theorem dX11_person_21 : decode mX11_person.2.1 21 = .ok (.ifCond .ne 5, 3) := by decide +kernel
theorem dX11_person_24 : decode mX11_person.2.1 24 = .ok (.iconst (-1), 1) := by decide +kernel
theorem dX11_person_25 : decode mX11_person.2.1 25 = .ok (.ireturn, 1) := by decide +kernel
theorem dX11_person_26 : decode mX11_person.2.1 26 = .ok (.aload_n 0, 1) := by decide +kernel
theorem dX11_person_27 : decode mX11_person.2.1 27 = .ok (.getfield 33, 3) := by decide +kernel
theorem dX11_person_30 : decode mX11_person.2.1 30 = .ok (.iload_n 1, 1) := by decide +kernel
theorem dX11_person_31 : decode mX11_person.2.1 31 = .ok (.iload_n 2, 1) := by decide +kernel
theorem dX11_person_32 : decode mX11_person.2.1 32 = .ok (.iload_n 3, 1) := by decide +kernel
theorem dX11_person_33 : decode mX11_person.2.1 33 = .ok (.iload 4, 2) := by decide +kernel
theorem dX11_person_35 : decode mX11_person.2.1 35 = .ok (.aload_n 0, 1) := by decide +kernel
theorem dX11_person_36 : decode mX11_person.2.1 36 = .ok (.getfield 79, 3) := by decide +kernel
theorem dX11_person_39 : decode mX11_person.2.1 39 = .ok (.invokevirtual 177, 3) := by decide +kernel
theorem dX11_person_42 : decode mX11_person.2.1 42 = .ok (.ireturn, 1) := by decide +kernel
theorem bX11_person_0 {SC : Nat → Nat} {X : mh_X} {d : Nat} {Q : Option am_V → am_W → Prop} {bc bs : Nat} {w : am_W} {x1 : Int} {x2 : Int} {x3 : Int} {x4 : Int}
    (h : ((¬ ((¬ x4 < (-36524) ∧ (¬ 73047 < x4)) ∧ (¬ (w.1 1 0 12) < x4)) → Q (some (.inl (-1))) w) ∧ (((¬ x4 < (-36524) ∧ (¬ 73047 < x4)) ∧ (¬ (w.1 1 0 12) < x4)) → am_M (mh_G X) SC (d + 3) 0 0 mX2_hasPlaceFor [.inr (.inr (some (5, 0))), .inl x1, .inl x2, .inl x3, .inl x4] w (fun r w1 => am_A (mh_G X) SC (d + 4) mX11_person Q 21 [(0, .inr (.inr (some (1, 0)))), (1, .inl x1), (2, .inl x2), (3, .inl x3), (4, .inl x4)] (r.toList ++ []) w1 bc bs)))) :
    am_A (mh_G X) SC (d + 4) mX11_person Q 0 [(0, .inr (.inr (some (1, 0)))), (1, .inl x1), (2, .inl x2), (3, .inl x3), (4, .inl x4)] [] w bc bs := by
  refine am_aload_n dX11_person_0 (List.Mem.head _) ?_
  refine am_iload dX11_person_1 (List.Mem.tail _ (List.Mem.tail _ (List.Mem.tail _ (List.Mem.tail _ (List.Mem.head _))))) ?_
  refine am_callv (d' := d + 3) (kc := 0) (ks := 0) (as := [.inl x4]) dX11_person_3 wc_X11_isPast wd_1069 wd_1071 wd_28 wd_112 ds_X11_isPast (by decide) (by omega) (Nat.le_of_ble_eq_true rfl) (Nat.zero_le _) (Nat.zero_le _) hc_0 (by decide) rfl rfl (sX11_isPast (d := d + 1) (x1 := x4)  ?_)
  show am_A (mh_G X) SC (d + 4) mX11_person Q 6 [(0, .inr (.inr (some (1, 0)))), (1, .inl x1), (2, .inl x2), (3, .inl x3), (4, .inl x4)] [.inl (if ((¬ x4 < (-36524) ∧ (¬ 73047 < x4)) ∧ (¬ (w.1 1 0 12) < x4)) then 1 else 0)] w bc bs
  refine am_ifeq (tgt := 24) dX11_person_6 (by decide) (fun c1 => ?_) (fun c1 => ?_)
  · replace c1 := am_beq1 c1
    replace h := h.1 c1
    refine am_iconst dX11_person_24 (by unfold am_rg; omega) ?_
    exact am_ret (r := some (.inl (-1))) dX11_person_25 (Or.inl rfl) rfl h
  · replace c1 := am_beq2 c1
    replace h := h.2 c1
    refine am_aload_n dX11_person_9 (List.Mem.head _) ?_
    refine am_getf (f := 3) (v := .inr (.inr (some (5, 0)))) dX11_person_10 hc_0 (by decide) wd_572 (by decide) rfl rfl ?_
    refine am_iload_n dX11_person_13 (List.Mem.tail _ (List.Mem.head _)) ?_
    refine am_iload_n dX11_person_14 (List.Mem.tail _ (List.Mem.tail _ (List.Mem.head _))) ?_
    refine am_iload_n dX11_person_15 (List.Mem.tail _ (List.Mem.tail _ (List.Mem.tail _ (List.Mem.head _)))) ?_
    refine am_iload dX11_person_16 (List.Mem.tail _ (List.Mem.tail _ (List.Mem.tail _ (List.Mem.tail _ (List.Mem.head _))))) ?_
    exact am_callv (d' := d + 3) (kc := 0) (ks := 0) (as := [.inl x1, .inl x2, .inl x3, .inl x4]) dX11_person_18 wc_X2_hasPlaceFor wd_1073 wd_1074 wd_1075 wd_117 ds_X2_hasPlaceFor (by decide) (by omega) (Nat.le_of_ble_eq_true rfl) (Nat.zero_le _) (Nat.zero_le _) hc_5 (by decide) rfl rfl h
theorem bX11_person_21 {SC : Nat → Nat} {X : mh_X} {d : Nat} {Q : Option am_V → am_W → Prop} {bc bs : Nat} {w : am_W} {x1 : Int} {x2 : Int} {x3 : Int} {x4 : Int} {xs0 : Int}
    (h : ((¬ xs0 = 0 → am_M (mh_G X) SC (d + 3) 0 0 mX2_add [.inr (.inr (some (5, 0))), .inl x1, .inl x2, .inl x3, .inl x4, .inl (w.1 1 0 12)] w (fun r w1 => am_A (mh_G X) SC (d + 4) mX11_person Q 42 [(0, .inr (.inr (some (1, 0)))), (1, .inl x1), (2, .inl x2), (3, .inl x3), (4, .inl x4)] (r.toList ++ []) w1 bc bs)) ∧ (xs0 = 0 → Q (some (.inl (-1))) w))) :
    am_A (mh_G X) SC (d + 4) mX11_person Q 21 [(0, .inr (.inr (some (1, 0)))), (1, .inl x1), (2, .inl x2), (3, .inl x3), (4, .inl x4)] [.inl xs0] w bc bs := by
  refine am_ifne (tgt := 26) dX11_person_21 (by decide) (fun c1 => ?_) (fun c1 => ?_)
  · replace h := h.1 c1
    refine am_aload_n dX11_person_26 (List.Mem.head _) ?_
    refine am_getf (f := 3) (v := .inr (.inr (some (5, 0)))) dX11_person_27 hc_0 (by decide) wd_572 (by decide) rfl rfl ?_
    refine am_iload_n dX11_person_30 (List.Mem.tail _ (List.Mem.head _)) ?_
    refine am_iload_n dX11_person_31 (List.Mem.tail _ (List.Mem.tail _ (List.Mem.head _))) ?_
    refine am_iload_n dX11_person_32 (List.Mem.tail _ (List.Mem.tail _ (List.Mem.tail _ (List.Mem.head _)))) ?_
    refine am_iload dX11_person_33 (List.Mem.tail _ (List.Mem.tail _ (List.Mem.tail _ (List.Mem.tail _ (List.Mem.head _))))) ?_
    refine am_aload_n dX11_person_35 (List.Mem.head _) ?_
    refine am_getf (f := 12) (v := .inl (w.1 1 0 12)) dX11_person_36 hc_0 (by decide) wd_581 (by decide) rfl rfl ?_
    exact am_callv (d' := d + 3) (kc := 0) (ks := 0) (as := [.inl x1, .inl x2, .inl x3, .inl x4, .inl (w.1 1 0 12)]) dX11_person_39 wc_X2_add wd_1085 wd_1086 wd_1087 wd_117 ds_X2_add (by decide) (by omega) (Nat.le_of_ble_eq_true rfl) (Nat.zero_le _) (Nat.zero_le _) hc_5 (by decide) rfl rfl h
  · replace h := h.2 c1
    refine am_iconst dX11_person_24 (by unfold am_rg; omega) ?_
    exact am_ret (r := some (.inl (-1))) dX11_person_25 (Or.inl rfl) rfl h
theorem bX11_person_42 {SC : Nat → Nat} {X : mh_X} {d : Nat} {Q : Option am_V → am_W → Prop} {bc bs : Nat} {w : am_W} {x1 : Int} {x2 : Int} {x3 : Int} {x4 : Int} {xs0 : Int}
    (h : Q (some (.inl xs0)) w) :
    am_A (mh_G X) SC (d + 4) mX11_person Q 42 [(0, .inr (.inr (some (1, 0)))), (1, .inl x1), (2, .inl x2), (3, .inl x3), (4, .inl x4)] [.inl xs0] w bc bs := by
  exact am_ret (r := some (.inl xs0)) dX11_person_42 (Or.inl rfl) rfl h
-- MourningHouse.death(II)Z
theorem dX11_death_0 : decode mX11_death.2.1 0 = .ok (.aload_n 0, 1) := by decide +kernel
theorem dX11_death_1 : decode mX11_death.2.1 1 = .ok (.iload_n 2, 1) := by decide +kernel
theorem dX11_death_2 : decode mX11_death.2.1 2 = .ok (.invokevirtual 170, 3) := by decide +kernel
theorem dX11_death_5 : decode mX11_death.2.1 5 = .ok (.ifCond .eq 38, 3) := by decide +kernel
theorem dX11_death_8 : decode mX11_death.2.1 8 = .ok (.aload_n 0, 1) := by decide +kernel
theorem dX11_death_9 : decode mX11_death.2.1 9 = .ok (.getfield 33, 3) := by decide +kernel
theorem dX11_death_12 : decode mX11_death.2.1 12 = .ok (.iload_n 1, 1) := by decide +kernel
theorem dX11_death_13 : decode mX11_death.2.1 13 = .ok (.invokevirtual 181, 3) := by decide +kernel
theorem dX11_death_16 : decode mX11_death.2.1 16 = .ok (.ifCond .eq 27, 3) := by decide +kernel
theorem dX11_death_19 : decode mX11_death.2.1 19 = .ok (.aload_n 0, 1) := by decide +kernel
theorem dX11_death_20 : decode mX11_death.2.1 20 = .ok (.getfield 33, 3) := by decide +kernel
theorem dX11_death_23 : decode mX11_death.2.1 23 = .ok (.iload_n 1, 1) := by decide +kernel
theorem dX11_death_24 : decode mX11_death.2.1 24 = .ok (.invokevirtual 182, 3) := by decide +kernel
theorem dX11_death_27 : decode mX11_death.2.1 27 = .ok (.ifCond .ne 16, 3) := by decide +kernel
theorem dX11_death_30 : decode mX11_death.2.1 30 = .ok (.iload_n 2, 1) := by decide +kernel
theorem dX11_death_31 : decode mX11_death.2.1 31 = .ok (.aload_n 0, 1) := by decide +kernel
theorem dX11_death_32 : decode mX11_death.2.1 32 = .ok (.getfield 33, 3) := by decide +kernel
theorem dX11_death_35 : decode mX11_death.2.1 35 = .ok (.getfield 185, 3) := by decide +kernel
theorem dX11_death_38 : decode mX11_death.2.1 38 = .ok (.iload_n 1, 1) := by decide +kernel
theorem dX11_death_39 : decode mX11_death.2.1 39 = .ok (.iaload, 1) := by decide +kernel
theorem dX11_death_40 : decode mX11_death.2.1 40 = .ok (.if_icmp .ge 5, 3) := by decide +kernel
theorem dX11_death_43 : decode mX11_death.2.1 43 = .ok (.iconst 0, 1) := by decide +kernel
theorem dX11_death_44 : decode mX11_death.2.1 44 = .ok (.ireturn, 1) := by decide +kernel
theorem dX11_death_45 : decode mX11_death.2.1 45 = .ok (.aload_n 0, 1) := by decide +kernel
theorem dX11_death_46 : decode mX11_death.2.1 46 = .ok (.getfield 33, 3) := by decide +kernel
theorem dX11_death_49 : decode mX11_death.2.1 49 = .ok (.iload_n 1, 1) := by decide +kernel
theorem dX11_death_50 : decode mX11_death.2.1 50 = .ok (.iload_n 2, 1) := by decide +kernel
theorem dX11_death_51 : decode mX11_death.2.1 51 = .ok (.aload_n 0, 1) := by decide +kernel
theorem dX11_death_52 : decode mX11_death.2.1 52 = .ok (.getfield 79, 3) := by decide +kernel
theorem dX11_death_55 : decode mX11_death.2.1 55 = .ok (.invokevirtual 188, 3) := by decide +kernel
theorem dX11_death_58 : decode mX11_death.2.1 58 = .ok (.iconst 1, 1) := by decide +kernel
theorem dX11_death_59 : decode mX11_death.2.1 59 = .ok (.ireturn, 1) := by decide +kernel
theorem bX11_death_0 {SC : Nat → Nat} {X : mh_X} {d : Nat} {Q : Option am_V → am_W → Prop} {bc bs : Nat} {w : am_W} {x1 : Int} {x2 : Int}
    (h : ((¬ ((¬ x2 < (-36524) ∧ (¬ 73047 < x2)) ∧ (¬ (w.1 1 0 12) < x2)) → Q (some (.inl 0)) w) ∧ (((¬ x2 < (-36524) ∧ (¬ 73047 < x2)) ∧ (¬ (w.1 1 0 12) < x2)) → ((¬ (¬ x1 < 0 ∧ (¬ (w.1 5 0 18) ≤ x1)) → Q (some (.inl 0)) w) ∧ ((¬ x1 < 0 ∧ (¬ (w.1 5 0 18) ≤ x1)) → (0 ≤ x1 ∧ (x1 < 40 ∧ (((¬ (w.1 40 0 x1.toNat) = 2147483647) → Q (some (.inl 0)) w) ∧ (¬ (¬ (w.1 40 0 x1.toNat) = 2147483647) → (((w.1 37 0 x1.toNat) ≤ x2 → Q (some (.inl 1)) ((am_up (am_up w.1 39 0 x1.toNat x2) 40 0 x1.toNat (w.1 1 0 12)), w.2)) ∧ (¬ (w.1 37 0 x1.toNat) ≤ x2 → Q (some (.inl 0)) w))))))))))) :
    am_A (mh_G X) SC (d + 3) mX11_death Q 0 [(0, .inr (.inr (some (1, 0)))), (1, .inl x1), (2, .inl x2)] [] w bc bs := by
  refine am_aload_n dX11_death_0 (List.Mem.head _) ?_
  refine am_iload_n dX11_death_1 (List.Mem.tail _ (List.Mem.tail _ (List.Mem.head _))) ?_
  refine am_callv (d' := d + 2) (kc := 0) (ks := 0) (as := [.inl x2]) dX11_death_2 wc_X11_isPast wd_1069 wd_1071 wd_28 wd_112 ds_X11_isPast (by decide) (by omega) (Nat.le_of_ble_eq_true rfl) (Nat.zero_le _) (Nat.zero_le _) hc_0 (by decide) rfl rfl (sX11_isPast (d := d + 0) (x1 := x2)  ?_)
  show am_A (mh_G X) SC (d + 3) mX11_death Q 5 [(0, .inr (.inr (some (1, 0)))), (1, .inl x1), (2, .inl x2)] [.inl (if ((¬ x2 < (-36524) ∧ (¬ 73047 < x2)) ∧ (¬ (w.1 1 0 12) < x2)) then 1 else 0)] w bc bs
  refine am_ifeq (tgt := 43) dX11_death_5 (by decide) (fun c1 => ?_) (fun c1 => ?_)
  · replace c1 := am_beq1 c1
    replace h := h.1 c1
    refine am_iconst dX11_death_43 (by unfold am_rg; omega) ?_
    exact am_ret (r := some (.inl 0)) dX11_death_44 (Or.inr (Or.inl ⟨rfl, (Or.inl rfl)⟩)) rfl h
  · replace c1 := am_beq2 c1
    replace h := h.2 c1
    refine am_aload_n dX11_death_8 (List.Mem.head _) ?_
    refine am_getf (f := 3) (v := .inr (.inr (some (5, 0)))) dX11_death_9 hc_0 (by decide) wd_572 (by decide) rfl rfl ?_
    refine am_iload_n dX11_death_12 (List.Mem.tail _ (List.Mem.head _)) ?_
    refine am_callv (d' := d + 2) (kc := 0) (ks := 0) (as := [.inl x1]) dX11_death_13 wc_X2_has wd_1102 wd_1082 wd_1083 wd_117 ds_X2_has (by decide) (by omega) (Nat.le_of_ble_eq_true rfl) (Nat.zero_le _) (Nat.zero_le _) hc_5 (by decide) rfl rfl (sX2_has (d := d + 1) (x1 := x1)  ?_)
    show am_A (mh_G X) SC (d + 3) mX11_death Q 16 [(0, .inr (.inr (some (1, 0)))), (1, .inl x1), (2, .inl x2)] [.inl (if (¬ x1 < 0 ∧ (¬ (w.1 5 0 18) ≤ x1)) then 1 else 0)] w bc bs
    refine am_ifeq (tgt := 43) dX11_death_16 (by decide) (fun c2 => ?_) (fun c2 => ?_)
    · replace c2 := am_beq1 c2
      replace h := h.1 c2
      refine am_iconst dX11_death_43 (by unfold am_rg; omega) ?_
      exact am_ret (r := some (.inl 0)) dX11_death_44 (Or.inr (Or.inl ⟨rfl, (Or.inl rfl)⟩)) rfl h
    · replace c2 := am_beq2 c2
      replace h := h.2 c2
      refine am_aload_n dX11_death_19 (List.Mem.head _) ?_
      refine am_getf (f := 3) (v := .inr (.inr (some (5, 0)))) dX11_death_20 hc_0 (by decide) wd_572 (by decide) rfl rfl ?_
      refine am_iload_n dX11_death_23 (List.Mem.tail _ (List.Mem.head _)) ?_
      have o3 := h.1
      replace h := h.2
      have o4 := h.1
      replace h := h.2
      refine am_callv (d' := d + 2) (kc := 0) (ks := 0) (as := [.inl x1]) dX11_death_24 wc_X2_isToldDead wd_1103 wd_1104 wd_1105 wd_117 ds_X2_isToldDead (by decide) (by omega) (Nat.le_of_ble_eq_true rfl) (Nat.zero_le _) (Nat.zero_le _) hc_5 (by decide) rfl rfl (sX2_isToldDead (d := d + 1) (x1 := x1) o3 o4 ?_)
      show am_A (mh_G X) SC (d + 3) mX11_death Q 27 [(0, .inr (.inr (some (1, 0)))), (1, .inl x1), (2, .inl x2)] [.inl (if (¬ (w.1 40 0 x1.toNat) = 2147483647) then 1 else 0)] w bc bs
      refine am_ifne (tgt := 43) dX11_death_27 (by decide) (fun c5 => ?_) (fun c5 => ?_)
      · replace c5 := am_bne1 c5
        replace h := h.1 c5
        refine am_iconst dX11_death_43 (by unfold am_rg; omega) ?_
        exact am_ret (r := some (.inl 0)) dX11_death_44 (Or.inr (Or.inl ⟨rfl, (Or.inl rfl)⟩)) rfl h
      · replace c5 := am_bne2 c5
        replace h := h.2 c5
        refine am_iload_n dX11_death_30 (List.Mem.tail _ (List.Mem.tail _ (List.Mem.head _))) ?_
        refine am_aload_n dX11_death_31 (List.Mem.head _) ?_
        refine am_getf (f := 3) (v := .inr (.inr (some (5, 0)))) dX11_death_32 hc_0 (by decide) wd_572 (by decide) rfl rfl ?_
        refine am_getf (f := 4) (v := .inr (.inr (some (37, 0)))) dX11_death_35 hc_5 (by decide) wd_322 (by decide) rfl rfl ?_
        refine am_iload_n dX11_death_38 (List.Mem.tail _ (List.Mem.head _)) ?_
        refine am_iaload (v := (w.1 37 0 x1.toNat)) dX11_death_39 (by decide) rfl o3 o4 rfl ?_
        refine am_icmpge (tgt := 45) dX11_death_40 (by decide) (fun c6 => ?_) (fun c6 => ?_)
        · replace h := h.1 c6
          refine am_aload_n dX11_death_45 (List.Mem.head _) ?_
          refine am_getf (f := 3) (v := .inr (.inr (some (5, 0)))) dX11_death_46 hc_0 (by decide) wd_572 (by decide) rfl rfl ?_
          refine am_iload_n dX11_death_49 (List.Mem.tail _ (List.Mem.head _)) ?_
          refine am_iload_n dX11_death_50 (List.Mem.tail _ (List.Mem.tail _ (List.Mem.head _))) ?_
          refine am_aload_n dX11_death_51 (List.Mem.head _) ?_
          refine am_getf (f := 12) (v := .inl (w.1 1 0 12)) dX11_death_52 hc_0 (by decide) wd_581 (by decide) rfl rfl ?_
          refine am_callv (d' := d + 2) (kc := 0) (ks := 0) (as := [.inl x1, .inl x2, .inl (w.1 1 0 12)]) dX11_death_55 wc_X2_bury wd_1107 wd_1108 wd_1109 wd_117 ds_X2_bury (by decide) (by omega) (Nat.le_of_ble_eq_true rfl) (Nat.zero_le _) (Nat.zero_le _) hc_5 (by decide) rfl rfl (sX2_bury (d := d + 1) (x1 := x1) (x2 := x2) (x3 := (w.1 1 0 12)) o3 o4 ?_)
          show am_A (mh_G X) SC (d + 3) mX11_death Q 58 [(0, .inr (.inr (some (1, 0)))), (1, .inl x1), (2, .inl x2)] [] ((am_up (am_up w.1 39 0 x1.toNat x2) 40 0 x1.toNat (w.1 1 0 12)), w.2) bc bs
          refine am_iconst dX11_death_58 (by unfold am_rg; omega) ?_
          exact am_ret (r := some (.inl 1)) dX11_death_59 (Or.inr (Or.inl ⟨rfl, (Or.inr rfl)⟩)) rfl h
        · replace h := h.2 c6
          refine am_iconst dX11_death_43 (by unfold am_rg; omega) ?_
          exact am_ret (r := some (.inl 0)) dX11_death_44 (Or.inr (Or.inl ⟨rfl, (Or.inl rfl)⟩)) rfl h
-- MourningHouse.wed(III)I
theorem dX11_wed_0 : decode mX11_wed.2.1 0 = .ok (.aload_n 0, 1) := by decide +kernel
theorem dX11_wed_1 : decode mX11_wed.2.1 1 = .ok (.iload_n 3, 1) := by decide +kernel
theorem dX11_wed_2 : decode mX11_wed.2.1 2 = .ok (.invokevirtual 170, 3) := by decide +kernel
theorem dX11_wed_5 : decode mX11_wed.2.1 5 = .ok (.ifCond .eq 16, 3) := by decide +kernel
theorem dX11_wed_8 : decode mX11_wed.2.1 8 = .ok (.aload_n 0, 1) := by decide +kernel
theorem dX11_wed_9 : decode mX11_wed.2.1 9 = .ok (.getfield 33, 3) := by decide +kernel
theorem dX11_wed_12 : decode mX11_wed.2.1 12 = .ok (.iload_n 1, 1) := by decide +kernel
theorem dX11_wed_13 : decode mX11_wed.2.1 13 = .ok (.iload_n 2, 1) := by decide +kernel
theorem dX11_wed_14 : decode mX11_wed.2.1 14 = .ok (.iload_n 3, 1) := by decide +kernel
theorem dX11_wed_15 : decode mX11_wed.2.1 15 = .ok (.invokevirtual 192, 3) := by decide +kernel
theorem dX11_wed_18 : decode mX11_wed.2.1 18 = .ok (.ifCond .ne 5, 3) := by decide +kernel
theorem dX11_wed_21 : decode mX11_wed.2.1 21 = .ok (.iconst (-1), 1) := by decide +kernel
theorem dX11_wed_22 : decode mX11_wed.2.1 22 = .ok (.ireturn, 1) := by decide +kernel
theorem dX11_wed_23 : decode mX11_wed.2.1 23 = .ok (.aload_n 0, 1) := by decide +kernel
theorem dX11_wed_24 : decode mX11_wed.2.1 24 = .ok (.getfield 33, 3) := by decide +kernel
theorem dX11_wed_27 : decode mX11_wed.2.1 27 = .ok (.iload_n 1, 1) := by decide +kernel
theorem dX11_wed_28 : decode mX11_wed.2.1 28 = .ok (.iload_n 2, 1) := by decide +kernel
theorem dX11_wed_29 : decode mX11_wed.2.1 29 = .ok (.iload_n 3, 1) := by decide +kernel
theorem dX11_wed_30 : decode mX11_wed.2.1 30 = .ok (.aload_n 0, 1) := by decide +kernel
theorem dX11_wed_31 : decode mX11_wed.2.1 31 = .ok (.getfield 79, 3) := by decide +kernel
theorem dX11_wed_34 : decode mX11_wed.2.1 34 = .ok (.invokevirtual 196, 3) := by decide +kernel
theorem dX11_wed_37 : decode mX11_wed.2.1 37 = .ok (.ireturn, 1) := by decide +kernel
theorem bX11_wed_0 {SC : Nat → Nat} {X : mh_X} {d : Nat} {Q : Option am_V → am_W → Prop} {bc bs : Nat} {w : am_W} {x1 : Int} {x2 : Int} {x3 : Int}
    (h : ((¬ ((¬ x3 < (-36524) ∧ (¬ 73047 < x3)) ∧ (¬ (w.1 1 0 12) < x3)) → Q (some (.inl (-1))) w) ∧ (((¬ x3 < (-36524) ∧ (¬ 73047 < x3)) ∧ (¬ (w.1 1 0 12) < x3)) → ((¬ 40 ≤ (w.1 5 0 19) → (¬ x1 < 0 ∧ (¬ (w.1 5 0 18) ≤ x1)) → (¬ x2 < 0 ∧ (¬ (w.1 5 0 18) ≤ x2)) → 0 ≤ x1) ∧ ((¬ 40 ≤ (w.1 5 0 19) → (¬ x1 < 0 ∧ (¬ (w.1 5 0 18) ≤ x1)) → (¬ x2 < 0 ∧ (¬ (w.1 5 0 18) ≤ x2)) → x1 < 40) ∧ ((¬ 40 ≤ (w.1 5 0 19) → (¬ x1 < 0 ∧ (¬ (w.1 5 0 18) ≤ x1)) → (¬ x2 < 0 ∧ (¬ (w.1 5 0 18) ≤ x2)) → 0 ≤ x2) ∧ ((¬ 40 ≤ (w.1 5 0 19) → (¬ x1 < 0 ∧ (¬ (w.1 5 0 18) ≤ x1)) → (¬ x2 < 0 ∧ (¬ (w.1 5 0 18) ≤ x2)) → x2 < 40) ∧ (((¬ 40 ≤ (w.1 5 0 19) ∧ ((¬ x1 < 0 ∧ (¬ (w.1 5 0 18) ≤ x1)) ∧ ((¬ x2 < 0 ∧ (¬ (w.1 5 0 18) ≤ x2)) ∧ (¬ (w.1 33 0 x1.toNat) = (w.1 33 0 x2.toNat) ∧ (¬ x3 < (w.1 37 0 x1.toNat) ∧ (¬ x3 < (w.1 37 0 x2.toNat))))))) → am_M (mh_G X) SC (d + 2) 0 0 mX2_marry [.inr (.inr (some (5, 0))), .inl x1, .inl x2, .inl x3, .inl (w.1 1 0 12)] w (fun r w1 => am_A (mh_G X) SC (d + 3) mX11_wed Q 37 [(0, .inr (.inr (some (1, 0)))), (1, .inl x1), (2, .inl x2), (3, .inl x3)] (r.toList ++ []) w1 bc bs)) ∧ (¬ (¬ 40 ≤ (w.1 5 0 19) ∧ ((¬ x1 < 0 ∧ (¬ (w.1 5 0 18) ≤ x1)) ∧ ((¬ x2 < 0 ∧ (¬ (w.1 5 0 18) ≤ x2)) ∧ (¬ (w.1 33 0 x1.toNat) = (w.1 33 0 x2.toNat) ∧ (¬ x3 < (w.1 37 0 x1.toNat) ∧ (¬ x3 < (w.1 37 0 x2.toNat))))))) → Q (some (.inl (-1))) w))))))))) :
    am_A (mh_G X) SC (d + 3) mX11_wed Q 0 [(0, .inr (.inr (some (1, 0)))), (1, .inl x1), (2, .inl x2), (3, .inl x3)] [] w bc bs := by
  refine am_aload_n dX11_wed_0 (List.Mem.head _) ?_
  refine am_iload_n dX11_wed_1 (List.Mem.tail _ (List.Mem.tail _ (List.Mem.tail _ (List.Mem.head _)))) ?_
  refine am_callv (d' := d + 2) (kc := 0) (ks := 0) (as := [.inl x3]) dX11_wed_2 wc_X11_isPast wd_1069 wd_1071 wd_28 wd_112 ds_X11_isPast (by decide) (by omega) (Nat.le_of_ble_eq_true rfl) (Nat.zero_le _) (Nat.zero_le _) hc_0 (by decide) rfl rfl (sX11_isPast (d := d + 0) (x1 := x3)  ?_)
  show am_A (mh_G X) SC (d + 3) mX11_wed Q 5 [(0, .inr (.inr (some (1, 0)))), (1, .inl x1), (2, .inl x2), (3, .inl x3)] [.inl (if ((¬ x3 < (-36524) ∧ (¬ 73047 < x3)) ∧ (¬ (w.1 1 0 12) < x3)) then 1 else 0)] w bc bs
  refine am_ifeq (tgt := 21) dX11_wed_5 (by decide) (fun c1 => ?_) (fun c1 => ?_)
  · replace c1 := am_beq1 c1
    replace h := h.1 c1
    refine am_iconst dX11_wed_21 (by unfold am_rg; omega) ?_
    exact am_ret (r := some (.inl (-1))) dX11_wed_22 (Or.inl rfl) rfl h
  · replace c1 := am_beq2 c1
    replace h := h.2 c1
    refine am_aload_n dX11_wed_8 (List.Mem.head _) ?_
    refine am_getf (f := 3) (v := .inr (.inr (some (5, 0)))) dX11_wed_9 hc_0 (by decide) wd_572 (by decide) rfl rfl ?_
    refine am_iload_n dX11_wed_12 (List.Mem.tail _ (List.Mem.head _)) ?_
    refine am_iload_n dX11_wed_13 (List.Mem.tail _ (List.Mem.tail _ (List.Mem.head _))) ?_
    refine am_iload_n dX11_wed_14 (List.Mem.tail _ (List.Mem.tail _ (List.Mem.tail _ (List.Mem.head _)))) ?_
    have o2 := h.1
    replace h := h.2
    have o3 := h.1
    replace h := h.2
    have o4 := h.1
    replace h := h.2
    have o5 := h.1
    replace h := h.2
    refine am_callv (d' := d + 2) (kc := 0) (ks := 0) (as := [.inl x1, .inl x2, .inl x3]) dX11_wed_15 wc_X2_canMarry wd_1115 wd_1116 wd_1117 wd_117 ds_X2_canMarry (by decide) (by omega) (Nat.le_of_ble_eq_true rfl) (Nat.zero_le _) (Nat.zero_le _) hc_5 (by decide) rfl rfl (sX2_canMarry (d := d + 0) (x1 := x1) (x2 := x2) (x3 := x3) o2 o3 o4 o5 ?_)
    show am_A (mh_G X) SC (d + 3) mX11_wed Q 18 [(0, .inr (.inr (some (1, 0)))), (1, .inl x1), (2, .inl x2), (3, .inl x3)] [.inl (if (¬ 40 ≤ (w.1 5 0 19) ∧ ((¬ x1 < 0 ∧ (¬ (w.1 5 0 18) ≤ x1)) ∧ ((¬ x2 < 0 ∧ (¬ (w.1 5 0 18) ≤ x2)) ∧ (¬ (w.1 33 0 x1.toNat) = (w.1 33 0 x2.toNat) ∧ (¬ x3 < (w.1 37 0 x1.toNat) ∧ (¬ x3 < (w.1 37 0 x2.toNat))))))) then 1 else 0)] w bc bs
    refine am_ifne (tgt := 23) dX11_wed_18 (by decide) (fun c6 => ?_) (fun c6 => ?_)
    · replace c6 := am_bne1 c6
      replace h := h.1 c6
      refine am_aload_n dX11_wed_23 (List.Mem.head _) ?_
      refine am_getf (f := 3) (v := .inr (.inr (some (5, 0)))) dX11_wed_24 hc_0 (by decide) wd_572 (by decide) rfl rfl ?_
      refine am_iload_n dX11_wed_27 (List.Mem.tail _ (List.Mem.head _)) ?_
      refine am_iload_n dX11_wed_28 (List.Mem.tail _ (List.Mem.tail _ (List.Mem.head _))) ?_
      refine am_iload_n dX11_wed_29 (List.Mem.tail _ (List.Mem.tail _ (List.Mem.tail _ (List.Mem.head _)))) ?_
      refine am_aload_n dX11_wed_30 (List.Mem.head _) ?_
      refine am_getf (f := 12) (v := .inl (w.1 1 0 12)) dX11_wed_31 hc_0 (by decide) wd_581 (by decide) rfl rfl ?_
      exact am_callv (d' := d + 2) (kc := 0) (ks := 0) (as := [.inl x1, .inl x2, .inl x3, .inl (w.1 1 0 12)]) dX11_wed_34 wc_X2_marry wd_1119 wd_1120 wd_1121 wd_117 ds_X2_marry (by decide) (by omega) (Nat.le_of_ble_eq_true rfl) (Nat.zero_le _) (Nat.zero_le _) hc_5 (by decide) rfl rfl h
    · replace c6 := am_bne2 c6
      replace h := h.2 c6
      refine am_iconst dX11_wed_21 (by unfold am_rg; omega) ?_
      exact am_ret (r := some (.inl (-1))) dX11_wed_22 (Or.inl rfl) rfl h
theorem bX11_wed_37 {SC : Nat → Nat} {X : mh_X} {d : Nat} {Q : Option am_V → am_W → Prop} {bc bs : Nat} {w : am_W} {x1 : Int} {x2 : Int} {x3 : Int} {xs0 : Int}
    (h : Q (some (.inl xs0)) w) :
    am_A (mh_G X) SC (d + 3) mX11_wed Q 37 [(0, .inr (.inr (some (1, 0)))), (1, .inl x1), (2, .inl x2), (3, .inl x3)] [.inl xs0] w bc bs := by
  exact am_ret (r := some (.inl xs0)) dX11_wed_37 (Or.inl rfl) rfl h
-- MourningHouse.court(III)I
theorem dX11_court_0 : decode mX11_court.2.1 0 = .ok (.iload_n 1, 1) := by decide +kernel
theorem dX11_court_1 : decode mX11_court.2.1 1 = .ok (.invokestatic 143, 3) := by decide +kernel
theorem dX11_court_4 : decode mX11_court.2.1 4 = .ok (.ifCond .eq 15, 3) := by decide +kernel
theorem dX11_court_7 : decode mX11_court.2.1 7 = .ok (.aload_n 0, 1) := by decide +kernel
theorem dX11_court_8 : decode mX11_court.2.1 8 = .ok (.getfield 26, 3) := by decide +kernel
theorem dX11_court_11 : decode mX11_court.2.1 11 = .ok (.iload_n 2, 1) := by decide +kernel
theorem dX11_court_12 : decode mX11_court.2.1 12 = .ok (.iload_n 3, 1) := by decide +kernel
theorem dX11_court_13 : decode mX11_court.2.1 13 = .ok (.invokevirtual 200, 3) := by decide +kernel
theorem dX11_court_16 : decode mX11_court.2.1 16 = .ok (.ifCond .ne 5, 3) := by decide +kernel
theorem dX11_court_19 : decode mX11_court.2.1 19 = .ok (.iconst (-1), 1) := by decide +kernel
theorem dX11_court_20 : decode mX11_court.2.1 20 = .ok (.ireturn, 1) := by decide +kernel
theorem dX11_court_21 : decode mX11_court.2.1 21 = .ok (.aload_n 0, 1) := by decide +kernel
theorem dX11_court_22 : decode mX11_court.2.1 22 = .ok (.getfield 26, 3) := by decide +kernel
theorem dX11_court_25 : decode mX11_court.2.1 25 = .ok (.iload_n 1, 1) := by decide +kernel
theorem dX11_court_26 : decode mX11_court.2.1 26 = .ok (.iload_n 2, 1) := by decide +kernel
theorem dX11_court_27 : decode mX11_court.2.1 27 = .ok (.iload_n 3, 1) := by decide +kernel
theorem dX11_court_28 : decode mX11_court.2.1 28 = .ok (.aload_n 0, 1) := by decide +kernel
theorem dX11_court_29 : decode mX11_court.2.1 29 = .ok (.getfield 79, 3) := by decide +kernel
theorem dX11_court_32 : decode mX11_court.2.1 32 = .ok (.invokevirtual 204, 3) := by decide +kernel
theorem dX11_court_35 : decode mX11_court.2.1 35 = .ok (.ireturn, 1) := by decide +kernel
theorem bX11_court_0 {SC : Nat → Nat} {X : mh_X} {d : Nat} {Q : Option am_V → am_W → Prop} {bc bs : Nat} {w : am_W} {x1 : Int} {x2 : Int} {x3 : Int}
    (h : ((¬ (¬ x1 < (-36524) ∧ (¬ 73047 < x1)) → Q (some (.inl (-1))) w) ∧ ((¬ x1 < (-36524) ∧ (¬ 73047 < x1)) → (((¬ x3 < 1 ∧ (¬ 4 < x3 ∧ (¬ x2 < 1 ∧ (¬ 400 < x2 ∧ (¬ 10 ≤ (w.1 4 0 6)))))) → (0 ≤ (w.1 4 0 6) ∧ ((w.1 4 0 6) < 10 ∧ Q (some (.inl (am_w (((am_up w.1 4 0 6 (am_w ((w.1 4 0 6) + 1))) 4 0 6) - 1)))) ((am_up (am_up (am_up (am_up (am_up w.1 29 0 (w.1 4 0 6).toNat x1) 30 0 (w.1 4 0 6).toNat x2) 31 0 (w.1 4 0 6).toNat x3) 32 0 (w.1 4 0 6).toNat (w.1 1 0 12)) 4 0 6 (am_w ((w.1 4 0 6) + 1))), w.2)))) ∧ (¬ (¬ x3 < 1 ∧ (¬ 4 < x3 ∧ (¬ x2 < 1 ∧ (¬ 400 < x2 ∧ (¬ 10 ≤ (w.1 4 0 6)))))) → Q (some (.inl (-1))) w))))) :
    am_A (mh_G X) SC (d + 2) mX11_court Q 0 [(0, .inr (.inr (some (1, 0)))), (1, .inl x1), (2, .inl x2), (3, .inl x3)] [] w bc bs := by
  refine am_iload_n dX11_court_0 (List.Mem.tail _ (List.Mem.head _)) ?_
  refine am_calls (d' := d + 1) (kc := 0) (ks := 0) (as := [.inl x1]) dX11_court_1 wc_X0_has wd_1004 wd_1005 wd_129 ds_X0_has (by decide) (by omega) (Nat.le_of_ble_eq_true rfl) (Nat.zero_le _) (Nat.zero_le _) rfl (sX0_has (d := d + 0) (x0 := x1)  ?_)
  show am_A (mh_G X) SC (d + 2) mX11_court Q 4 [(0, .inr (.inr (some (1, 0)))), (1, .inl x1), (2, .inl x2), (3, .inl x3)] [.inl (if (¬ x1 < (-36524) ∧ (¬ 73047 < x1)) then 1 else 0)] w bc bs
  refine am_ifeq (tgt := 19) dX11_court_4 (by decide) (fun c1 => ?_) (fun c1 => ?_)
  · replace c1 := am_beq1 c1
    replace h := h.1 c1
    refine am_iconst dX11_court_19 (by unfold am_rg; omega) ?_
    exact am_ret (r := some (.inl (-1))) dX11_court_20 (Or.inl rfl) rfl h
  · replace c1 := am_beq2 c1
    replace h := h.2 c1
    refine am_aload_n dX11_court_7 (List.Mem.head _) ?_
    refine am_getf (f := 2) (v := .inr (.inr (some (4, 0)))) dX11_court_8 hc_0 (by decide) wd_571 (by decide) rfl rfl ?_
    refine am_iload_n dX11_court_11 (List.Mem.tail _ (List.Mem.tail _ (List.Mem.head _))) ?_
    refine am_iload_n dX11_court_12 (List.Mem.tail _ (List.Mem.tail _ (List.Mem.tail _ (List.Mem.head _)))) ?_
    refine am_callv (d' := d + 1) (kc := 0) (ks := 0) (as := [.inl x2, .inl x3]) dX11_court_13 wc_X1_canOrder wd_1127 wd_1128 wd_1129 wd_115 ds_X1_canOrder (by decide) (by omega) (Nat.le_of_ble_eq_true rfl) (Nat.zero_le _) (Nat.zero_le _) hc_3 (by decide) rfl rfl (sX1_canOrder (d := d + 0) (x1 := x2) (x2 := x3)  ?_)
    show am_A (mh_G X) SC (d + 2) mX11_court Q 16 [(0, .inr (.inr (some (1, 0)))), (1, .inl x1), (2, .inl x2), (3, .inl x3)] [.inl (if (¬ x3 < 1 ∧ (¬ 4 < x3 ∧ (¬ x2 < 1 ∧ (¬ 400 < x2 ∧ (¬ 10 ≤ (w.1 4 0 6)))))) then 1 else 0)] w bc bs
    refine am_ifne (tgt := 21) dX11_court_16 (by decide) (fun c2 => ?_) (fun c2 => ?_)
    · replace c2 := am_bne1 c2
      replace h := h.1 c2
      refine am_aload_n dX11_court_21 (List.Mem.head _) ?_
      refine am_getf (f := 2) (v := .inr (.inr (some (4, 0)))) dX11_court_22 hc_0 (by decide) wd_571 (by decide) rfl rfl ?_
      refine am_iload_n dX11_court_25 (List.Mem.tail _ (List.Mem.head _)) ?_
      refine am_iload_n dX11_court_26 (List.Mem.tail _ (List.Mem.tail _ (List.Mem.head _))) ?_
      refine am_iload_n dX11_court_27 (List.Mem.tail _ (List.Mem.tail _ (List.Mem.tail _ (List.Mem.head _)))) ?_
      refine am_aload_n dX11_court_28 (List.Mem.head _) ?_
      refine am_getf (f := 12) (v := .inl (w.1 1 0 12)) dX11_court_29 hc_0 (by decide) wd_581 (by decide) rfl rfl ?_
      have o3 := h.1
      replace h := h.2
      have o4 := h.1
      replace h := h.2
      refine am_callv (d' := d + 1) (kc := 0) (ks := 0) (as := [.inl x1, .inl x2, .inl x3, .inl (w.1 1 0 12)]) dX11_court_32 wc_X1_order wd_1131 wd_1132 wd_1133 wd_115 ds_X1_order (by decide) (by omega) (Nat.le_of_ble_eq_true rfl) (Nat.zero_le _) (Nat.zero_le _) hc_3 (by decide) rfl rfl (sX1_order (d := d + 0) (x1 := x1) (x2 := x2) (x3 := x3) (x4 := (w.1 1 0 12)) o3 o4 ?_)
      show am_A (mh_G X) SC (d + 2) mX11_court Q 35 [(0, .inr (.inr (some (1, 0)))), (1, .inl x1), (2, .inl x2), (3, .inl x3)] [.inl (am_w (((am_up w.1 4 0 6 (am_w ((w.1 4 0 6) + 1))) 4 0 6) - 1))] ((am_up (am_up (am_up (am_up (am_up w.1 29 0 (w.1 4 0 6).toNat x1) 30 0 (w.1 4 0 6).toNat x2) 31 0 (w.1 4 0 6).toNat x3) 32 0 (w.1 4 0 6).toNat (w.1 1 0 12)) 4 0 6 (am_w ((w.1 4 0 6) + 1))), w.2) bc bs
      exact am_ret (r := some (.inl (am_w (((am_up w.1 4 0 6 (am_w ((w.1 4 0 6) + 1))) 4 0 6) - 1)))) dX11_court_35 (Or.inl rfl) rfl h
    · replace c2 := am_bne2 c2
      replace h := h.2 c2
      refine am_iconst dX11_court_19 (by unfold am_rg; omega) ?_
      exact am_ret (r := some (.inl (-1))) dX11_court_20 (Or.inl rfl) rfl h
-- MourningHouse.kin(IIII)Z
theorem dX11_kin_0 : decode mX11_kin.2.1 0 = .ok (.aload_n 0, 1) := by decide +kernel
theorem dX11_kin_1 : decode mX11_kin.2.1 1 = .ok (.getfield 26, 3) := by decide +kernel
theorem dX11_kin_4 : decode mX11_kin.2.1 4 = .ok (.aload_n 0, 1) := by decide +kernel
theorem dX11_kin_5 : decode mX11_kin.2.1 5 = .ok (.getfield 26, 3) := by decide +kernel
theorem dX11_kin_8 : decode mX11_kin.2.1 8 = .ok (.getfield 207, 3) := by decide +kernel
theorem dX11_kin_11 : decode mX11_kin.2.1 11 = .ok (.iconst 1, 1) := by decide +kernel
theorem dX11_kin_12 : decode mX11_kin.2.1 12 = .ok (.isub, 1) := by decide +kernel
theorem dX11_kin_13 : decode mX11_kin.2.1 13 = .ok (.invokevirtual 119, 3) := by decide +kernel
theorem dX11_kin_16 : decode mX11_kin.2.1 16 = .ok (.astore 5, 2) := by decide +kernel
theorem dX11_kin_18 : decode mX11_kin.2.1 18 = .ok (.aload 5, 2) := by decide +kernel
theorem dX11_kin_20 : decode mX11_kin.2.1 20 = .ok (.ifnull 42, 3) := by decide +kernel
theorem dX11_kin_23 : decode mX11_kin.2.1 23 = .ok (.aload 5, 2) := by decide +kernel
theorem dX11_kin_25 : decode mX11_kin.2.1 25 = .ok (.iload_n 1, 1) := by decide +kernel
theorem dX11_kin_26 : decode mX11_kin.2.1 26 = .ok (.invokevirtual 123, 3) := by decide +kernel
theorem dX11_kin_29 : decode mX11_kin.2.1 29 = .ok (.ifCond .eq 33, 3) := by decide +kernel
theorem dX11_kin_32 : decode mX11_kin.2.1 32 = .ok (.aload_n 0, 1) := by decide +kernel
theorem dX11_kin_33 : decode mX11_kin.2.1 33 = .ok (.getfield 33, 3) := by decide +kernel
theorem dX11_kin_36 : decode mX11_kin.2.1 36 = .ok (.iload_n 2, 1) := by decide +kernel
theorem dX11_kin_37 : decode mX11_kin.2.1 37 = .ok (.invokevirtual 181, 3) := by decide +kernel
theorem dX11_kin_40 : decode mX11_kin.2.1 40 = .ok (.ifCond .eq 22, 3) := by decide +kernel
theorem dX11_kin_43 : decode mX11_kin.2.1 43 = .ok (.aload_n 0, 1) := by decide +kernel
theorem dX11_kin_44 : decode mX11_kin.2.1 44 = .ok (.getfield 33, 3) := by decide +kernel
theorem dX11_kin_47 : decode mX11_kin.2.1 47 = .ok (.iload_n 3, 1) := by decide +kernel
theorem dX11_kin_48 : decode mX11_kin.2.1 48 = .ok (.invokevirtual 181, 3) := by decide +kernel
theorem dX11_kin_51 : decode mX11_kin.2.1 51 = .ok (.ifCond .eq 11, 3) := by decide +kernel
theorem dX11_kin_54 : decode mX11_kin.2.1 54 = .ok (.iload 4, 2) := by decide +kernel
theorem dX11_kin_56 : decode mX11_kin.2.1 56 = .ok (.invokestatic 143, 3) := by decide +kernel
theorem dX11_kin_59 : decode mX11_kin.2.1 59 = .ok (.ifCond .ne 5, 3) := by decide +kernel
theorem dX11_kin_62 : decode mX11_kin.2.1 62 = .ok (.iconst 0, 1) := by decide +kernel
theorem dX11_kin_63 : decode mX11_kin.2.1 63 = .ok (.ireturn, 1) := by decide +kernel
theorem dX11_kin_64 : decode mX11_kin.2.1 64 = .ok (.aload_n 0, 1) := by decide +kernel
theorem dX11_kin_65 : decode mX11_kin.2.1 65 = .ok (.getfield 33, 3) := by decide +kernel
theorem dX11_kin_68 : decode mX11_kin.2.1 68 = .ok (.iload 4, 2) := by decide +kernel
theorem dX11_kin_70 : decode mX11_kin.2.1 70 = .ok (.aload_n 0, 1) := by decide +kernel
theorem dX11_kin_71 : decode mX11_kin.2.1 71 = .ok (.getfield 79, 3) := by decide +kernel
theorem dX11_kin_74 : decode mX11_kin.2.1 74 = .ok (.invokevirtual 210, 3) := by decide +kernel
theorem dX11_kin_77 : decode mX11_kin.2.1 77 = .ok (.aload_n 0, 1) := by decide +kernel
theorem dX11_kin_78 : decode mX11_kin.2.1 78 = .ok (.getfield 33, 3) := by decide +kernel
theorem dX11_kin_81 : decode mX11_kin.2.1 81 = .ok (.aload 5, 2) := by decide +kernel
theorem dX11_kin_83 : decode mX11_kin.2.1 83 = .ok (.iload_n 1, 1) := by decide +kernel
theorem dX11_kin_84 : decode mX11_kin.2.1 84 = .ok (.iload_n 2, 1) := by decide +kernel
theorem dX11_kin_85 : decode mX11_kin.2.1 85 = .ok (.iload_n 3, 1) := by decide +kernel
theorem dX11_kin_86 : decode mX11_kin.2.1 86 = .ok (.invokevirtual 214, 3) := by decide +kernel
theorem dX11_kin_89 : decode mX11_kin.2.1 89 = .ok (.ireturn, 1) := by decide +kernel
theorem bX11_kin_0 {SC : Nat → Nat} {X : mh_X} {d : Nat} {Q : Option am_V → am_W → Prop} {bc bs : Nat} {w : am_W} {x1 : Int} {x2 : Int} {x3 : Int} {x4 : Int}
    (h : am_M (mh_G X) SC (d + 3) 0 0 mX1_lawNumbered [.inr (.inr (some (4, 0))), .inl (am_w ((w.1 4 0 5) - 1))] w (fun r w1 => am_A (mh_G X) SC (d + 4) mX11_kin Q 16 [(0, .inr (.inr (some (1, 0)))), (1, .inl x1), (2, .inl x2), (3, .inl x3), (4, .inl x4)] (r.toList ++ []) w1 bc bs)) :
    am_A (mh_G X) SC (d + 4) mX11_kin Q 0 [(0, .inr (.inr (some (1, 0)))), (1, .inl x1), (2, .inl x2), (3, .inl x3), (4, .inl x4)] [] w bc bs := by
  refine am_aload_n dX11_kin_0 (List.Mem.head _) ?_
  refine am_getf (f := 2) (v := .inr (.inr (some (4, 0)))) dX11_kin_1 hc_0 (by decide) wd_571 (by decide) rfl rfl ?_
  refine am_aload_n dX11_kin_4 (List.Mem.head _) ?_
  refine am_getf (f := 2) (v := .inr (.inr (some (4, 0)))) dX11_kin_5 hc_0 (by decide) wd_571 (by decide) rfl rfl ?_
  refine am_getf (f := 5) (v := .inl (w.1 4 0 5)) dX11_kin_8 hc_3 (by decide) wd_291 (by decide) rfl rfl ?_
  refine am_iconst dX11_kin_11 (by unfold am_rg; omega) ?_
  refine am_isub dX11_kin_12 ?_
  exact am_callv (d' := d + 3) (kc := 0) (ks := 0) (as := [.inl (am_w ((w.1 4 0 5) - 1))]) dX11_kin_13 wc_X1_lawNumbered wd_925 wd_926 wd_927 wd_115 ds_X1_lawNumbered (by decide) (by omega) (Nat.le_of_ble_eq_true rfl) (Nat.zero_le _) (Nat.zero_le _) hc_3 (by decide) rfl rfl h
theorem bX11_kin_16 {SC : Nat → Nat} {X : mh_X} {d : Nat} {Q : Option am_V → am_W → Prop} {bc bs : Nat} {w : am_W} {x1 : Int} {x2 : Int} {x3 : Int} {x4 : Int}
    (h : Q (some (.inl 0)) w) :
    am_A (mh_G X) SC (d + 4) mX11_kin Q 16 [(0, .inr (.inr (some (1, 0)))), (1, .inl x1), (2, .inl x2), (3, .inl x3), (4, .inl x4)] [.inr (.inr none)] w bc bs := by
  refine am_astore (ls' := [(5, .inr (.inr none)), (0, .inr (.inr (some (1, 0)))), (1, .inl x1), (2, .inl x2), (3, .inl x3), (4, .inl x4)]) dX11_kin_16 (by decide) rfl ?_
  refine am_aload dX11_kin_18 (List.Mem.head _) ?_
  refine am_ifnull (tgt := 62) dX11_kin_20 (by decide) (fun _ => ?_) (fun e => absurd rfl e)
  refine am_iconst dX11_kin_62 (by unfold am_rg; omega) ?_
  exact am_ret (r := some (.inl 0)) dX11_kin_63 (Or.inr (Or.inl ⟨rfl, (Or.inl rfl)⟩)) rfl h
theorem bX11_kin_16a {SC : Nat → Nat} {X : mh_X} {d : Nat} {Q : Option am_V → am_W → Prop} {bc bs : Nat} {w : am_W} {x1 : Int} {x2 : Int} {x3 : Int} {x4 : Int} {js0 : Nat}
    (h : ((¬ (¬ x1 < 0 ∧ (¬ (w.1 10 js0 10) ≤ x1)) → Q (some (.inl 0)) w) ∧ ((¬ x1 < 0 ∧ (¬ (w.1 10 js0 10) ≤ x1)) → ((¬ (¬ x2 < 0 ∧ (¬ (w.1 5 0 18) ≤ x2)) → Q (some (.inl 0)) w) ∧ ((¬ x2 < 0 ∧ (¬ (w.1 5 0 18) ≤ x2)) → ((¬ (¬ x3 < 0 ∧ (¬ (w.1 5 0 18) ≤ x3)) → Q (some (.inl 0)) w) ∧ ((¬ x3 < 0 ∧ (¬ (w.1 5 0 18) ≤ x3)) → (((¬ x4 < (-36524) ∧ (¬ 73047 < x4)) → am_M (mh_G X) SC (d + 3) 0 0 mX2_gather [.inr (.inr (some (5, 0))), .inl x4, .inl (w.1 1 0 12)] w (fun r w1 => am_A (mh_G X) SC (d + 4) mX11_kin Q 77 [(5, .inr (.inr (some (10, js0)))), (0, .inr (.inr (some (1, 0)))), (1, .inl x1), (2, .inl x2), (3, .inl x3), (4, .inl x4)] (r.toList ++ []) w1 bc bs)) ∧ (¬ (¬ x4 < (-36524) ∧ (¬ 73047 < x4)) → Q (some (.inl 0)) w))))))))) :
    am_A (mh_G X) SC (d + 4) mX11_kin Q 16 [(0, .inr (.inr (some (1, 0)))), (1, .inl x1), (2, .inl x2), (3, .inl x3), (4, .inl x4)] [.inr (.inr (some (10, js0)))] w bc bs := by
  refine am_astore (ls' := [(5, .inr (.inr (some (10, js0)))), (0, .inr (.inr (some (1, 0)))), (1, .inl x1), (2, .inl x2), (3, .inl x3), (4, .inl x4)]) dX11_kin_16 (by decide) rfl ?_
  refine am_aload dX11_kin_18 (List.Mem.head _) ?_
  refine am_ifnull (tgt := 62) dX11_kin_20 (by decide) (fun e => by cases e) (fun _ => ?_)
  refine am_aload dX11_kin_23 (List.Mem.head _) ?_
  refine am_iload_n dX11_kin_25 (List.Mem.tail _ (List.Mem.tail _ (List.Mem.head _))) ?_
  refine am_callv (d' := d + 3) (kc := 0) (ks := 0) (as := [.inl x1]) dX11_kin_26 wc_X3_hasRule wd_929 wd_930 wd_931 wd_116 ds_X3_hasRule (by decide) (by omega) (Nat.le_of_ble_eq_true rfl) (Nat.zero_le _) (Nat.zero_le _) hc_4 (by decide) rfl rfl (sX3_hasRule (d := d + 2) (j0 := js0) (x1 := x1)  ?_)
  show am_A (mh_G X) SC (d + 4) mX11_kin Q 29 [(5, .inr (.inr (some (10, js0)))), (0, .inr (.inr (some (1, 0)))), (1, .inl x1), (2, .inl x2), (3, .inl x3), (4, .inl x4)] [.inl (if (¬ x1 < 0 ∧ (¬ (w.1 10 js0 10) ≤ x1)) then 1 else 0)] w bc bs
  refine am_ifeq (tgt := 62) dX11_kin_29 (by decide) (fun c1 => ?_) (fun c1 => ?_)
  · replace c1 := am_beq1 c1
    replace h := h.1 c1
    refine am_iconst dX11_kin_62 (by unfold am_rg; omega) ?_
    exact am_ret (r := some (.inl 0)) dX11_kin_63 (Or.inr (Or.inl ⟨rfl, (Or.inl rfl)⟩)) rfl h
  · replace c1 := am_beq2 c1
    replace h := h.2 c1
    refine am_aload_n dX11_kin_32 (List.Mem.tail _ (List.Mem.head _)) ?_
    refine am_getf (f := 3) (v := .inr (.inr (some (5, 0)))) dX11_kin_33 hc_0 (by decide) wd_572 (by decide) rfl rfl ?_
    refine am_iload_n dX11_kin_36 (List.Mem.tail _ (List.Mem.tail _ (List.Mem.tail _ (List.Mem.head _)))) ?_
    refine am_callv (d' := d + 3) (kc := 0) (ks := 0) (as := [.inl x2]) dX11_kin_37 wc_X2_has wd_1102 wd_1082 wd_1083 wd_117 ds_X2_has (by decide) (by omega) (Nat.le_of_ble_eq_true rfl) (Nat.zero_le _) (Nat.zero_le _) hc_5 (by decide) rfl rfl (sX2_has (d := d + 2) (x1 := x2)  ?_)
    show am_A (mh_G X) SC (d + 4) mX11_kin Q 40 [(5, .inr (.inr (some (10, js0)))), (0, .inr (.inr (some (1, 0)))), (1, .inl x1), (2, .inl x2), (3, .inl x3), (4, .inl x4)] [.inl (if (¬ x2 < 0 ∧ (¬ (w.1 5 0 18) ≤ x2)) then 1 else 0)] w bc bs
    refine am_ifeq (tgt := 62) dX11_kin_40 (by decide) (fun c2 => ?_) (fun c2 => ?_)
    · replace c2 := am_beq1 c2
      replace h := h.1 c2
      refine am_iconst dX11_kin_62 (by unfold am_rg; omega) ?_
      exact am_ret (r := some (.inl 0)) dX11_kin_63 (Or.inr (Or.inl ⟨rfl, (Or.inl rfl)⟩)) rfl h
    · replace c2 := am_beq2 c2
      replace h := h.2 c2
      refine am_aload_n dX11_kin_43 (List.Mem.tail _ (List.Mem.head _)) ?_
      refine am_getf (f := 3) (v := .inr (.inr (some (5, 0)))) dX11_kin_44 hc_0 (by decide) wd_572 (by decide) rfl rfl ?_
      refine am_iload_n dX11_kin_47 (List.Mem.tail _ (List.Mem.tail _ (List.Mem.tail _ (List.Mem.tail _ (List.Mem.head _))))) ?_
      refine am_callv (d' := d + 3) (kc := 0) (ks := 0) (as := [.inl x3]) dX11_kin_48 wc_X2_has wd_1102 wd_1082 wd_1083 wd_117 ds_X2_has (by decide) (by omega) (Nat.le_of_ble_eq_true rfl) (Nat.zero_le _) (Nat.zero_le _) hc_5 (by decide) rfl rfl (sX2_has (d := d + 2) (x1 := x3)  ?_)
      show am_A (mh_G X) SC (d + 4) mX11_kin Q 51 [(5, .inr (.inr (some (10, js0)))), (0, .inr (.inr (some (1, 0)))), (1, .inl x1), (2, .inl x2), (3, .inl x3), (4, .inl x4)] [.inl (if (¬ x3 < 0 ∧ (¬ (w.1 5 0 18) ≤ x3)) then 1 else 0)] w bc bs
      refine am_ifeq (tgt := 62) dX11_kin_51 (by decide) (fun c3 => ?_) (fun c3 => ?_)
      · replace c3 := am_beq1 c3
        replace h := h.1 c3
        refine am_iconst dX11_kin_62 (by unfold am_rg; omega) ?_
        exact am_ret (r := some (.inl 0)) dX11_kin_63 (Or.inr (Or.inl ⟨rfl, (Or.inl rfl)⟩)) rfl h
      · replace c3 := am_beq2 c3
        replace h := h.2 c3
        refine am_iload dX11_kin_54 (List.Mem.tail _ (List.Mem.tail _ (List.Mem.tail _ (List.Mem.tail _ (List.Mem.tail _ (List.Mem.head _)))))) ?_
        refine am_calls (d' := d + 3) (kc := 0) (ks := 0) (as := [.inl x4]) dX11_kin_56 wc_X0_has wd_1004 wd_1005 wd_129 ds_X0_has (by decide) (by omega) (Nat.le_of_ble_eq_true rfl) (Nat.zero_le _) (Nat.zero_le _) rfl (sX0_has (d := d + 2) (x0 := x4)  ?_)
        show am_A (mh_G X) SC (d + 4) mX11_kin Q 59 [(5, .inr (.inr (some (10, js0)))), (0, .inr (.inr (some (1, 0)))), (1, .inl x1), (2, .inl x2), (3, .inl x3), (4, .inl x4)] [.inl (if (¬ x4 < (-36524) ∧ (¬ 73047 < x4)) then 1 else 0)] w bc bs
        refine am_ifne (tgt := 64) dX11_kin_59 (by decide) (fun c4 => ?_) (fun c4 => ?_)
        · replace c4 := am_bne1 c4
          replace h := h.1 c4
          refine am_aload_n dX11_kin_64 (List.Mem.tail _ (List.Mem.head _)) ?_
          refine am_getf (f := 3) (v := .inr (.inr (some (5, 0)))) dX11_kin_65 hc_0 (by decide) wd_572 (by decide) rfl rfl ?_
          refine am_iload dX11_kin_68 (List.Mem.tail _ (List.Mem.tail _ (List.Mem.tail _ (List.Mem.tail _ (List.Mem.tail _ (List.Mem.head _)))))) ?_
          refine am_aload_n dX11_kin_70 (List.Mem.tail _ (List.Mem.head _)) ?_
          refine am_getf (f := 12) (v := .inl (w.1 1 0 12)) dX11_kin_71 hc_0 (by decide) wd_581 (by decide) rfl rfl ?_
          exact am_callv (d' := d + 3) (kc := 0) (ks := 0) (as := [.inl x4, .inl (w.1 1 0 12)]) dX11_kin_74 wc_X2_gather wd_1139 wd_1140 wd_1141 wd_117 ds_X2_gather (by decide) (by omega) (Nat.le_of_ble_eq_true rfl) (Nat.zero_le _) (Nat.zero_le _) hc_5 (by decide) rfl rfl h
        · replace c4 := am_bne2 c4
          replace h := h.2 c4
          refine am_iconst dX11_kin_62 (by unfold am_rg; omega) ?_
          exact am_ret (r := some (.inl 0)) dX11_kin_63 (Or.inr (Or.inl ⟨rfl, (Or.inl rfl)⟩)) rfl h
theorem bX11_kin_77 {SC : Nat → Nat} {X : mh_X} {d : Nat} {Q : Option am_V → am_W → Prop} {bc bs : Nat} {w : am_W} {j5 : Nat} {x1 : Int} {x2 : Int} {x3 : Int} {x4 : Int}
    (h : am_M (mh_G X) SC (d + 3) 0 0 mX2_isKin [.inr (.inr (some (5, 0))), .inr (.inr (some (10, j5))), .inl x1, .inl x2, .inl x3] w (fun r w1 => am_A (mh_G X) SC (d + 4) mX11_kin Q 89 [(5, .inr (.inr (some (10, j5)))), (0, .inr (.inr (some (1, 0)))), (1, .inl x1), (2, .inl x2), (3, .inl x3), (4, .inl x4)] (r.toList ++ []) w1 bc bs)) :
    am_A (mh_G X) SC (d + 4) mX11_kin Q 77 [(5, .inr (.inr (some (10, j5)))), (0, .inr (.inr (some (1, 0)))), (1, .inl x1), (2, .inl x2), (3, .inl x3), (4, .inl x4)] [] w bc bs := by
  refine am_aload_n dX11_kin_77 (List.Mem.tail _ (List.Mem.head _)) ?_
  refine am_getf (f := 3) (v := .inr (.inr (some (5, 0)))) dX11_kin_78 hc_0 (by decide) wd_572 (by decide) rfl rfl ?_
  refine am_aload dX11_kin_81 (List.Mem.head _) ?_
  refine am_iload_n dX11_kin_83 (List.Mem.tail _ (List.Mem.tail _ (List.Mem.head _))) ?_
  refine am_iload_n dX11_kin_84 (List.Mem.tail _ (List.Mem.tail _ (List.Mem.tail _ (List.Mem.head _)))) ?_
  refine am_iload_n dX11_kin_85 (List.Mem.tail _ (List.Mem.tail _ (List.Mem.tail _ (List.Mem.tail _ (List.Mem.head _))))) ?_
  exact am_callv (d' := d + 3) (kc := 0) (ks := 0) (as := [.inr (.inr (some (10, j5))), .inl x1, .inl x2, .inl x3]) dX11_kin_86 wc_X2_isKin wd_1143 wd_1144 wd_1145 wd_117 ds_X2_isKin (by decide) (by omega) (Nat.le_of_ble_eq_true rfl) (Nat.zero_le _) (Nat.zero_le _) hc_5 (by decide) rfl rfl h
theorem bX11_kin_89 {SC : Nat → Nat} {X : mh_X} {d : Nat} {Q : Option am_V → am_W → Prop} {bc bs : Nat} {w : am_W} {j5 : Nat} {x1 : Int} {x2 : Int} {x3 : Int} {x4 : Int} {xs0 : Int}
    (h : ((xs0 = 0 ∨ xs0 = 1) ∧ Q (some (.inl xs0)) w)) :
    am_A (mh_G X) SC (d + 4) mX11_kin Q 89 [(5, .inr (.inr (some (10, j5)))), (0, .inr (.inr (some (1, 0)))), (1, .inl x1), (2, .inl x2), (3, .inl x3), (4, .inl x4)] [.inl xs0] w bc bs := by
  have o1 := h.1
  replace h := h.2
  exact am_ret (r := some (.inl xs0)) dX11_kin_89 (Or.inr (Or.inl ⟨rfl, o1⟩)) rfl h
-- MourningHouse.mourns(III)I
theorem dX11_mourns_0 : decode mX11_mourns.2.1 0 = .ok (.aload_n 0, 1) := by decide +kernel
theorem dX11_mourns_1 : decode mX11_mourns.2.1 1 = .ok (.getfield 33, 3) := by decide +kernel
theorem dX11_mourns_4 : decode mX11_mourns.2.1 4 = .ok (.iload_n 1, 1) := by decide +kernel
theorem dX11_mourns_5 : decode mX11_mourns.2.1 5 = .ok (.invokevirtual 181, 3) := by decide +kernel
theorem dX11_mourns_8 : decode mX11_mourns.2.1 8 = .ok (.ifCond .eq 22, 3) := by decide +kernel
theorem dX11_mourns_11 : decode mX11_mourns.2.1 11 = .ok (.aload_n 0, 1) := by decide +kernel
theorem dX11_mourns_12 : decode mX11_mourns.2.1 12 = .ok (.getfield 33, 3) := by decide +kernel
theorem dX11_mourns_15 : decode mX11_mourns.2.1 15 = .ok (.iload_n 2, 1) := by decide +kernel
theorem dX11_mourns_16 : decode mX11_mourns.2.1 16 = .ok (.invokevirtual 181, 3) := by decide +kernel
theorem dX11_mourns_19 : decode mX11_mourns.2.1 19 = .ok (.ifCond .eq 11, 3) := by decide +kernel
theorem dX11_mourns_22 : decode mX11_mourns.2.1 22 = .ok (.aload_n 0, 1) := by decide +kernel
theorem dX11_mourns_23 : decode mX11_mourns.2.1 23 = .ok (.iload_n 3, 1) := by decide +kernel
theorem dX11_mourns_24 : decode mX11_mourns.2.1 24 = .ok (.invokevirtual 170, 3) := by decide +kernel
theorem dX11_mourns_27 : decode mX11_mourns.2.1 27 = .ok (.ifCond .ne 5, 3) := by decide +kernel
theorem dX11_mourns_30 : decode mX11_mourns.2.1 30 = .ok (.iconst (-1), 1) := by decide +kernel
theorem dX11_mourns_31 : decode mX11_mourns.2.1 31 = .ok (.ireturn, 1) := by decide +kernel
theorem dX11_mourns_32 : decode mX11_mourns.2.1 32 = .ok (.aload_n 0, 1) := by decide +kernel
theorem dX11_mourns_33 : decode mX11_mourns.2.1 33 = .ok (.getfield 42, 3) := by decide +kernel
theorem dX11_mourns_36 : decode mX11_mourns.2.1 36 = .ok (.iload_n 1, 1) := by decide +kernel
theorem dX11_mourns_37 : decode mX11_mourns.2.1 37 = .ok (.iload_n 2, 1) := by decide +kernel
theorem dX11_mourns_38 : decode mX11_mourns.2.1 38 = .ok (.iload_n 3, 1) := by decide +kernel
theorem dX11_mourns_39 : decode mX11_mourns.2.1 39 = .ok (.invokevirtual 218, 3) := by decide +kernel
theorem dX11_mourns_42 : decode mX11_mourns.2.1 42 = .ok (.ireturn, 1) := by decide +kernel
theorem bX11_mourns_0 {SC : Nat → Nat} {X : mh_X} {d : Nat} {Q : Option am_V → am_W → Prop} {bc bs : Nat} {w : am_W} {x1 : Int} {x2 : Int} {x3 : Int}
    (h : ((¬ (¬ x1 < 0 ∧ (¬ (w.1 5 0 18) ≤ x1)) → Q (some (.inl (-1))) w) ∧ ((¬ x1 < 0 ∧ (¬ (w.1 5 0 18) ≤ x1)) → ((¬ (¬ x2 < 0 ∧ (¬ (w.1 5 0 18) ≤ x2)) → Q (some (.inl (-1))) w) ∧ ((¬ x2 < 0 ∧ (¬ (w.1 5 0 18) ≤ x2)) → ((((¬ x3 < (-36524) ∧ (¬ 73047 < x3)) ∧ (¬ (w.1 1 0 12) < x3)) → am_M (mh_G X) SC (d + 4) 0 0 mX4_ruleFor [.inr (.inr (some (6, 0))), .inl x1, .inl x2, .inl x3] w (fun r w1 => am_A (mh_G X) SC (d + 5) mX11_mourns Q 42 [(0, .inr (.inr (some (1, 0)))), (1, .inl x1), (2, .inl x2), (3, .inl x3)] (r.toList ++ []) w1 bc bs)) ∧ (¬ ((¬ x3 < (-36524) ∧ (¬ 73047 < x3)) ∧ (¬ (w.1 1 0 12) < x3)) → Q (some (.inl (-1))) w))))))) :
    am_A (mh_G X) SC (d + 5) mX11_mourns Q 0 [(0, .inr (.inr (some (1, 0)))), (1, .inl x1), (2, .inl x2), (3, .inl x3)] [] w bc bs := by
  refine am_aload_n dX11_mourns_0 (List.Mem.head _) ?_
  refine am_getf (f := 3) (v := .inr (.inr (some (5, 0)))) dX11_mourns_1 hc_0 (by decide) wd_572 (by decide) rfl rfl ?_
  refine am_iload_n dX11_mourns_4 (List.Mem.tail _ (List.Mem.head _)) ?_
  refine am_callv (d' := d + 4) (kc := 0) (ks := 0) (as := [.inl x1]) dX11_mourns_5 wc_X2_has wd_1102 wd_1082 wd_1083 wd_117 ds_X2_has (by decide) (by omega) (Nat.le_of_ble_eq_true rfl) (Nat.zero_le _) (Nat.zero_le _) hc_5 (by decide) rfl rfl (sX2_has (d := d + 3) (x1 := x1)  ?_)
  show am_A (mh_G X) SC (d + 5) mX11_mourns Q 8 [(0, .inr (.inr (some (1, 0)))), (1, .inl x1), (2, .inl x2), (3, .inl x3)] [.inl (if (¬ x1 < 0 ∧ (¬ (w.1 5 0 18) ≤ x1)) then 1 else 0)] w bc bs
  refine am_ifeq (tgt := 30) dX11_mourns_8 (by decide) (fun c1 => ?_) (fun c1 => ?_)
  · replace c1 := am_beq1 c1
    replace h := h.1 c1
    refine am_iconst dX11_mourns_30 (by unfold am_rg; omega) ?_
    exact am_ret (r := some (.inl (-1))) dX11_mourns_31 (Or.inl rfl) rfl h
  · replace c1 := am_beq2 c1
    replace h := h.2 c1
    refine am_aload_n dX11_mourns_11 (List.Mem.head _) ?_
    refine am_getf (f := 3) (v := .inr (.inr (some (5, 0)))) dX11_mourns_12 hc_0 (by decide) wd_572 (by decide) rfl rfl ?_
    refine am_iload_n dX11_mourns_15 (List.Mem.tail _ (List.Mem.tail _ (List.Mem.head _))) ?_
    refine am_callv (d' := d + 4) (kc := 0) (ks := 0) (as := [.inl x2]) dX11_mourns_16 wc_X2_has wd_1102 wd_1082 wd_1083 wd_117 ds_X2_has (by decide) (by omega) (Nat.le_of_ble_eq_true rfl) (Nat.zero_le _) (Nat.zero_le _) hc_5 (by decide) rfl rfl (sX2_has (d := d + 3) (x1 := x2)  ?_)
    show am_A (mh_G X) SC (d + 5) mX11_mourns Q 19 [(0, .inr (.inr (some (1, 0)))), (1, .inl x1), (2, .inl x2), (3, .inl x3)] [.inl (if (¬ x2 < 0 ∧ (¬ (w.1 5 0 18) ≤ x2)) then 1 else 0)] w bc bs
    refine am_ifeq (tgt := 30) dX11_mourns_19 (by decide) (fun c2 => ?_) (fun c2 => ?_)
    · replace c2 := am_beq1 c2
      replace h := h.1 c2
      refine am_iconst dX11_mourns_30 (by unfold am_rg; omega) ?_
      exact am_ret (r := some (.inl (-1))) dX11_mourns_31 (Or.inl rfl) rfl h
    · replace c2 := am_beq2 c2
      replace h := h.2 c2
      refine am_aload_n dX11_mourns_22 (List.Mem.head _) ?_
      refine am_iload_n dX11_mourns_23 (List.Mem.tail _ (List.Mem.tail _ (List.Mem.tail _ (List.Mem.head _)))) ?_
      refine am_callv (d' := d + 4) (kc := 0) (ks := 0) (as := [.inl x3]) dX11_mourns_24 wc_X11_isPast wd_1069 wd_1071 wd_28 wd_112 ds_X11_isPast (by decide) (by omega) (Nat.le_of_ble_eq_true rfl) (Nat.zero_le _) (Nat.zero_le _) hc_0 (by decide) rfl rfl (sX11_isPast (d := d + 2) (x1 := x3)  ?_)
      show am_A (mh_G X) SC (d + 5) mX11_mourns Q 27 [(0, .inr (.inr (some (1, 0)))), (1, .inl x1), (2, .inl x2), (3, .inl x3)] [.inl (if ((¬ x3 < (-36524) ∧ (¬ 73047 < x3)) ∧ (¬ (w.1 1 0 12) < x3)) then 1 else 0)] w bc bs
      refine am_ifne (tgt := 32) dX11_mourns_27 (by decide) (fun c3 => ?_) (fun c3 => ?_)
      · replace c3 := am_bne1 c3
        replace h := h.1 c3
        refine am_aload_n dX11_mourns_32 (List.Mem.head _) ?_
        refine am_getf (f := 4) (v := .inr (.inr (some (6, 0)))) dX11_mourns_33 hc_0 (by decide) wd_573 (by decide) rfl rfl ?_
        refine am_iload_n dX11_mourns_36 (List.Mem.tail _ (List.Mem.head _)) ?_
        refine am_iload_n dX11_mourns_37 (List.Mem.tail _ (List.Mem.tail _ (List.Mem.head _))) ?_
        refine am_iload_n dX11_mourns_38 (List.Mem.tail _ (List.Mem.tail _ (List.Mem.tail _ (List.Mem.head _)))) ?_
        exact am_callv (d' := d + 4) (kc := 0) (ks := 0) (as := [.inl x1, .inl x2, .inl x3]) dX11_mourns_39 wc_X4_ruleFor wd_1165 wd_1166 wd_1167 wd_118 ds_X4_ruleFor (by decide) (by omega) (Nat.le_of_ble_eq_true rfl) (Nat.zero_le _) (Nat.zero_le _) hc_6 (by decide) rfl rfl h
      · replace c3 := am_bne2 c3
        replace h := h.2 c3
        refine am_iconst dX11_mourns_30 (by unfold am_rg; omega) ?_
        exact am_ret (r := some (.inl (-1))) dX11_mourns_31 (Or.inl rfl) rfl h
theorem bX11_mourns_42 {SC : Nat → Nat} {X : mh_X} {d : Nat} {Q : Option am_V → am_W → Prop} {bc bs : Nat} {w : am_W} {x1 : Int} {x2 : Int} {x3 : Int} {xs0 : Int}
    (h : Q (some (.inl xs0)) w) :
    am_A (mh_G X) SC (d + 5) mX11_mourns Q 42 [(0, .inr (.inr (some (1, 0)))), (1, .inl x1), (2, .inl x2), (3, .inl x3)] [.inl xs0] w bc bs := by
  exact am_ret (r := some (.inl xs0)) dX11_mourns_42 (Or.inl rfl) rfl h
-- MourningHouse.depth(III)I
theorem dX11_depth_0 : decode mX11_depth.2.1 0 = .ok (.aload_n 0, 1) := by decide +kernel
theorem dX11_depth_1 : decode mX11_depth.2.1 1 = .ok (.getfield 33, 3) := by decide +kernel
theorem dX11_depth_4 : decode mX11_depth.2.1 4 = .ok (.iload_n 1, 1) := by decide +kernel
theorem dX11_depth_5 : decode mX11_depth.2.1 5 = .ok (.invokevirtual 181, 3) := by decide +kernel
theorem dX11_depth_8 : decode mX11_depth.2.1 8 = .ok (.ifCond .eq 18, 3) := by decide +kernel
theorem dX11_depth_11 : decode mX11_depth.2.1 11 = .ok (.iload_n 2, 1) := by decide +kernel
theorem dX11_depth_12 : decode mX11_depth.2.1 12 = .ok (.invokestatic 143, 3) := by decide +kernel
theorem dX11_depth_15 : decode mX11_depth.2.1 15 = .ok (.ifCond .eq 11, 3) := by decide +kernel
theorem dX11_depth_18 : decode mX11_depth.2.1 18 = .ok (.aload_n 0, 1) := by decide +kernel
theorem dX11_depth_19 : decode mX11_depth.2.1 19 = .ok (.iload_n 3, 1) := by decide +kernel
theorem dX11_depth_20 : decode mX11_depth.2.1 20 = .ok (.invokevirtual 170, 3) := by decide +kernel
theorem dX11_depth_23 : decode mX11_depth.2.1 23 = .ok (.ifCond .ne 5, 3) := by decide +kernel
theorem dX11_depth_26 : decode mX11_depth.2.1 26 = .ok (.iconst (-1), 1) := by decide +kernel
theorem dX11_depth_27 : decode mX11_depth.2.1 27 = .ok (.ireturn, 1) := by decide +kernel
theorem dX11_depth_28 : decode mX11_depth.2.1 28 = .ok (.aload_n 0, 1) := by decide +kernel
theorem dX11_depth_29 : decode mX11_depth.2.1 29 = .ok (.getfield 42, 3) := by decide +kernel
theorem dX11_depth_32 : decode mX11_depth.2.1 32 = .ok (.iload_n 1, 1) := by decide +kernel
theorem dX11_depth_33 : decode mX11_depth.2.1 33 = .ok (.iload_n 3, 1) := by decide +kernel
theorem dX11_depth_34 : decode mX11_depth.2.1 34 = .ok (.invokevirtual 221, 3) := by decide +kernel
theorem dX11_depth_37 : decode mX11_depth.2.1 37 = .ok (.aload_n 0, 1) := by decide +kernel
theorem dX11_depth_38 : decode mX11_depth.2.1 38 = .ok (.getfield 42, 3) := by decide +kernel
theorem dX11_depth_41 : decode mX11_depth.2.1 41 = .ok (.iload_n 2, 1) := by decide +kernel
theorem dX11_depth_42 : decode mX11_depth.2.1 42 = .ok (.invokevirtual 224, 3) := by decide +kernel
theorem dX11_depth_45 : decode mX11_depth.2.1 45 = .ok (.ireturn, 1) := by decide +kernel
theorem bX11_depth_0 {SC : Nat → Nat} {X : mh_X} {d : Nat} {Q : Option am_V → am_W → Prop} {bc bs : Nat} {w : am_W} {x1 : Int} {x2 : Int} {x3 : Int}
    (h : ((¬ (¬ x1 < 0 ∧ (¬ (w.1 5 0 18) ≤ x1)) → Q (some (.inl (-1))) w) ∧ ((¬ x1 < 0 ∧ (¬ (w.1 5 0 18) ≤ x1)) → ((¬ (¬ x2 < (-36524) ∧ (¬ 73047 < x2)) → Q (some (.inl (-1))) w) ∧ ((¬ x2 < (-36524) ∧ (¬ 73047 < x2)) → ((((¬ x3 < (-36524) ∧ (¬ 73047 < x3)) ∧ (¬ (w.1 1 0 12) < x3)) → am_M (mh_G X) SC (d + 6) 0 0 mX4_study [.inr (.inr (some (6, 0))), .inl x1, .inl x3] w (fun r w1 => am_A (mh_G X) SC (d + 7) mX11_depth Q 37 [(0, .inr (.inr (some (1, 0)))), (1, .inl x1), (2, .inl x2), (3, .inl x3)] (r.toList ++ []) w1 bc bs)) ∧ (¬ ((¬ x3 < (-36524) ∧ (¬ 73047 < x3)) ∧ (¬ (w.1 1 0 12) < x3)) → Q (some (.inl (-1))) w))))))) :
    am_A (mh_G X) SC (d + 7) mX11_depth Q 0 [(0, .inr (.inr (some (1, 0)))), (1, .inl x1), (2, .inl x2), (3, .inl x3)] [] w bc bs := by
  refine am_aload_n dX11_depth_0 (List.Mem.head _) ?_
  refine am_getf (f := 3) (v := .inr (.inr (some (5, 0)))) dX11_depth_1 hc_0 (by decide) wd_572 (by decide) rfl rfl ?_
  refine am_iload_n dX11_depth_4 (List.Mem.tail _ (List.Mem.head _)) ?_
  refine am_callv (d' := d + 6) (kc := 0) (ks := 0) (as := [.inl x1]) dX11_depth_5 wc_X2_has wd_1102 wd_1082 wd_1083 wd_117 ds_X2_has (by decide) (by omega) (Nat.le_of_ble_eq_true rfl) (Nat.zero_le _) (Nat.zero_le _) hc_5 (by decide) rfl rfl (sX2_has (d := d + 5) (x1 := x1)  ?_)
  show am_A (mh_G X) SC (d + 7) mX11_depth Q 8 [(0, .inr (.inr (some (1, 0)))), (1, .inl x1), (2, .inl x2), (3, .inl x3)] [.inl (if (¬ x1 < 0 ∧ (¬ (w.1 5 0 18) ≤ x1)) then 1 else 0)] w bc bs
  refine am_ifeq (tgt := 26) dX11_depth_8 (by decide) (fun c1 => ?_) (fun c1 => ?_)
  · replace c1 := am_beq1 c1
    replace h := h.1 c1
    refine am_iconst dX11_depth_26 (by unfold am_rg; omega) ?_
    exact am_ret (r := some (.inl (-1))) dX11_depth_27 (Or.inl rfl) rfl h
  · replace c1 := am_beq2 c1
    replace h := h.2 c1
    refine am_iload_n dX11_depth_11 (List.Mem.tail _ (List.Mem.tail _ (List.Mem.head _))) ?_
    refine am_calls (d' := d + 6) (kc := 0) (ks := 0) (as := [.inl x2]) dX11_depth_12 wc_X0_has wd_1004 wd_1005 wd_129 ds_X0_has (by decide) (by omega) (Nat.le_of_ble_eq_true rfl) (Nat.zero_le _) (Nat.zero_le _) rfl (sX0_has (d := d + 5) (x0 := x2)  ?_)
    show am_A (mh_G X) SC (d + 7) mX11_depth Q 15 [(0, .inr (.inr (some (1, 0)))), (1, .inl x1), (2, .inl x2), (3, .inl x3)] [.inl (if (¬ x2 < (-36524) ∧ (¬ 73047 < x2)) then 1 else 0)] w bc bs
    refine am_ifeq (tgt := 26) dX11_depth_15 (by decide) (fun c2 => ?_) (fun c2 => ?_)
    · replace c2 := am_beq1 c2
      replace h := h.1 c2
      refine am_iconst dX11_depth_26 (by unfold am_rg; omega) ?_
      exact am_ret (r := some (.inl (-1))) dX11_depth_27 (Or.inl rfl) rfl h
    · replace c2 := am_beq2 c2
      replace h := h.2 c2
      refine am_aload_n dX11_depth_18 (List.Mem.head _) ?_
      refine am_iload_n dX11_depth_19 (List.Mem.tail _ (List.Mem.tail _ (List.Mem.tail _ (List.Mem.head _)))) ?_
      refine am_callv (d' := d + 6) (kc := 0) (ks := 0) (as := [.inl x3]) dX11_depth_20 wc_X11_isPast wd_1069 wd_1071 wd_28 wd_112 ds_X11_isPast (by decide) (by omega) (Nat.le_of_ble_eq_true rfl) (Nat.zero_le _) (Nat.zero_le _) hc_0 (by decide) rfl rfl (sX11_isPast (d := d + 4) (x1 := x3)  ?_)
      show am_A (mh_G X) SC (d + 7) mX11_depth Q 23 [(0, .inr (.inr (some (1, 0)))), (1, .inl x1), (2, .inl x2), (3, .inl x3)] [.inl (if ((¬ x3 < (-36524) ∧ (¬ 73047 < x3)) ∧ (¬ (w.1 1 0 12) < x3)) then 1 else 0)] w bc bs
      refine am_ifne (tgt := 28) dX11_depth_23 (by decide) (fun c3 => ?_) (fun c3 => ?_)
      · replace c3 := am_bne1 c3
        replace h := h.1 c3
        refine am_aload_n dX11_depth_28 (List.Mem.head _) ?_
        refine am_getf (f := 4) (v := .inr (.inr (some (6, 0)))) dX11_depth_29 hc_0 (by decide) wd_573 (by decide) rfl rfl ?_
        refine am_iload_n dX11_depth_32 (List.Mem.tail _ (List.Mem.head _)) ?_
        refine am_iload_n dX11_depth_33 (List.Mem.tail _ (List.Mem.tail _ (List.Mem.tail _ (List.Mem.head _)))) ?_
        exact am_callv (d' := d + 6) (kc := 0) (ks := 0) (as := [.inl x1, .inl x3]) dX11_depth_34 wc_X4_study wd_1180 wd_1181 wd_1182 wd_118 ds_X4_study (by decide) (by omega) (Nat.le_of_ble_eq_true rfl) (Nat.zero_le _) (Nat.zero_le _) hc_6 (by decide) rfl rfl h
      · replace c3 := am_bne2 c3
        replace h := h.2 c3
        refine am_iconst dX11_depth_26 (by unfold am_rg; omega) ?_
        exact am_ret (r := some (.inl (-1))) dX11_depth_27 (Or.inl rfl) rfl h
theorem bX11_depth_37 {SC : Nat → Nat} {X : mh_X} {d : Nat} {Q : Option am_V → am_W → Prop} {bc bs : Nat} {w : am_W} {x1 : Int} {x2 : Int} {x3 : Int}
    (h : am_M (mh_G X) SC (d + 6) 0 0 mX4_depthOn [.inr (.inr (some (6, 0))), .inl x2] w (fun r w1 => am_A (mh_G X) SC (d + 7) mX11_depth Q 45 [(0, .inr (.inr (some (1, 0)))), (1, .inl x1), (2, .inl x2), (3, .inl x3)] (r.toList ++ []) w1 bc bs)) :
    am_A (mh_G X) SC (d + 7) mX11_depth Q 37 [(0, .inr (.inr (some (1, 0)))), (1, .inl x1), (2, .inl x2), (3, .inl x3)] [] w bc bs := by
  refine am_aload_n dX11_depth_37 (List.Mem.head _) ?_
  refine am_getf (f := 4) (v := .inr (.inr (some (6, 0)))) dX11_depth_38 hc_0 (by decide) wd_573 (by decide) rfl rfl ?_
  refine am_iload_n dX11_depth_41 (List.Mem.tail _ (List.Mem.tail _ (List.Mem.head _))) ?_
  exact am_callv (d' := d + 6) (kc := 0) (ks := 0) (as := [.inl x2]) dX11_depth_42 wc_X4_depthOn wd_1238 wd_1239 wd_1240 wd_118 ds_X4_depthOn (by decide) (by omega) (Nat.le_of_ble_eq_true rfl) (Nat.zero_le _) (Nat.zero_le _) hc_6 (by decide) rfl rfl h
theorem bX11_depth_45 {SC : Nat → Nat} {X : mh_X} {d : Nat} {Q : Option am_V → am_W → Prop} {bc bs : Nat} {w : am_W} {x1 : Int} {x2 : Int} {x3 : Int} {xs0 : Int}
    (h : Q (some (.inl xs0)) w) :
    am_A (mh_G X) SC (d + 7) mX11_depth Q 45 [(0, .inr (.inr (some (1, 0)))), (1, .inl x1), (2, .inl x2), (3, .inl x3)] [.inl xs0] w bc bs := by
  exact am_ret (r := some (.inl xs0)) dX11_depth_45 (Or.inl rfl) rfl h
-- MourningHouse.last(II)I
theorem dX11_last_0 : decode mX11_last.2.1 0 = .ok (.aload_n 0, 1) := by decide +kernel
theorem dX11_last_1 : decode mX11_last.2.1 1 = .ok (.getfield 33, 3) := by decide +kernel
theorem dX11_last_4 : decode mX11_last.2.1 4 = .ok (.iload_n 1, 1) := by decide +kernel
theorem dX11_last_5 : decode mX11_last.2.1 5 = .ok (.invokevirtual 181, 3) := by decide +kernel
theorem dX11_last_8 : decode mX11_last.2.1 8 = .ok (.ifCond .eq 14, 3) := by decide +kernel
theorem dX11_last_11 : decode mX11_last.2.1 11 = .ok (.aload_n 0, 1) := by decide +kernel
theorem dX11_last_12 : decode mX11_last.2.1 12 = .ok (.getfield 33, 3) := by decide +kernel
theorem dX11_last_15 : decode mX11_last.2.1 15 = .ok (.iload_n 2, 1) := by decide +kernel
theorem dX11_last_16 : decode mX11_last.2.1 16 = .ok (.invokevirtual 181, 3) := by decide +kernel
theorem dX11_last_19 : decode mX11_last.2.1 19 = .ok (.ifCond .ne 6, 3) := by decide +kernel
theorem dX11_last_22 : decode mX11_last.2.1 22 = .ok (.ldc 156, 2) := by decide +kernel
theorem dX11_last_24 : decode mX11_last.2.1 24 = .ok (.ireturn, 1) := by decide +kernel
theorem dX11_last_25 : decode mX11_last.2.1 25 = .ok (.aload_n 0, 1) := by decide +kernel
theorem dX11_last_26 : decode mX11_last.2.1 26 = .ok (.getfield 42, 3) := by decide +kernel
theorem dX11_last_29 : decode mX11_last.2.1 29 = .ok (.iload_n 1, 1) := by decide +kernel
theorem dX11_last_30 : decode mX11_last.2.1 30 = .ok (.aload_n 0, 1) := by decide +kernel
theorem dX11_last_31 : decode mX11_last.2.1 31 = .ok (.getfield 79, 3) := by decide +kernel
theorem dX11_last_34 : decode mX11_last.2.1 34 = .ok (.invokevirtual 221, 3) := by decide +kernel
theorem dX11_last_37 : decode mX11_last.2.1 37 = .ok (.aload_n 0, 1) := by decide +kernel
theorem dX11_last_38 : decode mX11_last.2.1 38 = .ok (.getfield 42, 3) := by decide +kernel
theorem dX11_last_41 : decode mX11_last.2.1 41 = .ok (.iload_n 2, 1) := by decide +kernel
theorem dX11_last_42 : decode mX11_last.2.1 42 = .ok (.invokevirtual 227, 3) := by decide +kernel
theorem dX11_last_45 : decode mX11_last.2.1 45 = .ok (.ireturn, 1) := by decide +kernel
theorem bX11_last_0 {SC : Nat → Nat} {X : mh_X} {d : Nat} {Q : Option am_V → am_W → Prop} {bc bs : Nat} {w : am_W} {x1 : Int} {x2 : Int}
    (h : ((¬ (¬ x1 < 0 ∧ (¬ (w.1 5 0 18) ≤ x1)) → Q (some (.inl (-2147483648))) w) ∧ ((¬ x1 < 0 ∧ (¬ (w.1 5 0 18) ≤ x1)) → (((¬ x2 < 0 ∧ (¬ (w.1 5 0 18) ≤ x2)) → am_M (mh_G X) SC (d + 6) 0 0 mX4_study [.inr (.inr (some (6, 0))), .inl x1, .inl (w.1 1 0 12)] w (fun r w1 => am_A (mh_G X) SC (d + 7) mX11_last Q 37 [(0, .inr (.inr (some (1, 0)))), (1, .inl x1), (2, .inl x2)] (r.toList ++ []) w1 bc bs)) ∧ (¬ (¬ x2 < 0 ∧ (¬ (w.1 5 0 18) ≤ x2)) → Q (some (.inl (-2147483648))) w))))) :
    am_A (mh_G X) SC (d + 7) mX11_last Q 0 [(0, .inr (.inr (some (1, 0)))), (1, .inl x1), (2, .inl x2)] [] w bc bs := by
  refine am_aload_n dX11_last_0 (List.Mem.head _) ?_
  refine am_getf (f := 3) (v := .inr (.inr (some (5, 0)))) dX11_last_1 hc_0 (by decide) wd_572 (by decide) rfl rfl ?_
  refine am_iload_n dX11_last_4 (List.Mem.tail _ (List.Mem.head _)) ?_
  refine am_callv (d' := d + 6) (kc := 0) (ks := 0) (as := [.inl x1]) dX11_last_5 wc_X2_has wd_1102 wd_1082 wd_1083 wd_117 ds_X2_has (by decide) (by omega) (Nat.le_of_ble_eq_true rfl) (Nat.zero_le _) (Nat.zero_le _) hc_5 (by decide) rfl rfl (sX2_has (d := d + 5) (x1 := x1)  ?_)
  show am_A (mh_G X) SC (d + 7) mX11_last Q 8 [(0, .inr (.inr (some (1, 0)))), (1, .inl x1), (2, .inl x2)] [.inl (if (¬ x1 < 0 ∧ (¬ (w.1 5 0 18) ≤ x1)) then 1 else 0)] w bc bs
  refine am_ifeq (tgt := 22) dX11_last_8 (by decide) (fun c1 => ?_) (fun c1 => ?_)
  · replace c1 := am_beq1 c1
    replace h := h.1 c1
    refine am_ldcV (n := (-2147483648)) dX11_last_22 (by decide) wd_1028 (by unfold am_rg; omega) ?_
    exact am_ret (r := some (.inl (-2147483648))) dX11_last_24 (Or.inl rfl) rfl h
  · replace c1 := am_beq2 c1
    replace h := h.2 c1
    refine am_aload_n dX11_last_11 (List.Mem.head _) ?_
    refine am_getf (f := 3) (v := .inr (.inr (some (5, 0)))) dX11_last_12 hc_0 (by decide) wd_572 (by decide) rfl rfl ?_
    refine am_iload_n dX11_last_15 (List.Mem.tail _ (List.Mem.tail _ (List.Mem.head _))) ?_
    refine am_callv (d' := d + 6) (kc := 0) (ks := 0) (as := [.inl x2]) dX11_last_16 wc_X2_has wd_1102 wd_1082 wd_1083 wd_117 ds_X2_has (by decide) (by omega) (Nat.le_of_ble_eq_true rfl) (Nat.zero_le _) (Nat.zero_le _) hc_5 (by decide) rfl rfl (sX2_has (d := d + 5) (x1 := x2)  ?_)
    show am_A (mh_G X) SC (d + 7) mX11_last Q 19 [(0, .inr (.inr (some (1, 0)))), (1, .inl x1), (2, .inl x2)] [.inl (if (¬ x2 < 0 ∧ (¬ (w.1 5 0 18) ≤ x2)) then 1 else 0)] w bc bs
    refine am_ifne (tgt := 25) dX11_last_19 (by decide) (fun c2 => ?_) (fun c2 => ?_)
    · replace c2 := am_bne1 c2
      replace h := h.1 c2
      refine am_aload_n dX11_last_25 (List.Mem.head _) ?_
      refine am_getf (f := 4) (v := .inr (.inr (some (6, 0)))) dX11_last_26 hc_0 (by decide) wd_573 (by decide) rfl rfl ?_
      refine am_iload_n dX11_last_29 (List.Mem.tail _ (List.Mem.head _)) ?_
      refine am_aload_n dX11_last_30 (List.Mem.head _) ?_
      refine am_getf (f := 12) (v := .inl (w.1 1 0 12)) dX11_last_31 hc_0 (by decide) wd_581 (by decide) rfl rfl ?_
      exact am_callv (d' := d + 6) (kc := 0) (ks := 0) (as := [.inl x1, .inl (w.1 1 0 12)]) dX11_last_34 wc_X4_study wd_1180 wd_1181 wd_1182 wd_118 ds_X4_study (by decide) (by omega) (Nat.le_of_ble_eq_true rfl) (Nat.zero_le _) (Nat.zero_le _) hc_6 (by decide) rfl rfl h
    · replace c2 := am_bne2 c2
      replace h := h.2 c2
      refine am_ldcV (n := (-2147483648)) dX11_last_22 (by decide) wd_1028 (by unfold am_rg; omega) ?_
      exact am_ret (r := some (.inl (-2147483648))) dX11_last_24 (Or.inl rfl) rfl h
theorem bX11_last_37 {SC : Nat → Nat} {X : mh_X} {d : Nat} {Q : Option am_V → am_W → Prop} {bc bs : Nat} {w : am_W} {x1 : Int} {x2 : Int}
    (h : am_M (mh_G X) SC (d + 6) 0 0 mX4_lastDayFor [.inr (.inr (some (6, 0))), .inl x2] w (fun r w1 => am_A (mh_G X) SC (d + 7) mX11_last Q 45 [(0, .inr (.inr (some (1, 0)))), (1, .inl x1), (2, .inl x2)] (r.toList ++ []) w1 bc bs)) :
    am_A (mh_G X) SC (d + 7) mX11_last Q 37 [(0, .inr (.inr (some (1, 0)))), (1, .inl x1), (2, .inl x2)] [] w bc bs := by
  refine am_aload_n dX11_last_37 (List.Mem.head _) ?_
  refine am_getf (f := 4) (v := .inr (.inr (some (6, 0)))) dX11_last_38 hc_0 (by decide) wd_573 (by decide) rfl rfl ?_
  refine am_iload_n dX11_last_41 (List.Mem.tail _ (List.Mem.tail _ (List.Mem.head _))) ?_
  exact am_callv (d' := d + 6) (kc := 0) (ks := 0) (as := [.inl x2]) dX11_last_42 wc_X4_lastDayFor wd_1292 wd_1293 wd_1294 wd_118 ds_X4_lastDayFor (by decide) (by omega) (Nat.le_of_ble_eq_true rfl) (Nat.zero_le _) (Nat.zero_le _) hc_6 (by decide) rfl rfl h
theorem bX11_last_45 {SC : Nat → Nat} {X : mh_X} {d : Nat} {Q : Option am_V → am_W → Prop} {bc bs : Nat} {w : am_W} {x1 : Int} {x2 : Int} {xs0 : Int}
    (h : Q (some (.inl xs0)) w) :
    am_A (mh_G X) SC (d + 7) mX11_last Q 45 [(0, .inr (.inr (some (1, 0)))), (1, .inl x1), (2, .inl x2)] [.inl xs0] w bc bs := by
  exact am_ret (r := some (.inl xs0)) dX11_last_45 (Or.inl rfl) rfl h
-- MourningHouse.edge(II)I
theorem dX11_edge_0 : decode mX11_edge.2.1 0 = .ok (.aload_n 0, 1) := by decide +kernel
theorem dX11_edge_1 : decode mX11_edge.2.1 1 = .ok (.getfield 33, 3) := by decide +kernel
theorem dX11_edge_4 : decode mX11_edge.2.1 4 = .ok (.iload_n 1, 1) := by decide +kernel
theorem dX11_edge_5 : decode mX11_edge.2.1 5 = .ok (.invokevirtual 181, 3) := by decide +kernel
theorem dX11_edge_8 : decode mX11_edge.2.1 8 = .ok (.ifCond .eq 10, 3) := by decide +kernel
theorem dX11_edge_11 : decode mX11_edge.2.1 11 = .ok (.iload_n 2, 1) := by decide +kernel
theorem dX11_edge_12 : decode mX11_edge.2.1 12 = .ok (.invokestatic 143, 3) := by decide +kernel
theorem dX11_edge_15 : decode mX11_edge.2.1 15 = .ok (.ifCond .ne 5, 3) := by decide +kernel
theorem dX11_edge_18 : decode mX11_edge.2.1 18 = .ok (.iconst (-1), 1) := by decide +kernel
theorem dX11_edge_19 : decode mX11_edge.2.1 19 = .ok (.ireturn, 1) := by decide +kernel
theorem dX11_edge_20 : decode mX11_edge.2.1 20 = .ok (.aload_n 0, 1) := by decide +kernel
theorem dX11_edge_21 : decode mX11_edge.2.1 21 = .ok (.getfield 42, 3) := by decide +kernel
theorem dX11_edge_24 : decode mX11_edge.2.1 24 = .ok (.iload_n 1, 1) := by decide +kernel
theorem dX11_edge_25 : decode mX11_edge.2.1 25 = .ok (.aload_n 0, 1) := by decide +kernel
theorem dX11_edge_26 : decode mX11_edge.2.1 26 = .ok (.getfield 79, 3) := by decide +kernel
theorem dX11_edge_29 : decode mX11_edge.2.1 29 = .ok (.invokevirtual 221, 3) := by decide +kernel
theorem dX11_edge_32 : decode mX11_edge.2.1 32 = .ok (.aload_n 0, 1) := by decide +kernel
theorem dX11_edge_33 : decode mX11_edge.2.1 33 = .ok (.getfield 42, 3) := by decide +kernel
theorem dX11_edge_36 : decode mX11_edge.2.1 36 = .ok (.iload_n 2, 1) := by decide +kernel
theorem dX11_edge_37 : decode mX11_edge.2.1 37 = .ok (.invokevirtual 230, 3) := by decide +kernel
theorem dX11_edge_40 : decode mX11_edge.2.1 40 = .ok (.ireturn, 1) := by decide +kernel
theorem bX11_edge_0 {SC : Nat → Nat} {X : mh_X} {d : Nat} {Q : Option am_V → am_W → Prop} {bc bs : Nat} {w : am_W} {x1 : Int} {x2 : Int}
    (h : ((¬ (¬ x1 < 0 ∧ (¬ (w.1 5 0 18) ≤ x1)) → Q (some (.inl (-1))) w) ∧ ((¬ x1 < 0 ∧ (¬ (w.1 5 0 18) ≤ x1)) → (((¬ x2 < (-36524) ∧ (¬ 73047 < x2)) → am_M (mh_G X) SC (d + 6) 0 0 mX4_study [.inr (.inr (some (6, 0))), .inl x1, .inl (w.1 1 0 12)] w (fun r w1 => am_A (mh_G X) SC (d + 7) mX11_edge Q 32 [(0, .inr (.inr (some (1, 0)))), (1, .inl x1), (2, .inl x2)] (r.toList ++ []) w1 bc bs)) ∧ (¬ (¬ x2 < (-36524) ∧ (¬ 73047 < x2)) → Q (some (.inl (-1))) w))))) :
    am_A (mh_G X) SC (d + 7) mX11_edge Q 0 [(0, .inr (.inr (some (1, 0)))), (1, .inl x1), (2, .inl x2)] [] w bc bs := by
  refine am_aload_n dX11_edge_0 (List.Mem.head _) ?_
  refine am_getf (f := 3) (v := .inr (.inr (some (5, 0)))) dX11_edge_1 hc_0 (by decide) wd_572 (by decide) rfl rfl ?_
  refine am_iload_n dX11_edge_4 (List.Mem.tail _ (List.Mem.head _)) ?_
  refine am_callv (d' := d + 6) (kc := 0) (ks := 0) (as := [.inl x1]) dX11_edge_5 wc_X2_has wd_1102 wd_1082 wd_1083 wd_117 ds_X2_has (by decide) (by omega) (Nat.le_of_ble_eq_true rfl) (Nat.zero_le _) (Nat.zero_le _) hc_5 (by decide) rfl rfl (sX2_has (d := d + 5) (x1 := x1)  ?_)
  show am_A (mh_G X) SC (d + 7) mX11_edge Q 8 [(0, .inr (.inr (some (1, 0)))), (1, .inl x1), (2, .inl x2)] [.inl (if (¬ x1 < 0 ∧ (¬ (w.1 5 0 18) ≤ x1)) then 1 else 0)] w bc bs
  refine am_ifeq (tgt := 18) dX11_edge_8 (by decide) (fun c1 => ?_) (fun c1 => ?_)
  · replace c1 := am_beq1 c1
    replace h := h.1 c1
    refine am_iconst dX11_edge_18 (by unfold am_rg; omega) ?_
    exact am_ret (r := some (.inl (-1))) dX11_edge_19 (Or.inl rfl) rfl h
  · replace c1 := am_beq2 c1
    replace h := h.2 c1
    refine am_iload_n dX11_edge_11 (List.Mem.tail _ (List.Mem.tail _ (List.Mem.head _))) ?_
    refine am_calls (d' := d + 6) (kc := 0) (ks := 0) (as := [.inl x2]) dX11_edge_12 wc_X0_has wd_1004 wd_1005 wd_129 ds_X0_has (by decide) (by omega) (Nat.le_of_ble_eq_true rfl) (Nat.zero_le _) (Nat.zero_le _) rfl (sX0_has (d := d + 5) (x0 := x2)  ?_)
    show am_A (mh_G X) SC (d + 7) mX11_edge Q 15 [(0, .inr (.inr (some (1, 0)))), (1, .inl x1), (2, .inl x2)] [.inl (if (¬ x2 < (-36524) ∧ (¬ 73047 < x2)) then 1 else 0)] w bc bs
    refine am_ifne (tgt := 20) dX11_edge_15 (by decide) (fun c2 => ?_) (fun c2 => ?_)
    · replace c2 := am_bne1 c2
      replace h := h.1 c2
      refine am_aload_n dX11_edge_20 (List.Mem.head _) ?_
      refine am_getf (f := 4) (v := .inr (.inr (some (6, 0)))) dX11_edge_21 hc_0 (by decide) wd_573 (by decide) rfl rfl ?_
      refine am_iload_n dX11_edge_24 (List.Mem.tail _ (List.Mem.head _)) ?_
      refine am_aload_n dX11_edge_25 (List.Mem.head _) ?_
      refine am_getf (f := 12) (v := .inl (w.1 1 0 12)) dX11_edge_26 hc_0 (by decide) wd_581 (by decide) rfl rfl ?_
      exact am_callv (d' := d + 6) (kc := 0) (ks := 0) (as := [.inl x1, .inl (w.1 1 0 12)]) dX11_edge_29 wc_X4_study wd_1180 wd_1181 wd_1182 wd_118 ds_X4_study (by decide) (by omega) (Nat.le_of_ble_eq_true rfl) (Nat.zero_le _) (Nat.zero_le _) hc_6 (by decide) rfl rfl h
    · replace c2 := am_bne2 c2
      replace h := h.2 c2
      refine am_iconst dX11_edge_18 (by unfold am_rg; omega) ?_
      exact am_ret (r := some (.inl (-1))) dX11_edge_19 (Or.inl rfl) rfl h
theorem bX11_edge_32 {SC : Nat → Nat} {X : mh_X} {d : Nat} {Q : Option am_V → am_W → Prop} {bc bs : Nat} {w : am_W} {x1 : Int} {x2 : Int}
    (h : am_M (mh_G X) SC (d + 6) 0 0 mX4_edgeOn [.inr (.inr (some (6, 0))), .inl x2] w (fun r w1 => am_A (mh_G X) SC (d + 7) mX11_edge Q 40 [(0, .inr (.inr (some (1, 0)))), (1, .inl x1), (2, .inl x2)] (r.toList ++ []) w1 bc bs)) :
    am_A (mh_G X) SC (d + 7) mX11_edge Q 32 [(0, .inr (.inr (some (1, 0)))), (1, .inl x1), (2, .inl x2)] [] w bc bs := by
  refine am_aload_n dX11_edge_32 (List.Mem.head _) ?_
  refine am_getf (f := 4) (v := .inr (.inr (some (6, 0)))) dX11_edge_33 hc_0 (by decide) wd_573 (by decide) rfl rfl ?_
  refine am_iload_n dX11_edge_36 (List.Mem.tail _ (List.Mem.tail _ (List.Mem.head _))) ?_
  exact am_callv (d' := d + 6) (kc := 0) (ks := 0) (as := [.inl x2]) dX11_edge_37 wc_X4_edgeOn wd_1302 wd_1303 wd_1304 wd_118 ds_X4_edgeOn (by decide) (by omega) (Nat.le_of_ble_eq_true rfl) (Nat.zero_le _) (Nat.zero_le _) hc_6 (by decide) rfl rfl h
theorem bX11_edge_40 {SC : Nat → Nat} {X : mh_X} {d : Nat} {Q : Option am_V → am_W → Prop} {bc bs : Nat} {w : am_W} {x1 : Int} {x2 : Int} {xs0 : Int}
    (h : Q (some (.inl xs0)) w) :
    am_A (mh_G X) SC (d + 7) mX11_edge Q 40 [(0, .inr (.inr (some (1, 0)))), (1, .inl x1), (2, .inl x2)] [.inl xs0] w bc bs := by
  exact am_ret (r := some (.inl xs0)) dX11_edge_40 (Or.inl rfl) rfl h
-- MourningHouse.isAct(I)Z
theorem dX11_isAct_0 : decode mX11_isAct.2.1 0 = .ok (.iload_n 0, 1) := by decide +kernel
theorem dX11_isAct_1 : decode mX11_isAct.2.1 1 = .ok (.ifCond .lt 12, 3) := by decide +kernel
theorem dX11_isAct_4 : decode mX11_isAct.2.1 4 = .ok (.iload_n 0, 1) := by decide +kernel
theorem dX11_isAct_5 : decode mX11_isAct.2.1 5 = .ok (.iconst 4, 1) := by decide +kernel
theorem dX11_isAct_6 : decode mX11_isAct.2.1 6 = .ok (.if_icmp .ge 7, 3) := by decide +kernel
theorem dX11_isAct_9 : decode mX11_isAct.2.1 9 = .ok (.iconst 1, 1) := by decide +kernel
theorem dX11_isAct_10 : decode mX11_isAct.2.1 10 = .ok (.goto 4, 3) := by decide +kernel
theorem dX11_isAct_13 : decode mX11_isAct.2.1 13 = .ok (.iconst 0, 1) := by decide +kernel
theorem dX11_isAct_14 : decode mX11_isAct.2.1 14 = .ok (.ireturn, 1) := by decide +kernel
theorem sX11_isAct {SC : Nat → Nat} {X : mh_X} {d kc ks : Nat} {Q : Option am_V → am_W → Prop} {w : am_W} {x0 : Int}
    (h : Q (some (.inl (if (¬ x0 < 0 ∧ (¬ 4 ≤ x0)) then 1 else 0))) w) : am_M (mh_G X) SC (d + 1) kc ks mX11_isAct [.inl x0] w Q := by
  refine am_M_of (by decide) (Nat.le_of_ble_eq_true rfl) ?_
  show am_A (mh_G X) SC (d + 1) mX11_isAct Q 0 [(0, .inl x0)] [] w kc ks
  refine am_iload_n dX11_isAct_0 (List.Mem.head _) ?_
  refine am_iflt (tgt := 13) dX11_isAct_1 (by decide) (fun c1 => ?_) (fun c1 => ?_)
  · refine am_iconst dX11_isAct_13 (by unfold am_rg; omega) ?_
    rw [if_neg (by omega)] at h
    exact am_ret (r := some (.inl 0)) dX11_isAct_14 (Or.inr (Or.inl ⟨rfl, (Or.inl rfl)⟩)) rfl h
  · refine am_iload_n dX11_isAct_4 (List.Mem.head _) ?_
    refine am_iconst dX11_isAct_5 (by unfold am_rg; omega) ?_
    refine am_icmpge (tgt := 13) dX11_isAct_6 (by decide) (fun c2 => ?_) (fun c2 => ?_)
    · refine am_iconst dX11_isAct_13 (by unfold am_rg; omega) ?_
      rw [if_neg (by omega)] at h
      exact am_ret (r := some (.inl 0)) dX11_isAct_14 (Or.inr (Or.inl ⟨rfl, (Or.inl rfl)⟩)) rfl h
    · refine am_iconst dX11_isAct_9 (by unfold am_rg; omega) ?_
      refine am_goto (tgt := 14) dX11_isAct_10 (by decide) ?_
      rw [if_pos (by omega)] at h
      exact am_ret (r := some (.inl 1)) dX11_isAct_14 (Or.inr (Or.inl ⟨rfl, (Or.inr rfl)⟩)) rfl h
-- MourningHouse.may(IIII)Z
theorem dX11_may_0 : decode mX11_may.2.1 0 = .ok (.aload_n 0, 1) := by decide +kernel
theorem dX11_may_1 : decode mX11_may.2.1 1 = .ok (.getfield 33, 3) := by decide +kernel
theorem dX11_may_4 : decode mX11_may.2.1 4 = .ok (.iload_n 1, 1) := by decide +kernel
theorem dX11_may_5 : decode mX11_may.2.1 5 = .ok (.invokevirtual 181, 3) := by decide +kernel
theorem dX11_may_8 : decode mX11_may.2.1 8 = .ok (.ifCond .eq 26, 3) := by decide +kernel
theorem dX11_may_11 : decode mX11_may.2.1 11 = .ok (.iload_n 2, 1) := by decide +kernel
theorem dX11_may_12 : decode mX11_may.2.1 12 = .ok (.invokestatic 233, 3) := by decide +kernel
theorem dX11_may_15 : decode mX11_may.2.1 15 = .ok (.ifCond .eq 19, 3) := by decide +kernel
theorem dX11_may_18 : decode mX11_may.2.1 18 = .ok (.iload_n 3, 1) := by decide +kernel
theorem dX11_may_19 : decode mX11_may.2.1 19 = .ok (.invokestatic 143, 3) := by decide +kernel
theorem dX11_may_22 : decode mX11_may.2.1 22 = .ok (.ifCond .eq 12, 3) := by decide +kernel
theorem dX11_may_25 : decode mX11_may.2.1 25 = .ok (.aload_n 0, 1) := by decide +kernel
theorem dX11_may_26 : decode mX11_may.2.1 26 = .ok (.iload 4, 2) := by decide +kernel
theorem dX11_may_28 : decode mX11_may.2.1 28 = .ok (.invokevirtual 170, 3) := by decide +kernel
theorem dX11_may_31 : decode mX11_may.2.1 31 = .ok (.ifCond .ne 5, 3) := by decide +kernel
theorem dX11_may_34 : decode mX11_may.2.1 34 = .ok (.iconst 0, 1) := by decide +kernel
theorem dX11_may_35 : decode mX11_may.2.1 35 = .ok (.ireturn, 1) := by decide +kernel
theorem dX11_may_36 : decode mX11_may.2.1 36 = .ok (.aload_n 0, 1) := by decide +kernel
theorem dX11_may_37 : decode mX11_may.2.1 37 = .ok (.getfield 42, 3) := by decide +kernel
theorem dX11_may_40 : decode mX11_may.2.1 40 = .ok (.iload_n 1, 1) := by decide +kernel
theorem dX11_may_41 : decode mX11_may.2.1 41 = .ok (.iload 4, 2) := by decide +kernel
theorem dX11_may_43 : decode mX11_may.2.1 43 = .ok (.invokevirtual 221, 3) := by decide +kernel
theorem dX11_may_46 : decode mX11_may.2.1 46 = .ok (.aload_n 0, 1) := by decide +kernel
theorem dX11_may_47 : decode mX11_may.2.1 47 = .ok (.getfield 42, 3) := by decide +kernel
theorem dX11_may_50 : decode mX11_may.2.1 50 = .ok (.iload_n 2, 1) := by decide +kernel
theorem dX11_may_51 : decode mX11_may.2.1 51 = .ok (.iload_n 3, 1) := by decide +kernel
theorem dX11_may_52 : decode mX11_may.2.1 52 = .ok (.invokevirtual 236, 3) := by decide +kernel
theorem dX11_may_55 : decode mX11_may.2.1 55 = .ok (.ireturn, 1) := by decide +kernel
theorem bX11_may_0 {SC : Nat → Nat} {X : mh_X} {d : Nat} {Q : Option am_V → am_W → Prop} {bc bs : Nat} {w : am_W} {x1 : Int} {x2 : Int} {x3 : Int} {x4 : Int}
    (h : ((¬ (¬ x1 < 0 ∧ (¬ (w.1 5 0 18) ≤ x1)) → Q (some (.inl 0)) w) ∧ ((¬ x1 < 0 ∧ (¬ (w.1 5 0 18) ≤ x1)) → ((¬ (¬ x2 < 0 ∧ (¬ 4 ≤ x2)) → Q (some (.inl 0)) w) ∧ ((¬ x2 < 0 ∧ (¬ 4 ≤ x2)) → ((¬ (¬ x3 < (-36524) ∧ (¬ 73047 < x3)) → Q (some (.inl 0)) w) ∧ ((¬ x3 < (-36524) ∧ (¬ 73047 < x3)) → ((((¬ x4 < (-36524) ∧ (¬ 73047 < x4)) ∧ (¬ (w.1 1 0 12) < x4)) → am_M (mh_G X) SC (d + 6) 0 0 mX4_study [.inr (.inr (some (6, 0))), .inl x1, .inl x4] w (fun r w1 => am_A (mh_G X) SC (d + 7) mX11_may Q 46 [(0, .inr (.inr (some (1, 0)))), (1, .inl x1), (2, .inl x2), (3, .inl x3), (4, .inl x4)] (r.toList ++ []) w1 bc bs)) ∧ (¬ ((¬ x4 < (-36524) ∧ (¬ 73047 < x4)) ∧ (¬ (w.1 1 0 12) < x4)) → Q (some (.inl 0)) w))))))))) :
    am_A (mh_G X) SC (d + 7) mX11_may Q 0 [(0, .inr (.inr (some (1, 0)))), (1, .inl x1), (2, .inl x2), (3, .inl x3), (4, .inl x4)] [] w bc bs := by
  refine am_aload_n dX11_may_0 (List.Mem.head _) ?_
  refine am_getf (f := 3) (v := .inr (.inr (some (5, 0)))) dX11_may_1 hc_0 (by decide) wd_572 (by decide) rfl rfl ?_
  refine am_iload_n dX11_may_4 (List.Mem.tail _ (List.Mem.head _)) ?_
  refine am_callv (d' := d + 6) (kc := 0) (ks := 0) (as := [.inl x1]) dX11_may_5 wc_X2_has wd_1102 wd_1082 wd_1083 wd_117 ds_X2_has (by decide) (by omega) (Nat.le_of_ble_eq_true rfl) (Nat.zero_le _) (Nat.zero_le _) hc_5 (by decide) rfl rfl (sX2_has (d := d + 5) (x1 := x1)  ?_)
  show am_A (mh_G X) SC (d + 7) mX11_may Q 8 [(0, .inr (.inr (some (1, 0)))), (1, .inl x1), (2, .inl x2), (3, .inl x3), (4, .inl x4)] [.inl (if (¬ x1 < 0 ∧ (¬ (w.1 5 0 18) ≤ x1)) then 1 else 0)] w bc bs
  refine am_ifeq (tgt := 34) dX11_may_8 (by decide) (fun c1 => ?_) (fun c1 => ?_)
  · replace c1 := am_beq1 c1
    replace h := h.1 c1
    refine am_iconst dX11_may_34 (by unfold am_rg; omega) ?_
    exact am_ret (r := some (.inl 0)) dX11_may_35 (Or.inr (Or.inl ⟨rfl, (Or.inl rfl)⟩)) rfl h
  · replace c1 := am_beq2 c1
    replace h := h.2 c1
    refine am_iload_n dX11_may_11 (List.Mem.tail _ (List.Mem.tail _ (List.Mem.head _))) ?_
    refine am_calls (d' := d + 6) (kc := 0) (ks := 0) (as := [.inl x2]) dX11_may_12 wc_X11_isAct wd_1311 wd_1312 wd_112 ds_X11_isAct (by decide) (by omega) (Nat.le_of_ble_eq_true rfl) (Nat.zero_le _) (Nat.zero_le _) rfl (sX11_isAct (d := d + 5) (x0 := x2)  ?_)
    show am_A (mh_G X) SC (d + 7) mX11_may Q 15 [(0, .inr (.inr (some (1, 0)))), (1, .inl x1), (2, .inl x2), (3, .inl x3), (4, .inl x4)] [.inl (if (¬ x2 < 0 ∧ (¬ 4 ≤ x2)) then 1 else 0)] w bc bs
    refine am_ifeq (tgt := 34) dX11_may_15 (by decide) (fun c2 => ?_) (fun c2 => ?_)
    · replace c2 := am_beq1 c2
      replace h := h.1 c2
      refine am_iconst dX11_may_34 (by unfold am_rg; omega) ?_
      exact am_ret (r := some (.inl 0)) dX11_may_35 (Or.inr (Or.inl ⟨rfl, (Or.inl rfl)⟩)) rfl h
    · replace c2 := am_beq2 c2
      replace h := h.2 c2
      refine am_iload_n dX11_may_18 (List.Mem.tail _ (List.Mem.tail _ (List.Mem.tail _ (List.Mem.head _)))) ?_
      refine am_calls (d' := d + 6) (kc := 0) (ks := 0) (as := [.inl x3]) dX11_may_19 wc_X0_has wd_1004 wd_1005 wd_129 ds_X0_has (by decide) (by omega) (Nat.le_of_ble_eq_true rfl) (Nat.zero_le _) (Nat.zero_le _) rfl (sX0_has (d := d + 5) (x0 := x3)  ?_)
      show am_A (mh_G X) SC (d + 7) mX11_may Q 22 [(0, .inr (.inr (some (1, 0)))), (1, .inl x1), (2, .inl x2), (3, .inl x3), (4, .inl x4)] [.inl (if (¬ x3 < (-36524) ∧ (¬ 73047 < x3)) then 1 else 0)] w bc bs
      refine am_ifeq (tgt := 34) dX11_may_22 (by decide) (fun c3 => ?_) (fun c3 => ?_)
      · replace c3 := am_beq1 c3
        replace h := h.1 c3
        refine am_iconst dX11_may_34 (by unfold am_rg; omega) ?_
        exact am_ret (r := some (.inl 0)) dX11_may_35 (Or.inr (Or.inl ⟨rfl, (Or.inl rfl)⟩)) rfl h
      · replace c3 := am_beq2 c3
        replace h := h.2 c3
        refine am_aload_n dX11_may_25 (List.Mem.head _) ?_
        refine am_iload dX11_may_26 (List.Mem.tail _ (List.Mem.tail _ (List.Mem.tail _ (List.Mem.tail _ (List.Mem.head _))))) ?_
        refine am_callv (d' := d + 6) (kc := 0) (ks := 0) (as := [.inl x4]) dX11_may_28 wc_X11_isPast wd_1069 wd_1071 wd_28 wd_112 ds_X11_isPast (by decide) (by omega) (Nat.le_of_ble_eq_true rfl) (Nat.zero_le _) (Nat.zero_le _) hc_0 (by decide) rfl rfl (sX11_isPast (d := d + 4) (x1 := x4)  ?_)
        show am_A (mh_G X) SC (d + 7) mX11_may Q 31 [(0, .inr (.inr (some (1, 0)))), (1, .inl x1), (2, .inl x2), (3, .inl x3), (4, .inl x4)] [.inl (if ((¬ x4 < (-36524) ∧ (¬ 73047 < x4)) ∧ (¬ (w.1 1 0 12) < x4)) then 1 else 0)] w bc bs
        refine am_ifne (tgt := 36) dX11_may_31 (by decide) (fun c4 => ?_) (fun c4 => ?_)
        · replace c4 := am_bne1 c4
          replace h := h.1 c4
          refine am_aload_n dX11_may_36 (List.Mem.head _) ?_
          refine am_getf (f := 4) (v := .inr (.inr (some (6, 0)))) dX11_may_37 hc_0 (by decide) wd_573 (by decide) rfl rfl ?_
          refine am_iload_n dX11_may_40 (List.Mem.tail _ (List.Mem.head _)) ?_
          refine am_iload dX11_may_41 (List.Mem.tail _ (List.Mem.tail _ (List.Mem.tail _ (List.Mem.tail _ (List.Mem.head _))))) ?_
          exact am_callv (d' := d + 6) (kc := 0) (ks := 0) (as := [.inl x1, .inl x4]) dX11_may_43 wc_X4_study wd_1180 wd_1181 wd_1182 wd_118 ds_X4_study (by decide) (by omega) (Nat.le_of_ble_eq_true rfl) (Nat.zero_le _) (Nat.zero_le _) hc_6 (by decide) rfl rfl h
        · replace c4 := am_bne2 c4
          replace h := h.2 c4
          refine am_iconst dX11_may_34 (by unfold am_rg; omega) ?_
          exact am_ret (r := some (.inl 0)) dX11_may_35 (Or.inr (Or.inl ⟨rfl, (Or.inl rfl)⟩)) rfl h
theorem bX11_may_46 {SC : Nat → Nat} {X : mh_X} {d : Nat} {Q : Option am_V → am_W → Prop} {bc bs : Nat} {w : am_W} {x1 : Int} {x2 : Int} {x3 : Int} {x4 : Int}
    (h : am_M (mh_G X) SC (d + 6) 0 0 mX4_isAllowed [.inr (.inr (some (6, 0))), .inl x2, .inl x3] w (fun r w1 => am_A (mh_G X) SC (d + 7) mX11_may Q 55 [(0, .inr (.inr (some (1, 0)))), (1, .inl x1), (2, .inl x2), (3, .inl x3), (4, .inl x4)] (r.toList ++ []) w1 bc bs)) :
    am_A (mh_G X) SC (d + 7) mX11_may Q 46 [(0, .inr (.inr (some (1, 0)))), (1, .inl x1), (2, .inl x2), (3, .inl x3), (4, .inl x4)] [] w bc bs := by
  refine am_aload_n dX11_may_46 (List.Mem.head _) ?_
  refine am_getf (f := 4) (v := .inr (.inr (some (6, 0)))) dX11_may_47 hc_0 (by decide) wd_573 (by decide) rfl rfl ?_
  refine am_iload_n dX11_may_50 (List.Mem.tail _ (List.Mem.tail _ (List.Mem.head _))) ?_
  refine am_iload_n dX11_may_51 (List.Mem.tail _ (List.Mem.tail _ (List.Mem.tail _ (List.Mem.head _)))) ?_
  exact am_callv (d' := d + 6) (kc := 0) (ks := 0) (as := [.inl x2, .inl x3]) dX11_may_52 wc_X4_isAllowed wd_1314 wd_1315 wd_1316 wd_118 ds_X4_isAllowed (by decide) (by omega) (Nat.le_of_ble_eq_true rfl) (Nat.zero_le _) (Nat.zero_le _) hc_6 (by decide) rfl rfl h
theorem bX11_may_55 {SC : Nat → Nat} {X : mh_X} {d : Nat} {Q : Option am_V → am_W → Prop} {bc bs : Nat} {w : am_W} {x1 : Int} {x2 : Int} {x3 : Int} {x4 : Int} {xs0 : Int}
    (h : ((xs0 = 0 ∨ xs0 = 1) ∧ Q (some (.inl xs0)) w)) :
    am_A (mh_G X) SC (d + 7) mX11_may Q 55 [(0, .inr (.inr (some (1, 0)))), (1, .inl x1), (2, .inl x2), (3, .inl x3), (4, .inl x4)] [.inl xs0] w bc bs := by
  have o1 := h.1
  replace h := h.2
  exact am_ret (r := some (.inl xs0)) dX11_may_55 (Or.inr (Or.inl ⟨rfl, o1⟩)) rfl h
-- MourningHouse.deed(II)I
theorem dX11_deed_0 : decode mX11_deed.2.1 0 = .ok (.aload_n 0, 1) := by decide +kernel
theorem dX11_deed_1 : decode mX11_deed.2.1 1 = .ok (.getfield 33, 3) := by decide +kernel
theorem dX11_deed_4 : decode mX11_deed.2.1 4 = .ok (.iload_n 1, 1) := by decide +kernel
theorem dX11_deed_5 : decode mX11_deed.2.1 5 = .ok (.invokevirtual 181, 3) := by decide +kernel
theorem dX11_deed_8 : decode mX11_deed.2.1 8 = .ok (.ifCond .eq 19, 3) := by decide +kernel
theorem dX11_deed_11 : decode mX11_deed.2.1 11 = .ok (.iload_n 2, 1) := by decide +kernel
theorem dX11_deed_12 : decode mX11_deed.2.1 12 = .ok (.invokestatic 233, 3) := by decide +kernel
theorem dX11_deed_15 : decode mX11_deed.2.1 15 = .ok (.ifCond .eq 12, 3) := by decide +kernel
theorem dX11_deed_18 : decode mX11_deed.2.1 18 = .ok (.aload_n 0, 1) := by decide +kernel
theorem dX11_deed_19 : decode mX11_deed.2.1 19 = .ok (.getfield 75, 3) := by decide +kernel
theorem dX11_deed_22 : decode mX11_deed.2.1 22 = .ok (.bipush 100, 2) := by decide +kernel
theorem dX11_deed_24 : decode mX11_deed.2.1 24 = .ok (.if_icmp .lt 5, 3) := by decide +kernel
theorem dX11_deed_27 : decode mX11_deed.2.1 27 = .ok (.iconst (-1), 1) := by decide +kernel
theorem dX11_deed_28 : decode mX11_deed.2.1 28 = .ok (.ireturn, 1) := by decide +kernel
theorem dX11_deed_29 : decode mX11_deed.2.1 29 = .ok (.aload_n 0, 1) := by decide +kernel
theorem dX11_deed_30 : decode mX11_deed.2.1 30 = .ok (.getfield 42, 3) := by decide +kernel
theorem dX11_deed_33 : decode mX11_deed.2.1 33 = .ok (.iload_n 1, 1) := by decide +kernel
theorem dX11_deed_34 : decode mX11_deed.2.1 34 = .ok (.aload_n 0, 1) := by decide +kernel
theorem dX11_deed_35 : decode mX11_deed.2.1 35 = .ok (.getfield 79, 3) := by decide +kernel
theorem dX11_deed_38 : decode mX11_deed.2.1 38 = .ok (.invokevirtual 221, 3) := by decide +kernel
theorem dX11_deed_41 : decode mX11_deed.2.1 41 = .ok (.aload_n 0, 1) := by decide +kernel
theorem dX11_deed_42 : decode mX11_deed.2.1 42 = .ok (.getfield 42, 3) := by decide +kernel
theorem dX11_deed_45 : decode mX11_deed.2.1 45 = .ok (.aload_n 0, 1) := by decide +kernel
theorem dX11_deed_46 : decode mX11_deed.2.1 46 = .ok (.getfield 79, 3) := by decide +kernel
theorem dX11_deed_49 : decode mX11_deed.2.1 49 = .ok (.invokevirtual 224, 3) := by decide +kernel
theorem dX11_deed_52 : decode mX11_deed.2.1 52 = .ok (.iconst (-1), 1) := by decide +kernel
theorem dX11_deed_53 : decode mX11_deed.2.1 53 = .ok (.if_icmp .ne 5, 3) := by decide +kernel
theorem dX11_deed_56 : decode mX11_deed.2.1 56 = .ok (.iconst (-1), 1) := by decide +kernel
theorem dX11_deed_57 : decode mX11_deed.2.1 57 = .ok (.ireturn, 1) := by decide +kernel
theorem dX11_deed_58 : decode mX11_deed.2.1 58 = .ok (.aload_n 0, 1) := by decide +kernel
theorem dX11_deed_59 : decode mX11_deed.2.1 59 = .ok (.getfield 62, 3) := by decide +kernel
theorem dX11_deed_62 : decode mX11_deed.2.1 62 = .ok (.aload_n 0, 1) := by decide +kernel
theorem dX11_deed_63 : decode mX11_deed.2.1 63 = .ok (.getfield 75, 3) := by decide +kernel
theorem dX11_deed_66 : decode mX11_deed.2.1 66 = .ok (.iload_n 1, 1) := by decide +kernel
theorem dX11_deed_67 : decode mX11_deed.2.1 67 = .ok (.iastore, 1) := by decide +kernel
theorem dX11_deed_68 : decode mX11_deed.2.1 68 = .ok (.aload_n 0, 1) := by decide +kernel
theorem dX11_deed_69 : decode mX11_deed.2.1 69 = .ok (.getfield 66, 3) := by decide +kernel
theorem dX11_deed_72 : decode mX11_deed.2.1 72 = .ok (.aload_n 0, 1) := by decide +kernel
theorem dX11_deed_73 : decode mX11_deed.2.1 73 = .ok (.getfield 75, 3) := by decide +kernel
theorem dX11_deed_76 : decode mX11_deed.2.1 76 = .ok (.iload_n 2, 1) := by decide +kernel
theorem dX11_deed_77 : decode mX11_deed.2.1 77 = .ok (.iastore, 1) := by decide +kernel
theorem dX11_deed_78 : decode mX11_deed.2.1 78 = .ok (.aload_n 0, 1) := by decide +kernel
theorem dX11_deed_79 : decode mX11_deed.2.1 79 = .ok (.getfield 69, 3) := by decide +kernel
theorem dX11_deed_82 : decode mX11_deed.2.1 82 = .ok (.aload_n 0, 1) := by decide +kernel
theorem dX11_deed_83 : decode mX11_deed.2.1 83 = .ok (.getfield 75, 3) := by decide +kernel
theorem dX11_deed_86 : decode mX11_deed.2.1 86 = .ok (.aload_n 0, 1) := by decide +kernel
theorem dX11_deed_87 : decode mX11_deed.2.1 87 = .ok (.getfield 79, 3) := by decide +kernel
theorem dX11_deed_90 : decode mX11_deed.2.1 90 = .ok (.iastore, 1) := by decide +kernel
theorem dX11_deed_91 : decode mX11_deed.2.1 91 = .ok (.aload_n 0, 1) := by decide +kernel
theorem dX11_deed_92 : decode mX11_deed.2.1 92 = .ok (.dup, 1) := by decide +kernel
theorem dX11_deed_93 : decode mX11_deed.2.1 93 = .ok (.getfield 75, 3) := by decide +kernel
theorem dX11_deed_96 : decode mX11_deed.2.1 96 = .ok (.iconst 1, 1) := by decide +kernel
theorem dX11_deed_97 : decode mX11_deed.2.1 97 = .ok (.iadd, 1) := by decide +kernel
theorem dX11_deed_98 : decode mX11_deed.2.1 98 = .ok (.putfield 75, 3) := by decide +kernel
theorem dX11_deed_101 : decode mX11_deed.2.1 101 = .ok (.aload_n 0, 1) := by decide +kernel
theorem dX11_deed_102 : decode mX11_deed.2.1 102 = .ok (.getfield 75, 3) := by decide +kernel
theorem dX11_deed_105 : decode mX11_deed.2.1 105 = .ok (.iconst 1, 1) := by decide +kernel
theorem dX11_deed_106 : decode mX11_deed.2.1 106 = .ok (.isub, 1) := by decide +kernel
theorem dX11_deed_107 : decode mX11_deed.2.1 107 = .ok (.ireturn, 1) := by decide +kernel
theorem bX11_deed_0 {SC : Nat → Nat} {X : mh_X} {d : Nat} {Q : Option am_V → am_W → Prop} {bc bs : Nat} {w : am_W} {x1 : Int} {x2 : Int}
    (h : ((¬ (¬ x1 < 0 ∧ (¬ (w.1 5 0 18) ≤ x1)) → Q (some (.inl (-1))) w) ∧ ((¬ x1 < 0 ∧ (¬ (w.1 5 0 18) ≤ x1)) → ((¬ (¬ x2 < 0 ∧ (¬ 4 ≤ x2)) → Q (some (.inl (-1))) w) ∧ ((¬ x2 < 0 ∧ (¬ 4 ≤ x2)) → (((w.1 1 0 11) < 100 → am_M (mh_G X) SC (d + 6) 0 0 mX4_study [.inr (.inr (some (6, 0))), .inl x1, .inl (w.1 1 0 12)] w (fun r w1 => am_A (mh_G X) SC (d + 7) mX11_deed Q 41 [(0, .inr (.inr (some (1, 0)))), (1, .inl x1), (2, .inl x2)] (r.toList ++ []) w1 bc bs)) ∧ (¬ (w.1 1 0 11) < 100 → Q (some (.inl (-1))) w))))))) :
    am_A (mh_G X) SC (d + 7) mX11_deed Q 0 [(0, .inr (.inr (some (1, 0)))), (1, .inl x1), (2, .inl x2)] [] w bc bs := by
  refine am_aload_n dX11_deed_0 (List.Mem.head _) ?_
  refine am_getf (f := 3) (v := .inr (.inr (some (5, 0)))) dX11_deed_1 hc_0 (by decide) wd_572 (by decide) rfl rfl ?_
  refine am_iload_n dX11_deed_4 (List.Mem.tail _ (List.Mem.head _)) ?_
  refine am_callv (d' := d + 6) (kc := 0) (ks := 0) (as := [.inl x1]) dX11_deed_5 wc_X2_has wd_1102 wd_1082 wd_1083 wd_117 ds_X2_has (by decide) (by omega) (Nat.le_of_ble_eq_true rfl) (Nat.zero_le _) (Nat.zero_le _) hc_5 (by decide) rfl rfl (sX2_has (d := d + 5) (x1 := x1)  ?_)
  show am_A (mh_G X) SC (d + 7) mX11_deed Q 8 [(0, .inr (.inr (some (1, 0)))), (1, .inl x1), (2, .inl x2)] [.inl (if (¬ x1 < 0 ∧ (¬ (w.1 5 0 18) ≤ x1)) then 1 else 0)] w bc bs
  refine am_ifeq (tgt := 27) dX11_deed_8 (by decide) (fun c1 => ?_) (fun c1 => ?_)
  · replace c1 := am_beq1 c1
    replace h := h.1 c1
    refine am_iconst dX11_deed_27 (by unfold am_rg; omega) ?_
    exact am_ret (r := some (.inl (-1))) dX11_deed_28 (Or.inl rfl) rfl h
  · replace c1 := am_beq2 c1
    replace h := h.2 c1
    refine am_iload_n dX11_deed_11 (List.Mem.tail _ (List.Mem.tail _ (List.Mem.head _))) ?_
    refine am_calls (d' := d + 6) (kc := 0) (ks := 0) (as := [.inl x2]) dX11_deed_12 wc_X11_isAct wd_1311 wd_1312 wd_112 ds_X11_isAct (by decide) (by omega) (Nat.le_of_ble_eq_true rfl) (Nat.zero_le _) (Nat.zero_le _) rfl (sX11_isAct (d := d + 5) (x0 := x2)  ?_)
    show am_A (mh_G X) SC (d + 7) mX11_deed Q 15 [(0, .inr (.inr (some (1, 0)))), (1, .inl x1), (2, .inl x2)] [.inl (if (¬ x2 < 0 ∧ (¬ 4 ≤ x2)) then 1 else 0)] w bc bs
    refine am_ifeq (tgt := 27) dX11_deed_15 (by decide) (fun c2 => ?_) (fun c2 => ?_)
    · replace c2 := am_beq1 c2
      replace h := h.1 c2
      refine am_iconst dX11_deed_27 (by unfold am_rg; omega) ?_
      exact am_ret (r := some (.inl (-1))) dX11_deed_28 (Or.inl rfl) rfl h
    · replace c2 := am_beq2 c2
      replace h := h.2 c2
      refine am_aload_n dX11_deed_18 (List.Mem.head _) ?_
      refine am_getf (f := 11) (v := .inl (w.1 1 0 11)) dX11_deed_19 hc_0 (by decide) wd_580 (by decide) rfl rfl ?_
      refine am_bipush dX11_deed_22 (by decide) (by unfold am_rg; omega) ?_
      refine am_icmplt (tgt := 29) dX11_deed_24 (by decide) (fun c3 => ?_) (fun c3 => ?_)
      · replace h := h.1 c3
        refine am_aload_n dX11_deed_29 (List.Mem.head _) ?_
        refine am_getf (f := 4) (v := .inr (.inr (some (6, 0)))) dX11_deed_30 hc_0 (by decide) wd_573 (by decide) rfl rfl ?_
        refine am_iload_n dX11_deed_33 (List.Mem.tail _ (List.Mem.head _)) ?_
        refine am_aload_n dX11_deed_34 (List.Mem.head _) ?_
        refine am_getf (f := 12) (v := .inl (w.1 1 0 12)) dX11_deed_35 hc_0 (by decide) wd_581 (by decide) rfl rfl ?_
        exact am_callv (d' := d + 6) (kc := 0) (ks := 0) (as := [.inl x1, .inl (w.1 1 0 12)]) dX11_deed_38 wc_X4_study wd_1180 wd_1181 wd_1182 wd_118 ds_X4_study (by decide) (by omega) (Nat.le_of_ble_eq_true rfl) (Nat.zero_le _) (Nat.zero_le _) hc_6 (by decide) rfl rfl h
      · replace h := h.2 c3
        refine am_iconst dX11_deed_27 (by unfold am_rg; omega) ?_
        exact am_ret (r := some (.inl (-1))) dX11_deed_28 (Or.inl rfl) rfl h
theorem bX11_deed_41 {SC : Nat → Nat} {X : mh_X} {d : Nat} {Q : Option am_V → am_W → Prop} {bc bs : Nat} {w : am_W} {x1 : Int} {x2 : Int}
    (h : am_M (mh_G X) SC (d + 6) 0 0 mX4_depthOn [.inr (.inr (some (6, 0))), .inl (w.1 1 0 12)] w (fun r w1 => am_A (mh_G X) SC (d + 7) mX11_deed Q 52 [(0, .inr (.inr (some (1, 0)))), (1, .inl x1), (2, .inl x2)] (r.toList ++ []) w1 bc bs)) :
    am_A (mh_G X) SC (d + 7) mX11_deed Q 41 [(0, .inr (.inr (some (1, 0)))), (1, .inl x1), (2, .inl x2)] [] w bc bs := by
  refine am_aload_n dX11_deed_41 (List.Mem.head _) ?_
  refine am_getf (f := 4) (v := .inr (.inr (some (6, 0)))) dX11_deed_42 hc_0 (by decide) wd_573 (by decide) rfl rfl ?_
  refine am_aload_n dX11_deed_45 (List.Mem.head _) ?_
  refine am_getf (f := 12) (v := .inl (w.1 1 0 12)) dX11_deed_46 hc_0 (by decide) wd_581 (by decide) rfl rfl ?_
  exact am_callv (d' := d + 6) (kc := 0) (ks := 0) (as := [.inl (w.1 1 0 12)]) dX11_deed_49 wc_X4_depthOn wd_1238 wd_1239 wd_1240 wd_118 ds_X4_depthOn (by decide) (by omega) (Nat.le_of_ble_eq_true rfl) (Nat.zero_le _) (Nat.zero_le _) hc_6 (by decide) rfl rfl h
theorem bX11_deed_52 {SC : Nat → Nat} {X : mh_X} {d : Nat} {Q : Option am_V → am_W → Prop} {bc bs : Nat} {w : am_W} {x1 : Int} {x2 : Int} {xs0 : Int}
    (h : ((¬ xs0 = (-1) → (0 ≤ (w.1 1 0 11) ∧ ((w.1 1 0 11) < 100 ∧ Q (some (.inl (am_w (((am_up w.1 1 0 11 (am_w ((w.1 1 0 11) + 1))) 1 0 11) - 1)))) ((am_up (am_up (am_up (am_up w.1 20 0 (w.1 1 0 11).toNat x1) 21 0 (w.1 1 0 11).toNat x2) 22 0 (w.1 1 0 11).toNat (w.1 1 0 12)) 1 0 11 (am_w ((w.1 1 0 11) + 1))), w.2)))) ∧ (xs0 = (-1) → Q (some (.inl (-1))) w))) :
    am_A (mh_G X) SC (d + 7) mX11_deed Q 52 [(0, .inr (.inr (some (1, 0)))), (1, .inl x1), (2, .inl x2)] [.inl xs0] w bc bs := by
  refine am_iconst dX11_deed_52 (by unfold am_rg; omega) ?_
  refine am_icmpne (tgt := 58) dX11_deed_53 (by decide) (fun c1 => ?_) (fun c1 => ?_)
  · replace h := h.1 c1
    refine am_aload_n dX11_deed_58 (List.Mem.head _) ?_
    refine am_getf (f := 7) (v := .inr (.inr (some (20, 0)))) dX11_deed_59 hc_0 (by decide) wd_576 (by decide) rfl rfl ?_
    refine am_aload_n dX11_deed_62 (List.Mem.head _) ?_
    refine am_getf (f := 11) (v := .inl (w.1 1 0 11)) dX11_deed_63 hc_0 (by decide) wd_580 (by decide) rfl rfl ?_
    refine am_iload_n dX11_deed_66 (List.Mem.tail _ (List.Mem.head _)) ?_
    have o2 := h.1
    replace h := h.2
    have o3 := h.1
    replace h := h.2
    refine am_iastore dX11_deed_67 (Or.inl (by decide)) rfl o2 o3 ?_
    refine am_aload_n dX11_deed_68 (List.Mem.head _) ?_
    refine am_getf (f := 8) (v := .inr (.inr (some (21, 0)))) dX11_deed_69 hc_0 (by decide) wd_577 (by decide) rfl rfl ?_
    refine am_aload_n dX11_deed_72 (List.Mem.head _) ?_
    refine am_getf (f := 11) (v := .inl (w.1 1 0 11)) dX11_deed_73 hc_0 (by decide) wd_580 (by decide) rfl rfl ?_
    refine am_iload_n dX11_deed_76 (List.Mem.tail _ (List.Mem.tail _ (List.Mem.head _))) ?_
    refine am_iastore dX11_deed_77 (Or.inl (by decide)) rfl o2 o3 ?_
    refine am_aload_n dX11_deed_78 (List.Mem.head _) ?_
    refine am_getf (f := 9) (v := .inr (.inr (some (22, 0)))) dX11_deed_79 hc_0 (by decide) wd_578 (by decide) rfl rfl ?_
    refine am_aload_n dX11_deed_82 (List.Mem.head _) ?_
    refine am_getf (f := 11) (v := .inl (w.1 1 0 11)) dX11_deed_83 hc_0 (by decide) wd_580 (by decide) rfl rfl ?_
    refine am_aload_n dX11_deed_86 (List.Mem.head _) ?_
    refine am_getf (f := 12) (v := .inl (w.1 1 0 12)) dX11_deed_87 hc_0 (by decide) wd_581 (by decide) rfl rfl ?_
    refine am_iastore dX11_deed_90 (Or.inl (by decide)) rfl o2 o3 ?_
    refine am_aload_n dX11_deed_91 (List.Mem.head _) ?_
    refine am_dup dX11_deed_92 rfl ?_
    refine am_getf (f := 11) (v := .inl (w.1 1 0 11)) dX11_deed_93 hc_0 (by decide) wd_580 (by decide) rfl rfl ?_
    refine am_iconst dX11_deed_96 (by unfold am_rg; omega) ?_
    refine am_iadd dX11_deed_97 ?_
    refine am_putf (f := 11) dX11_deed_98 hc_0 (by decide) wd_580 rfl (Or.inl rfl) (Or.inl (by decide)) rfl ?_
    refine am_aload_n dX11_deed_101 (List.Mem.head _) ?_
    refine am_getf (f := 11) (v := .inl ((am_up w.1 1 0 11 (am_w ((w.1 1 0 11) + 1))) 1 0 11)) dX11_deed_102 hc_0 (by decide) wd_580 (by decide) rfl rfl ?_
    refine am_iconst dX11_deed_105 (by unfold am_rg; omega) ?_
    refine am_isub dX11_deed_106 ?_
    exact am_ret (r := some (.inl (am_w (((am_up w.1 1 0 11 (am_w ((w.1 1 0 11) + 1))) 1 0 11) - 1)))) dX11_deed_107 (Or.inl rfl) rfl h
  · replace h := h.2 c1
    refine am_iconst dX11_deed_56 (by unfold am_rg; omega) ?_
    exact am_ret (r := some (.inl (-1))) dX11_deed_57 (Or.inl rfl) rfl h
-- MourningHouse.standing(I)I
theorem dX11_standing_0 : decode mX11_standing.2.1 0 = .ok (.aload_n 0, 1) := by decide +kernel
theorem dX11_standing_1 : decode mX11_standing.2.1 1 = .ok (.getfield 69, 3) := by decide +kernel
theorem dX11_standing_4 : decode mX11_standing.2.1 4 = .ok (.iload_n 1, 1) := by decide +kernel
theorem dX11_standing_5 : decode mX11_standing.2.1 5 = .ok (.iaload, 1) := by decide +kernel
theorem dX11_standing_6 : decode mX11_standing.2.1 6 = .ok (.istore_n 2, 1) := by decide +kernel
theorem dX11_standing_7 : decode mX11_standing.2.1 7 = .ok (.aload_n 0, 1) := by decide +kernel
theorem dX11_standing_8 : decode mX11_standing.2.1 8 = .ok (.getfield 42, 3) := by decide +kernel
theorem dX11_standing_11 : decode mX11_standing.2.1 11 = .ok (.aload_n 0, 1) := by decide +kernel
theorem dX11_standing_12 : decode mX11_standing.2.1 12 = .ok (.getfield 62, 3) := by decide +kernel
theorem dX11_standing_15 : decode mX11_standing.2.1 15 = .ok (.iload_n 1, 1) := by decide +kernel
theorem dX11_standing_16 : decode mX11_standing.2.1 16 = .ok (.iaload, 1) := by decide +kernel
theorem dX11_standing_17 : decode mX11_standing.2.1 17 = .ok (.iload_n 2, 1) := by decide +kernel
theorem dX11_standing_18 : decode mX11_standing.2.1 18 = .ok (.invokevirtual 221, 3) := by decide +kernel
theorem dX11_standing_21 : decode mX11_standing.2.1 21 = .ok (.aload_n 0, 1) := by decide +kernel
theorem dX11_standing_22 : decode mX11_standing.2.1 22 = .ok (.getfield 42, 3) := by decide +kernel
theorem dX11_standing_25 : decode mX11_standing.2.1 25 = .ok (.aload_n 0, 1) := by decide +kernel
theorem dX11_standing_26 : decode mX11_standing.2.1 26 = .ok (.getfield 66, 3) := by decide +kernel
theorem dX11_standing_29 : decode mX11_standing.2.1 29 = .ok (.iload_n 1, 1) := by decide +kernel
theorem dX11_standing_30 : decode mX11_standing.2.1 30 = .ok (.iaload, 1) := by decide +kernel
theorem dX11_standing_31 : decode mX11_standing.2.1 31 = .ok (.iload_n 2, 1) := by decide +kernel
theorem dX11_standing_32 : decode mX11_standing.2.1 32 = .ok (.invokevirtual 236, 3) := by decide +kernel
theorem dX11_standing_35 : decode mX11_standing.2.1 35 = .ok (.istore_n 3, 1) := by decide +kernel
theorem dX11_standing_36 : decode mX11_standing.2.1 36 = .ok (.aload_n 0, 1) := by decide +kernel
theorem dX11_standing_37 : decode mX11_standing.2.1 37 = .ok (.getfield 42, 3) := by decide +kernel
theorem dX11_standing_40 : decode mX11_standing.2.1 40 = .ok (.aload_n 0, 1) := by decide +kernel
theorem dX11_standing_41 : decode mX11_standing.2.1 41 = .ok (.getfield 62, 3) := by decide +kernel
theorem dX11_standing_44 : decode mX11_standing.2.1 44 = .ok (.iload_n 1, 1) := by decide +kernel
theorem dX11_standing_45 : decode mX11_standing.2.1 45 = .ok (.iaload, 1) := by decide +kernel
theorem dX11_standing_46 : decode mX11_standing.2.1 46 = .ok (.aload_n 0, 1) := by decide +kernel
theorem dX11_standing_47 : decode mX11_standing.2.1 47 = .ok (.getfield 79, 3) := by decide +kernel
theorem dX11_standing_50 : decode mX11_standing.2.1 50 = .ok (.invokevirtual 221, 3) := by decide +kernel
theorem dX11_standing_53 : decode mX11_standing.2.1 53 = .ok (.aload_n 0, 1) := by decide +kernel
theorem dX11_standing_54 : decode mX11_standing.2.1 54 = .ok (.getfield 42, 3) := by decide +kernel
theorem dX11_standing_57 : decode mX11_standing.2.1 57 = .ok (.aload_n 0, 1) := by decide +kernel
theorem dX11_standing_58 : decode mX11_standing.2.1 58 = .ok (.getfield 66, 3) := by decide +kernel
theorem dX11_standing_61 : decode mX11_standing.2.1 61 = .ok (.iload_n 1, 1) := by decide +kernel
theorem dX11_standing_62 : decode mX11_standing.2.1 62 = .ok (.iaload, 1) := by decide +kernel
theorem dX11_standing_63 : decode mX11_standing.2.1 63 = .ok (.iload_n 2, 1) := by decide +kernel
theorem dX11_standing_64 : decode mX11_standing.2.1 64 = .ok (.invokevirtual 236, 3) := by decide +kernel
theorem dX11_standing_67 : decode mX11_standing.2.1 67 = .ok (.istore 4, 2) := by decide +kernel
theorem dX11_standing_69 : decode mX11_standing.2.1 69 = .ok (.iload_n 3, 1) := by decide +kernel
theorem dX11_standing_70 : decode mX11_standing.2.1 70 = .ok (.iload 4, 2) := by decide +kernel
theorem dX11_standing_72 : decode mX11_standing.2.1 72 = .ok (.if_icmp .ne 13, 3) := by decide +kernel
theorem dX11_standing_75 : decode mX11_standing.2.1 75 = .ok (.iload_n 3, 1) := by decide +kernel
theorem dX11_standing_76 : decode mX11_standing.2.1 76 = .ok (.ifCond .eq 7, 3) := by decide +kernel
theorem dX11_standing_79 : decode mX11_standing.2.1 79 = .ok (.iconst 0, 1) := by decide +kernel
theorem dX11_standing_80 : decode mX11_standing.2.1 80 = .ok (.goto 4, 3) := by decide +kernel
theorem dX11_standing_83 : decode mX11_standing.2.1 83 = .ok (.iconst 1, 1) := by decide +kernel
theorem dX11_standing_84 : decode mX11_standing.2.1 84 = .ok (.ireturn, 1) := by decide +kernel
theorem dX11_standing_85 : decode mX11_standing.2.1 85 = .ok (.iload_n 3, 1) := by decide +kernel
theorem dX11_standing_86 : decode mX11_standing.2.1 86 = .ok (.ifCond .eq 7, 3) := by decide +kernel
theorem dX11_standing_89 : decode mX11_standing.2.1 89 = .ok (.iconst 2, 1) := by decide +kernel
theorem dX11_standing_90 : decode mX11_standing.2.1 90 = .ok (.goto 4, 3) := by decide +kernel
theorem dX11_standing_93 : decode mX11_standing.2.1 93 = .ok (.iconst 3, 1) := by decide +kernel
theorem dX11_standing_94 : decode mX11_standing.2.1 94 = .ok (.ireturn, 1) := by decide +kernel
theorem bX11_standing_0 {SC : Nat → Nat} {X : mh_X} {d : Nat} {Q : Option am_V → am_W → Prop} {bc bs : Nat} {w : am_W} {x1 : Int}
    (h : (0 ≤ x1 ∧ (x1 < 100 ∧ am_M (mh_G X) SC (d + 6) 0 0 mX4_study [.inr (.inr (some (6, 0))), .inl (w.1 20 0 x1.toNat), .inl (w.1 22 0 x1.toNat)] w (fun r w1 => am_A (mh_G X) SC (d + 7) mX11_standing Q 21 [(2, .inl (w.1 22 0 x1.toNat)), (0, .inr (.inr (some (1, 0)))), (1, .inl x1)] (r.toList ++ []) w1 bc bs)))) :
    am_A (mh_G X) SC (d + 7) mX11_standing Q 0 [(0, .inr (.inr (some (1, 0)))), (1, .inl x1)] [] w bc bs := by
  refine am_aload_n dX11_standing_0 (List.Mem.head _) ?_
  refine am_getf (f := 9) (v := .inr (.inr (some (22, 0)))) dX11_standing_1 hc_0 (by decide) wd_578 (by decide) rfl rfl ?_
  refine am_iload_n dX11_standing_4 (List.Mem.tail _ (List.Mem.head _)) ?_
  have o1 := h.1
  replace h := h.2
  have o2 := h.1
  replace h := h.2
  refine am_iaload (v := (w.1 22 0 x1.toNat)) dX11_standing_5 (by decide) rfl o1 o2 rfl ?_
  refine am_istore_n (ls' := [(2, .inl (w.1 22 0 x1.toNat)), (0, .inr (.inr (some (1, 0)))), (1, .inl x1)]) dX11_standing_6 (by decide) rfl ?_
  refine am_aload_n dX11_standing_7 (List.Mem.tail _ (List.Mem.head _)) ?_
  refine am_getf (f := 4) (v := .inr (.inr (some (6, 0)))) dX11_standing_8 hc_0 (by decide) wd_573 (by decide) rfl rfl ?_
  refine am_aload_n dX11_standing_11 (List.Mem.tail _ (List.Mem.head _)) ?_
  refine am_getf (f := 7) (v := .inr (.inr (some (20, 0)))) dX11_standing_12 hc_0 (by decide) wd_576 (by decide) rfl rfl ?_
  refine am_iload_n dX11_standing_15 (List.Mem.tail _ (List.Mem.tail _ (List.Mem.head _))) ?_
  refine am_iaload (v := (w.1 20 0 x1.toNat)) dX11_standing_16 (by decide) rfl o1 o2 rfl ?_
  refine am_iload_n dX11_standing_17 (List.Mem.head _) ?_
  exact am_callv (d' := d + 6) (kc := 0) (ks := 0) (as := [.inl (w.1 20 0 x1.toNat), .inl (w.1 22 0 x1.toNat)]) dX11_standing_18 wc_X4_study wd_1180 wd_1181 wd_1182 wd_118 ds_X4_study (by decide) (by omega) (Nat.le_of_ble_eq_true rfl) (Nat.zero_le _) (Nat.zero_le _) hc_6 (by decide) rfl rfl h
theorem bX11_standing_21 {SC : Nat → Nat} {X : mh_X} {d : Nat} {Q : Option am_V → am_W → Prop} {bc bs : Nat} {w : am_W} {x2 : Int} {x1 : Int}
    (h : (0 ≤ x1 ∧ (x1 < 100 ∧ am_M (mh_G X) SC (d + 6) 0 0 mX4_isAllowed [.inr (.inr (some (6, 0))), .inl (w.1 21 0 x1.toNat), .inl x2] w (fun r w1 => am_A (mh_G X) SC (d + 7) mX11_standing Q 35 [(2, .inl x2), (0, .inr (.inr (some (1, 0)))), (1, .inl x1)] (r.toList ++ []) w1 bc bs)))) :
    am_A (mh_G X) SC (d + 7) mX11_standing Q 21 [(2, .inl x2), (0, .inr (.inr (some (1, 0)))), (1, .inl x1)] [] w bc bs := by
  refine am_aload_n dX11_standing_21 (List.Mem.tail _ (List.Mem.head _)) ?_
  refine am_getf (f := 4) (v := .inr (.inr (some (6, 0)))) dX11_standing_22 hc_0 (by decide) wd_573 (by decide) rfl rfl ?_
  refine am_aload_n dX11_standing_25 (List.Mem.tail _ (List.Mem.head _)) ?_
  refine am_getf (f := 8) (v := .inr (.inr (some (21, 0)))) dX11_standing_26 hc_0 (by decide) wd_577 (by decide) rfl rfl ?_
  refine am_iload_n dX11_standing_29 (List.Mem.tail _ (List.Mem.tail _ (List.Mem.head _))) ?_
  have o1 := h.1
  replace h := h.2
  have o2 := h.1
  replace h := h.2
  refine am_iaload (v := (w.1 21 0 x1.toNat)) dX11_standing_30 (by decide) rfl o1 o2 rfl ?_
  refine am_iload_n dX11_standing_31 (List.Mem.head _) ?_
  exact am_callv (d' := d + 6) (kc := 0) (ks := 0) (as := [.inl (w.1 21 0 x1.toNat), .inl x2]) dX11_standing_32 wc_X4_isAllowed wd_1314 wd_1315 wd_1316 wd_118 ds_X4_isAllowed (by decide) (by omega) (Nat.le_of_ble_eq_true rfl) (Nat.zero_le _) (Nat.zero_le _) hc_6 (by decide) rfl rfl h
theorem bX11_standing_35 {SC : Nat → Nat} {X : mh_X} {d : Nat} {Q : Option am_V → am_W → Prop} {bc bs : Nat} {w : am_W} {x2 : Int} {x1 : Int} {xs0 : Int}
    (h : (0 ≤ x1 ∧ (x1 < 100 ∧ am_M (mh_G X) SC (d + 6) 0 0 mX4_study [.inr (.inr (some (6, 0))), .inl (w.1 20 0 x1.toNat), .inl (w.1 1 0 12)] w (fun r w1 => am_A (mh_G X) SC (d + 7) mX11_standing Q 53 [(3, .inl xs0), (2, .inl x2), (0, .inr (.inr (some (1, 0)))), (1, .inl x1)] (r.toList ++ []) w1 bc bs)))) :
    am_A (mh_G X) SC (d + 7) mX11_standing Q 35 [(2, .inl x2), (0, .inr (.inr (some (1, 0)))), (1, .inl x1)] [.inl xs0] w bc bs := by
  refine am_istore_n (ls' := [(3, .inl xs0), (2, .inl x2), (0, .inr (.inr (some (1, 0)))), (1, .inl x1)]) dX11_standing_35 (by decide) rfl ?_
  refine am_aload_n dX11_standing_36 (List.Mem.tail _ (List.Mem.tail _ (List.Mem.head _))) ?_
  refine am_getf (f := 4) (v := .inr (.inr (some (6, 0)))) dX11_standing_37 hc_0 (by decide) wd_573 (by decide) rfl rfl ?_
  refine am_aload_n dX11_standing_40 (List.Mem.tail _ (List.Mem.tail _ (List.Mem.head _))) ?_
  refine am_getf (f := 7) (v := .inr (.inr (some (20, 0)))) dX11_standing_41 hc_0 (by decide) wd_576 (by decide) rfl rfl ?_
  refine am_iload_n dX11_standing_44 (List.Mem.tail _ (List.Mem.tail _ (List.Mem.tail _ (List.Mem.head _)))) ?_
  have o1 := h.1
  replace h := h.2
  have o2 := h.1
  replace h := h.2
  refine am_iaload (v := (w.1 20 0 x1.toNat)) dX11_standing_45 (by decide) rfl o1 o2 rfl ?_
  refine am_aload_n dX11_standing_46 (List.Mem.tail _ (List.Mem.tail _ (List.Mem.head _))) ?_
  refine am_getf (f := 12) (v := .inl (w.1 1 0 12)) dX11_standing_47 hc_0 (by decide) wd_581 (by decide) rfl rfl ?_
  exact am_callv (d' := d + 6) (kc := 0) (ks := 0) (as := [.inl (w.1 20 0 x1.toNat), .inl (w.1 1 0 12)]) dX11_standing_50 wc_X4_study wd_1180 wd_1181 wd_1182 wd_118 ds_X4_study (by decide) (by omega) (Nat.le_of_ble_eq_true rfl) (Nat.zero_le _) (Nat.zero_le _) hc_6 (by decide) rfl rfl h
theorem bX11_standing_53 {SC : Nat → Nat} {X : mh_X} {d : Nat} {Q : Option am_V → am_W → Prop} {bc bs : Nat} {w : am_W} {x3 : Int} {x2 : Int} {x1 : Int}
    (h : (0 ≤ x1 ∧ (x1 < 100 ∧ am_M (mh_G X) SC (d + 6) 0 0 mX4_isAllowed [.inr (.inr (some (6, 0))), .inl (w.1 21 0 x1.toNat), .inl x2] w (fun r w1 => am_A (mh_G X) SC (d + 7) mX11_standing Q 67 [(3, .inl x3), (2, .inl x2), (0, .inr (.inr (some (1, 0)))), (1, .inl x1)] (r.toList ++ []) w1 bc bs)))) :
    am_A (mh_G X) SC (d + 7) mX11_standing Q 53 [(3, .inl x3), (2, .inl x2), (0, .inr (.inr (some (1, 0)))), (1, .inl x1)] [] w bc bs := by
  refine am_aload_n dX11_standing_53 (List.Mem.tail _ (List.Mem.tail _ (List.Mem.head _))) ?_
  refine am_getf (f := 4) (v := .inr (.inr (some (6, 0)))) dX11_standing_54 hc_0 (by decide) wd_573 (by decide) rfl rfl ?_
  refine am_aload_n dX11_standing_57 (List.Mem.tail _ (List.Mem.tail _ (List.Mem.head _))) ?_
  refine am_getf (f := 8) (v := .inr (.inr (some (21, 0)))) dX11_standing_58 hc_0 (by decide) wd_577 (by decide) rfl rfl ?_
  refine am_iload_n dX11_standing_61 (List.Mem.tail _ (List.Mem.tail _ (List.Mem.tail _ (List.Mem.head _)))) ?_
  have o1 := h.1
  replace h := h.2
  have o2 := h.1
  replace h := h.2
  refine am_iaload (v := (w.1 21 0 x1.toNat)) dX11_standing_62 (by decide) rfl o1 o2 rfl ?_
  refine am_iload_n dX11_standing_63 (List.Mem.tail _ (List.Mem.head _)) ?_
  exact am_callv (d' := d + 6) (kc := 0) (ks := 0) (as := [.inl (w.1 21 0 x1.toNat), .inl x2]) dX11_standing_64 wc_X4_isAllowed wd_1314 wd_1315 wd_1316 wd_118 ds_X4_isAllowed (by decide) (by omega) (Nat.le_of_ble_eq_true rfl) (Nat.zero_le _) (Nat.zero_le _) hc_6 (by decide) rfl rfl h
theorem bX11_standing_67 {SC : Nat → Nat} {X : mh_X} {d : Nat} {Q : Option am_V → am_W → Prop} {bc bs : Nat} {w : am_W} {x3 : Int} {x2 : Int} {x1 : Int} {xs0 : Int}
    (h : ((¬ x3 = xs0 → ((x3 = 0 → Q (some (.inl 3)) w) ∧ (¬ x3 = 0 → Q (some (.inl 2)) w))) ∧ (x3 = xs0 → ((x3 = 0 → Q (some (.inl 1)) w) ∧ (¬ x3 = 0 → Q (some (.inl 0)) w))))) :
    am_A (mh_G X) SC (d + 7) mX11_standing Q 67 [(3, .inl x3), (2, .inl x2), (0, .inr (.inr (some (1, 0)))), (1, .inl x1)] [.inl xs0] w bc bs := by
  refine am_istore (ls' := [(4, .inl xs0), (3, .inl x3), (2, .inl x2), (0, .inr (.inr (some (1, 0)))), (1, .inl x1)]) dX11_standing_67 (by decide) rfl ?_
  refine am_iload_n dX11_standing_69 (List.Mem.tail _ (List.Mem.head _)) ?_
  refine am_iload dX11_standing_70 (List.Mem.head _) ?_
  refine am_icmpne (tgt := 85) dX11_standing_72 (by decide) (fun c1 => ?_) (fun c1 => ?_)
  · replace h := h.1 c1
    refine am_iload_n dX11_standing_85 (List.Mem.tail _ (List.Mem.head _)) ?_
    refine am_ifeq (tgt := 93) dX11_standing_86 (by decide) (fun c2 => ?_) (fun c2 => ?_)
    · replace h := h.1 c2
      refine am_iconst dX11_standing_93 (by unfold am_rg; omega) ?_
      exact am_ret (r := some (.inl 3)) dX11_standing_94 (Or.inl rfl) rfl h
    · replace h := h.2 c2
      refine am_iconst dX11_standing_89 (by unfold am_rg; omega) ?_
      refine am_goto (tgt := 94) dX11_standing_90 (by decide) ?_
      exact am_ret (r := some (.inl 2)) dX11_standing_94 (Or.inl rfl) rfl h
  · replace h := h.2 c1
    refine am_iload_n dX11_standing_75 (List.Mem.tail _ (List.Mem.head _)) ?_
    refine am_ifeq (tgt := 83) dX11_standing_76 (by decide) (fun c3 => ?_) (fun c3 => ?_)
    · replace h := h.1 c3
      refine am_iconst dX11_standing_83 (by unfold am_rg; omega) ?_
      exact am_ret (r := some (.inl 1)) dX11_standing_84 (Or.inl rfl) rfl h
    · replace h := h.2 c3
      refine am_iconst dX11_standing_79 (by unfold am_rg; omega) ?_
      refine am_goto (tgt := 84) dX11_standing_80 (by decide) ?_
      exact am_ret (r := some (.inl 0)) dX11_standing_84 (Or.inl rfl) rfl h
-- MourningHouse.stands(II)I
theorem dX11_stands_0 : decode mX11_stands.2.1 0 = .ok (.iload_n 1, 1) := by decide +kernel
theorem dX11_stands_1 : decode mX11_stands.2.1 1 = .ok (.ifCond .lt 11, 3) := by decide +kernel
theorem dX11_stands_4 : decode mX11_stands.2.1 4 = .ok (.iload_n 1, 1) := by decide +kernel
theorem dX11_stands_5 : decode mX11_stands.2.1 5 = .ok (.aload_n 0, 1) := by decide +kernel
theorem dX11_stands_6 : decode mX11_stands.2.1 6 = .ok (.getfield 75, 3) := by decide +kernel
theorem dX11_stands_9 : decode mX11_stands.2.1 9 = .ok (.if_icmp .lt 5, 3) := by decide +kernel
theorem dX11_stands_12 : decode mX11_stands.2.1 12 = .ok (.iconst (-1), 1) := by decide +kernel
theorem dX11_stands_13 : decode mX11_stands.2.1 13 = .ok (.ireturn, 1) := by decide +kernel
theorem dX11_stands_14 : decode mX11_stands.2.1 14 = .ok (.iload_n 2, 1) := by decide +kernel
theorem dX11_stands_15 : decode mX11_stands.2.1 15 = .ok (.tableswitch 56 0 3 #[29, 36, 43, 50], 29) := by decide +kernel
theorem dX11_stands_44 : decode mX11_stands.2.1 44 = .ok (.aload_n 0, 1) := by decide +kernel
theorem dX11_stands_45 : decode mX11_stands.2.1 45 = .ok (.getfield 62, 3) := by decide +kernel
theorem dX11_stands_48 : decode mX11_stands.2.1 48 = .ok (.iload_n 1, 1) := by decide +kernel
theorem dX11_stands_49 : decode mX11_stands.2.1 49 = .ok (.iaload, 1) := by decide +kernel
theorem dX11_stands_50 : decode mX11_stands.2.1 50 = .ok (.ireturn, 1) := by decide +kernel
theorem dX11_stands_51 : decode mX11_stands.2.1 51 = .ok (.aload_n 0, 1) := by decide +kernel
theorem dX11_stands_52 : decode mX11_stands.2.1 52 = .ok (.getfield 66, 3) := by decide +kernel
theorem dX11_stands_55 : decode mX11_stands.2.1 55 = .ok (.iload_n 1, 1) := by decide +kernel
theorem dX11_stands_56 : decode mX11_stands.2.1 56 = .ok (.iaload, 1) := by decide +kernel
theorem dX11_stands_57 : decode mX11_stands.2.1 57 = .ok (.ireturn, 1) := by decide +kernel
theorem dX11_stands_58 : decode mX11_stands.2.1 58 = .ok (.aload_n 0, 1) := by decide +kernel
theorem dX11_stands_59 : decode mX11_stands.2.1 59 = .ok (.getfield 69, 3) := by decide +kernel
theorem dX11_stands_62 : decode mX11_stands.2.1 62 = .ok (.iload_n 1, 1) := by decide +kernel
theorem dX11_stands_63 : decode mX11_stands.2.1 63 = .ok (.iaload, 1) := by decide +kernel
theorem dX11_stands_64 : decode mX11_stands.2.1 64 = .ok (.ireturn, 1) := by decide +kernel
theorem dX11_stands_65 : decode mX11_stands.2.1 65 = .ok (.aload_n 0, 1) := by decide +kernel
theorem dX11_stands_66 : decode mX11_stands.2.1 66 = .ok (.iload_n 1, 1) := by decide +kernel
theorem dX11_stands_67 : decode mX11_stands.2.1 67 = .ok (.invokevirtual 239, 3) := by decide +kernel
theorem dX11_stands_70 : decode mX11_stands.2.1 70 = .ok (.ireturn, 1) := by decide +kernel
theorem dX11_stands_71 : decode mX11_stands.2.1 71 = .ok (.iconst (-1), 1) := by decide +kernel
theorem dX11_stands_72 : decode mX11_stands.2.1 72 = .ok (.ireturn, 1) := by decide +kernel
theorem bX11_stands_0 {SC : Nat → Nat} {X : mh_X} {d : Nat} {Q : Option am_V → am_W → Prop} {bc bs : Nat} {w : am_W} {x1 : Int} {x2 : Int}
    (h : ((x1 < 0 → Q (some (.inl (-1))) w) ∧ (¬ x1 < 0 → ((x1 < (w.1 1 0 11) → (((x2 < 0 ∨ 3 < x2) → Q (some (.inl (-1))) w) ∧ (x2 = 0 → (0 ≤ x1 ∧ (x1 < 100 ∧ Q (some (.inl (w.1 20 0 x1.toNat))) w))) ∧ (x2 = 1 → (0 ≤ x1 ∧ (x1 < 100 ∧ Q (some (.inl (w.1 21 0 x1.toNat))) w))) ∧ (x2 = 2 → (0 ≤ x1 ∧ (x1 < 100 ∧ Q (some (.inl (w.1 22 0 x1.toNat))) w))) ∧ (x2 = 3 → am_M (mh_G X) SC (d + 7) 0 0 mX11_standing [.inr (.inr (some (1, 0))), .inl x1] w (fun r w1 => am_A (mh_G X) SC (d + 8) mX11_stands Q 70 [(0, .inr (.inr (some (1, 0)))), (1, .inl x1), (2, .inl x2)] (r.toList ++ []) w1 bc bs)))) ∧ (¬ x1 < (w.1 1 0 11) → Q (some (.inl (-1))) w))))) :
    am_A (mh_G X) SC (d + 8) mX11_stands Q 0 [(0, .inr (.inr (some (1, 0)))), (1, .inl x1), (2, .inl x2)] [] w bc bs := by
  refine am_iload_n dX11_stands_0 (List.Mem.tail _ (List.Mem.head _)) ?_
  refine am_iflt (tgt := 12) dX11_stands_1 (by decide) (fun c1 => ?_) (fun c1 => ?_)
  · replace h := h.1 c1
    refine am_iconst dX11_stands_12 (by unfold am_rg; omega) ?_
    exact am_ret (r := some (.inl (-1))) dX11_stands_13 (Or.inl rfl) rfl h
  · replace h := h.2 c1
    refine am_iload_n dX11_stands_4 (List.Mem.tail _ (List.Mem.head _)) ?_
    refine am_aload_n dX11_stands_5 (List.Mem.head _) ?_
    refine am_getf (f := 11) (v := .inl (w.1 1 0 11)) dX11_stands_6 hc_0 (by decide) wd_580 (by decide) rfl rfl ?_
    refine am_icmplt (tgt := 14) dX11_stands_9 (by decide) (fun c2 => ?_) (fun c2 => ?_)
    · replace h := h.1 c2
      refine am_iload_n dX11_stands_14 (List.Mem.tail _ (List.Mem.tail _ (List.Mem.head _))) ?_
      by_cases c3 : (x2 < 0 ∨ 3 < x2)
      · replace h := h.1 c3
        refine am_tswOut (tgt := 71) dX11_stands_15 c3 (by decide) ?_
        refine am_iconst dX11_stands_71 (by unfold am_rg; omega) ?_
        exact am_ret (r := some (.inl (-1))) dX11_stands_72 (Or.inl rfl) rfl h
      · rcases (show x2 = 0 ∨ x2 = 1 ∨ x2 = 2 ∨ x2 = 3 by omega) with c3 | c3 | c3 | c3
        · replace h := h.2.1 c3
          refine am_tswIn (off := 29) (tgt := 44) dX11_stands_15 (by omega) (by omega) (by rw [c3]; decide) (by decide) ?_
          refine am_aload_n dX11_stands_44 (List.Mem.head _) ?_
          refine am_getf (f := 7) (v := .inr (.inr (some (20, 0)))) dX11_stands_45 hc_0 (by decide) wd_576 (by decide) rfl rfl ?_
          refine am_iload_n dX11_stands_48 (List.Mem.tail _ (List.Mem.head _)) ?_
          have o4 := h.1
          replace h := h.2
          have o5 := h.1
          replace h := h.2
          refine am_iaload (v := (w.1 20 0 x1.toNat)) dX11_stands_49 (by decide) rfl o4 o5 rfl ?_
          exact am_ret (r := some (.inl (w.1 20 0 x1.toNat))) dX11_stands_50 (Or.inl rfl) rfl h
        · replace h := h.2.2.1 c3
          refine am_tswIn (off := 36) (tgt := 51) dX11_stands_15 (by omega) (by omega) (by rw [c3]; decide) (by decide) ?_
          refine am_aload_n dX11_stands_51 (List.Mem.head _) ?_
          refine am_getf (f := 8) (v := .inr (.inr (some (21, 0)))) dX11_stands_52 hc_0 (by decide) wd_577 (by decide) rfl rfl ?_
          refine am_iload_n dX11_stands_55 (List.Mem.tail _ (List.Mem.head _)) ?_
          have o6 := h.1
          replace h := h.2
          have o7 := h.1
          replace h := h.2
          refine am_iaload (v := (w.1 21 0 x1.toNat)) dX11_stands_56 (by decide) rfl o6 o7 rfl ?_
          exact am_ret (r := some (.inl (w.1 21 0 x1.toNat))) dX11_stands_57 (Or.inl rfl) rfl h
        · replace h := h.2.2.2.1 c3
          refine am_tswIn (off := 43) (tgt := 58) dX11_stands_15 (by omega) (by omega) (by rw [c3]; decide) (by decide) ?_
          refine am_aload_n dX11_stands_58 (List.Mem.head _) ?_
          refine am_getf (f := 9) (v := .inr (.inr (some (22, 0)))) dX11_stands_59 hc_0 (by decide) wd_578 (by decide) rfl rfl ?_
          refine am_iload_n dX11_stands_62 (List.Mem.tail _ (List.Mem.head _)) ?_
          have o8 := h.1
          replace h := h.2
          have o9 := h.1
          replace h := h.2
          refine am_iaload (v := (w.1 22 0 x1.toNat)) dX11_stands_63 (by decide) rfl o8 o9 rfl ?_
          exact am_ret (r := some (.inl (w.1 22 0 x1.toNat))) dX11_stands_64 (Or.inl rfl) rfl h
        · replace h := h.2.2.2.2 c3
          refine am_tswIn (off := 50) (tgt := 65) dX11_stands_15 (by omega) (by omega) (by rw [c3]; decide) (by decide) ?_
          refine am_aload_n dX11_stands_65 (List.Mem.head _) ?_
          refine am_iload_n dX11_stands_66 (List.Mem.tail _ (List.Mem.head _)) ?_
          exact am_callv (d' := d + 7) (kc := 0) (ks := 0) (as := [.inl x1]) dX11_stands_67 wc_X11_standing wd_1326 wd_1328 wd_40 wd_112 ds_X11_standing (by decide) (by omega) (Nat.le_of_ble_eq_true rfl) (Nat.zero_le _) (Nat.zero_le _) hc_0 (by decide) rfl rfl h
    · replace h := h.2 c2
      refine am_iconst dX11_stands_12 (by unfold am_rg; omega) ?_
      exact am_ret (r := some (.inl (-1))) dX11_stands_13 (Or.inl rfl) rfl h
theorem bX11_stands_70 {SC : Nat → Nat} {X : mh_X} {d : Nat} {Q : Option am_V → am_W → Prop} {bc bs : Nat} {w : am_W} {x1 : Int} {x2 : Int} {xs0 : Int}
    (h : Q (some (.inl xs0)) w) :
    am_A (mh_G X) SC (d + 8) mX11_stands Q 70 [(0, .inr (.inr (some (1, 0)))), (1, .inl x1), (2, .inl x2)] [.inl xs0] w bc bs := by
  exact am_ret (r := some (.inl xs0)) dX11_stands_70 (Or.inl rfl) rfl h
-- MourningHouse.countAllowed(III)V
theorem dX11_countAllowed_0 : decode mX11_countAllowed.2.1 0 = .ok (.iconst 0, 1) := by decide +kernel
theorem dX11_countAllowed_1 : decode mX11_countAllowed.2.1 1 = .ok (.istore 4, 2) := by decide +kernel
theorem dX11_countAllowed_3 : decode mX11_countAllowed.2.1 3 = .ok (.iload 4, 2) := by decide +kernel
theorem dX11_countAllowed_5 : decode mX11_countAllowed.2.1 5 = .ok (.bipush 60, 2) := by decide +kernel
theorem dX11_countAllowed_7 : decode mX11_countAllowed.2.1 7 = .ok (.if_icmp .ge 17, 3) := by decide +kernel
theorem dX11_countAllowed_10 : decode mX11_countAllowed.2.1 10 = .ok (.aload_n 0, 1) := by decide +kernel
theorem dX11_countAllowed_11 : decode mX11_countAllowed.2.1 11 = .ok (.getfield 72, 3) := by decide +kernel
theorem dX11_countAllowed_14 : decode mX11_countAllowed.2.1 14 = .ok (.iload 4, 2) := by decide +kernel
theorem dX11_countAllowed_16 : decode mX11_countAllowed.2.1 16 = .ok (.iconst 0, 1) := by decide +kernel
theorem dX11_countAllowed_17 : decode mX11_countAllowed.2.1 17 = .ok (.iastore, 1) := by decide +kernel
theorem dX11_countAllowed_18 : decode mX11_countAllowed.2.1 18 = .ok (.iinc 4 1, 3) := by decide +kernel
theorem dX11_countAllowed_21 : decode mX11_countAllowed.2.1 21 = .ok (.goto (-18), 3) := by decide +kernel
theorem dX11_countAllowed_24 : decode mX11_countAllowed.2.1 24 = .ok (.iconst 0, 1) := by decide +kernel
theorem dX11_countAllowed_25 : decode mX11_countAllowed.2.1 25 = .ok (.istore 4, 2) := by decide +kernel
theorem dX11_countAllowed_27 : decode mX11_countAllowed.2.1 27 = .ok (.iload 4, 2) := by decide +kernel
theorem dX11_countAllowed_29 : decode mX11_countAllowed.2.1 29 = .ok (.aload_n 0, 1) := by decide +kernel
theorem dX11_countAllowed_30 : decode mX11_countAllowed.2.1 30 = .ok (.getfield 33, 3) := by decide +kernel
theorem dX11_countAllowed_33 : decode mX11_countAllowed.2.1 33 = .ok (.getfield 298, 3) := by decide +kernel
theorem dX11_countAllowed_36 : decode mX11_countAllowed.2.1 36 = .ok (.if_icmp .ge 63, 3) := by decide +kernel
theorem dX11_countAllowed_39 : decode mX11_countAllowed.2.1 39 = .ok (.aload_n 0, 1) := by decide +kernel
theorem dX11_countAllowed_40 : decode mX11_countAllowed.2.1 40 = .ok (.getfield 42, 3) := by decide +kernel
theorem dX11_countAllowed_43 : decode mX11_countAllowed.2.1 43 = .ok (.iload 4, 2) := by decide +kernel
theorem dX11_countAllowed_45 : decode mX11_countAllowed.2.1 45 = .ok (.aload_n 0, 1) := by decide +kernel
theorem dX11_countAllowed_46 : decode mX11_countAllowed.2.1 46 = .ok (.getfield 79, 3) := by decide +kernel
theorem dX11_countAllowed_49 : decode mX11_countAllowed.2.1 49 = .ok (.invokevirtual 221, 3) := by decide +kernel
theorem dX11_countAllowed_52 : decode mX11_countAllowed.2.1 52 = .ok (.iload_n 2, 1) := by decide +kernel
theorem dX11_countAllowed_53 : decode mX11_countAllowed.2.1 53 = .ok (.istore 5, 2) := by decide +kernel
theorem dX11_countAllowed_55 : decode mX11_countAllowed.2.1 55 = .ok (.iload 5, 2) := by decide +kernel
theorem dX11_countAllowed_57 : decode mX11_countAllowed.2.1 57 = .ok (.iload_n 3, 1) := by decide +kernel
theorem dX11_countAllowed_58 : decode mX11_countAllowed.2.1 58 = .ok (.if_icmp .gt 35, 3) := by decide +kernel
theorem dX11_countAllowed_61 : decode mX11_countAllowed.2.1 61 = .ok (.aload_n 0, 1) := by decide +kernel
theorem dX11_countAllowed_62 : decode mX11_countAllowed.2.1 62 = .ok (.getfield 42, 3) := by decide +kernel
theorem dX11_countAllowed_65 : decode mX11_countAllowed.2.1 65 = .ok (.iload_n 1, 1) := by decide +kernel
theorem dX11_countAllowed_66 : decode mX11_countAllowed.2.1 66 = .ok (.iload 5, 2) := by decide +kernel
theorem dX11_countAllowed_68 : decode mX11_countAllowed.2.1 68 = .ok (.invokevirtual 236, 3) := by decide +kernel
theorem dX11_countAllowed_71 : decode mX11_countAllowed.2.1 71 = .ok (.ifCond .eq 16, 3) := by decide +kernel
theorem dX11_countAllowed_74 : decode mX11_countAllowed.2.1 74 = .ok (.aload_n 0, 1) := by decide +kernel
theorem dX11_countAllowed_75 : decode mX11_countAllowed.2.1 75 = .ok (.getfield 72, 3) := by decide +kernel
theorem dX11_countAllowed_78 : decode mX11_countAllowed.2.1 78 = .ok (.iload 5, 2) := by decide +kernel
theorem dX11_countAllowed_80 : decode mX11_countAllowed.2.1 80 = .ok (.iload_n 2, 1) := by decide +kernel
theorem dX11_countAllowed_81 : decode mX11_countAllowed.2.1 81 = .ok (.isub, 1) := by decide +kernel
theorem dX11_countAllowed_82 : decode mX11_countAllowed.2.1 82 = .ok (.dup2, 1) := by decide +kernel
theorem dX11_countAllowed_83 : decode mX11_countAllowed.2.1 83 = .ok (.iaload, 1) := by decide +kernel
theorem dX11_countAllowed_84 : decode mX11_countAllowed.2.1 84 = .ok (.iconst 1, 1) := by decide +kernel
theorem dX11_countAllowed_85 : decode mX11_countAllowed.2.1 85 = .ok (.iadd, 1) := by decide +kernel
theorem dX11_countAllowed_86 : decode mX11_countAllowed.2.1 86 = .ok (.iastore, 1) := by decide +kernel
theorem dX11_countAllowed_87 : decode mX11_countAllowed.2.1 87 = .ok (.iinc 5 1, 3) := by decide +kernel
theorem dX11_countAllowed_90 : decode mX11_countAllowed.2.1 90 = .ok (.goto (-35), 3) := by decide +kernel
theorem dX11_countAllowed_93 : decode mX11_countAllowed.2.1 93 = .ok (.iinc 4 1, 3) := by decide +kernel
theorem dX11_countAllowed_96 : decode mX11_countAllowed.2.1 96 = .ok (.goto (-69), 3) := by decide +kernel
theorem dX11_countAllowed_99 : decode mX11_countAllowed.2.1 99 = .ok (.return_, 1) := by decide +kernel
theorem bX11_countAllowed_0 {SC : Nat → Nat} {X : mh_X} {d : Nat} {Q : Option am_V → am_W → Prop} {bc bs : Nat} {w : am_W} {x1 : Int} {x2 : Int} {x3 : Int}
    (h : am_A (mh_G X) SC (d + 7) mX11_countAllowed Q 3 [(0, .inr (.inr (some (1, 0)))), (1, .inl x1), (2, .inl x2), (3, .inl x3), (4, .inl 0)] [] w bc bs) :
    am_A (mh_G X) SC (d + 7) mX11_countAllowed Q 0 [(0, .inr (.inr (some (1, 0)))), (1, .inl x1), (2, .inl x2), (3, .inl x3)] [] w bc bs := by
  refine am_iconst dX11_countAllowed_0 (by unfold am_rg; omega) ?_
  refine am_istore (ls' := [(4, .inl 0), (0, .inr (.inr (some (1, 0)))), (1, .inl x1), (2, .inl x2), (3, .inl x3)]) dX11_countAllowed_1 (by decide) rfl ?_
  exact am_sub [1, 2, 3, 4, 0] rfl h
theorem bX11_countAllowed_3 {SC : Nat → Nat} {X : mh_X} {d : Nat} {Q : Option am_V → am_W → Prop} {bc bs : Nat} {w : am_W} {x1 : Int} {x2 : Int} {x3 : Int} {x4 : Int}
    (h : ((60 ≤ x4 → am_A (mh_G X) SC (d + 7) mX11_countAllowed Q 27 [(0, .inr (.inr (some (1, 0)))), (1, .inl x1), (2, .inl x2), (3, .inl x3), (4, .inl 0)] [] w bc bs) ∧ (¬ 60 ≤ x4 → (0 ≤ x4 ∧ (x4 < 60 ∧ am_A (mh_G X) SC (d + 7) mX11_countAllowed Q 3 [(0, .inr (.inr (some (1, 0)))), (1, .inl x1), (2, .inl x2), (3, .inl x3), (4, .inl (am_w (x4 + 1)))] [] ((am_up w.1 23 0 x4.toNat 0), w.2) bc bs))))) :
    am_A (mh_G X) SC (d + 7) mX11_countAllowed Q 3 [(0, .inr (.inr (some (1, 0)))), (1, .inl x1), (2, .inl x2), (3, .inl x3), (4, .inl x4)] [] w bc bs := by
  refine am_iload dX11_countAllowed_3 (List.Mem.tail _ (List.Mem.tail _ (List.Mem.tail _ (List.Mem.tail _ (List.Mem.head _))))) ?_
  refine am_bipush dX11_countAllowed_5 (by decide) (by unfold am_rg; omega) ?_
  refine am_icmpge (tgt := 24) dX11_countAllowed_7 (by decide) (fun c1 => ?_) (fun c1 => ?_)
  · replace h := h.1 c1
    refine am_iconst dX11_countAllowed_24 (by unfold am_rg; omega) ?_
    refine am_istore (ls' := [(4, .inl 0), (0, .inr (.inr (some (1, 0)))), (1, .inl x1), (2, .inl x2), (3, .inl x3)]) dX11_countAllowed_25 (by decide) rfl ?_
    exact am_sub [1, 2, 3, 4, 0] rfl h
  · replace h := h.2 c1
    refine am_aload_n dX11_countAllowed_10 (List.Mem.head _) ?_
    refine am_getf (f := 10) (v := .inr (.inr (some (23, 0)))) dX11_countAllowed_11 hc_0 (by decide) wd_579 (by decide) rfl rfl ?_
    refine am_iload dX11_countAllowed_14 (List.Mem.tail _ (List.Mem.tail _ (List.Mem.tail _ (List.Mem.tail _ (List.Mem.head _))))) ?_
    refine am_iconst dX11_countAllowed_16 (by unfold am_rg; omega) ?_
    have o2 := h.1
    replace h := h.2
    have o3 := h.1
    replace h := h.2
    refine am_iastore dX11_countAllowed_17 (Or.inl (by decide)) rfl o2 o3 ?_
    refine am_iinc (ls' := [(4, .inl (am_w (x4 + 1))), (0, .inr (.inr (some (1, 0)))), (1, .inl x1), (2, .inl x2), (3, .inl x3)]) dX11_countAllowed_18 (List.Mem.tail _ (List.Mem.tail _ (List.Mem.tail _ (List.Mem.tail _ (List.Mem.head _))))) (by decide) rfl ?_
    refine am_goto (tgt := 3) dX11_countAllowed_21 (by decide) ?_
    exact am_sub [1, 2, 3, 4, 0] rfl h
theorem bX11_countAllowed_27 {SC : Nat → Nat} {X : mh_X} {d : Nat} {Q : Option am_V → am_W → Prop} {bc bs : Nat} {w : am_W} {x1 : Int} {x2 : Int} {x3 : Int} {x4 : Int}
    (h : (((w.1 5 0 18) ≤ x4 → Q none w) ∧ (¬ (w.1 5 0 18) ≤ x4 → am_M (mh_G X) SC (d + 6) 0 0 mX4_study [.inr (.inr (some (6, 0))), .inl x4, .inl (w.1 1 0 12)] w (fun r w1 => am_A (mh_G X) SC (d + 7) mX11_countAllowed Q 52 [(0, .inr (.inr (some (1, 0)))), (1, .inl x1), (2, .inl x2), (3, .inl x3), (4, .inl x4)] (r.toList ++ []) w1 bc bs)))) :
    am_A (mh_G X) SC (d + 7) mX11_countAllowed Q 27 [(0, .inr (.inr (some (1, 0)))), (1, .inl x1), (2, .inl x2), (3, .inl x3), (4, .inl x4)] [] w bc bs := by
  refine am_iload dX11_countAllowed_27 (List.Mem.tail _ (List.Mem.tail _ (List.Mem.tail _ (List.Mem.tail _ (List.Mem.head _))))) ?_
  refine am_aload_n dX11_countAllowed_29 (List.Mem.head _) ?_
  refine am_getf (f := 3) (v := .inr (.inr (some (5, 0)))) dX11_countAllowed_30 hc_0 (by decide) wd_572 (by decide) rfl rfl ?_
  refine am_getf (f := 18) (v := .inl (w.1 5 0 18)) dX11_countAllowed_33 hc_5 (by decide) wd_341 (by decide) rfl rfl ?_
  refine am_icmpge (tgt := 99) dX11_countAllowed_36 (by decide) (fun c1 => ?_) (fun c1 => ?_)
  · replace h := h.1 c1
    exact am_ret (r := none) dX11_countAllowed_99 rfl rfl h
  · replace h := h.2 c1
    refine am_aload_n dX11_countAllowed_39 (List.Mem.head _) ?_
    refine am_getf (f := 4) (v := .inr (.inr (some (6, 0)))) dX11_countAllowed_40 hc_0 (by decide) wd_573 (by decide) rfl rfl ?_
    refine am_iload dX11_countAllowed_43 (List.Mem.tail _ (List.Mem.tail _ (List.Mem.tail _ (List.Mem.tail _ (List.Mem.head _))))) ?_
    refine am_aload_n dX11_countAllowed_45 (List.Mem.head _) ?_
    refine am_getf (f := 12) (v := .inl (w.1 1 0 12)) dX11_countAllowed_46 hc_0 (by decide) wd_581 (by decide) rfl rfl ?_
    exact am_callv (d' := d + 6) (kc := 0) (ks := 0) (as := [.inl x4, .inl (w.1 1 0 12)]) dX11_countAllowed_49 wc_X4_study wd_1180 wd_1181 wd_1182 wd_118 ds_X4_study (by decide) (by omega) (Nat.le_of_ble_eq_true rfl) (Nat.zero_le _) (Nat.zero_le _) hc_6 (by decide) rfl rfl h
theorem bX11_countAllowed_52 {SC : Nat → Nat} {X : mh_X} {d : Nat} {Q : Option am_V → am_W → Prop} {bc bs : Nat} {w : am_W} {x1 : Int} {x2 : Int} {x3 : Int} {x4 : Int}
    (h : am_A (mh_G X) SC (d + 7) mX11_countAllowed Q 55 [(0, .inr (.inr (some (1, 0)))), (1, .inl x1), (2, .inl x2), (3, .inl x3), (4, .inl x4), (5, .inl x2)] [] w bc bs) :
    am_A (mh_G X) SC (d + 7) mX11_countAllowed Q 52 [(0, .inr (.inr (some (1, 0)))), (1, .inl x1), (2, .inl x2), (3, .inl x3), (4, .inl x4)] [] w bc bs := by
  refine am_iload_n dX11_countAllowed_52 (List.Mem.tail _ (List.Mem.tail _ (List.Mem.head _))) ?_
  refine am_istore (ls' := [(5, .inl x2), (0, .inr (.inr (some (1, 0)))), (1, .inl x1), (2, .inl x2), (3, .inl x3), (4, .inl x4)]) dX11_countAllowed_53 (by decide) rfl ?_
  exact am_sub [1, 2, 3, 4, 5, 0] rfl h
theorem bX11_countAllowed_55 {SC : Nat → Nat} {X : mh_X} {d : Nat} {Q : Option am_V → am_W → Prop} {bc bs : Nat} {w : am_W} {x1 : Int} {x2 : Int} {x3 : Int} {x4 : Int} {x5 : Int}
    (h : ((x3 < x5 → am_A (mh_G X) SC (d + 7) mX11_countAllowed Q 27 [(0, .inr (.inr (some (1, 0)))), (1, .inl x1), (2, .inl x2), (3, .inl x3), (4, .inl (am_w (x4 + 1)))] [] w bc bs) ∧ (¬ x3 < x5 → am_M (mh_G X) SC (d + 6) 0 0 mX4_isAllowed [.inr (.inr (some (6, 0))), .inl x1, .inl x5] w (fun r w1 => am_A (mh_G X) SC (d + 7) mX11_countAllowed Q 71 [(0, .inr (.inr (some (1, 0)))), (1, .inl x1), (2, .inl x2), (3, .inl x3), (4, .inl x4), (5, .inl x5)] (r.toList ++ []) w1 bc bs)))) :
    am_A (mh_G X) SC (d + 7) mX11_countAllowed Q 55 [(0, .inr (.inr (some (1, 0)))), (1, .inl x1), (2, .inl x2), (3, .inl x3), (4, .inl x4), (5, .inl x5)] [] w bc bs := by
  refine am_iload dX11_countAllowed_55 (List.Mem.tail _ (List.Mem.tail _ (List.Mem.tail _ (List.Mem.tail _ (List.Mem.tail _ (List.Mem.head _)))))) ?_
  refine am_iload_n dX11_countAllowed_57 (List.Mem.tail _ (List.Mem.tail _ (List.Mem.tail _ (List.Mem.head _)))) ?_
  refine am_icmpgt (tgt := 93) dX11_countAllowed_58 (by decide) (fun c1 => ?_) (fun c1 => ?_)
  · replace h := h.1 c1
    refine am_iinc (ls' := [(4, .inl (am_w (x4 + 1))), (0, .inr (.inr (some (1, 0)))), (1, .inl x1), (2, .inl x2), (3, .inl x3), (5, .inl x5)]) dX11_countAllowed_93 (List.Mem.tail _ (List.Mem.tail _ (List.Mem.tail _ (List.Mem.tail _ (List.Mem.head _))))) (by decide) rfl ?_
    refine am_goto (tgt := 27) dX11_countAllowed_96 (by decide) ?_
    exact am_sub [1, 2, 3, 4, 0] rfl h
  · replace h := h.2 c1
    refine am_aload_n dX11_countAllowed_61 (List.Mem.head _) ?_
    refine am_getf (f := 4) (v := .inr (.inr (some (6, 0)))) dX11_countAllowed_62 hc_0 (by decide) wd_573 (by decide) rfl rfl ?_
    refine am_iload_n dX11_countAllowed_65 (List.Mem.tail _ (List.Mem.head _)) ?_
    refine am_iload dX11_countAllowed_66 (List.Mem.tail _ (List.Mem.tail _ (List.Mem.tail _ (List.Mem.tail _ (List.Mem.tail _ (List.Mem.head _)))))) ?_
    exact am_callv (d' := d + 6) (kc := 0) (ks := 0) (as := [.inl x1, .inl x5]) dX11_countAllowed_68 wc_X4_isAllowed wd_1314 wd_1315 wd_1316 wd_118 ds_X4_isAllowed (by decide) (by omega) (Nat.le_of_ble_eq_true rfl) (Nat.zero_le _) (Nat.zero_le _) hc_6 (by decide) rfl rfl h
theorem bX11_countAllowed_71 {SC : Nat → Nat} {X : mh_X} {d : Nat} {Q : Option am_V → am_W → Prop} {bc bs : Nat} {w : am_W} {x1 : Int} {x2 : Int} {x3 : Int} {x4 : Int} {x5 : Int} {xs0 : Int}
    (h : ((xs0 = 0 → am_A (mh_G X) SC (d + 7) mX11_countAllowed Q 87 [(0, .inr (.inr (some (1, 0)))), (1, .inl x1), (2, .inl x2), (3, .inl x3), (4, .inl x4), (5, .inl x5)] [] w bc bs) ∧ (¬ xs0 = 0 → (0 ≤ (am_w (x5 - x2)) ∧ ((am_w (x5 - x2)) < 60 ∧ am_A (mh_G X) SC (d + 7) mX11_countAllowed Q 87 [(0, .inr (.inr (some (1, 0)))), (1, .inl x1), (2, .inl x2), (3, .inl x3), (4, .inl x4), (5, .inl x5)] [] ((am_up w.1 23 0 (am_w (x5 - x2)).toNat (am_w ((w.1 23 0 (am_w (x5 - x2)).toNat) + 1))), w.2) bc bs))))) :
    am_A (mh_G X) SC (d + 7) mX11_countAllowed Q 71 [(0, .inr (.inr (some (1, 0)))), (1, .inl x1), (2, .inl x2), (3, .inl x3), (4, .inl x4), (5, .inl x5)] [.inl xs0] w bc bs := by
  refine am_ifeq (tgt := 87) dX11_countAllowed_71 (by decide) (fun c1 => ?_) (fun c1 => ?_)
  · replace h := h.1 c1
    exact h
  · replace h := h.2 c1
    refine am_aload_n dX11_countAllowed_74 (List.Mem.head _) ?_
    refine am_getf (f := 10) (v := .inr (.inr (some (23, 0)))) dX11_countAllowed_75 hc_0 (by decide) wd_579 (by decide) rfl rfl ?_
    refine am_iload dX11_countAllowed_78 (List.Mem.tail _ (List.Mem.tail _ (List.Mem.tail _ (List.Mem.tail _ (List.Mem.tail _ (List.Mem.head _)))))) ?_
    refine am_iload_n dX11_countAllowed_80 (List.Mem.tail _ (List.Mem.tail _ (List.Mem.head _))) ?_
    refine am_isub dX11_countAllowed_81 ?_
    refine am_dup2 dX11_countAllowed_82 rfl rfl ?_
    have o2 := h.1
    replace h := h.2
    have o3 := h.1
    replace h := h.2
    refine am_iaload (v := (w.1 23 0 (am_w (x5 - x2)).toNat)) dX11_countAllowed_83 (by decide) rfl o2 o3 rfl ?_
    refine am_iconst dX11_countAllowed_84 (by unfold am_rg; omega) ?_
    refine am_iadd dX11_countAllowed_85 ?_
    refine am_iastore dX11_countAllowed_86 (Or.inl (by decide)) rfl o2 o3 ?_
    exact h
theorem bX11_countAllowed_87 {SC : Nat → Nat} {X : mh_X} {d : Nat} {Q : Option am_V → am_W → Prop} {bc bs : Nat} {w : am_W} {x1 : Int} {x2 : Int} {x3 : Int} {x4 : Int} {x5 : Int}
    (h : am_A (mh_G X) SC (d + 7) mX11_countAllowed Q 55 [(0, .inr (.inr (some (1, 0)))), (1, .inl x1), (2, .inl x2), (3, .inl x3), (4, .inl x4), (5, .inl (am_w (x5 + 1)))] [] w bc bs) :
    am_A (mh_G X) SC (d + 7) mX11_countAllowed Q 87 [(0, .inr (.inr (some (1, 0)))), (1, .inl x1), (2, .inl x2), (3, .inl x3), (4, .inl x4), (5, .inl x5)] [] w bc bs := by
  refine am_iinc (ls' := [(5, .inl (am_w (x5 + 1))), (0, .inr (.inr (some (1, 0)))), (1, .inl x1), (2, .inl x2), (3, .inl x3), (4, .inl x4)]) dX11_countAllowed_87 (List.Mem.tail _ (List.Mem.tail _ (List.Mem.tail _ (List.Mem.tail _ (List.Mem.tail _ (List.Mem.head _)))))) (by decide) rfl ?_
  refine am_goto (tgt := 55) dX11_countAllowed_90 (by decide) ?_
  exact am_sub [1, 2, 3, 4, 5, 0] rfl h
-- MourningHouse.isChoice(II)Z
theorem dX11_isChoice_0 : decode mX11_isChoice.2.1 0 = .ok (.iload_n 0, 1) := by decide +kernel
theorem dX11_isChoice_1 : decode mX11_isChoice.2.1 1 = .ok (.invokestatic 143, 3) := by decide +kernel
theorem dX11_isChoice_4 : decode mX11_isChoice.2.1 4 = .ok (.ifCond .eq 27, 3) := by decide +kernel
theorem dX11_isChoice_7 : decode mX11_isChoice.2.1 7 = .ok (.iload_n 1, 1) := by decide +kernel
theorem dX11_isChoice_8 : decode mX11_isChoice.2.1 8 = .ok (.invokestatic 143, 3) := by decide +kernel
theorem dX11_isChoice_11 : decode mX11_isChoice.2.1 11 = .ok (.ifCond .eq 20, 3) := by decide +kernel
theorem dX11_isChoice_14 : decode mX11_isChoice.2.1 14 = .ok (.iload_n 0, 1) := by decide +kernel
theorem dX11_isChoice_15 : decode mX11_isChoice.2.1 15 = .ok (.iload_n 1, 1) := by decide +kernel
theorem dX11_isChoice_16 : decode mX11_isChoice.2.1 16 = .ok (.if_icmp .gt 15, 3) := by decide +kernel
theorem dX11_isChoice_19 : decode mX11_isChoice.2.1 19 = .ok (.iload_n 1, 1) := by decide +kernel
theorem dX11_isChoice_20 : decode mX11_isChoice.2.1 20 = .ok (.iload_n 0, 1) := by decide +kernel
theorem dX11_isChoice_21 : decode mX11_isChoice.2.1 21 = .ok (.isub, 1) := by decide +kernel
theorem dX11_isChoice_22 : decode mX11_isChoice.2.1 22 = .ok (.bipush 60, 2) := by decide +kernel
theorem dX11_isChoice_24 : decode mX11_isChoice.2.1 24 = .ok (.if_icmp .ge 7, 3) := by decide +kernel
theorem dX11_isChoice_27 : decode mX11_isChoice.2.1 27 = .ok (.iconst 1, 1) := by decide +kernel
theorem dX11_isChoice_28 : decode mX11_isChoice.2.1 28 = .ok (.goto 4, 3) := by decide +kernel
theorem dX11_isChoice_31 : decode mX11_isChoice.2.1 31 = .ok (.iconst 0, 1) := by decide +kernel
theorem dX11_isChoice_32 : decode mX11_isChoice.2.1 32 = .ok (.ireturn, 1) := by decide +kernel
theorem sX11_isChoice {SC : Nat → Nat} {X : mh_X} {d kc ks : Nat} {Q : Option am_V → am_W → Prop} {w : am_W} {x0 : Int} {x1 : Int}
    (h : Q (some (.inl (if ((¬ x0 < (-36524) ∧ (¬ 73047 < x0)) ∧ ((¬ x1 < (-36524) ∧ (¬ 73047 < x1)) ∧ (¬ x1 < x0 ∧ (¬ 60 ≤ (am_w (x1 - x0)))))) then 1 else 0))) w) : am_M (mh_G X) SC (d + 2) kc ks mX11_isChoice [.inl x0, .inl x1] w Q := by
  refine am_M_of (by decide) (Nat.le_of_ble_eq_true rfl) ?_
  show am_A (mh_G X) SC (d + 2) mX11_isChoice Q 0 [(0, .inl x0), (1, .inl x1)] [] w kc ks
  refine am_iload_n dX11_isChoice_0 (List.Mem.head _) ?_
  refine am_calls (d' := d + 1) (kc := 0) (ks := 0) (as := [.inl x0]) dX11_isChoice_1 wc_X0_has wd_1004 wd_1005 wd_129 ds_X0_has (by decide) (by omega) (Nat.le_of_ble_eq_true rfl) (Nat.zero_le _) (Nat.zero_le _) rfl (sX0_has (d := d + 0) (x0 := x0)  ?_)
  show am_A (mh_G X) SC (d + 2) mX11_isChoice Q 4 [(0, .inl x0), (1, .inl x1)] [.inl (if (¬ x0 < (-36524) ∧ (¬ 73047 < x0)) then 1 else 0)] w kc ks
  refine am_ifeq (tgt := 31) dX11_isChoice_4 (by decide) (fun c1 => ?_) (fun c1 => ?_)
  · replace c1 := am_beq1 c1
    refine am_iconst dX11_isChoice_31 (by unfold am_rg; omega) ?_
    rw [if_neg (by omega)] at h
    exact am_ret (r := some (.inl 0)) dX11_isChoice_32 (Or.inr (Or.inl ⟨rfl, (Or.inl rfl)⟩)) rfl h
  · replace c1 := am_beq2 c1
    refine am_iload_n dX11_isChoice_7 (List.Mem.tail _ (List.Mem.head _)) ?_
    refine am_calls (d' := d + 1) (kc := 0) (ks := 0) (as := [.inl x1]) dX11_isChoice_8 wc_X0_has wd_1004 wd_1005 wd_129 ds_X0_has (by decide) (by omega) (Nat.le_of_ble_eq_true rfl) (Nat.zero_le _) (Nat.zero_le _) rfl (sX0_has (d := d + 0) (x0 := x1)  ?_)
    show am_A (mh_G X) SC (d + 2) mX11_isChoice Q 11 [(0, .inl x0), (1, .inl x1)] [.inl (if (¬ x1 < (-36524) ∧ (¬ 73047 < x1)) then 1 else 0)] w kc ks
    refine am_ifeq (tgt := 31) dX11_isChoice_11 (by decide) (fun c2 => ?_) (fun c2 => ?_)
    · replace c2 := am_beq1 c2
      refine am_iconst dX11_isChoice_31 (by unfold am_rg; omega) ?_
      rw [if_neg (by omega)] at h
      exact am_ret (r := some (.inl 0)) dX11_isChoice_32 (Or.inr (Or.inl ⟨rfl, (Or.inl rfl)⟩)) rfl h
    · replace c2 := am_beq2 c2
      refine am_iload_n dX11_isChoice_14 (List.Mem.head _) ?_
      refine am_iload_n dX11_isChoice_15 (List.Mem.tail _ (List.Mem.head _)) ?_
      refine am_icmpgt (tgt := 31) dX11_isChoice_16 (by decide) (fun c3 => ?_) (fun c3 => ?_)
      · refine am_iconst dX11_isChoice_31 (by unfold am_rg; omega) ?_
        rw [if_neg (by omega)] at h
        exact am_ret (r := some (.inl 0)) dX11_isChoice_32 (Or.inr (Or.inl ⟨rfl, (Or.inl rfl)⟩)) rfl h
      · refine am_iload_n dX11_isChoice_19 (List.Mem.tail _ (List.Mem.head _)) ?_
        refine am_iload_n dX11_isChoice_20 (List.Mem.head _) ?_
        refine am_isub dX11_isChoice_21 ?_
        refine am_bipush dX11_isChoice_22 (by decide) (by unfold am_rg; omega) ?_
        refine am_icmpge (tgt := 31) dX11_isChoice_24 (by decide) (fun c4 => ?_) (fun c4 => ?_)
        · refine am_iconst dX11_isChoice_31 (by unfold am_rg; omega) ?_
          rw [if_neg (by omega)] at h
          exact am_ret (r := some (.inl 0)) dX11_isChoice_32 (Or.inr (Or.inl ⟨rfl, (Or.inl rfl)⟩)) rfl h
        · refine am_iconst dX11_isChoice_27 (by unfold am_rg; omega) ?_
          refine am_goto (tgt := 32) dX11_isChoice_28 (by decide) ?_
          rw [if_pos (by omega)] at h
          exact am_ret (r := some (.inl 1)) dX11_isChoice_32 (Or.inr (Or.inl ⟨rfl, (Or.inr rfl)⟩)) rfl h
-- MourningHouse.best(IIII)I
theorem dX11_best_0 : decode mX11_best.2.1 0 = .ok (.iload_n 1, 1) := by decide +kernel
theorem dX11_best_1 : decode mX11_best.2.1 1 = .ok (.invokestatic 233, 3) := by decide +kernel
theorem dX11_best_4 : decode mX11_best.2.1 4 = .ok (.ifCond .eq 22, 3) := by decide +kernel
theorem dX11_best_7 : decode mX11_best.2.1 7 = .ok (.iload_n 2, 1) := by decide +kernel
theorem dX11_best_8 : decode mX11_best.2.1 8 = .ok (.iload_n 3, 1) := by decide +kernel
theorem dX11_best_9 : decode mX11_best.2.1 9 = .ok (.invokestatic 242, 3) := by decide +kernel
theorem dX11_best_12 : decode mX11_best.2.1 12 = .ok (.ifCond .eq 14, 3) := by decide +kernel
theorem dX11_best_15 : decode mX11_best.2.1 15 = .ok (.iload 4, 2) := by decide +kernel
theorem dX11_best_17 : decode mX11_best.2.1 17 = .ok (.ifCond .lt 9, 3) := by decide +kernel
theorem dX11_best_20 : decode mX11_best.2.1 20 = .ok (.iload 4, 2) := by decide +kernel
theorem dX11_best_22 : decode mX11_best.2.1 22 = .ok (.iconst 1, 1) := by decide +kernel
theorem dX11_best_23 : decode mX11_best.2.1 23 = .ok (.if_icmp .le 6, 3) := by decide +kernel
theorem dX11_best_26 : decode mX11_best.2.1 26 = .ok (.ldc 156, 2) := by decide +kernel
theorem dX11_best_28 : decode mX11_best.2.1 28 = .ok (.ireturn, 1) := by decide +kernel
theorem dX11_best_29 : decode mX11_best.2.1 29 = .ok (.aload_n 0, 1) := by decide +kernel
theorem dX11_best_30 : decode mX11_best.2.1 30 = .ok (.iload_n 1, 1) := by decide +kernel
theorem dX11_best_31 : decode mX11_best.2.1 31 = .ok (.iload_n 2, 1) := by decide +kernel
theorem dX11_best_32 : decode mX11_best.2.1 32 = .ok (.iload_n 3, 1) := by decide +kernel
theorem dX11_best_33 : decode mX11_best.2.1 33 = .ok (.invokevirtual 245, 3) := by decide +kernel
theorem dX11_best_36 : decode mX11_best.2.1 36 = .ok (.iload_n 2, 1) := by decide +kernel
theorem dX11_best_37 : decode mX11_best.2.1 37 = .ok (.istore 5, 2) := by decide +kernel
theorem dX11_best_39 : decode mX11_best.2.1 39 = .ok (.iload_n 2, 1) := by decide +kernel
theorem dX11_best_40 : decode mX11_best.2.1 40 = .ok (.iconst 1, 1) := by decide +kernel
theorem dX11_best_41 : decode mX11_best.2.1 41 = .ok (.iadd, 1) := by decide +kernel
theorem dX11_best_42 : decode mX11_best.2.1 42 = .ok (.istore 6, 2) := by decide +kernel
theorem dX11_best_44 : decode mX11_best.2.1 44 = .ok (.iload 6, 2) := by decide +kernel
theorem dX11_best_46 : decode mX11_best.2.1 46 = .ok (.iload_n 3, 1) := by decide +kernel
theorem dX11_best_47 : decode mX11_best.2.1 47 = .ok (.if_icmp .gt 34, 3) := by decide +kernel
theorem dX11_best_50 : decode mX11_best.2.1 50 = .ok (.aload_n 0, 1) := by decide +kernel
theorem dX11_best_51 : decode mX11_best.2.1 51 = .ok (.getfield 72, 3) := by decide +kernel
theorem dX11_best_54 : decode mX11_best.2.1 54 = .ok (.iload 6, 2) := by decide +kernel
theorem dX11_best_56 : decode mX11_best.2.1 56 = .ok (.iload_n 2, 1) := by decide +kernel
theorem dX11_best_57 : decode mX11_best.2.1 57 = .ok (.isub, 1) := by decide +kernel
theorem dX11_best_58 : decode mX11_best.2.1 58 = .ok (.iaload, 1) := by decide +kernel
theorem dX11_best_59 : decode mX11_best.2.1 59 = .ok (.aload_n 0, 1) := by decide +kernel
theorem dX11_best_60 : decode mX11_best.2.1 60 = .ok (.getfield 72, 3) := by decide +kernel
theorem dX11_best_63 : decode mX11_best.2.1 63 = .ok (.iload 5, 2) := by decide +kernel
theorem dX11_best_65 : decode mX11_best.2.1 65 = .ok (.iload_n 2, 1) := by decide +kernel
theorem dX11_best_66 : decode mX11_best.2.1 66 = .ok (.isub, 1) := by decide +kernel
theorem dX11_best_67 : decode mX11_best.2.1 67 = .ok (.iaload, 1) := by decide +kernel
theorem dX11_best_68 : decode mX11_best.2.1 68 = .ok (.if_icmp .le 7, 3) := by decide +kernel
theorem dX11_best_71 : decode mX11_best.2.1 71 = .ok (.iload 6, 2) := by decide +kernel
theorem dX11_best_73 : decode mX11_best.2.1 73 = .ok (.istore 5, 2) := by decide +kernel
theorem dX11_best_75 : decode mX11_best.2.1 75 = .ok (.iinc 6 1, 3) := by decide +kernel
theorem dX11_best_78 : decode mX11_best.2.1 78 = .ok (.goto (-34), 3) := by decide +kernel
theorem dX11_best_81 : decode mX11_best.2.1 81 = .ok (.iload 4, 2) := by decide +kernel
theorem dX11_best_83 : decode mX11_best.2.1 83 = .ok (.ifCond .ne 8, 3) := by decide +kernel
theorem dX11_best_86 : decode mX11_best.2.1 86 = .ok (.iload 5, 2) := by decide +kernel
theorem dX11_best_88 : decode mX11_best.2.1 88 = .ok (.goto 12, 3) := by decide +kernel
theorem dX11_best_91 : decode mX11_best.2.1 91 = .ok (.aload_n 0, 1) := by decide +kernel
theorem dX11_best_92 : decode mX11_best.2.1 92 = .ok (.getfield 72, 3) := by decide +kernel
theorem dX11_best_95 : decode mX11_best.2.1 95 = .ok (.iload 5, 2) := by decide +kernel
theorem dX11_best_97 : decode mX11_best.2.1 97 = .ok (.iload_n 2, 1) := by decide +kernel
theorem dX11_best_98 : decode mX11_best.2.1 98 = .ok (.isub, 1) := by decide +kernel
theorem dX11_best_99 : decode mX11_best.2.1 99 = .ok (.iaload, 1) := by decide +kernel
theorem dX11_best_100 : decode mX11_best.2.1 100 = .ok (.ireturn, 1) := by decide +kernel
theorem bX11_best_0 {SC : Nat → Nat} {X : mh_X} {d : Nat} {Q : Option am_V → am_W → Prop} {bc bs : Nat} {w : am_W} {x1 : Int} {x2 : Int} {x3 : Int} {x4 : Int}
    (h : ((¬ (¬ x1 < 0 ∧ (¬ 4 ≤ x1)) → Q (some (.inl (-2147483648))) w) ∧ ((¬ x1 < 0 ∧ (¬ 4 ≤ x1)) → ((¬ ((¬ x2 < (-36524) ∧ (¬ 73047 < x2)) ∧ ((¬ x3 < (-36524) ∧ (¬ 73047 < x3)) ∧ (¬ x3 < x2 ∧ (¬ 60 ≤ (am_w (x3 - x2)))))) → Q (some (.inl (-2147483648))) w) ∧ (((¬ x2 < (-36524) ∧ (¬ 73047 < x2)) ∧ ((¬ x3 < (-36524) ∧ (¬ 73047 < x3)) ∧ (¬ x3 < x2 ∧ (¬ 60 ≤ (am_w (x3 - x2)))))) → ((x4 < 0 → Q (some (.inl (-2147483648))) w) ∧ (¬ x4 < 0 → ((x4 ≤ 1 → am_M (mh_G X) SC (d + 7) 0 0 mX11_countAllowed [.inr (.inr (some (1, 0))), .inl x1, .inl x2, .inl x3] w (fun r w1 => am_A (mh_G X) SC (d + 8) mX11_best Q 36 [(0, .inr (.inr (some (1, 0)))), (1, .inl x1), (2, .inl x2), (3, .inl x3), (4, .inl x4)] (r.toList ++ []) w1 bc bs)) ∧ (¬ x4 ≤ 1 → Q (some (.inl (-2147483648))) w))))))))) :
    am_A (mh_G X) SC (d + 8) mX11_best Q 0 [(0, .inr (.inr (some (1, 0)))), (1, .inl x1), (2, .inl x2), (3, .inl x3), (4, .inl x4)] [] w bc bs := by
  refine am_iload_n dX11_best_0 (List.Mem.tail _ (List.Mem.head _)) ?_
  refine am_calls (d' := d + 7) (kc := 0) (ks := 0) (as := [.inl x1]) dX11_best_1 wc_X11_isAct wd_1311 wd_1312 wd_112 ds_X11_isAct (by decide) (by omega) (Nat.le_of_ble_eq_true rfl) (Nat.zero_le _) (Nat.zero_le _) rfl (sX11_isAct (d := d + 6) (x0 := x1)  ?_)
  show am_A (mh_G X) SC (d + 8) mX11_best Q 4 [(0, .inr (.inr (some (1, 0)))), (1, .inl x1), (2, .inl x2), (3, .inl x3), (4, .inl x4)] [.inl (if (¬ x1 < 0 ∧ (¬ 4 ≤ x1)) then 1 else 0)] w bc bs
  refine am_ifeq (tgt := 26) dX11_best_4 (by decide) (fun c1 => ?_) (fun c1 => ?_)
  · replace c1 := am_beq1 c1
    replace h := h.1 c1
    refine am_ldcV (n := (-2147483648)) dX11_best_26 (by decide) wd_1028 (by unfold am_rg; omega) ?_
    exact am_ret (r := some (.inl (-2147483648))) dX11_best_28 (Or.inl rfl) rfl h
  · replace c1 := am_beq2 c1
    replace h := h.2 c1
    refine am_iload_n dX11_best_7 (List.Mem.tail _ (List.Mem.tail _ (List.Mem.head _))) ?_
    refine am_iload_n dX11_best_8 (List.Mem.tail _ (List.Mem.tail _ (List.Mem.tail _ (List.Mem.head _)))) ?_
    refine am_calls (d' := d + 7) (kc := 0) (ks := 0) (as := [.inl x2, .inl x3]) dX11_best_9 wc_X11_isChoice wd_1334 wd_1335 wd_112 ds_X11_isChoice (by decide) (by omega) (Nat.le_of_ble_eq_true rfl) (Nat.zero_le _) (Nat.zero_le _) rfl (sX11_isChoice (d := d + 5) (x0 := x2) (x1 := x3)  ?_)
    show am_A (mh_G X) SC (d + 8) mX11_best Q 12 [(0, .inr (.inr (some (1, 0)))), (1, .inl x1), (2, .inl x2), (3, .inl x3), (4, .inl x4)] [.inl (if ((¬ x2 < (-36524) ∧ (¬ 73047 < x2)) ∧ ((¬ x3 < (-36524) ∧ (¬ 73047 < x3)) ∧ (¬ x3 < x2 ∧ (¬ 60 ≤ (am_w (x3 - x2)))))) then 1 else 0)] w bc bs
    refine am_ifeq (tgt := 26) dX11_best_12 (by decide) (fun c2 => ?_) (fun c2 => ?_)
    · replace c2 := am_beq1 c2
      replace h := h.1 c2
      refine am_ldcV (n := (-2147483648)) dX11_best_26 (by decide) wd_1028 (by unfold am_rg; omega) ?_
      exact am_ret (r := some (.inl (-2147483648))) dX11_best_28 (Or.inl rfl) rfl h
    · replace c2 := am_beq2 c2
      replace h := h.2 c2
      refine am_iload dX11_best_15 (List.Mem.tail _ (List.Mem.tail _ (List.Mem.tail _ (List.Mem.tail _ (List.Mem.head _))))) ?_
      refine am_iflt (tgt := 26) dX11_best_17 (by decide) (fun c3 => ?_) (fun c3 => ?_)
      · replace h := h.1 c3
        refine am_ldcV (n := (-2147483648)) dX11_best_26 (by decide) wd_1028 (by unfold am_rg; omega) ?_
        exact am_ret (r := some (.inl (-2147483648))) dX11_best_28 (Or.inl rfl) rfl h
      · replace h := h.2 c3
        refine am_iload dX11_best_20 (List.Mem.tail _ (List.Mem.tail _ (List.Mem.tail _ (List.Mem.tail _ (List.Mem.head _))))) ?_
        refine am_iconst dX11_best_22 (by unfold am_rg; omega) ?_
        refine am_icmple (tgt := 29) dX11_best_23 (by decide) (fun c4 => ?_) (fun c4 => ?_)
        · replace h := h.1 c4
          refine am_aload_n dX11_best_29 (List.Mem.head _) ?_
          refine am_iload_n dX11_best_30 (List.Mem.tail _ (List.Mem.head _)) ?_
          refine am_iload_n dX11_best_31 (List.Mem.tail _ (List.Mem.tail _ (List.Mem.head _))) ?_
          refine am_iload_n dX11_best_32 (List.Mem.tail _ (List.Mem.tail _ (List.Mem.tail _ (List.Mem.head _)))) ?_
          exact am_callv (d' := d + 7) (kc := 0) (ks := 0) (as := [.inl x1, .inl x2, .inl x3]) dX11_best_33 wc_X11_countAllowed wd_1337 wd_1339 wd_41 wd_112 ds_X11_countAllowed (by decide) (by omega) (Nat.le_of_ble_eq_true rfl) (Nat.zero_le _) (Nat.zero_le _) hc_0 (by decide) rfl rfl h
        · replace h := h.2 c4
          refine am_ldcV (n := (-2147483648)) dX11_best_26 (by decide) wd_1028 (by unfold am_rg; omega) ?_
          exact am_ret (r := some (.inl (-2147483648))) dX11_best_28 (Or.inl rfl) rfl h
theorem bX11_best_36 {SC : Nat → Nat} {X : mh_X} {d : Nat} {Q : Option am_V → am_W → Prop} {bc bs : Nat} {w : am_W} {x1 : Int} {x2 : Int} {x3 : Int} {x4 : Int}
    (h : am_A (mh_G X) SC (d + 8) mX11_best Q 44 [(0, .inr (.inr (some (1, 0)))), (2, .inl x2), (3, .inl x3), (4, .inl x4), (5, .inl x2), (6, .inl (am_w (x2 + 1)))] [] w bc bs) :
    am_A (mh_G X) SC (d + 8) mX11_best Q 36 [(0, .inr (.inr (some (1, 0)))), (1, .inl x1), (2, .inl x2), (3, .inl x3), (4, .inl x4)] [] w bc bs := by
  refine am_iload_n dX11_best_36 (List.Mem.tail _ (List.Mem.tail _ (List.Mem.head _))) ?_
  refine am_istore (ls' := [(5, .inl x2), (0, .inr (.inr (some (1, 0)))), (1, .inl x1), (2, .inl x2), (3, .inl x3), (4, .inl x4)]) dX11_best_37 (by decide) rfl ?_
  refine am_iload_n dX11_best_39 (List.Mem.tail _ (List.Mem.tail _ (List.Mem.tail _ (List.Mem.head _)))) ?_
  refine am_iconst dX11_best_40 (by unfold am_rg; omega) ?_
  refine am_iadd dX11_best_41 ?_
  refine am_istore (ls' := [(6, .inl (am_w (x2 + 1))), (5, .inl x2), (0, .inr (.inr (some (1, 0)))), (1, .inl x1), (2, .inl x2), (3, .inl x3), (4, .inl x4)]) dX11_best_42 (by decide) rfl ?_
  exact am_sub [2, 4, 5, 6, 1, 0] rfl h
theorem bX11_best_44 {SC : Nat → Nat} {X : mh_X} {d : Nat} {Q : Option am_V → am_W → Prop} {bc bs : Nat} {w : am_W} {x2 : Int} {x3 : Int} {x4 : Int} {x5 : Int} {x6 : Int}
    (h : ((x3 < x6 → ((¬ x4 = 0 → (0 ≤ (am_w (x5 - x2)) ∧ ((am_w (x5 - x2)) < 60 ∧ Q (some (.inl (w.1 23 0 (am_w (x5 - x2)).toNat))) w))) ∧ (x4 = 0 → Q (some (.inl x5)) w))) ∧ (¬ x3 < x6 → (0 ≤ (am_w (x6 - x2)) ∧ ((am_w (x6 - x2)) < 60 ∧ (0 ≤ (am_w (x5 - x2)) ∧ ((am_w (x5 - x2)) < 60 ∧ (((w.1 23 0 (am_w (x6 - x2)).toNat) ≤ (w.1 23 0 (am_w (x5 - x2)).toNat) → am_A (mh_G X) SC (d + 8) mX11_best Q 75 [(0, .inr (.inr (some (1, 0)))), (2, .inl x2), (3, .inl x3), (4, .inl x4), (5, .inl x5), (6, .inl x6)] [] w bc bs) ∧ (¬ (w.1 23 0 (am_w (x6 - x2)).toNat) ≤ (w.1 23 0 (am_w (x5 - x2)).toNat) → am_A (mh_G X) SC (d + 8) mX11_best Q 75 [(0, .inr (.inr (some (1, 0)))), (2, .inl x2), (3, .inl x3), (4, .inl x4), (5, .inl x6), (6, .inl x6)] [] w bc bs))))))))) :
    am_A (mh_G X) SC (d + 8) mX11_best Q 44 [(0, .inr (.inr (some (1, 0)))), (2, .inl x2), (3, .inl x3), (4, .inl x4), (5, .inl x5), (6, .inl x6)] [] w bc bs := by
  refine am_iload dX11_best_44 (List.Mem.tail _ (List.Mem.tail _ (List.Mem.tail _ (List.Mem.tail _ (List.Mem.tail _ (List.Mem.head _)))))) ?_
  refine am_iload_n dX11_best_46 (List.Mem.tail _ (List.Mem.tail _ (List.Mem.head _))) ?_
  refine am_icmpgt (tgt := 81) dX11_best_47 (by decide) (fun c1 => ?_) (fun c1 => ?_)
  · replace h := h.1 c1
    refine am_iload dX11_best_81 (List.Mem.tail _ (List.Mem.tail _ (List.Mem.tail _ (List.Mem.head _)))) ?_
    refine am_ifne (tgt := 91) dX11_best_83 (by decide) (fun c2 => ?_) (fun c2 => ?_)
    · replace h := h.1 c2
      refine am_aload_n dX11_best_91 (List.Mem.head _) ?_
      refine am_getf (f := 10) (v := .inr (.inr (some (23, 0)))) dX11_best_92 hc_0 (by decide) wd_579 (by decide) rfl rfl ?_
      refine am_iload dX11_best_95 (List.Mem.tail _ (List.Mem.tail _ (List.Mem.tail _ (List.Mem.tail _ (List.Mem.head _))))) ?_
      refine am_iload_n dX11_best_97 (List.Mem.tail _ (List.Mem.head _)) ?_
      refine am_isub dX11_best_98 ?_
      have o3 := h.1
      replace h := h.2
      have o4 := h.1
      replace h := h.2
      refine am_iaload (v := (w.1 23 0 (am_w (x5 - x2)).toNat)) dX11_best_99 (by decide) rfl o3 o4 rfl ?_
      exact am_ret (r := some (.inl (w.1 23 0 (am_w (x5 - x2)).toNat))) dX11_best_100 (Or.inl rfl) rfl h
    · replace h := h.2 c2
      refine am_iload dX11_best_86 (List.Mem.tail _ (List.Mem.tail _ (List.Mem.tail _ (List.Mem.tail _ (List.Mem.head _))))) ?_
      refine am_goto (tgt := 100) dX11_best_88 (by decide) ?_
      exact am_ret (r := some (.inl x5)) dX11_best_100 (Or.inl rfl) rfl h
  · replace h := h.2 c1
    refine am_aload_n dX11_best_50 (List.Mem.head _) ?_
    refine am_getf (f := 10) (v := .inr (.inr (some (23, 0)))) dX11_best_51 hc_0 (by decide) wd_579 (by decide) rfl rfl ?_
    refine am_iload dX11_best_54 (List.Mem.tail _ (List.Mem.tail _ (List.Mem.tail _ (List.Mem.tail _ (List.Mem.tail _ (List.Mem.head _)))))) ?_
    refine am_iload_n dX11_best_56 (List.Mem.tail _ (List.Mem.head _)) ?_
    refine am_isub dX11_best_57 ?_
    have o5 := h.1
    replace h := h.2
    have o6 := h.1
    replace h := h.2
    refine am_iaload (v := (w.1 23 0 (am_w (x6 - x2)).toNat)) dX11_best_58 (by decide) rfl o5 o6 rfl ?_
    refine am_aload_n dX11_best_59 (List.Mem.head _) ?_
    refine am_getf (f := 10) (v := .inr (.inr (some (23, 0)))) dX11_best_60 hc_0 (by decide) wd_579 (by decide) rfl rfl ?_
    refine am_iload dX11_best_63 (List.Mem.tail _ (List.Mem.tail _ (List.Mem.tail _ (List.Mem.tail _ (List.Mem.head _))))) ?_
    refine am_iload_n dX11_best_65 (List.Mem.tail _ (List.Mem.head _)) ?_
    refine am_isub dX11_best_66 ?_
    have o7 := h.1
    replace h := h.2
    have o8 := h.1
    replace h := h.2
    refine am_iaload (v := (w.1 23 0 (am_w (x5 - x2)).toNat)) dX11_best_67 (by decide) rfl o7 o8 rfl ?_
    refine am_icmple (tgt := 75) dX11_best_68 (by decide) (fun c9 => ?_) (fun c9 => ?_)
    · replace h := h.1 c9
      exact h
    · replace h := h.2 c9
      refine am_iload dX11_best_71 (List.Mem.tail _ (List.Mem.tail _ (List.Mem.tail _ (List.Mem.tail _ (List.Mem.tail _ (List.Mem.head _)))))) ?_
      refine am_istore (ls' := [(5, .inl x6), (0, .inr (.inr (some (1, 0)))), (2, .inl x2), (3, .inl x3), (4, .inl x4), (6, .inl x6)]) dX11_best_73 (by decide) rfl ?_
      exact am_sub [1, 2, 3, 4, 0, 5] rfl h
theorem bX11_best_75 {SC : Nat → Nat} {X : mh_X} {d : Nat} {Q : Option am_V → am_W → Prop} {bc bs : Nat} {w : am_W} {x2 : Int} {x3 : Int} {x4 : Int} {x5 : Int} {x6 : Int}
    (h : am_A (mh_G X) SC (d + 8) mX11_best Q 44 [(0, .inr (.inr (some (1, 0)))), (2, .inl x2), (3, .inl x3), (4, .inl x4), (5, .inl x5), (6, .inl (am_w (x6 + 1)))] [] w bc bs) :
    am_A (mh_G X) SC (d + 8) mX11_best Q 75 [(0, .inr (.inr (some (1, 0)))), (2, .inl x2), (3, .inl x3), (4, .inl x4), (5, .inl x5), (6, .inl x6)] [] w bc bs := by
  refine am_iinc (ls' := [(6, .inl (am_w (x6 + 1))), (0, .inr (.inr (some (1, 0)))), (2, .inl x2), (3, .inl x3), (4, .inl x4), (5, .inl x5)]) dX11_best_75 (List.Mem.tail _ (List.Mem.tail _ (List.Mem.tail _ (List.Mem.tail _ (List.Mem.tail _ (List.Mem.head _)))))) (by decide) rfl ?_
  refine am_goto (tgt := 44) dX11_best_78 (by decide) ?_
  exact am_sub [1, 2, 3, 4, 5, 0] rfl h
-- MourningHouse.first(III)I
theorem dX11_first_0 : decode mX11_first.2.1 0 = .ok (.aload_n 0, 1) := by decide +kernel
theorem dX11_first_1 : decode mX11_first.2.1 1 = .ok (.getfield 33, 3) := by decide +kernel
theorem dX11_first_4 : decode mX11_first.2.1 4 = .ok (.iload_n 1, 1) := by decide +kernel
theorem dX11_first_5 : decode mX11_first.2.1 5 = .ok (.invokevirtual 181, 3) := by decide +kernel
theorem dX11_first_8 : decode mX11_first.2.1 8 = .ok (.ifCond .eq 17, 3) := by decide +kernel
theorem dX11_first_11 : decode mX11_first.2.1 11 = .ok (.iload_n 2, 1) := by decide +kernel
theorem dX11_first_12 : decode mX11_first.2.1 12 = .ok (.invokestatic 233, 3) := by decide +kernel
theorem dX11_first_15 : decode mX11_first.2.1 15 = .ok (.ifCond .eq 10, 3) := by decide +kernel
theorem dX11_first_18 : decode mX11_first.2.1 18 = .ok (.iload_n 3, 1) := by decide +kernel
theorem dX11_first_19 : decode mX11_first.2.1 19 = .ok (.invokestatic 143, 3) := by decide +kernel
theorem dX11_first_22 : decode mX11_first.2.1 22 = .ok (.ifCond .ne 6, 3) := by decide +kernel
theorem dX11_first_25 : decode mX11_first.2.1 25 = .ok (.ldc 156, 2) := by decide +kernel
theorem dX11_first_27 : decode mX11_first.2.1 27 = .ok (.ireturn, 1) := by decide +kernel
theorem dX11_first_28 : decode mX11_first.2.1 28 = .ok (.aload_n 0, 1) := by decide +kernel
theorem dX11_first_29 : decode mX11_first.2.1 29 = .ok (.getfield 42, 3) := by decide +kernel
theorem dX11_first_32 : decode mX11_first.2.1 32 = .ok (.iload_n 1, 1) := by decide +kernel
theorem dX11_first_33 : decode mX11_first.2.1 33 = .ok (.aload_n 0, 1) := by decide +kernel
theorem dX11_first_34 : decode mX11_first.2.1 34 = .ok (.getfield 79, 3) := by decide +kernel
theorem dX11_first_37 : decode mX11_first.2.1 37 = .ok (.invokevirtual 221, 3) := by decide +kernel
theorem dX11_first_40 : decode mX11_first.2.1 40 = .ok (.iload_n 3, 1) := by decide +kernel
theorem dX11_first_41 : decode mX11_first.2.1 41 = .ok (.sipush 3000, 3) := by decide +kernel
theorem dX11_first_44 : decode mX11_first.2.1 44 = .ok (.iadd, 1) := by decide +kernel
theorem dX11_first_45 : decode mX11_first.2.1 45 = .ok (.ldc 161, 2) := by decide +kernel
theorem dX11_first_47 : decode mX11_first.2.1 47 = .ok (.invokestatic 162, 3) := by decide +kernel
theorem dX11_first_50 : decode mX11_first.2.1 50 = .ok (.istore 4, 2) := by decide +kernel
theorem dX11_first_52 : decode mX11_first.2.1 52 = .ok (.iload_n 3, 1) := by decide +kernel
theorem dX11_first_53 : decode mX11_first.2.1 53 = .ok (.istore 5, 2) := by decide +kernel
theorem dX11_first_55 : decode mX11_first.2.1 55 = .ok (.iload 5, 2) := by decide +kernel
theorem dX11_first_57 : decode mX11_first.2.1 57 = .ok (.iload 4, 2) := by decide +kernel
theorem dX11_first_59 : decode mX11_first.2.1 59 = .ok (.if_icmp .gt 25, 3) := by decide +kernel
theorem dX11_first_62 : decode mX11_first.2.1 62 = .ok (.aload_n 0, 1) := by decide +kernel
theorem dX11_first_63 : decode mX11_first.2.1 63 = .ok (.getfield 42, 3) := by decide +kernel
theorem dX11_first_66 : decode mX11_first.2.1 66 = .ok (.iload_n 2, 1) := by decide +kernel
theorem dX11_first_67 : decode mX11_first.2.1 67 = .ok (.iload 5, 2) := by decide +kernel
theorem dX11_first_69 : decode mX11_first.2.1 69 = .ok (.invokevirtual 236, 3) := by decide +kernel
theorem dX11_first_72 : decode mX11_first.2.1 72 = .ok (.ifCond .eq 6, 3) := by decide +kernel
theorem dX11_first_75 : decode mX11_first.2.1 75 = .ok (.iload 5, 2) := by decide +kernel
theorem dX11_first_77 : decode mX11_first.2.1 77 = .ok (.ireturn, 1) := by decide +kernel
theorem dX11_first_78 : decode mX11_first.2.1 78 = .ok (.iinc 5 1, 3) := by decide +kernel
theorem dX11_first_81 : decode mX11_first.2.1 81 = .ok (.goto (-26), 3) := by decide +kernel
theorem dX11_first_84 : decode mX11_first.2.1 84 = .ok (.ldc 156, 2) := by decide +kernel
theorem dX11_first_86 : decode mX11_first.2.1 86 = .ok (.ireturn, 1) := by decide +kernel
theorem bX11_first_0 {SC : Nat → Nat} {X : mh_X} {d : Nat} {Q : Option am_V → am_W → Prop} {bc bs : Nat} {w : am_W} {x1 : Int} {x2 : Int} {x3 : Int}
    (h : ((¬ (¬ x1 < 0 ∧ (¬ (w.1 5 0 18) ≤ x1)) → Q (some (.inl (-2147483648))) w) ∧ ((¬ x1 < 0 ∧ (¬ (w.1 5 0 18) ≤ x1)) → ((¬ (¬ x2 < 0 ∧ (¬ 4 ≤ x2)) → Q (some (.inl (-2147483648))) w) ∧ ((¬ x2 < 0 ∧ (¬ 4 ≤ x2)) → (((¬ x3 < (-36524) ∧ (¬ 73047 < x3)) → am_M (mh_G X) SC (d + 6) 0 0 mX4_study [.inr (.inr (some (6, 0))), .inl x1, .inl (w.1 1 0 12)] w (fun r w1 => am_A (mh_G X) SC (d + 7) mX11_first Q 40 [(0, .inr (.inr (some (1, 0)))), (1, .inl x1), (2, .inl x2), (3, .inl x3)] (r.toList ++ []) w1 bc bs)) ∧ (¬ (¬ x3 < (-36524) ∧ (¬ 73047 < x3)) → Q (some (.inl (-2147483648))) w))))))) :
    am_A (mh_G X) SC (d + 7) mX11_first Q 0 [(0, .inr (.inr (some (1, 0)))), (1, .inl x1), (2, .inl x2), (3, .inl x3)] [] w bc bs := by
  refine am_aload_n dX11_first_0 (List.Mem.head _) ?_
  refine am_getf (f := 3) (v := .inr (.inr (some (5, 0)))) dX11_first_1 hc_0 (by decide) wd_572 (by decide) rfl rfl ?_
  refine am_iload_n dX11_first_4 (List.Mem.tail _ (List.Mem.head _)) ?_
  refine am_callv (d' := d + 6) (kc := 0) (ks := 0) (as := [.inl x1]) dX11_first_5 wc_X2_has wd_1102 wd_1082 wd_1083 wd_117 ds_X2_has (by decide) (by omega) (Nat.le_of_ble_eq_true rfl) (Nat.zero_le _) (Nat.zero_le _) hc_5 (by decide) rfl rfl (sX2_has (d := d + 5) (x1 := x1)  ?_)
  show am_A (mh_G X) SC (d + 7) mX11_first Q 8 [(0, .inr (.inr (some (1, 0)))), (1, .inl x1), (2, .inl x2), (3, .inl x3)] [.inl (if (¬ x1 < 0 ∧ (¬ (w.1 5 0 18) ≤ x1)) then 1 else 0)] w bc bs
  refine am_ifeq (tgt := 25) dX11_first_8 (by decide) (fun c1 => ?_) (fun c1 => ?_)
  · replace c1 := am_beq1 c1
    replace h := h.1 c1
    refine am_ldcV (n := (-2147483648)) dX11_first_25 (by decide) wd_1028 (by unfold am_rg; omega) ?_
    exact am_ret (r := some (.inl (-2147483648))) dX11_first_27 (Or.inl rfl) rfl h
  · replace c1 := am_beq2 c1
    replace h := h.2 c1
    refine am_iload_n dX11_first_11 (List.Mem.tail _ (List.Mem.tail _ (List.Mem.head _))) ?_
    refine am_calls (d' := d + 6) (kc := 0) (ks := 0) (as := [.inl x2]) dX11_first_12 wc_X11_isAct wd_1311 wd_1312 wd_112 ds_X11_isAct (by decide) (by omega) (Nat.le_of_ble_eq_true rfl) (Nat.zero_le _) (Nat.zero_le _) rfl (sX11_isAct (d := d + 5) (x0 := x2)  ?_)
    show am_A (mh_G X) SC (d + 7) mX11_first Q 15 [(0, .inr (.inr (some (1, 0)))), (1, .inl x1), (2, .inl x2), (3, .inl x3)] [.inl (if (¬ x2 < 0 ∧ (¬ 4 ≤ x2)) then 1 else 0)] w bc bs
    refine am_ifeq (tgt := 25) dX11_first_15 (by decide) (fun c2 => ?_) (fun c2 => ?_)
    · replace c2 := am_beq1 c2
      replace h := h.1 c2
      refine am_ldcV (n := (-2147483648)) dX11_first_25 (by decide) wd_1028 (by unfold am_rg; omega) ?_
      exact am_ret (r := some (.inl (-2147483648))) dX11_first_27 (Or.inl rfl) rfl h
    · replace c2 := am_beq2 c2
      replace h := h.2 c2
      refine am_iload_n dX11_first_18 (List.Mem.tail _ (List.Mem.tail _ (List.Mem.tail _ (List.Mem.head _)))) ?_
      refine am_calls (d' := d + 6) (kc := 0) (ks := 0) (as := [.inl x3]) dX11_first_19 wc_X0_has wd_1004 wd_1005 wd_129 ds_X0_has (by decide) (by omega) (Nat.le_of_ble_eq_true rfl) (Nat.zero_le _) (Nat.zero_le _) rfl (sX0_has (d := d + 5) (x0 := x3)  ?_)
      show am_A (mh_G X) SC (d + 7) mX11_first Q 22 [(0, .inr (.inr (some (1, 0)))), (1, .inl x1), (2, .inl x2), (3, .inl x3)] [.inl (if (¬ x3 < (-36524) ∧ (¬ 73047 < x3)) then 1 else 0)] w bc bs
      refine am_ifne (tgt := 28) dX11_first_22 (by decide) (fun c3 => ?_) (fun c3 => ?_)
      · replace c3 := am_bne1 c3
        replace h := h.1 c3
        refine am_aload_n dX11_first_28 (List.Mem.head _) ?_
        refine am_getf (f := 4) (v := .inr (.inr (some (6, 0)))) dX11_first_29 hc_0 (by decide) wd_573 (by decide) rfl rfl ?_
        refine am_iload_n dX11_first_32 (List.Mem.tail _ (List.Mem.head _)) ?_
        refine am_aload_n dX11_first_33 (List.Mem.head _) ?_
        refine am_getf (f := 12) (v := .inl (w.1 1 0 12)) dX11_first_34 hc_0 (by decide) wd_581 (by decide) rfl rfl ?_
        exact am_callv (d' := d + 6) (kc := 0) (ks := 0) (as := [.inl x1, .inl (w.1 1 0 12)]) dX11_first_37 wc_X4_study wd_1180 wd_1181 wd_1182 wd_118 ds_X4_study (by decide) (by omega) (Nat.le_of_ble_eq_true rfl) (Nat.zero_le _) (Nat.zero_le _) hc_6 (by decide) rfl rfl h
      · replace c3 := am_bne2 c3
        replace h := h.2 c3
        refine am_ldcV (n := (-2147483648)) dX11_first_25 (by decide) wd_1028 (by unfold am_rg; omega) ?_
        exact am_ret (r := some (.inl (-2147483648))) dX11_first_27 (Or.inl rfl) rfl h
theorem bX11_first_40 {SC : Nat → Nat} {X : mh_X} {d : Nat} {Q : Option am_V → am_W → Prop} {bc bs : Nat} {w : am_W} {x1 : Int} {x2 : Int} {x3 : Int}
    (h : am_A (mh_G X) SC (d + 7) mX11_first Q 55 [(0, .inr (.inr (some (1, 0)))), (2, .inl x2), (4, .inl (min (am_w (x3 + 3000)) 73047)), (5, .inl x3)] [] w bc bs) :
    am_A (mh_G X) SC (d + 7) mX11_first Q 40 [(0, .inr (.inr (some (1, 0)))), (1, .inl x1), (2, .inl x2), (3, .inl x3)] [] w bc bs := by
  refine am_iload_n dX11_first_40 (List.Mem.tail _ (List.Mem.tail _ (List.Mem.tail _ (List.Mem.head _)))) ?_
  refine am_sipush dX11_first_41 (by decide) (by unfold am_rg; omega) ?_
  refine am_iadd dX11_first_44 ?_
  refine am_ldcV (n := 73047) dX11_first_45 (by decide) wd_1043 (by unfold am_rg; omega) ?_
  refine am_mmin dX11_first_47 wd_1044 (by omega) (Nat.le_of_ble_eq_true rfl) ?_
  refine am_istore (ls' := [(4, .inl (min (am_w (x3 + 3000)) 73047)), (0, .inr (.inr (some (1, 0)))), (1, .inl x1), (2, .inl x2), (3, .inl x3)]) dX11_first_50 (by decide) rfl ?_
  refine am_iload_n dX11_first_52 (List.Mem.tail _ (List.Mem.tail _ (List.Mem.tail _ (List.Mem.tail _ (List.Mem.head _))))) ?_
  refine am_istore (ls' := [(5, .inl x3), (4, .inl (min (am_w (x3 + 3000)) 73047)), (0, .inr (.inr (some (1, 0)))), (1, .inl x1), (2, .inl x2), (3, .inl x3)]) dX11_first_53 (by decide) rfl ?_
  exact am_sub [2, 4, 1, 0] rfl h
theorem bX11_first_55 {SC : Nat → Nat} {X : mh_X} {d : Nat} {Q : Option am_V → am_W → Prop} {bc bs : Nat} {w : am_W} {x2 : Int} {x4 : Int} {x5 : Int}
    (h : ((x4 < x5 → Q (some (.inl (-2147483648))) w) ∧ (¬ x4 < x5 → am_M (mh_G X) SC (d + 6) 0 0 mX4_isAllowed [.inr (.inr (some (6, 0))), .inl x2, .inl x5] w (fun r w1 => am_A (mh_G X) SC (d + 7) mX11_first Q 72 [(0, .inr (.inr (some (1, 0)))), (2, .inl x2), (4, .inl x4), (5, .inl x5)] (r.toList ++ []) w1 bc bs)))) :
    am_A (mh_G X) SC (d + 7) mX11_first Q 55 [(0, .inr (.inr (some (1, 0)))), (2, .inl x2), (4, .inl x4), (5, .inl x5)] [] w bc bs := by
  refine am_iload dX11_first_55 (List.Mem.tail _ (List.Mem.tail _ (List.Mem.tail _ (List.Mem.head _)))) ?_
  refine am_iload dX11_first_57 (List.Mem.tail _ (List.Mem.tail _ (List.Mem.head _))) ?_
  refine am_icmpgt (tgt := 84) dX11_first_59 (by decide) (fun c1 => ?_) (fun c1 => ?_)
  · replace h := h.1 c1
    refine am_ldcV (n := (-2147483648)) dX11_first_84 (by decide) wd_1028 (by unfold am_rg; omega) ?_
    exact am_ret (r := some (.inl (-2147483648))) dX11_first_86 (Or.inl rfl) rfl h
  · replace h := h.2 c1
    refine am_aload_n dX11_first_62 (List.Mem.head _) ?_
    refine am_getf (f := 4) (v := .inr (.inr (some (6, 0)))) dX11_first_63 hc_0 (by decide) wd_573 (by decide) rfl rfl ?_
    refine am_iload_n dX11_first_66 (List.Mem.tail _ (List.Mem.head _)) ?_
    refine am_iload dX11_first_67 (List.Mem.tail _ (List.Mem.tail _ (List.Mem.tail _ (List.Mem.head _)))) ?_
    exact am_callv (d' := d + 6) (kc := 0) (ks := 0) (as := [.inl x2, .inl x5]) dX11_first_69 wc_X4_isAllowed wd_1314 wd_1315 wd_1316 wd_118 ds_X4_isAllowed (by decide) (by omega) (Nat.le_of_ble_eq_true rfl) (Nat.zero_le _) (Nat.zero_le _) hc_6 (by decide) rfl rfl h
theorem bX11_first_72 {SC : Nat → Nat} {X : mh_X} {d : Nat} {Q : Option am_V → am_W → Prop} {bc bs : Nat} {w : am_W} {x2 : Int} {x4 : Int} {x5 : Int} {xs0 : Int}
    (h : ((xs0 = 0 → am_A (mh_G X) SC (d + 7) mX11_first Q 55 [(0, .inr (.inr (some (1, 0)))), (2, .inl x2), (4, .inl x4), (5, .inl (am_w (x5 + 1)))] [] w bc bs) ∧ (¬ xs0 = 0 → Q (some (.inl x5)) w))) :
    am_A (mh_G X) SC (d + 7) mX11_first Q 72 [(0, .inr (.inr (some (1, 0)))), (2, .inl x2), (4, .inl x4), (5, .inl x5)] [.inl xs0] w bc bs := by
  refine am_ifeq (tgt := 78) dX11_first_72 (by decide) (fun c1 => ?_) (fun c1 => ?_)
  · replace h := h.1 c1
    refine am_iinc (ls' := [(5, .inl (am_w (x5 + 1))), (0, .inr (.inr (some (1, 0)))), (2, .inl x2), (4, .inl x4)]) dX11_first_78 (List.Mem.tail _ (List.Mem.tail _ (List.Mem.tail _ (List.Mem.head _)))) (by decide) rfl ?_
    refine am_goto (tgt := 55) dX11_first_81 (by decide) ?_
    exact am_sub [1, 2, 3, 0] rfl h
  · replace h := h.2 c1
    refine am_iload dX11_first_75 (List.Mem.tail _ (List.Mem.tail _ (List.Mem.tail _ (List.Mem.head _)))) ?_
    exact am_ret (r := some (.inl x5)) dX11_first_77 (Or.inl rfl) rfl h
-- MourningHouse.dress(II)I
theorem dX11_dress_0 : decode mX11_dress.2.1 0 = .ok (.aload_n 0, 1) := by decide +kernel
theorem dX11_dress_1 : decode mX11_dress.2.1 1 = .ok (.getfield 49, 3) := by decide +kernel
theorem dX11_dress_4 : decode mX11_dress.2.1 4 = .ok (.iload_n 1, 1) := by decide +kernel
theorem dX11_dress_5 : decode mX11_dress.2.1 5 = .ok (.iload_n 2, 1) := by decide +kernel
theorem dX11_dress_6 : decode mX11_dress.2.1 6 = .ok (.invokevirtual 248, 3) := by decide +kernel
theorem dX11_dress_9 : decode mX11_dress.2.1 9 = .ok (.ifCond .eq 15, 3) := by decide +kernel
theorem dX11_dress_12 : decode mX11_dress.2.1 12 = .ok (.aload_n 0, 1) := by decide +kernel
theorem dX11_dress_13 : decode mX11_dress.2.1 13 = .ok (.getfield 49, 3) := by decide +kernel
theorem dX11_dress_16 : decode mX11_dress.2.1 16 = .ok (.iload_n 1, 1) := by decide +kernel
theorem dX11_dress_17 : decode mX11_dress.2.1 17 = .ok (.iload_n 2, 1) := by decide +kernel
theorem dX11_dress_18 : decode mX11_dress.2.1 18 = .ok (.invokevirtual 251, 3) := by decide +kernel
theorem dX11_dress_21 : decode mX11_dress.2.1 21 = .ok (.goto 4, 3) := by decide +kernel
theorem dX11_dress_24 : decode mX11_dress.2.1 24 = .ok (.iconst (-1), 1) := by decide +kernel
theorem dX11_dress_25 : decode mX11_dress.2.1 25 = .ok (.ireturn, 1) := by decide +kernel
theorem bX11_dress_0 {SC : Nat → Nat} {X : mh_X} {d : Nat} {Q : Option am_V → am_W → Prop} {bc bs : Nat} {w : am_W} {x1 : Int} {x2 : Int}
    (h : ((¬ ((¬ x1 < 0 ∧ (¬ 4 < x1 ∧ (¬ x2 < 0 ∧ (¬ 4 < x2)))) ∧ (¬ 40 ≤ (am_w ((w.1 7 0 8) + (w.1 7 0 11))))) → Q (some (.inl (-1))) w) ∧ (((¬ x1 < 0 ∧ (¬ 4 < x1 ∧ (¬ x2 < 0 ∧ (¬ 4 < x2)))) ∧ (¬ 40 ≤ (am_w ((w.1 7 0 8) + (w.1 7 0 11))))) → (0 ≤ (w.1 7 0 8) ∧ ((w.1 7 0 8) < 40 ∧ Q (some (.inl (am_w (((am_up w.1 7 0 8 (am_w ((w.1 7 0 8) + 1))) 7 0 8) - 1)))) ((am_up (am_up (am_up (am_up w.1 50 0 (w.1 7 0 8).toNat x1) 51 0 (w.1 7 0 8).toNat x2) 52 0 (w.1 7 0 8).toNat 0) 7 0 8 (am_w ((w.1 7 0 8) + 1))), w.2)))))) :
    am_A (mh_G X) SC (d + 3) mX11_dress Q 0 [(0, .inr (.inr (some (1, 0)))), (1, .inl x1), (2, .inl x2)] [] w bc bs := by
  refine am_aload_n dX11_dress_0 (List.Mem.head _) ?_
  refine am_getf (f := 5) (v := .inr (.inr (some (7, 0)))) dX11_dress_1 hc_0 (by decide) wd_574 (by decide) rfl rfl ?_
  refine am_iload_n dX11_dress_4 (List.Mem.tail _ (List.Mem.head _)) ?_
  refine am_iload_n dX11_dress_5 (List.Mem.tail _ (List.Mem.tail _ (List.Mem.head _))) ?_
  refine am_callv (d' := d + 2) (kc := 0) (ks := 0) (as := [.inl x1, .inl x2]) dX11_dress_6 wc_X9_canHang wd_1349 wd_1350 wd_1351 wd_120 ds_X9_canHang (by decide) (by omega) (Nat.le_of_ble_eq_true rfl) (Nat.zero_le _) (Nat.zero_le _) hc_8 (by decide) rfl rfl (sX9_canHang (d := d + 0) (x1 := x1) (x2 := x2)  ?_)
  show am_A (mh_G X) SC (d + 3) mX11_dress Q 9 [(0, .inr (.inr (some (1, 0)))), (1, .inl x1), (2, .inl x2)] [.inl (if ((¬ x1 < 0 ∧ (¬ 4 < x1 ∧ (¬ x2 < 0 ∧ (¬ 4 < x2)))) ∧ (¬ 40 ≤ (am_w ((w.1 7 0 8) + (w.1 7 0 11))))) then 1 else 0)] w bc bs
  refine am_ifeq (tgt := 24) dX11_dress_9 (by decide) (fun c1 => ?_) (fun c1 => ?_)
  · replace c1 := am_beq1 c1
    replace h := h.1 c1
    refine am_iconst dX11_dress_24 (by unfold am_rg; omega) ?_
    exact am_ret (r := some (.inl (-1))) dX11_dress_25 (Or.inl rfl) rfl h
  · replace c1 := am_beq2 c1
    replace h := h.2 c1
    refine am_aload_n dX11_dress_12 (List.Mem.head _) ?_
    refine am_getf (f := 5) (v := .inr (.inr (some (7, 0)))) dX11_dress_13 hc_0 (by decide) wd_574 (by decide) rfl rfl ?_
    refine am_iload_n dX11_dress_16 (List.Mem.tail _ (List.Mem.head _)) ?_
    refine am_iload_n dX11_dress_17 (List.Mem.tail _ (List.Mem.tail _ (List.Mem.head _))) ?_
    have o2 := h.1
    replace h := h.2
    have o3 := h.1
    replace h := h.2
    refine am_callv (d' := d + 2) (kc := 0) (ks := 0) (as := [.inl x1, .inl x2]) dX11_dress_18 wc_X9_hang wd_1356 wd_1062 wd_1063 wd_120 ds_X9_hang (by decide) (by omega) (Nat.le_of_ble_eq_true rfl) (Nat.zero_le _) (Nat.zero_le _) hc_8 (by decide) rfl rfl (sX9_hang (d := d + 1) (x1 := x1) (x2 := x2) o2 o3 ?_)
    show am_A (mh_G X) SC (d + 3) mX11_dress Q 21 [(0, .inr (.inr (some (1, 0)))), (1, .inl x1), (2, .inl x2)] [.inl (am_w (((am_up w.1 7 0 8 (am_w ((w.1 7 0 8) + 1))) 7 0 8) - 1))] ((am_up (am_up (am_up (am_up w.1 50 0 (w.1 7 0 8).toNat x1) 51 0 (w.1 7 0 8).toNat x2) 52 0 (w.1 7 0 8).toNat 0) 7 0 8 (am_w ((w.1 7 0 8) + 1))), w.2) bc bs
    refine am_goto (tgt := 25) dX11_dress_21 (by decide) ?_
    exact am_ret (r := some (.inl (am_w (((am_up w.1 7 0 8 (am_w ((w.1 7 0 8) + 1))) 7 0 8) - 1)))) dX11_dress_25 (Or.inl rfl) rfl h
-- MourningHouse.cloth(II)I
theorem dX11_cloth_0 : decode mX11_cloth.2.1 0 = .ok (.aload_n 0, 1) := by decide +kernel
theorem dX11_cloth_1 : decode mX11_cloth.2.1 1 = .ok (.getfield 49, 3) := by decide +kernel
theorem dX11_cloth_4 : decode mX11_cloth.2.1 4 = .ok (.iload_n 1, 1) := by decide +kernel
theorem dX11_cloth_5 : decode mX11_cloth.2.1 5 = .ok (.iload_n 2, 1) := by decide +kernel
theorem dX11_cloth_6 : decode mX11_cloth.2.1 6 = .ok (.invokevirtual 254, 3) := by decide +kernel
theorem dX11_cloth_9 : decode mX11_cloth.2.1 9 = .ok (.ifCond .eq 15, 3) := by decide +kernel
theorem dX11_cloth_12 : decode mX11_cloth.2.1 12 = .ok (.aload_n 0, 1) := by decide +kernel
theorem dX11_cloth_13 : decode mX11_cloth.2.1 13 = .ok (.getfield 49, 3) := by decide +kernel
theorem dX11_cloth_16 : decode mX11_cloth.2.1 16 = .ok (.iload_n 1, 1) := by decide +kernel
theorem dX11_cloth_17 : decode mX11_cloth.2.1 17 = .ok (.iload_n 2, 1) := by decide +kernel
theorem dX11_cloth_18 : decode mX11_cloth.2.1 18 = .ok (.invokevirtual 257, 3) := by decide +kernel
theorem dX11_cloth_21 : decode mX11_cloth.2.1 21 = .ok (.goto 4, 3) := by decide +kernel
theorem dX11_cloth_24 : decode mX11_cloth.2.1 24 = .ok (.iconst (-1), 1) := by decide +kernel
theorem dX11_cloth_25 : decode mX11_cloth.2.1 25 = .ok (.ireturn, 1) := by decide +kernel
theorem bX11_cloth_0 {SC : Nat → Nat} {X : mh_X} {d : Nat} {Q : Option am_V → am_W → Prop} {bc bs : Nat} {w : am_W} {x1 : Int} {x2 : Int}
    (h : (((¬ (0 : Int) < 0 ∧ (¬ 4 < (0 : Int) ∧ (¬ x1 < 0 ∧ (¬ 4 < x1)))) → ¬ x2 < 1 → ¬ 99 < x2 → 0 ≤ x1) ∧ (((¬ (0 : Int) < 0 ∧ (¬ 4 < (0 : Int) ∧ (¬ x1 < 0 ∧ (¬ 4 < x1)))) → ¬ x2 < 1 → ¬ 99 < x2 → x1 < 5) ∧ ((¬ ((¬ (0 : Int) < 0 ∧ (¬ 4 < (0 : Int) ∧ (¬ x1 < 0 ∧ (¬ 4 < x1)))) ∧ (¬ x2 < 1 ∧ (¬ 99 < x2 ∧ (¬ 999 < (am_w ((w.1 53 0 x1.toNat) + x2)))))) → Q (some (.inl (-1))) w) ∧ (((¬ (0 : Int) < 0 ∧ (¬ 4 < (0 : Int) ∧ (¬ x1 < 0 ∧ (¬ 4 < x1)))) ∧ (¬ x2 < 1 ∧ (¬ 99 < x2 ∧ (¬ 999 < (am_w ((w.1 53 0 x1.toNat) + x2)))))) → (0 ≤ x1 ∧ (x1 < 5 ∧ Q (some (.inl ((am_up w.1 53 0 x1.toNat (am_w ((w.1 53 0 x1.toNat) + x2))) 53 0 x1.toNat))) ((am_up w.1 53 0 x1.toNat (am_w ((w.1 53 0 x1.toNat) + x2))), w.2)))))))) :
    am_A (mh_G X) SC (d + 3) mX11_cloth Q 0 [(0, .inr (.inr (some (1, 0)))), (1, .inl x1), (2, .inl x2)] [] w bc bs := by
  refine am_aload_n dX11_cloth_0 (List.Mem.head _) ?_
  refine am_getf (f := 5) (v := .inr (.inr (some (7, 0)))) dX11_cloth_1 hc_0 (by decide) wd_574 (by decide) rfl rfl ?_
  refine am_iload_n dX11_cloth_4 (List.Mem.tail _ (List.Mem.head _)) ?_
  refine am_iload_n dX11_cloth_5 (List.Mem.tail _ (List.Mem.tail _ (List.Mem.head _))) ?_
  have o1 := h.1
  replace h := h.2
  have o2 := h.1
  replace h := h.2
  refine am_callv (d' := d + 2) (kc := 0) (ks := 0) (as := [.inl x1, .inl x2]) dX11_cloth_6 wc_X9_canStore wd_1361 wd_1362 wd_1363 wd_120 ds_X9_canStore (by decide) (by omega) (Nat.le_of_ble_eq_true rfl) (Nat.zero_le _) (Nat.zero_le _) hc_8 (by decide) rfl rfl (sX9_canStore (d := d + 0) (x1 := x1) (x2 := x2) o1 o2 ?_)
  show am_A (mh_G X) SC (d + 3) mX11_cloth Q 9 [(0, .inr (.inr (some (1, 0)))), (1, .inl x1), (2, .inl x2)] [.inl (if ((¬ (0 : Int) < 0 ∧ (¬ 4 < (0 : Int) ∧ (¬ x1 < 0 ∧ (¬ 4 < x1)))) ∧ (¬ x2 < 1 ∧ (¬ 99 < x2 ∧ (¬ 999 < (am_w ((w.1 53 0 x1.toNat) + x2)))))) then 1 else 0)] w bc bs
  refine am_ifeq (tgt := 24) dX11_cloth_9 (by decide) (fun c3 => ?_) (fun c3 => ?_)
  · replace c3 := am_beq1 c3
    replace h := h.1 c3
    refine am_iconst dX11_cloth_24 (by unfold am_rg; omega) ?_
    exact am_ret (r := some (.inl (-1))) dX11_cloth_25 (Or.inl rfl) rfl h
  · replace c3 := am_beq2 c3
    replace h := h.2 c3
    refine am_aload_n dX11_cloth_12 (List.Mem.head _) ?_
    refine am_getf (f := 5) (v := .inr (.inr (some (7, 0)))) dX11_cloth_13 hc_0 (by decide) wd_574 (by decide) rfl rfl ?_
    refine am_iload_n dX11_cloth_16 (List.Mem.tail _ (List.Mem.head _)) ?_
    refine am_iload_n dX11_cloth_17 (List.Mem.tail _ (List.Mem.tail _ (List.Mem.head _))) ?_
    have o4 := h.1
    replace h := h.2
    have o5 := h.1
    replace h := h.2
    refine am_callv (d' := d + 2) (kc := 0) (ks := 0) (as := [.inl x1, .inl x2]) dX11_cloth_18 wc_X9_store wd_1365 wd_1366 wd_1367 wd_120 ds_X9_store (by decide) (by omega) (Nat.le_of_ble_eq_true rfl) (Nat.zero_le _) (Nat.zero_le _) hc_8 (by decide) rfl rfl (sX9_store (d := d + 1) (x1 := x1) (x2 := x2) o4 o5 ?_)
    show am_A (mh_G X) SC (d + 3) mX11_cloth Q 21 [(0, .inr (.inr (some (1, 0)))), (1, .inl x1), (2, .inl x2)] [.inl ((am_up w.1 53 0 x1.toNat (am_w ((w.1 53 0 x1.toNat) + x2))) 53 0 x1.toNat)] ((am_up w.1 53 0 x1.toNat (am_w ((w.1 53 0 x1.toNat) + x2))), w.2) bc bs
    refine am_goto (tgt := 25) dX11_cloth_21 (by decide) ?_
    exact am_ret (r := some (.inl ((am_up w.1 53 0 x1.toNat (am_w ((w.1 53 0 x1.toNat) + x2))) 53 0 x1.toNat))) dX11_cloth_25 (Or.inl rfl) rfl h
-- MourningHouse.hands(I)Z
theorem dX11_hands_0 : decode mX11_hands.2.1 0 = .ok (.iload_n 1, 1) := by decide +kernel
theorem dX11_hands_1 : decode mX11_hands.2.1 1 = .ok (.ifCond .lt 8, 3) := by decide +kernel
theorem dX11_hands_4 : decode mX11_hands.2.1 4 = .ok (.iload_n 1, 1) := by decide +kernel
theorem dX11_hands_5 : decode mX11_hands.2.1 5 = .ok (.iconst 4, 1) := by decide +kernel
theorem dX11_hands_6 : decode mX11_hands.2.1 6 = .ok (.if_icmp .le 5, 3) := by decide +kernel
theorem dX11_hands_9 : decode mX11_hands.2.1 9 = .ok (.iconst 0, 1) := by decide +kernel
theorem dX11_hands_10 : decode mX11_hands.2.1 10 = .ok (.ireturn, 1) := by decide +kernel
theorem dX11_hands_11 : decode mX11_hands.2.1 11 = .ok (.aload_n 0, 1) := by decide +kernel
theorem dX11_hands_12 : decode mX11_hands.2.1 12 = .ok (.getfield 49, 3) := by decide +kernel
theorem dX11_hands_15 : decode mX11_hands.2.1 15 = .ok (.iload_n 1, 1) := by decide +kernel
theorem dX11_hands_16 : decode mX11_hands.2.1 16 = .ok (.putfield 260, 3) := by decide +kernel
theorem dX11_hands_19 : decode mX11_hands.2.1 19 = .ok (.iconst 1, 1) := by decide +kernel
theorem dX11_hands_20 : decode mX11_hands.2.1 20 = .ok (.ireturn, 1) := by decide +kernel
theorem bX11_hands_0 {SC : Nat → Nat} {X : mh_X} {d : Nat} {Q : Option am_V → am_W → Prop} {bc bs : Nat} {w : am_W} {x1 : Int}
    (h : ((x1 < 0 → Q (some (.inl 0)) w) ∧ (¬ x1 < 0 → ((x1 ≤ 4 → Q (some (.inl 1)) ((am_up w.1 7 0 10 x1), w.2)) ∧ (¬ x1 ≤ 4 → Q (some (.inl 0)) w))))) :
    am_A (mh_G X) SC (d + 1) mX11_hands Q 0 [(0, .inr (.inr (some (1, 0)))), (1, .inl x1)] [] w bc bs := by
  refine am_iload_n dX11_hands_0 (List.Mem.tail _ (List.Mem.head _)) ?_
  refine am_iflt (tgt := 9) dX11_hands_1 (by decide) (fun c1 => ?_) (fun c1 => ?_)
  · replace h := h.1 c1
    refine am_iconst dX11_hands_9 (by unfold am_rg; omega) ?_
    exact am_ret (r := some (.inl 0)) dX11_hands_10 (Or.inr (Or.inl ⟨rfl, (Or.inl rfl)⟩)) rfl h
  · replace h := h.2 c1
    refine am_iload_n dX11_hands_4 (List.Mem.tail _ (List.Mem.head _)) ?_
    refine am_iconst dX11_hands_5 (by unfold am_rg; omega) ?_
    refine am_icmple (tgt := 11) dX11_hands_6 (by decide) (fun c2 => ?_) (fun c2 => ?_)
    · replace h := h.1 c2
      refine am_aload_n dX11_hands_11 (List.Mem.head _) ?_
      refine am_getf (f := 5) (v := .inr (.inr (some (7, 0)))) dX11_hands_12 hc_0 (by decide) wd_574 (by decide) rfl rfl ?_
      refine am_iload_n dX11_hands_15 (List.Mem.tail _ (List.Mem.head _)) ?_
      refine am_putf (f := 10) dX11_hands_16 hc_8 (by decide) wd_495 rfl (Or.inl rfl) (Or.inl (by decide)) rfl ?_
      refine am_iconst dX11_hands_19 (by unfold am_rg; omega) ?_
      exact am_ret (r := some (.inl 1)) dX11_hands_20 (Or.inr (Or.inl ⟨rfl, (Or.inr rfl)⟩)) rfl h
    · replace h := h.2 c2
      refine am_iconst dX11_hands_9 (by unfold am_rg; omega) ?_
      exact am_ret (r := some (.inl 0)) dX11_hands_10 (Or.inr (Or.inl ⟨rfl, (Or.inl rfl)⟩)) rfl h
-- MourningHouse.dye(II)I
theorem dX11_dye_0 : decode mX11_dye.2.1 0 = .ok (.aload_n 0, 1) := by decide +kernel
theorem dX11_dye_1 : decode mX11_dye.2.1 1 = .ok (.getfield 49, 3) := by decide +kernel
theorem dX11_dye_4 : decode mX11_dye.2.1 4 = .ok (.iload_n 1, 1) := by decide +kernel
theorem dX11_dye_5 : decode mX11_dye.2.1 5 = .ok (.iload_n 2, 1) := by decide +kernel
theorem dX11_dye_6 : decode mX11_dye.2.1 6 = .ok (.invokevirtual 263, 3) := by decide +kernel
theorem dX11_dye_9 : decode mX11_dye.2.1 9 = .ok (.ifCond .eq 15, 3) := by decide +kernel
theorem dX11_dye_12 : decode mX11_dye.2.1 12 = .ok (.aload_n 0, 1) := by decide +kernel
theorem dX11_dye_13 : decode mX11_dye.2.1 13 = .ok (.getfield 49, 3) := by decide +kernel
theorem dX11_dye_16 : decode mX11_dye.2.1 16 = .ok (.iload_n 1, 1) := by decide +kernel
theorem dX11_dye_17 : decode mX11_dye.2.1 17 = .ok (.iload_n 2, 1) := by decide +kernel
theorem dX11_dye_18 : decode mX11_dye.2.1 18 = .ok (.invokevirtual 266, 3) := by decide +kernel
theorem dX11_dye_21 : decode mX11_dye.2.1 21 = .ok (.goto 4, 3) := by decide +kernel
theorem dX11_dye_24 : decode mX11_dye.2.1 24 = .ok (.iconst (-1), 1) := by decide +kernel
theorem dX11_dye_25 : decode mX11_dye.2.1 25 = .ok (.ireturn, 1) := by decide +kernel
theorem bX11_dye_0 {SC : Nat → Nat} {X : mh_X} {d : Nat} {Q : Option am_V → am_W → Prop} {bc bs : Nat} {w : am_W} {x1 : Int} {x2 : Int}
    (h : (((¬ x1 < 0 ∧ (¬ (w.1 7 0 8) ≤ x1)) → 0 ≤ x1) ∧ (((¬ x1 < 0 ∧ (¬ (w.1 7 0 8) ≤ x1)) → x1 < 40) ∧ ((¬ ((¬ x1 < 0 ∧ (¬ (w.1 7 0 8) ≤ x1)) ∧ ((w.1 52 0 x1.toNat) = 0 ∧ (¬ 4 < x2 ∧ (¬ x2 ≤ (w.1 51 0 x1.toNat) ∧ (¬ 20 ≤ (w.1 7 0 9)))))) → Q (some (.inl (-1))) w) ∧ (((¬ x1 < 0 ∧ (¬ (w.1 7 0 8) ≤ x1)) ∧ ((w.1 52 0 x1.toNat) = 0 ∧ (¬ 4 < x2 ∧ (¬ x2 ≤ (w.1 51 0 x1.toNat) ∧ (¬ 20 ≤ (w.1 7 0 9)))))) → (0 ≤ x1 ∧ (x1 < 40 ∧ (0 ≤ (w.1 7 0 9) ∧ ((w.1 7 0 9) < 20 ∧ Q (some (.inl ((am_up w.1 7 0 9 (am_w ((w.1 7 0 9) + 1))) 7 0 9))) ((am_up (am_up (am_up (am_up (am_up (am_up w.1 52 0 x1.toNat 1) 54 0 (w.1 7 0 9).toNat x1) 55 0 (w.1 7 0 9).toNat (w.1 50 0 x1.toNat)) 56 0 (w.1 7 0 9).toNat x2) 57 0 (w.1 7 0 9).toNat (2 : Int)) 7 0 9 (am_w ((w.1 7 0 9) + 1))), w.2)))))))))) :
    am_A (mh_G X) SC (d + 3) mX11_dye Q 0 [(0, .inr (.inr (some (1, 0)))), (1, .inl x1), (2, .inl x2)] [] w bc bs := by
  refine am_aload_n dX11_dye_0 (List.Mem.head _) ?_
  refine am_getf (f := 5) (v := .inr (.inr (some (7, 0)))) dX11_dye_1 hc_0 (by decide) wd_574 (by decide) rfl rfl ?_
  refine am_iload_n dX11_dye_4 (List.Mem.tail _ (List.Mem.head _)) ?_
  refine am_iload_n dX11_dye_5 (List.Mem.tail _ (List.Mem.tail _ (List.Mem.head _))) ?_
  have o1 := h.1
  replace h := h.2
  have o2 := h.1
  replace h := h.2
  refine am_callv (d' := d + 2) (kc := 0) (ks := 0) (as := [.inl x1, .inl x2]) dX11_dye_6 wc_X9_canDye wd_1377 wd_1378 wd_1379 wd_120 ds_X9_canDye (by decide) (by omega) (Nat.le_of_ble_eq_true rfl) (Nat.zero_le _) (Nat.zero_le _) hc_8 (by decide) rfl rfl (sX9_canDye (d := d + 0) (x1 := x1) (x2 := x2) o1 o2 ?_)
  show am_A (mh_G X) SC (d + 3) mX11_dye Q 9 [(0, .inr (.inr (some (1, 0)))), (1, .inl x1), (2, .inl x2)] [.inl (if ((¬ x1 < 0 ∧ (¬ (w.1 7 0 8) ≤ x1)) ∧ ((w.1 52 0 x1.toNat) = 0 ∧ (¬ 4 < x2 ∧ (¬ x2 ≤ (w.1 51 0 x1.toNat) ∧ (¬ 20 ≤ (w.1 7 0 9)))))) then 1 else 0)] w bc bs
  refine am_ifeq (tgt := 24) dX11_dye_9 (by decide) (fun c3 => ?_) (fun c3 => ?_)
  · replace c3 := am_beq1 c3
    replace h := h.1 c3
    refine am_iconst dX11_dye_24 (by unfold am_rg; omega) ?_
    exact am_ret (r := some (.inl (-1))) dX11_dye_25 (Or.inl rfl) rfl h
  · replace c3 := am_beq2 c3
    replace h := h.2 c3
    refine am_aload_n dX11_dye_12 (List.Mem.head _) ?_
    refine am_getf (f := 5) (v := .inr (.inr (some (7, 0)))) dX11_dye_13 hc_0 (by decide) wd_574 (by decide) rfl rfl ?_
    refine am_iload_n dX11_dye_16 (List.Mem.tail _ (List.Mem.head _)) ?_
    refine am_iload_n dX11_dye_17 (List.Mem.tail _ (List.Mem.tail _ (List.Mem.head _))) ?_
    have o4 := h.1
    replace h := h.2
    have o5 := h.1
    replace h := h.2
    have o6 := h.1
    replace h := h.2
    have o7 := h.1
    replace h := h.2
    refine am_callv (d' := d + 2) (kc := 0) (ks := 0) (as := [.inl x1, .inl x2]) dX11_dye_18 wc_X9_startDye wd_1381 wd_1382 wd_1383 wd_120 ds_X9_startDye (by decide) (by omega) (Nat.le_of_ble_eq_true rfl) (Nat.zero_le _) (Nat.zero_le _) hc_8 (by decide) rfl rfl (sX9_startDye (d := d + 0) (x1 := x1) (x2 := x2) o4 o5 o6 o7 ?_)
    show am_A (mh_G X) SC (d + 3) mX11_dye Q 21 [(0, .inr (.inr (some (1, 0)))), (1, .inl x1), (2, .inl x2)] [.inl ((am_up w.1 7 0 9 (am_w ((w.1 7 0 9) + 1))) 7 0 9)] ((am_up (am_up (am_up (am_up (am_up (am_up w.1 52 0 x1.toNat 1) 54 0 (w.1 7 0 9).toNat x1) 55 0 (w.1 7 0 9).toNat (w.1 50 0 x1.toNat)) 56 0 (w.1 7 0 9).toNat x2) 57 0 (w.1 7 0 9).toNat (2 : Int)) 7 0 9 (am_w ((w.1 7 0 9) + 1))), w.2) bc bs
    refine am_goto (tgt := 25) dX11_dye_21 (by decide) ?_
    exact am_ret (r := some (.inl ((am_up w.1 7 0 9 (am_w ((w.1 7 0 9) + 1))) 7 0 9))) dX11_dye_25 (Or.inl rfl) rfl h
-- MourningHouse.make(II)I
theorem dX11_make_0 : decode mX11_make.2.1 0 = .ok (.aload_n 0, 1) := by decide +kernel
theorem dX11_make_1 : decode mX11_make.2.1 1 = .ok (.getfield 49, 3) := by decide +kernel
theorem dX11_make_4 : decode mX11_make.2.1 4 = .ok (.iload_n 1, 1) := by decide +kernel
theorem dX11_make_5 : decode mX11_make.2.1 5 = .ok (.iload_n 2, 1) := by decide +kernel
theorem dX11_make_6 : decode mX11_make.2.1 6 = .ok (.invokevirtual 269, 3) := by decide +kernel
theorem dX11_make_9 : decode mX11_make.2.1 9 = .ok (.ifCond .eq 15, 3) := by decide +kernel
theorem dX11_make_12 : decode mX11_make.2.1 12 = .ok (.aload_n 0, 1) := by decide +kernel
theorem dX11_make_13 : decode mX11_make.2.1 13 = .ok (.getfield 49, 3) := by decide +kernel
theorem dX11_make_16 : decode mX11_make.2.1 16 = .ok (.iload_n 1, 1) := by decide +kernel
theorem dX11_make_17 : decode mX11_make.2.1 17 = .ok (.iload_n 2, 1) := by decide +kernel
theorem dX11_make_18 : decode mX11_make.2.1 18 = .ok (.invokevirtual 272, 3) := by decide +kernel
theorem dX11_make_21 : decode mX11_make.2.1 21 = .ok (.goto 4, 3) := by decide +kernel
theorem dX11_make_24 : decode mX11_make.2.1 24 = .ok (.iconst (-1), 1) := by decide +kernel
theorem dX11_make_25 : decode mX11_make.2.1 25 = .ok (.ireturn, 1) := by decide +kernel
theorem bX11_make_0 {SC : Nat → Nat} {X : mh_X} {d : Nat} {Q : Option am_V → am_W → Prop} {bc bs : Nat} {w : am_W} {x1 : Int} {x2 : Int}
    (h : ((((¬ x1 < 0 ∧ (¬ 4 < x1 ∧ (¬ x2 < 0 ∧ (¬ 4 < x2)))) ∧ (¬ 40 ≤ (am_w ((w.1 7 0 8) + (w.1 7 0 11))))) → 0 ≤ x2) ∧ ((((¬ x1 < 0 ∧ (¬ 4 < x1 ∧ (¬ x2 < 0 ∧ (¬ 4 < x2)))) ∧ (¬ 40 ≤ (am_w ((w.1 7 0 8) + (w.1 7 0 11))))) → x2 < 5) ∧ ((¬ (((¬ x1 < 0 ∧ (¬ 4 < x1 ∧ (¬ x2 < 0 ∧ (¬ 4 < x2)))) ∧ (¬ 40 ≤ (am_w ((w.1 7 0 8) + (w.1 7 0 11))))) ∧ (¬ (w.1 53 0 x2.toNat) ≤ 0 ∧ (¬ 20 ≤ (w.1 7 0 9)))) → Q (some (.inl (-1))) w) ∧ ((((¬ x1 < 0 ∧ (¬ 4 < x1 ∧ (¬ x2 < 0 ∧ (¬ 4 < x2)))) ∧ (¬ 40 ≤ (am_w ((w.1 7 0 8) + (w.1 7 0 11))))) ∧ (¬ (w.1 53 0 x2.toNat) ≤ 0 ∧ (¬ 20 ≤ (w.1 7 0 9)))) → (0 ≤ x2 ∧ (x2 < 5 ∧ (0 ≤ ((am_up w.1 7 0 11 (am_w ((w.1 7 0 11) + 1))) 7 0 9) ∧ (((am_up w.1 7 0 11 (am_w ((w.1 7 0 11) + 1))) 7 0 9) < 20 ∧ Q (some (.inl ((am_up (am_up w.1 7 0 11 (am_w ((w.1 7 0 11) + 1))) 7 0 9 (am_w (((am_up w.1 7 0 11 (am_w ((w.1 7 0 11) + 1))) 7 0 9) + 1))) 7 0 9))) ((am_up (am_up (am_up (am_up (am_up (am_up (am_up w.1 53 0 x2.toNat (am_w ((w.1 53 0 x2.toNat) - 1))) 7 0 11 (am_w ((w.1 7 0 11) + 1))) 54 0 ((am_up w.1 7 0 11 (am_w ((w.1 7 0 11) + 1))) 7 0 9).toNat ((-1) : Int)) 55 0 ((am_up w.1 7 0 11 (am_w ((w.1 7 0 11) + 1))) 7 0 9).toNat x1) 56 0 ((am_up w.1 7 0 11 (am_w ((w.1 7 0 11) + 1))) 7 0 9).toNat x2) 57 0 ((am_up w.1 7 0 11 (am_w ((w.1 7 0 11) + 1))) 7 0 9).toNat (3 : Int)) 7 0 9 (am_w (((am_up w.1 7 0 11 (am_w ((w.1 7 0 11) + 1))) 7 0 9) + 1))), w.2)))))))))) :
    am_A (mh_G X) SC (d + 4) mX11_make Q 0 [(0, .inr (.inr (some (1, 0)))), (1, .inl x1), (2, .inl x2)] [] w bc bs := by
  refine am_aload_n dX11_make_0 (List.Mem.head _) ?_
  refine am_getf (f := 5) (v := .inr (.inr (some (7, 0)))) dX11_make_1 hc_0 (by decide) wd_574 (by decide) rfl rfl ?_
  refine am_iload_n dX11_make_4 (List.Mem.tail _ (List.Mem.head _)) ?_
  refine am_iload_n dX11_make_5 (List.Mem.tail _ (List.Mem.tail _ (List.Mem.head _))) ?_
  have o1 := h.1
  replace h := h.2
  have o2 := h.1
  replace h := h.2
  refine am_callv (d' := d + 3) (kc := 0) (ks := 0) (as := [.inl x1, .inl x2]) dX11_make_6 wc_X9_canMake wd_1393 wd_1394 wd_1395 wd_120 ds_X9_canMake (by decide) (by omega) (Nat.le_of_ble_eq_true rfl) (Nat.zero_le _) (Nat.zero_le _) hc_8 (by decide) rfl rfl (sX9_canMake (d := d + 0) (x1 := x1) (x2 := x2) o1 o2 ?_)
  show am_A (mh_G X) SC (d + 4) mX11_make Q 9 [(0, .inr (.inr (some (1, 0)))), (1, .inl x1), (2, .inl x2)] [.inl (if (((¬ x1 < 0 ∧ (¬ 4 < x1 ∧ (¬ x2 < 0 ∧ (¬ 4 < x2)))) ∧ (¬ 40 ≤ (am_w ((w.1 7 0 8) + (w.1 7 0 11))))) ∧ (¬ (w.1 53 0 x2.toNat) ≤ 0 ∧ (¬ 20 ≤ (w.1 7 0 9)))) then 1 else 0)] w bc bs
  refine am_ifeq (tgt := 24) dX11_make_9 (by decide) (fun c3 => ?_) (fun c3 => ?_)
  · replace c3 := am_beq1 c3
    replace h := h.1 c3
    refine am_iconst dX11_make_24 (by unfold am_rg; omega) ?_
    exact am_ret (r := some (.inl (-1))) dX11_make_25 (Or.inl rfl) rfl h
  · replace c3 := am_beq2 c3
    replace h := h.2 c3
    refine am_aload_n dX11_make_12 (List.Mem.head _) ?_
    refine am_getf (f := 5) (v := .inr (.inr (some (7, 0)))) dX11_make_13 hc_0 (by decide) wd_574 (by decide) rfl rfl ?_
    refine am_iload_n dX11_make_16 (List.Mem.tail _ (List.Mem.head _)) ?_
    refine am_iload_n dX11_make_17 (List.Mem.tail _ (List.Mem.tail _ (List.Mem.head _))) ?_
    have o4 := h.1
    replace h := h.2
    have o5 := h.1
    replace h := h.2
    have o6 := h.1
    replace h := h.2
    have o7 := h.1
    replace h := h.2
    refine am_callv (d' := d + 3) (kc := 0) (ks := 0) (as := [.inl x1, .inl x2]) dX11_make_18 wc_X9_startMake wd_1398 wd_1399 wd_1400 wd_120 ds_X9_startMake (by decide) (by omega) (Nat.le_of_ble_eq_true rfl) (Nat.zero_le _) (Nat.zero_le _) hc_8 (by decide) rfl rfl (sX9_startMake (d := d + 1) (x1 := x1) (x2 := x2) o4 o5 o6 o7 ?_)
    show am_A (mh_G X) SC (d + 4) mX11_make Q 21 [(0, .inr (.inr (some (1, 0)))), (1, .inl x1), (2, .inl x2)] [.inl ((am_up (am_up w.1 7 0 11 (am_w ((w.1 7 0 11) + 1))) 7 0 9 (am_w (((am_up w.1 7 0 11 (am_w ((w.1 7 0 11) + 1))) 7 0 9) + 1))) 7 0 9)] ((am_up (am_up (am_up (am_up (am_up (am_up (am_up w.1 53 0 x2.toNat (am_w ((w.1 53 0 x2.toNat) - 1))) 7 0 11 (am_w ((w.1 7 0 11) + 1))) 54 0 ((am_up w.1 7 0 11 (am_w ((w.1 7 0 11) + 1))) 7 0 9).toNat ((-1) : Int)) 55 0 ((am_up w.1 7 0 11 (am_w ((w.1 7 0 11) + 1))) 7 0 9).toNat x1) 56 0 ((am_up w.1 7 0 11 (am_w ((w.1 7 0 11) + 1))) 7 0 9).toNat x2) 57 0 ((am_up w.1 7 0 11 (am_w ((w.1 7 0 11) + 1))) 7 0 9).toNat (3 : Int)) 7 0 9 (am_w (((am_up w.1 7 0 11 (am_w ((w.1 7 0 11) + 1))) 7 0 9) + 1))), w.2) bc bs
    refine am_goto (tgt := 25) dX11_make_21 (by decide) ?_
    exact am_ret (r := some (.inl ((am_up (am_up w.1 7 0 11 (am_w ((w.1 7 0 11) + 1))) 7 0 9 (am_w (((am_up w.1 7 0 11 (am_w ((w.1 7 0 11) + 1))) 7 0 9) + 1))) 7 0 9))) dX11_make_25 (Or.inl rfl) rfl h
-- MourningHouse.isPlanned(III)Z
theorem dX11_isPlanned_0 : decode mX11_isPlanned.2.1 0 = .ok (.iload_n 1, 1) := by decide +kernel
theorem dX11_isPlanned_1 : decode mX11_isPlanned.2.1 1 = .ok (.invokestatic 316, 3) := by decide +kernel
theorem dX11_isPlanned_4 : decode mX11_isPlanned.2.1 4 = .ok (.istore 4, 2) := by decide +kernel
theorem dX11_isPlanned_6 : decode mX11_isPlanned.2.1 6 = .ok (.iload_n 1, 1) := by decide +kernel
theorem dX11_isPlanned_7 : decode mX11_isPlanned.2.1 7 = .ok (.ifCond .le 30, 3) := by decide +kernel
theorem dX11_isPlanned_10 : decode mX11_isPlanned.2.1 10 = .ok (.iload 4, 2) := by decide +kernel
theorem dX11_isPlanned_12 : decode mX11_isPlanned.2.1 12 = .ok (.iconst 5, 1) := by decide +kernel
theorem dX11_isPlanned_13 : decode mX11_isPlanned.2.1 13 = .ok (.if_icmp .gt 24, 3) := by decide +kernel
theorem dX11_isPlanned_16 : decode mX11_isPlanned.2.1 16 = .ok (.iload_n 3, 1) := by decide +kernel
theorem dX11_isPlanned_17 : decode mX11_isPlanned.2.1 17 = .ok (.ifCond .lt 20, 3) := by decide +kernel
theorem dX11_isPlanned_20 : decode mX11_isPlanned.2.1 20 = .ok (.iload_n 3, 1) := by decide +kernel
theorem dX11_isPlanned_21 : decode mX11_isPlanned.2.1 21 = .ok (.iload 4, 2) := by decide +kernel
theorem dX11_isPlanned_23 : decode mX11_isPlanned.2.1 23 = .ok (.if_icmp .ge 14, 3) := by decide +kernel
theorem dX11_isPlanned_26 : decode mX11_isPlanned.2.1 26 = .ok (.aload_n 0, 1) := by decide +kernel
theorem dX11_isPlanned_27 : decode mX11_isPlanned.2.1 27 = .ok (.getfield 33, 3) := by decide +kernel
theorem dX11_isPlanned_30 : decode mX11_isPlanned.2.1 30 = .ok (.iload_n 1, 1) := by decide +kernel
theorem dX11_isPlanned_31 : decode mX11_isPlanned.2.1 31 = .ok (.invokevirtual 321, 3) := by decide +kernel
theorem dX11_isPlanned_34 : decode mX11_isPlanned.2.1 34 = .ok (.ifCond .ne 5, 3) := by decide +kernel
theorem dX11_isPlanned_37 : decode mX11_isPlanned.2.1 37 = .ok (.iconst 0, 1) := by decide +kernel
theorem dX11_isPlanned_38 : decode mX11_isPlanned.2.1 38 = .ok (.ireturn, 1) := by decide +kernel
theorem dX11_isPlanned_39 : decode mX11_isPlanned.2.1 39 = .ok (.iload_n 2, 1) := by decide +kernel
theorem dX11_isPlanned_40 : decode mX11_isPlanned.2.1 40 = .ok (.aload_n 0, 1) := by decide +kernel
theorem dX11_isPlanned_41 : decode mX11_isPlanned.2.1 41 = .ok (.getfield 79, 3) := by decide +kernel
theorem dX11_isPlanned_44 : decode mX11_isPlanned.2.1 44 = .ok (.if_icmp .lt 21, 3) := by decide +kernel
theorem dX11_isPlanned_47 : decode mX11_isPlanned.2.1 47 = .ok (.iload_n 2, 1) := by decide +kernel
theorem dX11_isPlanned_48 : decode mX11_isPlanned.2.1 48 = .ok (.aload_n 0, 1) := by decide +kernel
theorem dX11_isPlanned_49 : decode mX11_isPlanned.2.1 49 = .ok (.getfield 79, 3) := by decide +kernel
theorem dX11_isPlanned_52 : decode mX11_isPlanned.2.1 52 = .ok (.bipush 100, 2) := by decide +kernel
theorem dX11_isPlanned_54 : decode mX11_isPlanned.2.1 54 = .ok (.iadd, 1) := by decide +kernel
theorem dX11_isPlanned_55 : decode mX11_isPlanned.2.1 55 = .ok (.if_icmp .gt 10, 3) := by decide +kernel
theorem dX11_isPlanned_58 : decode mX11_isPlanned.2.1 58 = .ok (.iload_n 2, 1) := by decide +kernel
theorem dX11_isPlanned_59 : decode mX11_isPlanned.2.1 59 = .ok (.invokestatic 143, 3) := by decide +kernel
theorem dX11_isPlanned_62 : decode mX11_isPlanned.2.1 62 = .ok (.ifCond .ne 5, 3) := by decide +kernel
theorem dX11_isPlanned_65 : decode mX11_isPlanned.2.1 65 = .ok (.iconst 0, 1) := by decide +kernel
theorem dX11_isPlanned_66 : decode mX11_isPlanned.2.1 66 = .ok (.ireturn, 1) := by decide +kernel
theorem dX11_isPlanned_67 : decode mX11_isPlanned.2.1 67 = .ok (.aload_n 0, 1) := by decide +kernel
theorem dX11_isPlanned_68 : decode mX11_isPlanned.2.1 68 = .ok (.getfield 58, 3) := by decide +kernel
theorem dX11_isPlanned_71 : decode mX11_isPlanned.2.1 71 = .ok (.iload_n 2, 1) := by decide +kernel
theorem dX11_isPlanned_72 : decode mX11_isPlanned.2.1 72 = .ok (.aload_n 0, 1) := by decide +kernel
theorem dX11_isPlanned_73 : decode mX11_isPlanned.2.1 73 = .ok (.getfield 79, 3) := by decide +kernel
theorem dX11_isPlanned_76 : decode mX11_isPlanned.2.1 76 = .ok (.isub, 1) := by decide +kernel
theorem dX11_isPlanned_77 : decode mX11_isPlanned.2.1 77 = .ok (.invokevirtual 324, 3) := by decide +kernel
theorem dX11_isPlanned_80 : decode mX11_isPlanned.2.1 80 = .ok (.iconst 0, 1) := by decide +kernel
theorem dX11_isPlanned_81 : decode mX11_isPlanned.2.1 81 = .ok (.istore 5, 2) := by decide +kernel
theorem dX11_isPlanned_83 : decode mX11_isPlanned.2.1 83 = .ok (.iload 5, 2) := by decide +kernel
theorem dX11_isPlanned_85 : decode mX11_isPlanned.2.1 85 = .ok (.aload_n 0, 1) := by decide +kernel
theorem dX11_isPlanned_86 : decode mX11_isPlanned.2.1 86 = .ok (.getfield 33, 3) := by decide +kernel
theorem dX11_isPlanned_89 : decode mX11_isPlanned.2.1 89 = .ok (.getfield 298, 3) := by decide +kernel
theorem dX11_isPlanned_92 : decode mX11_isPlanned.2.1 92 = .ok (.if_icmp .ge 63, 3) := by decide +kernel
theorem dX11_isPlanned_95 : decode mX11_isPlanned.2.1 95 = .ok (.iload 5, 2) := by decide +kernel
theorem dX11_isPlanned_97 : decode mX11_isPlanned.2.1 97 = .ok (.bipush 31, 2) := by decide +kernel
theorem dX11_isPlanned_99 : decode mX11_isPlanned.2.1 99 = .ok (.if_icmp .ge 56, 3) := by decide +kernel
theorem dX11_isPlanned_102 : decode mX11_isPlanned.2.1 102 = .ok (.iload_n 1, 1) := by decide +kernel
theorem dX11_isPlanned_103 : decode mX11_isPlanned.2.1 103 = .ok (.iload 5, 2) := by decide +kernel
theorem dX11_isPlanned_105 : decode mX11_isPlanned.2.1 105 = .ok (.ishr, 1) := by decide +kernel
theorem dX11_isPlanned_106 : decode mX11_isPlanned.2.1 106 = .ok (.iconst 1, 1) := by decide +kernel
theorem dX11_isPlanned_107 : decode mX11_isPlanned.2.1 107 = .ok (.iand, 1) := by decide +kernel
theorem dX11_isPlanned_108 : decode mX11_isPlanned.2.1 108 = .ok (.ifCond .eq 41, 3) := by decide +kernel
theorem dX11_isPlanned_111 : decode mX11_isPlanned.2.1 111 = .ok (.aload_n 0, 1) := by decide +kernel
theorem dX11_isPlanned_112 : decode mX11_isPlanned.2.1 112 = .ok (.getfield 42, 3) := by decide +kernel
theorem dX11_isPlanned_115 : decode mX11_isPlanned.2.1 115 = .ok (.iload 5, 2) := by decide +kernel
theorem dX11_isPlanned_117 : decode mX11_isPlanned.2.1 117 = .ok (.aload_n 0, 1) := by decide +kernel
theorem dX11_isPlanned_118 : decode mX11_isPlanned.2.1 118 = .ok (.getfield 79, 3) := by decide +kernel
theorem dX11_isPlanned_121 : decode mX11_isPlanned.2.1 121 = .ok (.invokevirtual 221, 3) := by decide +kernel
theorem dX11_isPlanned_124 : decode mX11_isPlanned.2.1 124 = .ok (.aload_n 0, 1) := by decide +kernel
theorem dX11_isPlanned_125 : decode mX11_isPlanned.2.1 125 = .ok (.getfield 58, 3) := by decide +kernel
theorem dX11_isPlanned_128 : decode mX11_isPlanned.2.1 128 = .ok (.aload_n 0, 1) := by decide +kernel
theorem dX11_isPlanned_129 : decode mX11_isPlanned.2.1 129 = .ok (.getfield 33, 3) := by decide +kernel
theorem dX11_isPlanned_132 : decode mX11_isPlanned.2.1 132 = .ok (.getfield 327, 3) := by decide +kernel
theorem dX11_isPlanned_135 : decode mX11_isPlanned.2.1 135 = .ok (.iload 5, 2) := by decide +kernel
theorem dX11_isPlanned_137 : decode mX11_isPlanned.2.1 137 = .ok (.iaload, 1) := by decide +kernel
theorem dX11_isPlanned_138 : decode mX11_isPlanned.2.1 138 = .ok (.aload_n 0, 1) := by decide +kernel
theorem dX11_isPlanned_139 : decode mX11_isPlanned.2.1 139 = .ok (.getfield 42, 3) := by decide +kernel
theorem dX11_isPlanned_142 : decode mX11_isPlanned.2.1 142 = .ok (.iload_n 2, 1) := by decide +kernel
theorem dX11_isPlanned_143 : decode mX11_isPlanned.2.1 143 = .ok (.invokevirtual 224, 3) := by decide +kernel
theorem dX11_isPlanned_146 : decode mX11_isPlanned.2.1 146 = .ok (.invokevirtual 328, 3) := by decide +kernel
theorem dX11_isPlanned_149 : decode mX11_isPlanned.2.1 149 = .ok (.iinc 5 1, 3) := by decide +kernel
theorem dX11_isPlanned_152 : decode mX11_isPlanned.2.1 152 = .ok (.goto (-69), 3) := by decide +kernel
theorem dX11_isPlanned_155 : decode mX11_isPlanned.2.1 155 = .ok (.aload_n 0, 1) := by decide +kernel
theorem dX11_isPlanned_156 : decode mX11_isPlanned.2.1 156 = .ok (.getfield 58, 3) := by decide +kernel
theorem dX11_isPlanned_159 : decode mX11_isPlanned.2.1 159 = .ok (.invokevirtual 330, 3) := by decide +kernel
theorem dX11_isPlanned_162 : decode mX11_isPlanned.2.1 162 = .ok (.iconst 1, 1) := by decide +kernel
theorem dX11_isPlanned_163 : decode mX11_isPlanned.2.1 163 = .ok (.ireturn, 1) := by decide +kernel
theorem bX11_isPlanned_0 {SC : Nat → Nat} {X : mh_X} {d : Nat} {Q : Option am_V → am_W → Prop} {bc bs : Nat} {w : am_W} {x1 : Int} {x2 : Int} {x3 : Int}
    (h : am_M (mh_G X) SC (d + 7) 0 0 mJ6_bitCount_0f7a4 [.inl x1] w (fun r w1 => am_A (mh_G X) SC (d + 8) mX11_isPlanned Q 4 [(0, .inr (.inr (some (1, 0)))), (1, .inl x1), (2, .inl x2), (3, .inl x3)] (r.toList ++ []) w1 bc bs)) :
    am_A (mh_G X) SC (d + 8) mX11_isPlanned Q 0 [(0, .inr (.inr (some (1, 0)))), (1, .inl x1), (2, .inl x2), (3, .inl x3)] [] w bc bs := by
  refine am_iload_n dX11_isPlanned_0 (List.Mem.tail _ (List.Mem.head _)) ?_
  exact am_calls (d' := d + 7) (kc := 0) (ks := 0) (as := [.inl x1]) dX11_isPlanned_1 wc_J6_bitCount_0f7a4 wd_1410 wd_1411 wd_130 ds_J6_bitCount_0f7a4 (by decide) (by omega) (Nat.le_of_ble_eq_true rfl) (Nat.zero_le _) (Nat.zero_le _) rfl h
theorem bX11_isPlanned_4 {SC : Nat → Nat} {X : mh_X} {d : Nat} {Q : Option am_V → am_W → Prop} {bc bs : Nat} {w : am_W} {x1 : Int} {x2 : Int} {x3 : Int} {xs0 : Int}
    (h : ((x1 ≤ 0 → Q (some (.inl 0)) w) ∧ (¬ x1 ≤ 0 → ((5 < xs0 → Q (some (.inl 0)) w) ∧ (¬ 5 < xs0 → ((x3 < 0 → Q (some (.inl 0)) w) ∧ (¬ x3 < 0 → ((xs0 ≤ x3 → Q (some (.inl 0)) w) ∧ (¬ xs0 ≤ x3 → am_M (mh_G X) SC (d + 7) 0 0 mX2_areAlive [.inr (.inr (some (5, 0))), .inl x1] w (fun r w1 => am_A (mh_G X) SC (d + 8) mX11_isPlanned Q 34 [(4, .inl xs0), (0, .inr (.inr (some (1, 0)))), (1, .inl x1), (2, .inl x2), (3, .inl x3)] (r.toList ++ []) w1 bc bs)))))))))) :
    am_A (mh_G X) SC (d + 8) mX11_isPlanned Q 4 [(0, .inr (.inr (some (1, 0)))), (1, .inl x1), (2, .inl x2), (3, .inl x3)] [.inl xs0] w bc bs := by
  refine am_istore (ls' := [(4, .inl xs0), (0, .inr (.inr (some (1, 0)))), (1, .inl x1), (2, .inl x2), (3, .inl x3)]) dX11_isPlanned_4 (by decide) rfl ?_
  refine am_iload_n dX11_isPlanned_6 (List.Mem.tail _ (List.Mem.tail _ (List.Mem.head _))) ?_
  refine am_ifle (tgt := 37) dX11_isPlanned_7 (by decide) (fun c1 => ?_) (fun c1 => ?_)
  · replace h := h.1 c1
    refine am_iconst dX11_isPlanned_37 (by unfold am_rg; omega) ?_
    exact am_ret (r := some (.inl 0)) dX11_isPlanned_38 (Or.inr (Or.inl ⟨rfl, (Or.inl rfl)⟩)) rfl h
  · replace h := h.2 c1
    refine am_iload dX11_isPlanned_10 (List.Mem.head _) ?_
    refine am_iconst dX11_isPlanned_12 (by unfold am_rg; omega) ?_
    refine am_icmpgt (tgt := 37) dX11_isPlanned_13 (by decide) (fun c2 => ?_) (fun c2 => ?_)
    · replace h := h.1 c2
      refine am_iconst dX11_isPlanned_37 (by unfold am_rg; omega) ?_
      exact am_ret (r := some (.inl 0)) dX11_isPlanned_38 (Or.inr (Or.inl ⟨rfl, (Or.inl rfl)⟩)) rfl h
    · replace h := h.2 c2
      refine am_iload_n dX11_isPlanned_16 (List.Mem.tail _ (List.Mem.tail _ (List.Mem.tail _ (List.Mem.tail _ (List.Mem.head _))))) ?_
      refine am_iflt (tgt := 37) dX11_isPlanned_17 (by decide) (fun c3 => ?_) (fun c3 => ?_)
      · replace h := h.1 c3
        refine am_iconst dX11_isPlanned_37 (by unfold am_rg; omega) ?_
        exact am_ret (r := some (.inl 0)) dX11_isPlanned_38 (Or.inr (Or.inl ⟨rfl, (Or.inl rfl)⟩)) rfl h
      · replace h := h.2 c3
        refine am_iload_n dX11_isPlanned_20 (List.Mem.tail _ (List.Mem.tail _ (List.Mem.tail _ (List.Mem.tail _ (List.Mem.head _))))) ?_
        refine am_iload dX11_isPlanned_21 (List.Mem.head _) ?_
        refine am_icmpge (tgt := 37) dX11_isPlanned_23 (by decide) (fun c4 => ?_) (fun c4 => ?_)
        · replace h := h.1 c4
          refine am_iconst dX11_isPlanned_37 (by unfold am_rg; omega) ?_
          exact am_ret (r := some (.inl 0)) dX11_isPlanned_38 (Or.inr (Or.inl ⟨rfl, (Or.inl rfl)⟩)) rfl h
        · replace h := h.2 c4
          refine am_aload_n dX11_isPlanned_26 (List.Mem.tail _ (List.Mem.head _)) ?_
          refine am_getf (f := 3) (v := .inr (.inr (some (5, 0)))) dX11_isPlanned_27 hc_0 (by decide) wd_572 (by decide) rfl rfl ?_
          refine am_iload_n dX11_isPlanned_30 (List.Mem.tail _ (List.Mem.tail _ (List.Mem.head _))) ?_
          exact am_callv (d' := d + 7) (kc := 0) (ks := 0) (as := [.inl x1]) dX11_isPlanned_31 wc_X2_areAlive wd_1416 wd_1417 wd_1418 wd_117 ds_X2_areAlive (by decide) (by omega) (Nat.le_of_ble_eq_true rfl) (Nat.zero_le _) (Nat.zero_le _) hc_5 (by decide) rfl rfl h
theorem bX11_isPlanned_34 {SC : Nat → Nat} {X : mh_X} {d : Nat} {Q : Option am_V → am_W → Prop} {bc bs : Nat} {w : am_W} {x4 : Int} {x1 : Int} {x2 : Int} {x3 : Int} {xs0 : Int}
    (h : ((¬ xs0 = 0 → ((x2 < (w.1 1 0 12) → Q (some (.inl 0)) w) ∧ (¬ x2 < (w.1 1 0 12) → (((am_w ((w.1 1 0 12) + 100)) < x2 → Q (some (.inl 0)) w) ∧ (¬ (am_w ((w.1 1 0 12) + 100)) < x2 → (((¬ x2 < (-36524) ∧ (¬ 73047 < x2)) → am_A (mh_G X) SC (d + 8) mX11_isPlanned Q 83 [(0, .inr (.inr (some (1, 0)))), (1, .inl x1), (2, .inl x2), (5, .inl 0)] [] ((am_up (am_up w.1 8 0 9 0) 8 0 10 (am_w (x2 - (w.1 1 0 12)))), w.2) bc bs) ∧ (¬ (¬ x2 < (-36524) ∧ (¬ 73047 < x2)) → Q (some (.inl 0)) w))))))) ∧ (xs0 = 0 → Q (some (.inl 0)) w))) :
    am_A (mh_G X) SC (d + 8) mX11_isPlanned Q 34 [(4, .inl x4), (0, .inr (.inr (some (1, 0)))), (1, .inl x1), (2, .inl x2), (3, .inl x3)] [.inl xs0] w bc bs := by
  refine am_ifne (tgt := 39) dX11_isPlanned_34 (by decide) (fun c1 => ?_) (fun c1 => ?_)
  · replace h := h.1 c1
    refine am_iload_n dX11_isPlanned_39 (List.Mem.tail _ (List.Mem.tail _ (List.Mem.tail _ (List.Mem.head _)))) ?_
    refine am_aload_n dX11_isPlanned_40 (List.Mem.tail _ (List.Mem.head _)) ?_
    refine am_getf (f := 12) (v := .inl (w.1 1 0 12)) dX11_isPlanned_41 hc_0 (by decide) wd_581 (by decide) rfl rfl ?_
    refine am_icmplt (tgt := 65) dX11_isPlanned_44 (by decide) (fun c2 => ?_) (fun c2 => ?_)
    · replace h := h.1 c2
      refine am_iconst dX11_isPlanned_65 (by unfold am_rg; omega) ?_
      exact am_ret (r := some (.inl 0)) dX11_isPlanned_66 (Or.inr (Or.inl ⟨rfl, (Or.inl rfl)⟩)) rfl h
    · replace h := h.2 c2
      refine am_iload_n dX11_isPlanned_47 (List.Mem.tail _ (List.Mem.tail _ (List.Mem.tail _ (List.Mem.head _)))) ?_
      refine am_aload_n dX11_isPlanned_48 (List.Mem.tail _ (List.Mem.head _)) ?_
      refine am_getf (f := 12) (v := .inl (w.1 1 0 12)) dX11_isPlanned_49 hc_0 (by decide) wd_581 (by decide) rfl rfl ?_
      refine am_bipush dX11_isPlanned_52 (by decide) (by unfold am_rg; omega) ?_
      refine am_iadd dX11_isPlanned_54 ?_
      refine am_icmpgt (tgt := 65) dX11_isPlanned_55 (by decide) (fun c3 => ?_) (fun c3 => ?_)
      · replace h := h.1 c3
        refine am_iconst dX11_isPlanned_65 (by unfold am_rg; omega) ?_
        exact am_ret (r := some (.inl 0)) dX11_isPlanned_66 (Or.inr (Or.inl ⟨rfl, (Or.inl rfl)⟩)) rfl h
      · replace h := h.2 c3
        refine am_iload_n dX11_isPlanned_58 (List.Mem.tail _ (List.Mem.tail _ (List.Mem.tail _ (List.Mem.head _)))) ?_
        refine am_calls (d' := d + 7) (kc := 0) (ks := 0) (as := [.inl x2]) dX11_isPlanned_59 wc_X0_has wd_1004 wd_1005 wd_129 ds_X0_has (by decide) (by omega) (Nat.le_of_ble_eq_true rfl) (Nat.zero_le _) (Nat.zero_le _) rfl (sX0_has (d := d + 6) (x0 := x2)  ?_)
        show am_A (mh_G X) SC (d + 8) mX11_isPlanned Q 62 [(4, .inl x4), (0, .inr (.inr (some (1, 0)))), (1, .inl x1), (2, .inl x2), (3, .inl x3)] [.inl (if (¬ x2 < (-36524) ∧ (¬ 73047 < x2)) then 1 else 0)] w bc bs
        refine am_ifne (tgt := 67) dX11_isPlanned_62 (by decide) (fun c4 => ?_) (fun c4 => ?_)
        · replace c4 := am_bne1 c4
          replace h := h.1 c4
          refine am_aload_n dX11_isPlanned_67 (List.Mem.tail _ (List.Mem.head _)) ?_
          refine am_getf (f := 6) (v := .inr (.inr (some (8, 0)))) dX11_isPlanned_68 hc_0 (by decide) wd_575 (by decide) rfl rfl ?_
          refine am_iload_n dX11_isPlanned_71 (List.Mem.tail _ (List.Mem.tail _ (List.Mem.tail _ (List.Mem.head _)))) ?_
          refine am_aload_n dX11_isPlanned_72 (List.Mem.tail _ (List.Mem.head _)) ?_
          refine am_getf (f := 12) (v := .inl (w.1 1 0 12)) dX11_isPlanned_73 hc_0 (by decide) wd_581 (by decide) rfl rfl ?_
          refine am_isub dX11_isPlanned_76 ?_
          refine am_callv (d' := d + 7) (kc := 0) (ks := 0) (as := [.inl (am_w (x2 - (w.1 1 0 12)))]) dX11_isPlanned_77 wc_X7_open wd_1421 wd_1422 wd_1423 wd_121 ds_X7_open (by decide) (by omega) (Nat.le_of_ble_eq_true rfl) (Nat.zero_le _) (Nat.zero_le _) hc_9 (by decide) rfl rfl (sX7_open (d := d + 6) (x1 := (am_w (x2 - (w.1 1 0 12))))  ?_)
          show am_A (mh_G X) SC (d + 8) mX11_isPlanned Q 80 [(4, .inl x4), (0, .inr (.inr (some (1, 0)))), (1, .inl x1), (2, .inl x2), (3, .inl x3)] [] ((am_up (am_up w.1 8 0 9 0) 8 0 10 (am_w (x2 - (w.1 1 0 12)))), w.2) bc bs
          refine am_iconst dX11_isPlanned_80 (by unfold am_rg; omega) ?_
          refine am_istore (ls' := [(5, .inl 0), (4, .inl x4), (0, .inr (.inr (some (1, 0)))), (1, .inl x1), (2, .inl x2), (3, .inl x3)]) dX11_isPlanned_81 (by decide) rfl ?_
          exact am_sub [2, 3, 4, 0] rfl h
        · replace c4 := am_bne2 c4
          replace h := h.2 c4
          refine am_iconst dX11_isPlanned_65 (by unfold am_rg; omega) ?_
          exact am_ret (r := some (.inl 0)) dX11_isPlanned_66 (Or.inr (Or.inl ⟨rfl, (Or.inl rfl)⟩)) rfl h
  · replace h := h.2 c1
    refine am_iconst dX11_isPlanned_37 (by unfold am_rg; omega) ?_
    exact am_ret (r := some (.inl 0)) dX11_isPlanned_38 (Or.inr (Or.inl ⟨rfl, (Or.inl rfl)⟩)) rfl h
theorem bX11_isPlanned_83 {SC : Nat → Nat} {X : mh_X} {d : Nat} {Q : Option am_V → am_W → Prop} {bc bs : Nat} {w : am_W} {x1 : Int} {x2 : Int} {x5 : Int}
    (h : (((w.1 5 0 18) ≤ x5 → am_A (mh_G X) SC (d + 8) mX11_isPlanned Q 155 [(0, .inr (.inr (some (1, 0))))] [] w bc bs) ∧ (¬ (w.1 5 0 18) ≤ x5 → ((31 ≤ x5 → am_A (mh_G X) SC (d + 8) mX11_isPlanned Q 155 [(0, .inr (.inr (some (1, 0))))] [] w bc bs) ∧ (¬ 31 ≤ x5 → (((am_and (am_shr x1 x5) 1) = 0 → am_A (mh_G X) SC (d + 8) mX11_isPlanned Q 149 [(0, .inr (.inr (some (1, 0)))), (1, .inl x1), (2, .inl x2), (5, .inl x5)] [] w bc bs) ∧ (¬ (am_and (am_shr x1 x5) 1) = 0 → am_M (mh_G X) SC (d + 7) 0 0 mX4_study [.inr (.inr (some (6, 0))), .inl x5, .inl (w.1 1 0 12)] w (fun r w1 => am_A (mh_G X) SC (d + 8) mX11_isPlanned Q 124 [(0, .inr (.inr (some (1, 0)))), (1, .inl x1), (2, .inl x2), (5, .inl x5)] (r.toList ++ []) w1 bc bs)))))))) :
    am_A (mh_G X) SC (d + 8) mX11_isPlanned Q 83 [(0, .inr (.inr (some (1, 0)))), (1, .inl x1), (2, .inl x2), (5, .inl x5)] [] w bc bs := by
  refine am_iload dX11_isPlanned_83 (List.Mem.tail _ (List.Mem.tail _ (List.Mem.tail _ (List.Mem.head _)))) ?_
  refine am_aload_n dX11_isPlanned_85 (List.Mem.head _) ?_
  refine am_getf (f := 3) (v := .inr (.inr (some (5, 0)))) dX11_isPlanned_86 hc_0 (by decide) wd_572 (by decide) rfl rfl ?_
  refine am_getf (f := 18) (v := .inl (w.1 5 0 18)) dX11_isPlanned_89 hc_5 (by decide) wd_341 (by decide) rfl rfl ?_
  refine am_icmpge (tgt := 155) dX11_isPlanned_92 (by decide) (fun c1 => ?_) (fun c1 => ?_)
  · replace h := h.1 c1
    exact am_sub [0] rfl h
  · replace h := h.2 c1
    refine am_iload dX11_isPlanned_95 (List.Mem.tail _ (List.Mem.tail _ (List.Mem.tail _ (List.Mem.head _)))) ?_
    refine am_bipush dX11_isPlanned_97 (by decide) (by unfold am_rg; omega) ?_
    refine am_icmpge (tgt := 155) dX11_isPlanned_99 (by decide) (fun c2 => ?_) (fun c2 => ?_)
    · replace h := h.1 c2
      exact am_sub [0] rfl h
    · replace h := h.2 c2
      refine am_iload_n dX11_isPlanned_102 (List.Mem.tail _ (List.Mem.head _)) ?_
      refine am_iload dX11_isPlanned_103 (List.Mem.tail _ (List.Mem.tail _ (List.Mem.tail _ (List.Mem.head _)))) ?_
      refine am_ishr dX11_isPlanned_105 ?_
      refine am_iconst dX11_isPlanned_106 (by unfold am_rg; omega) ?_
      refine am_iand dX11_isPlanned_107 ?_
      refine am_ifeq (tgt := 149) dX11_isPlanned_108 (by decide) (fun c3 => ?_) (fun c3 => ?_)
      · replace h := h.1 c3
        exact h
      · replace h := h.2 c3
        refine am_aload_n dX11_isPlanned_111 (List.Mem.head _) ?_
        refine am_getf (f := 4) (v := .inr (.inr (some (6, 0)))) dX11_isPlanned_112 hc_0 (by decide) wd_573 (by decide) rfl rfl ?_
        refine am_iload dX11_isPlanned_115 (List.Mem.tail _ (List.Mem.tail _ (List.Mem.tail _ (List.Mem.head _)))) ?_
        refine am_aload_n dX11_isPlanned_117 (List.Mem.head _) ?_
        refine am_getf (f := 12) (v := .inl (w.1 1 0 12)) dX11_isPlanned_118 hc_0 (by decide) wd_581 (by decide) rfl rfl ?_
        exact am_callv (d' := d + 7) (kc := 0) (ks := 0) (as := [.inl x5, .inl (w.1 1 0 12)]) dX11_isPlanned_121 wc_X4_study wd_1180 wd_1181 wd_1182 wd_118 ds_X4_study (by decide) (by omega) (Nat.le_of_ble_eq_true rfl) (Nat.zero_le _) (Nat.zero_le _) hc_6 (by decide) rfl rfl h
theorem bX11_isPlanned_155 {SC : Nat → Nat} {X : mh_X} {d : Nat} {Q : Option am_V → am_W → Prop} {bc bs : Nat} {w : am_W} 
    (h : am_M (mh_G X) SC (d + 7) 0 0 mX7_solve [.inr (.inr (some (8, 0)))] w (fun r w1 => am_A (mh_G X) SC (d + 8) mX11_isPlanned Q 162 [(0, .inr (.inr (some (1, 0))))] (r.toList ++ []) w1 bc bs)) :
    am_A (mh_G X) SC (d + 8) mX11_isPlanned Q 155 [(0, .inr (.inr (some (1, 0))))] [] w bc bs := by
  refine am_aload_n dX11_isPlanned_155 (List.Mem.head _) ?_
  refine am_getf (f := 6) (v := .inr (.inr (some (8, 0)))) dX11_isPlanned_156 hc_0 (by decide) wd_575 (by decide) rfl rfl ?_
  exact am_callv (d' := d + 7) (kc := 0) (ks := 0) (as := []) dX11_isPlanned_159 wc_X7_solve wd_1429 wd_1430 wd_1431 wd_121 ds_X7_solve (by decide) (by omega) (Nat.le_of_ble_eq_true rfl) (Nat.zero_le _) (Nat.zero_le _) hc_9 (by decide) rfl rfl h
theorem bX11_isPlanned_149 {SC : Nat → Nat} {X : mh_X} {d : Nat} {Q : Option am_V → am_W → Prop} {bc bs : Nat} {w : am_W} {x1 : Int} {x2 : Int} {x5 : Int}
    (h : am_A (mh_G X) SC (d + 8) mX11_isPlanned Q 83 [(0, .inr (.inr (some (1, 0)))), (1, .inl x1), (2, .inl x2), (5, .inl (am_w (x5 + 1)))] [] w bc bs) :
    am_A (mh_G X) SC (d + 8) mX11_isPlanned Q 149 [(0, .inr (.inr (some (1, 0)))), (1, .inl x1), (2, .inl x2), (5, .inl x5)] [] w bc bs := by
  refine am_iinc (ls' := [(5, .inl (am_w (x5 + 1))), (0, .inr (.inr (some (1, 0)))), (1, .inl x1), (2, .inl x2)]) dX11_isPlanned_149 (List.Mem.tail _ (List.Mem.tail _ (List.Mem.tail _ (List.Mem.head _)))) (by decide) rfl ?_
  refine am_goto (tgt := 83) dX11_isPlanned_152 (by decide) ?_
  exact am_sub [1, 2, 3, 0] rfl h
theorem bX11_isPlanned_124 {SC : Nat → Nat} {X : mh_X} {d : Nat} {Q : Option am_V → am_W → Prop} {bc bs : Nat} {w : am_W} {x1 : Int} {x2 : Int} {x5 : Int}
    (h : (0 ≤ x5 ∧ (x5 < 40 ∧ am_M (mh_G X) SC (d + 7) 0 0 mX4_depthOn [.inr (.inr (some (6, 0))), .inl x2] w (fun r w1 => am_A (mh_G X) SC (d + 8) mX11_isPlanned Q 146 [(0, .inr (.inr (some (1, 0)))), (1, .inl x1), (2, .inl x2), (5, .inl x5)] (r.toList ++ [.inl (w.1 34 0 x5.toNat), .inr (.inr (some (8, 0)))]) w1 bc bs)))) :
    am_A (mh_G X) SC (d + 8) mX11_isPlanned Q 124 [(0, .inr (.inr (some (1, 0)))), (1, .inl x1), (2, .inl x2), (5, .inl x5)] [] w bc bs := by
  refine am_aload_n dX11_isPlanned_124 (List.Mem.head _) ?_
  refine am_getf (f := 6) (v := .inr (.inr (some (8, 0)))) dX11_isPlanned_125 hc_0 (by decide) wd_575 (by decide) rfl rfl ?_
  refine am_aload_n dX11_isPlanned_128 (List.Mem.head _) ?_
  refine am_getf (f := 3) (v := .inr (.inr (some (5, 0)))) dX11_isPlanned_129 hc_0 (by decide) wd_572 (by decide) rfl rfl ?_
  refine am_getf (f := 1) (v := .inr (.inr (some (34, 0)))) dX11_isPlanned_132 hc_5 (by decide) wd_317 (by decide) rfl rfl ?_
  refine am_iload dX11_isPlanned_135 (List.Mem.tail _ (List.Mem.tail _ (List.Mem.tail _ (List.Mem.head _)))) ?_
  have o1 := h.1
  replace h := h.2
  have o2 := h.1
  replace h := h.2
  refine am_iaload (v := (w.1 34 0 x5.toNat)) dX11_isPlanned_137 (by decide) rfl o1 o2 rfl ?_
  refine am_aload_n dX11_isPlanned_138 (List.Mem.head _) ?_
  refine am_getf (f := 4) (v := .inr (.inr (some (6, 0)))) dX11_isPlanned_139 hc_0 (by decide) wd_573 (by decide) rfl rfl ?_
  refine am_iload_n dX11_isPlanned_142 (List.Mem.tail _ (List.Mem.tail _ (List.Mem.head _))) ?_
  exact am_callv (d' := d + 7) (kc := 0) (ks := 0) (as := [.inl x2]) dX11_isPlanned_143 wc_X4_depthOn wd_1238 wd_1239 wd_1240 wd_118 ds_X4_depthOn (by decide) (by omega) (Nat.le_of_ble_eq_true rfl) (Nat.zero_le _) (Nat.zero_le _) hc_6 (by decide) rfl rfl h
theorem bX11_isPlanned_162 {SC : Nat → Nat} {X : mh_X} {d : Nat} {Q : Option am_V → am_W → Prop} {bc bs : Nat} {w : am_W} 
    (h : Q (some (.inl 1)) w) :
    am_A (mh_G X) SC (d + 8) mX11_isPlanned Q 162 [(0, .inr (.inr (some (1, 0))))] [] w bc bs := by
  refine am_iconst dX11_isPlanned_162 (by unfold am_rg; omega) ?_
  exact am_ret (r := some (.inl 1)) dX11_isPlanned_163 (Or.inr (Or.inl ⟨rfl, (Or.inr rfl)⟩)) rfl h
theorem bX11_isPlanned_146 {SC : Nat → Nat} {X : mh_X} {d : Nat} {Q : Option am_V → am_W → Prop} {bc bs : Nat} {w : am_W} {x1 : Int} {x2 : Int} {x5 : Int} {xs0 : Int} {xs1 : Int}
    (h : am_M (mh_G X) SC (d + 7) 0 0 mX7_add [.inr (.inr (some (8, 0))), .inl xs1, .inl xs0] w (fun r w1 => am_A (mh_G X) SC (d + 8) mX11_isPlanned Q 149 [(0, .inr (.inr (some (1, 0)))), (1, .inl x1), (2, .inl x2), (5, .inl x5)] (r.toList ++ []) w1 bc bs)) :
    am_A (mh_G X) SC (d + 8) mX11_isPlanned Q 146 [(0, .inr (.inr (some (1, 0)))), (1, .inl x1), (2, .inl x2), (5, .inl x5)] [.inl xs0, .inl xs1, .inr (.inr (some (8, 0)))] w bc bs := by
  exact am_callv (d' := d + 7) (kc := 0) (ks := 0) (as := [.inl xs1, .inl xs0]) dX11_isPlanned_146 wc_X7_add wd_1425 wd_1426 wd_1427 wd_121 ds_X7_add (by decide) (by omega) (Nat.le_of_ble_eq_true rfl) (Nat.zero_le _) (Nat.zero_le _) hc_9 (by decide) rfl rfl h
-- MourningHouse.plan(III)I
theorem dX11_plan_0 : decode mX11_plan.2.1 0 = .ok (.aload_n 0, 1) := by decide +kernel
theorem dX11_plan_1 : decode mX11_plan.2.1 1 = .ok (.iload_n 1, 1) := by decide +kernel
theorem dX11_plan_2 : decode mX11_plan.2.1 2 = .ok (.iload_n 2, 1) := by decide +kernel
theorem dX11_plan_3 : decode mX11_plan.2.1 3 = .ok (.iload_n 3, 1) := by decide +kernel
theorem dX11_plan_4 : decode mX11_plan.2.1 4 = .ok (.invokevirtual 275, 3) := by decide +kernel
theorem dX11_plan_7 : decode mX11_plan.2.1 7 = .ok (.ifCond .eq 14, 3) := by decide +kernel
theorem dX11_plan_10 : decode mX11_plan.2.1 10 = .ok (.aload_n 0, 1) := by decide +kernel
theorem dX11_plan_11 : decode mX11_plan.2.1 11 = .ok (.getfield 58, 3) := by decide +kernel
theorem dX11_plan_14 : decode mX11_plan.2.1 14 = .ok (.iload_n 3, 1) := by decide +kernel
theorem dX11_plan_15 : decode mX11_plan.2.1 15 = .ok (.invokevirtual 278, 3) := by decide +kernel
theorem dX11_plan_18 : decode mX11_plan.2.1 18 = .ok (.goto 4, 3) := by decide +kernel
theorem dX11_plan_21 : decode mX11_plan.2.1 21 = .ok (.iconst (-1), 1) := by decide +kernel
theorem dX11_plan_22 : decode mX11_plan.2.1 22 = .ok (.ireturn, 1) := by decide +kernel
theorem bX11_plan_0 {SC : Nat → Nat} {X : mh_X} {d : Nat} {Q : Option am_V → am_W → Prop} {bc bs : Nat} {w : am_W} {x1 : Int} {x2 : Int} {x3 : Int}
    (h : am_M (mh_G X) SC (d + 8) 0 0 mX11_isPlanned [.inr (.inr (some (1, 0))), .inl x1, .inl x2, .inl x3] w (fun r w1 => am_A (mh_G X) SC (d + 9) mX11_plan Q 7 [(0, .inr (.inr (some (1, 0)))), (1, .inl x1), (2, .inl x2), (3, .inl x3)] (r.toList ++ []) w1 bc bs)) :
    am_A (mh_G X) SC (d + 9) mX11_plan Q 0 [(0, .inr (.inr (some (1, 0)))), (1, .inl x1), (2, .inl x2), (3, .inl x3)] [] w bc bs := by
  refine am_aload_n dX11_plan_0 (List.Mem.head _) ?_
  refine am_iload_n dX11_plan_1 (List.Mem.tail _ (List.Mem.head _)) ?_
  refine am_iload_n dX11_plan_2 (List.Mem.tail _ (List.Mem.tail _ (List.Mem.head _))) ?_
  refine am_iload_n dX11_plan_3 (List.Mem.tail _ (List.Mem.tail _ (List.Mem.tail _ (List.Mem.head _)))) ?_
  exact am_callv (d' := d + 8) (kc := 0) (ks := 0) (as := [.inl x1, .inl x2, .inl x3]) dX11_plan_4 wc_X11_isPlanned wd_1406 wd_1408 wd_43 wd_112 ds_X11_isPlanned (by decide) (by omega) (Nat.le_of_ble_eq_true rfl) (Nat.zero_le _) (Nat.zero_le _) hc_0 (by decide) rfl rfl h
theorem bX11_plan_7 {SC : Nat → Nat} {X : mh_X} {d : Nat} {Q : Option am_V → am_W → Prop} {bc bs : Nat} {w : am_W} {x1 : Int} {x2 : Int} {x3 : Int} {xs0 : Int}
    (h : ((xs0 = 0 → Q (some (.inl (-1))) w) ∧ (¬ xs0 = 0 → ((¬ x3 < 0 → ¬ (w.1 8 0 9) ≤ x3 → 0 ≤ x3) ∧ ((¬ x3 < 0 → ¬ (w.1 8 0 9) ≤ x3 → x3 < 5) ∧ Q (some (.inl (if x3 < 0 then (-1) else (if (w.1 8 0 9) ≤ x3 then (-1) else (w.1 62 0 x3.toNat))))) w))))) :
    am_A (mh_G X) SC (d + 9) mX11_plan Q 7 [(0, .inr (.inr (some (1, 0)))), (1, .inl x1), (2, .inl x2), (3, .inl x3)] [.inl xs0] w bc bs := by
  refine am_ifeq (tgt := 21) dX11_plan_7 (by decide) (fun c1 => ?_) (fun c1 => ?_)
  · replace h := h.1 c1
    refine am_iconst dX11_plan_21 (by unfold am_rg; omega) ?_
    exact am_ret (r := some (.inl (-1))) dX11_plan_22 (Or.inl rfl) rfl h
  · replace h := h.2 c1
    refine am_aload_n dX11_plan_10 (List.Mem.head _) ?_
    refine am_getf (f := 6) (v := .inr (.inr (some (8, 0)))) dX11_plan_11 hc_0 (by decide) wd_575 (by decide) rfl rfl ?_
    refine am_iload_n dX11_plan_14 (List.Mem.tail _ (List.Mem.tail _ (List.Mem.tail _ (List.Mem.head _)))) ?_
    have o2 := h.1
    replace h := h.2
    have o3 := h.1
    replace h := h.2
    refine am_callv (d' := d + 8) (kc := 0) (ks := 0) (as := [.inl x3]) dX11_plan_15 wc_X7_wayOf wd_1474 wd_1475 wd_1476 wd_121 ds_X7_wayOf (by decide) (by omega) (Nat.le_of_ble_eq_true rfl) (Nat.zero_le _) (Nat.zero_le _) hc_9 (by decide) rfl rfl (sX7_wayOf (d := d + 7) (x1 := x3) o2 o3 ?_)
    show am_A (mh_G X) SC (d + 9) mX11_plan Q 18 [(0, .inr (.inr (some (1, 0)))), (1, .inl x1), (2, .inl x2), (3, .inl x3)] [.inl (if x3 < 0 then (-1) else (if (w.1 8 0 9) ≤ x3 then (-1) else (w.1 62 0 x3.toNat)))] w bc bs
    refine am_goto (tgt := 22) dX11_plan_18 (by decide) ?_
    exact am_ret (r := some (.inl (if x3 < 0 then (-1) else (if (w.1 8 0 9) ≤ x3 then (-1) else (w.1 62 0 x3.toNat))))) dX11_plan_22 (Or.inl rfl) rfl h
-- MourningHouse.planned(III)I
theorem dX11_planned_0 : decode mX11_planned.2.1 0 = .ok (.aload_n 0, 1) := by decide +kernel
theorem dX11_planned_1 : decode mX11_planned.2.1 1 = .ok (.iload_n 1, 1) := by decide +kernel
theorem dX11_planned_2 : decode mX11_planned.2.1 2 = .ok (.iload_n 2, 1) := by decide +kernel
theorem dX11_planned_3 : decode mX11_planned.2.1 3 = .ok (.iload_n 3, 1) := by decide +kernel
theorem dX11_planned_4 : decode mX11_planned.2.1 4 = .ok (.invokevirtual 275, 3) := by decide +kernel
theorem dX11_planned_7 : decode mX11_planned.2.1 7 = .ok (.ifCond .eq 14, 3) := by decide +kernel
theorem dX11_planned_10 : decode mX11_planned.2.1 10 = .ok (.aload_n 0, 1) := by decide +kernel
theorem dX11_planned_11 : decode mX11_planned.2.1 11 = .ok (.getfield 58, 3) := by decide +kernel
theorem dX11_planned_14 : decode mX11_planned.2.1 14 = .ok (.iload_n 3, 1) := by decide +kernel
theorem dX11_planned_15 : decode mX11_planned.2.1 15 = .ok (.invokevirtual 281, 3) := by decide +kernel
theorem dX11_planned_18 : decode mX11_planned.2.1 18 = .ok (.goto 4, 3) := by decide +kernel
theorem dX11_planned_21 : decode mX11_planned.2.1 21 = .ok (.iconst (-1), 1) := by decide +kernel
theorem dX11_planned_22 : decode mX11_planned.2.1 22 = .ok (.ireturn, 1) := by decide +kernel
theorem bX11_planned_0 {SC : Nat → Nat} {X : mh_X} {d : Nat} {Q : Option am_V → am_W → Prop} {bc bs : Nat} {w : am_W} {x1 : Int} {x2 : Int} {x3 : Int}
    (h : am_M (mh_G X) SC (d + 8) 0 0 mX11_isPlanned [.inr (.inr (some (1, 0))), .inl x1, .inl x2, .inl x3] w (fun r w1 => am_A (mh_G X) SC (d + 9) mX11_planned Q 7 [(0, .inr (.inr (some (1, 0)))), (1, .inl x1), (2, .inl x2), (3, .inl x3)] (r.toList ++ []) w1 bc bs)) :
    am_A (mh_G X) SC (d + 9) mX11_planned Q 0 [(0, .inr (.inr (some (1, 0)))), (1, .inl x1), (2, .inl x2), (3, .inl x3)] [] w bc bs := by
  refine am_aload_n dX11_planned_0 (List.Mem.head _) ?_
  refine am_iload_n dX11_planned_1 (List.Mem.tail _ (List.Mem.head _)) ?_
  refine am_iload_n dX11_planned_2 (List.Mem.tail _ (List.Mem.tail _ (List.Mem.head _))) ?_
  refine am_iload_n dX11_planned_3 (List.Mem.tail _ (List.Mem.tail _ (List.Mem.tail _ (List.Mem.head _)))) ?_
  exact am_callv (d' := d + 8) (kc := 0) (ks := 0) (as := [.inl x1, .inl x2, .inl x3]) dX11_planned_4 wc_X11_isPlanned wd_1406 wd_1408 wd_43 wd_112 ds_X11_isPlanned (by decide) (by omega) (Nat.le_of_ble_eq_true rfl) (Nat.zero_le _) (Nat.zero_le _) hc_0 (by decide) rfl rfl h
theorem bX11_planned_7 {SC : Nat → Nat} {X : mh_X} {d : Nat} {Q : Option am_V → am_W → Prop} {bc bs : Nat} {w : am_W} {x1 : Int} {x2 : Int} {x3 : Int} {xs0 : Int}
    (h : ((xs0 = 0 → Q (some (.inl (-1))) w) ∧ (¬ xs0 = 0 → ((¬ x3 < 0 → ¬ (w.1 8 0 9) ≤ x3 → 0 ≤ x3) ∧ ((¬ x3 < 0 → ¬ (w.1 8 0 9) ≤ x3 → x3 < 5) ∧ Q (some (.inl (if x3 < 0 then (-1) else (if (w.1 8 0 9) ≤ x3 then (-1) else (w.1 63 0 x3.toNat))))) w))))) :
    am_A (mh_G X) SC (d + 9) mX11_planned Q 7 [(0, .inr (.inr (some (1, 0)))), (1, .inl x1), (2, .inl x2), (3, .inl x3)] [.inl xs0] w bc bs := by
  refine am_ifeq (tgt := 21) dX11_planned_7 (by decide) (fun c1 => ?_) (fun c1 => ?_)
  · replace h := h.1 c1
    refine am_iconst dX11_planned_21 (by unfold am_rg; omega) ?_
    exact am_ret (r := some (.inl (-1))) dX11_planned_22 (Or.inl rfl) rfl h
  · replace h := h.2 c1
    refine am_aload_n dX11_planned_10 (List.Mem.head _) ?_
    refine am_getf (f := 6) (v := .inr (.inr (some (8, 0)))) dX11_planned_11 hc_0 (by decide) wd_575 (by decide) rfl rfl ?_
    refine am_iload_n dX11_planned_14 (List.Mem.tail _ (List.Mem.tail _ (List.Mem.tail _ (List.Mem.head _)))) ?_
    have o2 := h.1
    replace h := h.2
    have o3 := h.1
    replace h := h.2
    refine am_callv (d' := d + 8) (kc := 0) (ks := 0) (as := [.inl x3]) dX11_planned_15 wc_X7_dressOf wd_1482 wd_1483 wd_1484 wd_121 ds_X7_dressOf (by decide) (by omega) (Nat.le_of_ble_eq_true rfl) (Nat.zero_le _) (Nat.zero_le _) hc_9 (by decide) rfl rfl (sX7_dressOf (d := d + 7) (x1 := x3) o2 o3 ?_)
    show am_A (mh_G X) SC (d + 9) mX11_planned Q 18 [(0, .inr (.inr (some (1, 0)))), (1, .inl x1), (2, .inl x2), (3, .inl x3)] [.inl (if x3 < 0 then (-1) else (if (w.1 8 0 9) ≤ x3 then (-1) else (w.1 63 0 x3.toNat)))] w bc bs
    refine am_goto (tgt := 22) dX11_planned_18 (by decide) ?_
    exact am_ret (r := some (.inl (if x3 < 0 then (-1) else (if (w.1 8 0 9) ≤ x3 then (-1) else (w.1 63 0 x3.toNat))))) dX11_planned_22 (Or.inl rfl) rfl h
-- MourningHouse.worn(II)I
theorem dX11_worn_0 : decode mX11_worn.2.1 0 = .ok (.aload_n 0, 1) := by decide +kernel
theorem dX11_worn_1 : decode mX11_worn.2.1 1 = .ok (.getfield 49, 3) := by decide +kernel
theorem dX11_worn_4 : decode mX11_worn.2.1 4 = .ok (.iload_n 1, 1) := by decide +kernel
theorem dX11_worn_5 : decode mX11_worn.2.1 5 = .ok (.invokevirtual 284, 3) := by decide +kernel
theorem dX11_worn_8 : decode mX11_worn.2.1 8 = .ok (.ifCond .ne 5, 3) := by decide +kernel
theorem dX11_worn_11 : decode mX11_worn.2.1 11 = .ok (.iconst (-1), 1) := by decide +kernel
theorem dX11_worn_12 : decode mX11_worn.2.1 12 = .ok (.ireturn, 1) := by decide +kernel
theorem dX11_worn_13 : decode mX11_worn.2.1 13 = .ok (.iload_n 2, 1) := by decide +kernel
theorem dX11_worn_14 : decode mX11_worn.2.1 14 = .ok (.tableswitch 64 0 2 #[26, 36, 46], 26) := by decide +kernel
theorem dX11_worn_40 : decode mX11_worn.2.1 40 = .ok (.aload_n 0, 1) := by decide +kernel
theorem dX11_worn_41 : decode mX11_worn.2.1 41 = .ok (.getfield 49, 3) := by decide +kernel
theorem dX11_worn_44 : decode mX11_worn.2.1 44 = .ok (.getfield 285, 3) := by decide +kernel
theorem dX11_worn_47 : decode mX11_worn.2.1 47 = .ok (.iload_n 1, 1) := by decide +kernel
theorem dX11_worn_48 : decode mX11_worn.2.1 48 = .ok (.iaload, 1) := by decide +kernel
theorem dX11_worn_49 : decode mX11_worn.2.1 49 = .ok (.ireturn, 1) := by decide +kernel
theorem dX11_worn_50 : decode mX11_worn.2.1 50 = .ok (.aload_n 0, 1) := by decide +kernel
theorem dX11_worn_51 : decode mX11_worn.2.1 51 = .ok (.getfield 49, 3) := by decide +kernel
theorem dX11_worn_54 : decode mX11_worn.2.1 54 = .ok (.getfield 288, 3) := by decide +kernel
theorem dX11_worn_57 : decode mX11_worn.2.1 57 = .ok (.iload_n 1, 1) := by decide +kernel
theorem dX11_worn_58 : decode mX11_worn.2.1 58 = .ok (.iaload, 1) := by decide +kernel
theorem dX11_worn_59 : decode mX11_worn.2.1 59 = .ok (.ireturn, 1) := by decide +kernel
theorem dX11_worn_60 : decode mX11_worn.2.1 60 = .ok (.aload_n 0, 1) := by decide +kernel
theorem dX11_worn_61 : decode mX11_worn.2.1 61 = .ok (.getfield 49, 3) := by decide +kernel
theorem dX11_worn_64 : decode mX11_worn.2.1 64 = .ok (.getfield 291, 3) := by decide +kernel
theorem dX11_worn_67 : decode mX11_worn.2.1 67 = .ok (.iload_n 1, 1) := by decide +kernel
theorem dX11_worn_68 : decode mX11_worn.2.1 68 = .ok (.baload, 1) := by decide +kernel
theorem dX11_worn_69 : decode mX11_worn.2.1 69 = .ok (.ifCond .eq 7, 3) := by decide +kernel
theorem dX11_worn_72 : decode mX11_worn.2.1 72 = .ok (.iconst 0, 1) := by decide +kernel
theorem dX11_worn_73 : decode mX11_worn.2.1 73 = .ok (.goto 4, 3) := by decide +kernel
theorem dX11_worn_76 : decode mX11_worn.2.1 76 = .ok (.iconst 1, 1) := by decide +kernel
theorem dX11_worn_77 : decode mX11_worn.2.1 77 = .ok (.ireturn, 1) := by decide +kernel
theorem dX11_worn_78 : decode mX11_worn.2.1 78 = .ok (.iconst (-1), 1) := by decide +kernel
theorem dX11_worn_79 : decode mX11_worn.2.1 79 = .ok (.ireturn, 1) := by decide +kernel
theorem sX11_worn {SC : Nat → Nat} {X : mh_X} {d kc ks : Nat} {Q : Option am_V → am_W → Prop} {w : am_W} {x1 : Int} {x2 : Int} (Ho3 : (¬ x1 < 0 ∧ (¬ (w.1 7 0 8) ≤ x1)) → x2 = 0 → 0 ≤ x1) (Ho4 : (¬ x1 < 0 ∧ (¬ (w.1 7 0 8) ≤ x1)) → x2 = 0 → x1 < 40) (Ho5 : (¬ x1 < 0 ∧ (¬ (w.1 7 0 8) ≤ x1)) → x2 = 1 → 0 ≤ x1) (Ho6 : (¬ x1 < 0 ∧ (¬ (w.1 7 0 8) ≤ x1)) → x2 = 1 → x1 < 40) (Ho7 : (¬ x1 < 0 ∧ (¬ (w.1 7 0 8) ≤ x1)) → x2 = 2 → 0 ≤ x1) (Ho8 : (¬ x1 < 0 ∧ (¬ (w.1 7 0 8) ≤ x1)) → x2 = 2 → x1 < 40)
    (h : Q (some (.inl (if (¬ x1 < 0 ∧ (¬ (w.1 7 0 8) ≤ x1)) then (if x2 = 2 then (if (w.1 52 0 x1.toNat) = 0 then 1 else 0) else (if x2 = 1 then (w.1 51 0 x1.toNat) else (if x2 = 0 then (w.1 50 0 x1.toNat) else (-1)))) else (-1)))) w) : am_M (mh_G X) SC (d + 2) kc ks mX11_worn [.inr (.inr (some (1, 0))), .inl x1, .inl x2] w Q := by
  refine am_M_of (by decide) (Nat.le_of_ble_eq_true rfl) ?_
  show am_A (mh_G X) SC (d + 2) mX11_worn Q 0 [(0, .inr (.inr (some (1, 0)))), (1, .inl x1), (2, .inl x2)] [] w kc ks
  refine am_aload_n dX11_worn_0 (List.Mem.head _) ?_
  refine am_getf (f := 5) (v := .inr (.inr (some (7, 0)))) dX11_worn_1 hc_0 (by decide) wd_574 (by decide) rfl rfl ?_
  refine am_iload_n dX11_worn_4 (List.Mem.tail _ (List.Mem.head _)) ?_
  refine am_callv (d' := d + 1) (kc := 0) (ks := 0) (as := [.inl x1]) dX11_worn_5 wc_X9_has wd_1490 wd_1058 wd_1059 wd_120 ds_X9_has (by decide) (by omega) (Nat.le_of_ble_eq_true rfl) (Nat.zero_le _) (Nat.zero_le _) hc_8 (by decide) rfl rfl (sX9_has (d := d + 0) (x1 := x1)  ?_)
  show am_A (mh_G X) SC (d + 2) mX11_worn Q 8 [(0, .inr (.inr (some (1, 0)))), (1, .inl x1), (2, .inl x2)] [.inl (if (¬ x1 < 0 ∧ (¬ (w.1 7 0 8) ≤ x1)) then 1 else 0)] w kc ks
  refine am_ifne (tgt := 13) dX11_worn_8 (by decide) (fun c1 => ?_) (fun c1 => ?_)
  · replace c1 := am_bne1 c1
    refine am_iload_n dX11_worn_13 (List.Mem.tail _ (List.Mem.tail _ (List.Mem.head _))) ?_
    by_cases c2 : (x2 < 0 ∨ 2 < x2)
    · refine am_tswOut (tgt := 78) dX11_worn_14 c2 (by decide) ?_
      refine am_iconst dX11_worn_78 (by unfold am_rg; omega) ?_
      rw [show ((if (¬ x1 < 0 ∧ (¬ (w.1 7 0 8) ≤ x1)) then (if x2 = 2 then (if (w.1 52 0 x1.toNat) = 0 then 1 else 0) else (if x2 = 1 then (w.1 51 0 x1.toNat) else (if x2 = 0 then (w.1 50 0 x1.toNat) else (-1)))) else (-1)) : Int) = (-1) from (if_pos c1).trans ((if_neg (show ¬ x2 = 2 by omega)).trans ((if_neg (show ¬ x2 = 1 by omega)).trans (if_neg (show ¬ x2 = 0 by omega))))] at h
      exact am_ret (r := some (.inl (-1))) dX11_worn_79 (Or.inl rfl) rfl h
    · rcases (show x2 = 0 ∨ x2 = 1 ∨ x2 = 2 by omega) with c2 | c2 | c2
      · refine am_tswIn (off := 26) (tgt := 40) dX11_worn_14 (by omega) (by omega) (by rw [c2]; decide) (by decide) ?_
        refine am_aload_n dX11_worn_40 (List.Mem.head _) ?_
        refine am_getf (f := 5) (v := .inr (.inr (some (7, 0)))) dX11_worn_41 hc_0 (by decide) wd_574 (by decide) rfl rfl ?_
        refine am_getf (f := 0) (v := .inr (.inr (some (50, 0)))) dX11_worn_44 hc_8 (by decide) wd_476 (by decide) rfl rfl ?_
        refine am_iload_n dX11_worn_47 (List.Mem.tail _ (List.Mem.head _)) ?_
        have o3 := Ho3 c1 c2
        have o4 := Ho4 c1 c2
        refine am_iaload (v := (w.1 50 0 x1.toNat)) dX11_worn_48 (by decide) rfl o3 o4 rfl ?_
        rw [show ((if (¬ x1 < 0 ∧ (¬ (w.1 7 0 8) ≤ x1)) then (if x2 = 2 then (if (w.1 52 0 x1.toNat) = 0 then 1 else 0) else (if x2 = 1 then (w.1 51 0 x1.toNat) else (if x2 = 0 then (w.1 50 0 x1.toNat) else (-1)))) else (-1)) : Int) = (w.1 50 0 x1.toNat) from (if_pos c1).trans ((if_neg (show ¬ x2 = 2 by omega)).trans ((if_neg (show ¬ x2 = 1 by omega)).trans (if_pos c2)))] at h
        exact am_ret (r := some (.inl (w.1 50 0 x1.toNat))) dX11_worn_49 (Or.inl rfl) rfl h
      · refine am_tswIn (off := 36) (tgt := 50) dX11_worn_14 (by omega) (by omega) (by rw [c2]; decide) (by decide) ?_
        refine am_aload_n dX11_worn_50 (List.Mem.head _) ?_
        refine am_getf (f := 5) (v := .inr (.inr (some (7, 0)))) dX11_worn_51 hc_0 (by decide) wd_574 (by decide) rfl rfl ?_
        refine am_getf (f := 1) (v := .inr (.inr (some (51, 0)))) dX11_worn_54 hc_8 (by decide) wd_478 (by decide) rfl rfl ?_
        refine am_iload_n dX11_worn_57 (List.Mem.tail _ (List.Mem.head _)) ?_
        have o5 := Ho5 c1 c2
        have o6 := Ho6 c1 c2
        refine am_iaload (v := (w.1 51 0 x1.toNat)) dX11_worn_58 (by decide) rfl o5 o6 rfl ?_
        rw [show ((if (¬ x1 < 0 ∧ (¬ (w.1 7 0 8) ≤ x1)) then (if x2 = 2 then (if (w.1 52 0 x1.toNat) = 0 then 1 else 0) else (if x2 = 1 then (w.1 51 0 x1.toNat) else (if x2 = 0 then (w.1 50 0 x1.toNat) else (-1)))) else (-1)) : Int) = (w.1 51 0 x1.toNat) from (if_pos c1).trans ((if_neg (show ¬ x2 = 2 by omega)).trans (if_pos c2))] at h
        exact am_ret (r := some (.inl (w.1 51 0 x1.toNat))) dX11_worn_59 (Or.inl rfl) rfl h
      · refine am_tswIn (off := 46) (tgt := 60) dX11_worn_14 (by omega) (by omega) (by rw [c2]; decide) (by decide) ?_
        refine am_aload_n dX11_worn_60 (List.Mem.head _) ?_
        refine am_getf (f := 5) (v := .inr (.inr (some (7, 0)))) dX11_worn_61 hc_0 (by decide) wd_574 (by decide) rfl rfl ?_
        refine am_getf (f := 2) (v := .inr (.inr (some (52, 0)))) dX11_worn_64 hc_8 (by decide) wd_480 (by decide) rfl rfl ?_
        refine am_iload_n dX11_worn_67 (List.Mem.tail _ (List.Mem.head _)) ?_
        have o7 := Ho7 c1 c2
        have o8 := Ho8 c1 c2
        refine am_zaload (v := (w.1 52 0 x1.toNat)) dX11_worn_68 (by decide) rfl o7 o8 rfl ?_
        refine am_ifeq (tgt := 76) dX11_worn_69 (by decide) (fun c9 => ?_) (fun c9 => ?_)
        · refine am_iconst dX11_worn_76 (by unfold am_rg; omega) ?_
          rw [show ((if (¬ x1 < 0 ∧ (¬ (w.1 7 0 8) ≤ x1)) then (if x2 = 2 then (if (w.1 52 0 x1.toNat) = 0 then 1 else 0) else (if x2 = 1 then (w.1 51 0 x1.toNat) else (if x2 = 0 then (w.1 50 0 x1.toNat) else (-1)))) else (-1)) : Int) = 1 from (if_pos c1).trans ((if_pos c2).trans (if_pos c9))] at h
          exact am_ret (r := some (.inl 1)) dX11_worn_77 (Or.inl rfl) rfl h
        · refine am_iconst dX11_worn_72 (by unfold am_rg; omega) ?_
          refine am_goto (tgt := 77) dX11_worn_73 (by decide) ?_
          rw [show ((if (¬ x1 < 0 ∧ (¬ (w.1 7 0 8) ≤ x1)) then (if x2 = 2 then (if (w.1 52 0 x1.toNat) = 0 then 1 else 0) else (if x2 = 1 then (w.1 51 0 x1.toNat) else (if x2 = 0 then (w.1 50 0 x1.toNat) else (-1)))) else (-1)) : Int) = 0 from (if_pos c1).trans ((if_pos c2).trans (if_neg c9))] at h
          exact am_ret (r := some (.inl 0)) dX11_worn_77 (Or.inl rfl) rfl h
  · replace c1 := am_bne2 c1
    refine am_iconst dX11_worn_11 (by unfold am_rg; omega) ?_
    rw [show ((if (¬ x1 < 0 ∧ (¬ (w.1 7 0 8) ≤ x1)) then (if x2 = 2 then (if (w.1 52 0 x1.toNat) = 0 then 1 else 0) else (if x2 = 1 then (w.1 51 0 x1.toNat) else (if x2 = 0 then (w.1 50 0 x1.toNat) else (-1)))) else (-1)) : Int) = (-1) from if_neg c1] at h
    exact am_ret (r := some (.inl (-1))) dX11_worn_12 (Or.inl rfl) rfl h
-- MourningHouse.told(II)I
theorem dX11_told_0 : decode mX11_told.2.1 0 = .ok (.aload_n 0, 1) := by decide +kernel
theorem dX11_told_1 : decode mX11_told.2.1 1 = .ok (.getfield 33, 3) := by decide +kernel
theorem dX11_told_4 : decode mX11_told.2.1 4 = .ok (.iload_n 1, 1) := by decide +kernel
theorem dX11_told_5 : decode mX11_told.2.1 5 = .ok (.invokevirtual 181, 3) := by decide +kernel
theorem dX11_told_8 : decode mX11_told.2.1 8 = .ok (.ifCond .eq 15, 3) := by decide +kernel
theorem dX11_told_11 : decode mX11_told.2.1 11 = .ok (.aload_n 0, 1) := by decide +kernel
theorem dX11_told_12 : decode mX11_told.2.1 12 = .ok (.getfield 33, 3) := by decide +kernel
theorem dX11_told_15 : decode mX11_told.2.1 15 = .ok (.iload_n 1, 1) := by decide +kernel
theorem dX11_told_16 : decode mX11_told.2.1 16 = .ok (.iload_n 2, 1) := by decide +kernel
theorem dX11_told_17 : decode mX11_told.2.1 17 = .ok (.invokevirtual 295, 3) := by decide +kernel
theorem dX11_told_20 : decode mX11_told.2.1 20 = .ok (.goto 5, 3) := by decide +kernel
theorem dX11_told_23 : decode mX11_told.2.1 23 = .ok (.ldc 156, 2) := by decide +kernel
theorem dX11_told_25 : decode mX11_told.2.1 25 = .ok (.ireturn, 1) := by decide +kernel
theorem bX11_told_0 {SC : Nat → Nat} {X : mh_X} {d : Nat} {Q : Option am_V → am_W → Prop} {bc bs : Nat} {w : am_W} {x1 : Int} {x2 : Int}
    (h : ((¬ (¬ x1 < 0 ∧ (¬ (w.1 5 0 18) ≤ x1)) → Q (some (.inl (-2147483648))) w) ∧ ((¬ x1 < 0 ∧ (¬ (w.1 5 0 18) ≤ x1)) → am_M (mh_G X) SC (d + 2) 0 0 mX2_factOf [.inr (.inr (some (5, 0))), .inl x1, .inl x2] w (fun r w1 => am_A (mh_G X) SC (d + 3) mX11_told Q 20 [(0, .inr (.inr (some (1, 0)))), (1, .inl x1), (2, .inl x2)] (r.toList ++ []) w1 bc bs)))) :
    am_A (mh_G X) SC (d + 3) mX11_told Q 0 [(0, .inr (.inr (some (1, 0)))), (1, .inl x1), (2, .inl x2)] [] w bc bs := by
  refine am_aload_n dX11_told_0 (List.Mem.head _) ?_
  refine am_getf (f := 3) (v := .inr (.inr (some (5, 0)))) dX11_told_1 hc_0 (by decide) wd_572 (by decide) rfl rfl ?_
  refine am_iload_n dX11_told_4 (List.Mem.tail _ (List.Mem.head _)) ?_
  refine am_callv (d' := d + 2) (kc := 0) (ks := 0) (as := [.inl x1]) dX11_told_5 wc_X2_has wd_1102 wd_1082 wd_1083 wd_117 ds_X2_has (by decide) (by omega) (Nat.le_of_ble_eq_true rfl) (Nat.zero_le _) (Nat.zero_le _) hc_5 (by decide) rfl rfl (sX2_has (d := d + 1) (x1 := x1)  ?_)
  show am_A (mh_G X) SC (d + 3) mX11_told Q 8 [(0, .inr (.inr (some (1, 0)))), (1, .inl x1), (2, .inl x2)] [.inl (if (¬ x1 < 0 ∧ (¬ (w.1 5 0 18) ≤ x1)) then 1 else 0)] w bc bs
  refine am_ifeq (tgt := 23) dX11_told_8 (by decide) (fun c1 => ?_) (fun c1 => ?_)
  · replace c1 := am_beq1 c1
    replace h := h.1 c1
    refine am_ldcV (n := (-2147483648)) dX11_told_23 (by decide) wd_1028 (by unfold am_rg; omega) ?_
    exact am_ret (r := some (.inl (-2147483648))) dX11_told_25 (Or.inl rfl) rfl h
  · replace c1 := am_beq2 c1
    replace h := h.2 c1
    refine am_aload_n dX11_told_11 (List.Mem.head _) ?_
    refine am_getf (f := 3) (v := .inr (.inr (some (5, 0)))) dX11_told_12 hc_0 (by decide) wd_572 (by decide) rfl rfl ?_
    refine am_iload_n dX11_told_15 (List.Mem.tail _ (List.Mem.head _)) ?_
    refine am_iload_n dX11_told_16 (List.Mem.tail _ (List.Mem.tail _ (List.Mem.head _))) ?_
    exact am_callv (d' := d + 2) (kc := 0) (ks := 0) (as := [.inl x1, .inl x2]) dX11_told_17 wc_X2_factOf wd_1495 wd_1496 wd_1497 wd_117 ds_X2_factOf (by decide) (by omega) (Nat.le_of_ble_eq_true rfl) (Nat.zero_le _) (Nat.zero_le _) hc_5 (by decide) rfl rfl h
theorem bX11_told_20 {SC : Nat → Nat} {X : mh_X} {d : Nat} {Q : Option am_V → am_W → Prop} {bc bs : Nat} {w : am_W} {x1 : Int} {x2 : Int} {xs0 : Int}
    (h : Q (some (.inl xs0)) w) :
    am_A (mh_G X) SC (d + 3) mX11_told Q 20 [(0, .inr (.inr (some (1, 0)))), (1, .inl x1), (2, .inl x2)] [.inl xs0] w bc bs := by
  refine am_goto (tgt := 25) dX11_told_20 (by decide) ?_
  exact am_ret (r := some (.inl xs0)) dX11_told_25 (Or.inl rfl) rfl h
-- MourningHouse.count(I)I
theorem dX11_count_0 : decode mX11_count.2.1 0 = .ok (.iload_n 1, 1) := by decide +kernel
theorem dX11_count_1 : decode mX11_count.2.1 1 = .ok (.tableswitch 129 0 9 #[55, 60, 68, 76, 84, 92, 97, 105, 113, 121], 55) := by decide +kernel
theorem dX11_count_56 : decode mX11_count.2.1 56 = .ok (.aload_n 0, 1) := by decide +kernel
theorem dX11_count_57 : decode mX11_count.2.1 57 = .ok (.getfield 79, 3) := by decide +kernel
theorem dX11_count_60 : decode mX11_count.2.1 60 = .ok (.ireturn, 1) := by decide +kernel
theorem dX11_count_61 : decode mX11_count.2.1 61 = .ok (.aload_n 0, 1) := by decide +kernel
theorem dX11_count_62 : decode mX11_count.2.1 62 = .ok (.getfield 33, 3) := by decide +kernel
theorem dX11_count_65 : decode mX11_count.2.1 65 = .ok (.getfield 298, 3) := by decide +kernel
theorem dX11_count_68 : decode mX11_count.2.1 68 = .ok (.ireturn, 1) := by decide +kernel
theorem dX11_count_69 : decode mX11_count.2.1 69 = .ok (.aload_n 0, 1) := by decide +kernel
theorem dX11_count_70 : decode mX11_count.2.1 70 = .ok (.getfield 26, 3) := by decide +kernel
theorem dX11_count_73 : decode mX11_count.2.1 73 = .ok (.getfield 207, 3) := by decide +kernel
theorem dX11_count_76 : decode mX11_count.2.1 76 = .ok (.ireturn, 1) := by decide +kernel
theorem dX11_count_77 : decode mX11_count.2.1 77 = .ok (.aload_n 0, 1) := by decide +kernel
theorem dX11_count_78 : decode mX11_count.2.1 78 = .ok (.getfield 33, 3) := by decide +kernel
theorem dX11_count_81 : decode mX11_count.2.1 81 = .ok (.getfield 301, 3) := by decide +kernel
theorem dX11_count_84 : decode mX11_count.2.1 84 = .ok (.ireturn, 1) := by decide +kernel
theorem dX11_count_85 : decode mX11_count.2.1 85 = .ok (.aload_n 0, 1) := by decide +kernel
theorem dX11_count_86 : decode mX11_count.2.1 86 = .ok (.getfield 26, 3) := by decide +kernel
theorem dX11_count_89 : decode mX11_count.2.1 89 = .ok (.getfield 304, 3) := by decide +kernel
theorem dX11_count_92 : decode mX11_count.2.1 92 = .ok (.ireturn, 1) := by decide +kernel
theorem dX11_count_93 : decode mX11_count.2.1 93 = .ok (.aload_n 0, 1) := by decide +kernel
theorem dX11_count_94 : decode mX11_count.2.1 94 = .ok (.getfield 75, 3) := by decide +kernel
theorem dX11_count_97 : decode mX11_count.2.1 97 = .ok (.ireturn, 1) := by decide +kernel
theorem dX11_count_98 : decode mX11_count.2.1 98 = .ok (.aload_n 0, 1) := by decide +kernel
theorem dX11_count_99 : decode mX11_count.2.1 99 = .ok (.getfield 49, 3) := by decide +kernel
theorem dX11_count_102 : decode mX11_count.2.1 102 = .ok (.getfield 307, 3) := by decide +kernel
theorem dX11_count_105 : decode mX11_count.2.1 105 = .ok (.ireturn, 1) := by decide +kernel
theorem dX11_count_106 : decode mX11_count.2.1 106 = .ok (.aload_n 0, 1) := by decide +kernel
theorem dX11_count_107 : decode mX11_count.2.1 107 = .ok (.getfield 49, 3) := by decide +kernel
theorem dX11_count_110 : decode mX11_count.2.1 110 = .ok (.getfield 310, 3) := by decide +kernel
theorem dX11_count_113 : decode mX11_count.2.1 113 = .ok (.ireturn, 1) := by decide +kernel
theorem dX11_count_114 : decode mX11_count.2.1 114 = .ok (.aload_n 0, 1) := by decide +kernel
theorem dX11_count_115 : decode mX11_count.2.1 115 = .ok (.getfield 49, 3) := by decide +kernel
theorem dX11_count_118 : decode mX11_count.2.1 118 = .ok (.getfield 260, 3) := by decide +kernel
theorem dX11_count_121 : decode mX11_count.2.1 121 = .ok (.ireturn, 1) := by decide +kernel
theorem dX11_count_122 : decode mX11_count.2.1 122 = .ok (.aload_n 0, 1) := by decide +kernel
theorem dX11_count_123 : decode mX11_count.2.1 123 = .ok (.getfield 10, 3) := by decide +kernel
theorem dX11_count_126 : decode mX11_count.2.1 126 = .ok (.getfield 90, 3) := by decide +kernel
theorem dX11_count_129 : decode mX11_count.2.1 129 = .ok (.ireturn, 1) := by decide +kernel
theorem dX11_count_130 : decode mX11_count.2.1 130 = .ok (.iload_n 1, 1) := by decide +kernel
theorem dX11_count_131 : decode mX11_count.2.1 131 = .ok (.bipush 10, 2) := by decide +kernel
theorem dX11_count_133 : decode mX11_count.2.1 133 = .ok (.if_icmp .ge 7, 3) := by decide +kernel
theorem dX11_count_136 : decode mX11_count.2.1 136 = .ok (.iconst (-1), 1) := by decide +kernel
theorem dX11_count_137 : decode mX11_count.2.1 137 = .ok (.goto 14, 3) := by decide +kernel
theorem dX11_count_140 : decode mX11_count.2.1 140 = .ok (.aload_n 0, 1) := by decide +kernel
theorem dX11_count_141 : decode mX11_count.2.1 141 = .ok (.getfield 49, 3) := by decide +kernel
theorem dX11_count_144 : decode mX11_count.2.1 144 = .ok (.iload_n 1, 1) := by decide +kernel
theorem dX11_count_145 : decode mX11_count.2.1 145 = .ok (.bipush 10, 2) := by decide +kernel
theorem dX11_count_147 : decode mX11_count.2.1 147 = .ok (.isub, 1) := by decide +kernel
theorem dX11_count_148 : decode mX11_count.2.1 148 = .ok (.invokevirtual 313, 3) := by decide +kernel
theorem dX11_count_151 : decode mX11_count.2.1 151 = .ok (.ireturn, 1) := by decide +kernel
theorem sX11_count {SC : Nat → Nat} {X : mh_X} {d kc ks : Nat} {Q : Option am_V → am_W → Prop} {w : am_W} {x1 : Int} (Ho3 : (x1 < 0 ∨ 9 < x1) → 10 ≤ x1 → (¬ (am_w (x1 - 10)) < 0 → ¬ 4 < (am_w (x1 - 10)) → 0 ≤ (am_w (x1 - 10)))) (Ho4 : (x1 < 0 ∨ 9 < x1) → 10 ≤ x1 → (¬ (am_w (x1 - 10)) < 0 → ¬ 4 < (am_w (x1 - 10)) → (am_w (x1 - 10)) < 5))
    (h : Q (some (.inl (if x1 = 9 then (w.1 2 0 3) else (if x1 = 8 then (w.1 7 0 10) else (if x1 = 7 then (w.1 7 0 9) else (if x1 = 6 then (w.1 7 0 8) else (if x1 = 5 then (w.1 1 0 11) else (if x1 = 4 then (w.1 4 0 6) else (if x1 = 3 then (w.1 5 0 19) else (if x1 = 2 then (w.1 4 0 5) else (if x1 = 1 then (w.1 5 0 18) else (if x1 = 0 then (w.1 1 0 12) else (if 10 ≤ x1 then (if (am_w (x1 - 10)) < 0 then (-1) else (if 4 < (am_w (x1 - 10)) then (-1) else (w.1 53 0 (am_w (x1 - 10)).toNat))) else (-1)))))))))))))) w) : am_M (mh_G X) SC (d + 2) kc ks mX11_count [.inr (.inr (some (1, 0))), .inl x1] w Q := by
  refine am_M_of (by decide) (Nat.le_of_ble_eq_true rfl) ?_
  show am_A (mh_G X) SC (d + 2) mX11_count Q 0 [(0, .inr (.inr (some (1, 0)))), (1, .inl x1)] [] w kc ks
  refine am_iload_n dX11_count_0 (List.Mem.tail _ (List.Mem.head _)) ?_
  by_cases c1 : (x1 < 0 ∨ 9 < x1)
  · refine am_tswOut (tgt := 130) dX11_count_1 c1 (by decide) ?_
    refine am_iload_n dX11_count_130 (List.Mem.tail _ (List.Mem.head _)) ?_
    refine am_bipush dX11_count_131 (by decide) (by unfold am_rg; omega) ?_
    refine am_icmpge (tgt := 140) dX11_count_133 (by decide) (fun c2 => ?_) (fun c2 => ?_)
    · refine am_aload_n dX11_count_140 (List.Mem.head _) ?_
      refine am_getf (f := 5) (v := .inr (.inr (some (7, 0)))) dX11_count_141 hc_0 (by decide) wd_574 (by decide) rfl rfl ?_
      refine am_iload_n dX11_count_144 (List.Mem.tail _ (List.Mem.head _)) ?_
      refine am_bipush dX11_count_145 (by decide) (by unfold am_rg; omega) ?_
      refine am_isub dX11_count_147 ?_
      have o3 := Ho3 c1 c2
      have o4 := Ho4 c1 c2
      refine am_callv (d' := d + 1) (kc := 0) (ks := 0) (as := [.inl (am_w (x1 - 10))]) dX11_count_148 wc_X9_clothsOf wd_1504 wd_1505 wd_1506 wd_120 ds_X9_clothsOf (by decide) (by omega) (Nat.le_of_ble_eq_true rfl) (Nat.zero_le _) (Nat.zero_le _) hc_8 (by decide) rfl rfl (sX9_clothsOf (d := d + 0) (x1 := (am_w (x1 - 10))) o3 o4 ?_)
      show am_A (mh_G X) SC (d + 2) mX11_count Q 151 [(0, .inr (.inr (some (1, 0)))), (1, .inl x1)] [.inl (if (am_w (x1 - 10)) < 0 then (-1) else (if 4 < (am_w (x1 - 10)) then (-1) else (w.1 53 0 (am_w (x1 - 10)).toNat)))] w kc ks
      rw [show ((if x1 = 9 then (w.1 2 0 3) else (if x1 = 8 then (w.1 7 0 10) else (if x1 = 7 then (w.1 7 0 9) else (if x1 = 6 then (w.1 7 0 8) else (if x1 = 5 then (w.1 1 0 11) else (if x1 = 4 then (w.1 4 0 6) else (if x1 = 3 then (w.1 5 0 19) else (if x1 = 2 then (w.1 4 0 5) else (if x1 = 1 then (w.1 5 0 18) else (if x1 = 0 then (w.1 1 0 12) else (if 10 ≤ x1 then (if (am_w (x1 - 10)) < 0 then (-1) else (if 4 < (am_w (x1 - 10)) then (-1) else (w.1 53 0 (am_w (x1 - 10)).toNat))) else (-1)))))))))))) : Int) = (if (am_w (x1 - 10)) < 0 then (-1) else (if 4 < (am_w (x1 - 10)) then (-1) else (w.1 53 0 (am_w (x1 - 10)).toNat))) from (if_neg (show ¬ x1 = 9 by omega)).trans ((if_neg (show ¬ x1 = 8 by omega)).trans ((if_neg (show ¬ x1 = 7 by omega)).trans ((if_neg (show ¬ x1 = 6 by omega)).trans ((if_neg (show ¬ x1 = 5 by omega)).trans ((if_neg (show ¬ x1 = 4 by omega)).trans ((if_neg (show ¬ x1 = 3 by omega)).trans ((if_neg (show ¬ x1 = 2 by omega)).trans ((if_neg (show ¬ x1 = 1 by omega)).trans ((if_neg (show ¬ x1 = 0 by omega)).trans (if_pos c2))))))))))] at h
      exact am_ret (r := some (.inl (if (am_w (x1 - 10)) < 0 then (-1) else (if 4 < (am_w (x1 - 10)) then (-1) else (w.1 53 0 (am_w (x1 - 10)).toNat))))) dX11_count_151 (Or.inl rfl) rfl h
    · refine am_iconst dX11_count_136 (by unfold am_rg; omega) ?_
      refine am_goto (tgt := 151) dX11_count_137 (by decide) ?_
      rw [show ((if x1 = 9 then (w.1 2 0 3) else (if x1 = 8 then (w.1 7 0 10) else (if x1 = 7 then (w.1 7 0 9) else (if x1 = 6 then (w.1 7 0 8) else (if x1 = 5 then (w.1 1 0 11) else (if x1 = 4 then (w.1 4 0 6) else (if x1 = 3 then (w.1 5 0 19) else (if x1 = 2 then (w.1 4 0 5) else (if x1 = 1 then (w.1 5 0 18) else (if x1 = 0 then (w.1 1 0 12) else (if 10 ≤ x1 then (if (am_w (x1 - 10)) < 0 then (-1) else (if 4 < (am_w (x1 - 10)) then (-1) else (w.1 53 0 (am_w (x1 - 10)).toNat))) else (-1)))))))))))) : Int) = (-1) from (if_neg (show ¬ x1 = 9 by omega)).trans ((if_neg (show ¬ x1 = 8 by omega)).trans ((if_neg (show ¬ x1 = 7 by omega)).trans ((if_neg (show ¬ x1 = 6 by omega)).trans ((if_neg (show ¬ x1 = 5 by omega)).trans ((if_neg (show ¬ x1 = 4 by omega)).trans ((if_neg (show ¬ x1 = 3 by omega)).trans ((if_neg (show ¬ x1 = 2 by omega)).trans ((if_neg (show ¬ x1 = 1 by omega)).trans ((if_neg (show ¬ x1 = 0 by omega)).trans (if_neg c2))))))))))] at h
      exact am_ret (r := some (.inl (-1))) dX11_count_151 (Or.inl rfl) rfl h
  · rcases (show x1 = 0 ∨ x1 = 1 ∨ x1 = 2 ∨ x1 = 3 ∨ x1 = 4 ∨ x1 = 5 ∨ x1 = 6 ∨ x1 = 7 ∨ x1 = 8 ∨ x1 = 9 by omega) with c1 | c1 | c1 | c1 | c1 | c1 | c1 | c1 | c1 | c1
    · refine am_tswIn (off := 55) (tgt := 56) dX11_count_1 (by omega) (by omega) (by rw [c1]; decide) (by decide) ?_
      refine am_aload_n dX11_count_56 (List.Mem.head _) ?_
      refine am_getf (f := 12) (v := .inl (w.1 1 0 12)) dX11_count_57 hc_0 (by decide) wd_581 (by decide) rfl rfl ?_
      rw [show ((if x1 = 9 then (w.1 2 0 3) else (if x1 = 8 then (w.1 7 0 10) else (if x1 = 7 then (w.1 7 0 9) else (if x1 = 6 then (w.1 7 0 8) else (if x1 = 5 then (w.1 1 0 11) else (if x1 = 4 then (w.1 4 0 6) else (if x1 = 3 then (w.1 5 0 19) else (if x1 = 2 then (w.1 4 0 5) else (if x1 = 1 then (w.1 5 0 18) else (if x1 = 0 then (w.1 1 0 12) else (if 10 ≤ x1 then (if (am_w (x1 - 10)) < 0 then (-1) else (if 4 < (am_w (x1 - 10)) then (-1) else (w.1 53 0 (am_w (x1 - 10)).toNat))) else (-1)))))))))))) : Int) = (w.1 1 0 12) from (if_neg (show ¬ x1 = 9 by omega)).trans ((if_neg (show ¬ x1 = 8 by omega)).trans ((if_neg (show ¬ x1 = 7 by omega)).trans ((if_neg (show ¬ x1 = 6 by omega)).trans ((if_neg (show ¬ x1 = 5 by omega)).trans ((if_neg (show ¬ x1 = 4 by omega)).trans ((if_neg (show ¬ x1 = 3 by omega)).trans ((if_neg (show ¬ x1 = 2 by omega)).trans ((if_neg (show ¬ x1 = 1 by omega)).trans (if_pos c1)))))))))] at h
      exact am_ret (r := some (.inl (w.1 1 0 12))) dX11_count_60 (Or.inl rfl) rfl h
    · refine am_tswIn (off := 60) (tgt := 61) dX11_count_1 (by omega) (by omega) (by rw [c1]; decide) (by decide) ?_
      refine am_aload_n dX11_count_61 (List.Mem.head _) ?_
      refine am_getf (f := 3) (v := .inr (.inr (some (5, 0)))) dX11_count_62 hc_0 (by decide) wd_572 (by decide) rfl rfl ?_
      refine am_getf (f := 18) (v := .inl (w.1 5 0 18)) dX11_count_65 hc_5 (by decide) wd_341 (by decide) rfl rfl ?_
      rw [show ((if x1 = 9 then (w.1 2 0 3) else (if x1 = 8 then (w.1 7 0 10) else (if x1 = 7 then (w.1 7 0 9) else (if x1 = 6 then (w.1 7 0 8) else (if x1 = 5 then (w.1 1 0 11) else (if x1 = 4 then (w.1 4 0 6) else (if x1 = 3 then (w.1 5 0 19) else (if x1 = 2 then (w.1 4 0 5) else (if x1 = 1 then (w.1 5 0 18) else (if x1 = 0 then (w.1 1 0 12) else (if 10 ≤ x1 then (if (am_w (x1 - 10)) < 0 then (-1) else (if 4 < (am_w (x1 - 10)) then (-1) else (w.1 53 0 (am_w (x1 - 10)).toNat))) else (-1)))))))))))) : Int) = (w.1 5 0 18) from (if_neg (show ¬ x1 = 9 by omega)).trans ((if_neg (show ¬ x1 = 8 by omega)).trans ((if_neg (show ¬ x1 = 7 by omega)).trans ((if_neg (show ¬ x1 = 6 by omega)).trans ((if_neg (show ¬ x1 = 5 by omega)).trans ((if_neg (show ¬ x1 = 4 by omega)).trans ((if_neg (show ¬ x1 = 3 by omega)).trans ((if_neg (show ¬ x1 = 2 by omega)).trans (if_pos c1))))))))] at h
      exact am_ret (r := some (.inl (w.1 5 0 18))) dX11_count_68 (Or.inl rfl) rfl h
    · refine am_tswIn (off := 68) (tgt := 69) dX11_count_1 (by omega) (by omega) (by rw [c1]; decide) (by decide) ?_
      refine am_aload_n dX11_count_69 (List.Mem.head _) ?_
      refine am_getf (f := 2) (v := .inr (.inr (some (4, 0)))) dX11_count_70 hc_0 (by decide) wd_571 (by decide) rfl rfl ?_
      refine am_getf (f := 5) (v := .inl (w.1 4 0 5)) dX11_count_73 hc_3 (by decide) wd_291 (by decide) rfl rfl ?_
      rw [show ((if x1 = 9 then (w.1 2 0 3) else (if x1 = 8 then (w.1 7 0 10) else (if x1 = 7 then (w.1 7 0 9) else (if x1 = 6 then (w.1 7 0 8) else (if x1 = 5 then (w.1 1 0 11) else (if x1 = 4 then (w.1 4 0 6) else (if x1 = 3 then (w.1 5 0 19) else (if x1 = 2 then (w.1 4 0 5) else (if x1 = 1 then (w.1 5 0 18) else (if x1 = 0 then (w.1 1 0 12) else (if 10 ≤ x1 then (if (am_w (x1 - 10)) < 0 then (-1) else (if 4 < (am_w (x1 - 10)) then (-1) else (w.1 53 0 (am_w (x1 - 10)).toNat))) else (-1)))))))))))) : Int) = (w.1 4 0 5) from (if_neg (show ¬ x1 = 9 by omega)).trans ((if_neg (show ¬ x1 = 8 by omega)).trans ((if_neg (show ¬ x1 = 7 by omega)).trans ((if_neg (show ¬ x1 = 6 by omega)).trans ((if_neg (show ¬ x1 = 5 by omega)).trans ((if_neg (show ¬ x1 = 4 by omega)).trans ((if_neg (show ¬ x1 = 3 by omega)).trans (if_pos c1)))))))] at h
      exact am_ret (r := some (.inl (w.1 4 0 5))) dX11_count_76 (Or.inl rfl) rfl h
    · refine am_tswIn (off := 76) (tgt := 77) dX11_count_1 (by omega) (by omega) (by rw [c1]; decide) (by decide) ?_
      refine am_aload_n dX11_count_77 (List.Mem.head _) ?_
      refine am_getf (f := 3) (v := .inr (.inr (some (5, 0)))) dX11_count_78 hc_0 (by decide) wd_572 (by decide) rfl rfl ?_
      refine am_getf (f := 19) (v := .inl (w.1 5 0 19)) dX11_count_81 hc_5 (by decide) wd_343 (by decide) rfl rfl ?_
      rw [show ((if x1 = 9 then (w.1 2 0 3) else (if x1 = 8 then (w.1 7 0 10) else (if x1 = 7 then (w.1 7 0 9) else (if x1 = 6 then (w.1 7 0 8) else (if x1 = 5 then (w.1 1 0 11) else (if x1 = 4 then (w.1 4 0 6) else (if x1 = 3 then (w.1 5 0 19) else (if x1 = 2 then (w.1 4 0 5) else (if x1 = 1 then (w.1 5 0 18) else (if x1 = 0 then (w.1 1 0 12) else (if 10 ≤ x1 then (if (am_w (x1 - 10)) < 0 then (-1) else (if 4 < (am_w (x1 - 10)) then (-1) else (w.1 53 0 (am_w (x1 - 10)).toNat))) else (-1)))))))))))) : Int) = (w.1 5 0 19) from (if_neg (show ¬ x1 = 9 by omega)).trans ((if_neg (show ¬ x1 = 8 by omega)).trans ((if_neg (show ¬ x1 = 7 by omega)).trans ((if_neg (show ¬ x1 = 6 by omega)).trans ((if_neg (show ¬ x1 = 5 by omega)).trans ((if_neg (show ¬ x1 = 4 by omega)).trans (if_pos c1))))))] at h
      exact am_ret (r := some (.inl (w.1 5 0 19))) dX11_count_84 (Or.inl rfl) rfl h
    · refine am_tswIn (off := 84) (tgt := 85) dX11_count_1 (by omega) (by omega) (by rw [c1]; decide) (by decide) ?_
      refine am_aload_n dX11_count_85 (List.Mem.head _) ?_
      refine am_getf (f := 2) (v := .inr (.inr (some (4, 0)))) dX11_count_86 hc_0 (by decide) wd_571 (by decide) rfl rfl ?_
      refine am_getf (f := 6) (v := .inl (w.1 4 0 6)) dX11_count_89 hc_3 (by decide) wd_293 (by decide) rfl rfl ?_
      rw [show ((if x1 = 9 then (w.1 2 0 3) else (if x1 = 8 then (w.1 7 0 10) else (if x1 = 7 then (w.1 7 0 9) else (if x1 = 6 then (w.1 7 0 8) else (if x1 = 5 then (w.1 1 0 11) else (if x1 = 4 then (w.1 4 0 6) else (if x1 = 3 then (w.1 5 0 19) else (if x1 = 2 then (w.1 4 0 5) else (if x1 = 1 then (w.1 5 0 18) else (if x1 = 0 then (w.1 1 0 12) else (if 10 ≤ x1 then (if (am_w (x1 - 10)) < 0 then (-1) else (if 4 < (am_w (x1 - 10)) then (-1) else (w.1 53 0 (am_w (x1 - 10)).toNat))) else (-1)))))))))))) : Int) = (w.1 4 0 6) from (if_neg (show ¬ x1 = 9 by omega)).trans ((if_neg (show ¬ x1 = 8 by omega)).trans ((if_neg (show ¬ x1 = 7 by omega)).trans ((if_neg (show ¬ x1 = 6 by omega)).trans ((if_neg (show ¬ x1 = 5 by omega)).trans (if_pos c1)))))] at h
      exact am_ret (r := some (.inl (w.1 4 0 6))) dX11_count_92 (Or.inl rfl) rfl h
    · refine am_tswIn (off := 92) (tgt := 93) dX11_count_1 (by omega) (by omega) (by rw [c1]; decide) (by decide) ?_
      refine am_aload_n dX11_count_93 (List.Mem.head _) ?_
      refine am_getf (f := 11) (v := .inl (w.1 1 0 11)) dX11_count_94 hc_0 (by decide) wd_580 (by decide) rfl rfl ?_
      rw [show ((if x1 = 9 then (w.1 2 0 3) else (if x1 = 8 then (w.1 7 0 10) else (if x1 = 7 then (w.1 7 0 9) else (if x1 = 6 then (w.1 7 0 8) else (if x1 = 5 then (w.1 1 0 11) else (if x1 = 4 then (w.1 4 0 6) else (if x1 = 3 then (w.1 5 0 19) else (if x1 = 2 then (w.1 4 0 5) else (if x1 = 1 then (w.1 5 0 18) else (if x1 = 0 then (w.1 1 0 12) else (if 10 ≤ x1 then (if (am_w (x1 - 10)) < 0 then (-1) else (if 4 < (am_w (x1 - 10)) then (-1) else (w.1 53 0 (am_w (x1 - 10)).toNat))) else (-1)))))))))))) : Int) = (w.1 1 0 11) from (if_neg (show ¬ x1 = 9 by omega)).trans ((if_neg (show ¬ x1 = 8 by omega)).trans ((if_neg (show ¬ x1 = 7 by omega)).trans ((if_neg (show ¬ x1 = 6 by omega)).trans (if_pos c1))))] at h
      exact am_ret (r := some (.inl (w.1 1 0 11))) dX11_count_97 (Or.inl rfl) rfl h
    · refine am_tswIn (off := 97) (tgt := 98) dX11_count_1 (by omega) (by omega) (by rw [c1]; decide) (by decide) ?_
      refine am_aload_n dX11_count_98 (List.Mem.head _) ?_
      refine am_getf (f := 5) (v := .inr (.inr (some (7, 0)))) dX11_count_99 hc_0 (by decide) wd_574 (by decide) rfl rfl ?_
      refine am_getf (f := 8) (v := .inl (w.1 7 0 8)) dX11_count_102 hc_8 (by decide) wd_489 (by decide) rfl rfl ?_
      rw [show ((if x1 = 9 then (w.1 2 0 3) else (if x1 = 8 then (w.1 7 0 10) else (if x1 = 7 then (w.1 7 0 9) else (if x1 = 6 then (w.1 7 0 8) else (if x1 = 5 then (w.1 1 0 11) else (if x1 = 4 then (w.1 4 0 6) else (if x1 = 3 then (w.1 5 0 19) else (if x1 = 2 then (w.1 4 0 5) else (if x1 = 1 then (w.1 5 0 18) else (if x1 = 0 then (w.1 1 0 12) else (if 10 ≤ x1 then (if (am_w (x1 - 10)) < 0 then (-1) else (if 4 < (am_w (x1 - 10)) then (-1) else (w.1 53 0 (am_w (x1 - 10)).toNat))) else (-1)))))))))))) : Int) = (w.1 7 0 8) from (if_neg (show ¬ x1 = 9 by omega)).trans ((if_neg (show ¬ x1 = 8 by omega)).trans ((if_neg (show ¬ x1 = 7 by omega)).trans (if_pos c1)))] at h
      exact am_ret (r := some (.inl (w.1 7 0 8))) dX11_count_105 (Or.inl rfl) rfl h
    · refine am_tswIn (off := 105) (tgt := 106) dX11_count_1 (by omega) (by omega) (by rw [c1]; decide) (by decide) ?_
      refine am_aload_n dX11_count_106 (List.Mem.head _) ?_
      refine am_getf (f := 5) (v := .inr (.inr (some (7, 0)))) dX11_count_107 hc_0 (by decide) wd_574 (by decide) rfl rfl ?_
      refine am_getf (f := 9) (v := .inl (w.1 7 0 9)) dX11_count_110 hc_8 (by decide) wd_492 (by decide) rfl rfl ?_
      rw [show ((if x1 = 9 then (w.1 2 0 3) else (if x1 = 8 then (w.1 7 0 10) else (if x1 = 7 then (w.1 7 0 9) else (if x1 = 6 then (w.1 7 0 8) else (if x1 = 5 then (w.1 1 0 11) else (if x1 = 4 then (w.1 4 0 6) else (if x1 = 3 then (w.1 5 0 19) else (if x1 = 2 then (w.1 4 0 5) else (if x1 = 1 then (w.1 5 0 18) else (if x1 = 0 then (w.1 1 0 12) else (if 10 ≤ x1 then (if (am_w (x1 - 10)) < 0 then (-1) else (if 4 < (am_w (x1 - 10)) then (-1) else (w.1 53 0 (am_w (x1 - 10)).toNat))) else (-1)))))))))))) : Int) = (w.1 7 0 9) from (if_neg (show ¬ x1 = 9 by omega)).trans ((if_neg (show ¬ x1 = 8 by omega)).trans (if_pos c1))] at h
      exact am_ret (r := some (.inl (w.1 7 0 9))) dX11_count_113 (Or.inl rfl) rfl h
    · refine am_tswIn (off := 113) (tgt := 114) dX11_count_1 (by omega) (by omega) (by rw [c1]; decide) (by decide) ?_
      refine am_aload_n dX11_count_114 (List.Mem.head _) ?_
      refine am_getf (f := 5) (v := .inr (.inr (some (7, 0)))) dX11_count_115 hc_0 (by decide) wd_574 (by decide) rfl rfl ?_
      refine am_getf (f := 10) (v := .inl (w.1 7 0 10)) dX11_count_118 hc_8 (by decide) wd_495 (by decide) rfl rfl ?_
      rw [show ((if x1 = 9 then (w.1 2 0 3) else (if x1 = 8 then (w.1 7 0 10) else (if x1 = 7 then (w.1 7 0 9) else (if x1 = 6 then (w.1 7 0 8) else (if x1 = 5 then (w.1 1 0 11) else (if x1 = 4 then (w.1 4 0 6) else (if x1 = 3 then (w.1 5 0 19) else (if x1 = 2 then (w.1 4 0 5) else (if x1 = 1 then (w.1 5 0 18) else (if x1 = 0 then (w.1 1 0 12) else (if 10 ≤ x1 then (if (am_w (x1 - 10)) < 0 then (-1) else (if 4 < (am_w (x1 - 10)) then (-1) else (w.1 53 0 (am_w (x1 - 10)).toNat))) else (-1)))))))))))) : Int) = (w.1 7 0 10) from (if_neg (show ¬ x1 = 9 by omega)).trans (if_pos c1)] at h
      exact am_ret (r := some (.inl (w.1 7 0 10))) dX11_count_121 (Or.inl rfl) rfl h
    · refine am_tswIn (off := 121) (tgt := 122) dX11_count_1 (by omega) (by omega) (by rw [c1]; decide) (by decide) ?_
      refine am_aload_n dX11_count_122 (List.Mem.head _) ?_
      refine am_getf (f := 0) (v := .inr (.inr (some (2, 0)))) dX11_count_123 hc_0 (by decide) wd_569 (by decide) rfl rfl ?_
      refine am_getf (f := 3) (v := .inl (w.1 2 0 3)) dX11_count_126 hc_1 (by decide) wd_154 (by decide) rfl rfl ?_
      rw [show ((if x1 = 9 then (w.1 2 0 3) else (if x1 = 8 then (w.1 7 0 10) else (if x1 = 7 then (w.1 7 0 9) else (if x1 = 6 then (w.1 7 0 8) else (if x1 = 5 then (w.1 1 0 11) else (if x1 = 4 then (w.1 4 0 6) else (if x1 = 3 then (w.1 5 0 19) else (if x1 = 2 then (w.1 4 0 5) else (if x1 = 1 then (w.1 5 0 18) else (if x1 = 0 then (w.1 1 0 12) else (if 10 ≤ x1 then (if (am_w (x1 - 10)) < 0 then (-1) else (if 4 < (am_w (x1 - 10)) then (-1) else (w.1 53 0 (am_w (x1 - 10)).toNat))) else (-1)))))))))))) : Int) = (w.1 2 0 3) from if_pos c1] at h
      exact am_ret (r := some (.inl (w.1 2 0 3))) dX11_count_129 (Or.inl rfl) rfl h
-- MourningHouseModel.in(III)Z
theorem dX12_in_0 : decode mX12_in.2.1 0 = .ok (.iload_n 0, 1) := by decide +kernel
theorem dX12_in_1 : decode mX12_in.2.1 1 = .ok (.iload_n 1, 1) := by decide +kernel
theorem dX12_in_2 : decode mX12_in.2.1 2 = .ok (.if_icmp .lt 12, 3) := by decide +kernel
theorem dX12_in_5 : decode mX12_in.2.1 5 = .ok (.iload_n 0, 1) := by decide +kernel
theorem dX12_in_6 : decode mX12_in.2.1 6 = .ok (.iload_n 2, 1) := by decide +kernel
theorem dX12_in_7 : decode mX12_in.2.1 7 = .ok (.if_icmp .gt 7, 3) := by decide +kernel
theorem dX12_in_10 : decode mX12_in.2.1 10 = .ok (.iconst 1, 1) := by decide +kernel
theorem dX12_in_11 : decode mX12_in.2.1 11 = .ok (.goto 4, 3) := by decide +kernel
theorem dX12_in_14 : decode mX12_in.2.1 14 = .ok (.iconst 0, 1) := by decide +kernel
theorem dX12_in_15 : decode mX12_in.2.1 15 = .ok (.ireturn, 1) := by decide +kernel
theorem sX12_in {SC : Nat → Nat} {X : mh_X} {d kc ks : Nat} {Q : Option am_V → am_W → Prop} {w : am_W} {x0 : Int} {x1 : Int} {x2 : Int}
    (h : Q (some (.inl (if (¬ x0 < x1 ∧ (¬ x2 < x0)) then 1 else 0))) w) : am_M (mh_G X) SC (d + 1) kc ks mX12_in [.inl x0, .inl x1, .inl x2] w Q := by
  refine am_M_of (by decide) (Nat.le_of_ble_eq_true rfl) ?_
  show am_A (mh_G X) SC (d + 1) mX12_in Q 0 [(0, .inl x0), (1, .inl x1), (2, .inl x2)] [] w kc ks
  refine am_iload_n dX12_in_0 (List.Mem.head _) ?_
  refine am_iload_n dX12_in_1 (List.Mem.tail _ (List.Mem.head _)) ?_
  refine am_icmplt (tgt := 14) dX12_in_2 (by decide) (fun c1 => ?_) (fun c1 => ?_)
  · refine am_iconst dX12_in_14 (by unfold am_rg; omega) ?_
    rw [if_neg (by omega)] at h
    exact am_ret (r := some (.inl 0)) dX12_in_15 (Or.inr (Or.inl ⟨rfl, (Or.inl rfl)⟩)) rfl h
  · refine am_iload_n dX12_in_5 (List.Mem.head _) ?_
    refine am_iload_n dX12_in_6 (List.Mem.tail _ (List.Mem.tail _ (List.Mem.head _))) ?_
    refine am_icmpgt (tgt := 14) dX12_in_7 (by decide) (fun c2 => ?_) (fun c2 => ?_)
    · refine am_iconst dX12_in_14 (by unfold am_rg; omega) ?_
      rw [if_neg (by omega)] at h
      exact am_ret (r := some (.inl 0)) dX12_in_15 (Or.inr (Or.inl ⟨rfl, (Or.inl rfl)⟩)) rfl h
    · refine am_iconst dX12_in_10 (by unfold am_rg; omega) ?_
      refine am_goto (tgt := 15) dX12_in_11 (by decide) ?_
      rw [if_pos (by omega)] at h
      exact am_ret (r := some (.inl 1)) dX12_in_15 (Or.inr (Or.inl ⟨rfl, (Or.inr rfl)⟩)) rfl h
-- MourningHouseModel.isLeap(I)Z
theorem dX12_isLeap_0 : decode mX12_isLeap.2.1 0 = .ok (.iload_n 0, 1) := by decide +kernel
theorem dX12_isLeap_1 : decode mX12_isLeap.2.1 1 = .ok (.iconst 4, 1) := by decide +kernel
theorem dX12_isLeap_2 : decode mX12_isLeap.2.1 2 = .ok (.irem, 1) := by decide +kernel
theorem dX12_isLeap_3 : decode mX12_isLeap.2.1 3 = .ok (.ifCond .ne 22, 3) := by decide +kernel
theorem dX12_isLeap_6 : decode mX12_isLeap.2.1 6 = .ok (.iload_n 0, 1) := by decide +kernel
theorem dX12_isLeap_7 : decode mX12_isLeap.2.1 7 = .ok (.bipush 100, 2) := by decide +kernel
theorem dX12_isLeap_9 : decode mX12_isLeap.2.1 9 = .ok (.irem, 1) := by decide +kernel
theorem dX12_isLeap_10 : decode mX12_isLeap.2.1 10 = .ok (.ifCond .ne 11, 3) := by decide +kernel
theorem dX12_isLeap_13 : decode mX12_isLeap.2.1 13 = .ok (.iload_n 0, 1) := by decide +kernel
theorem dX12_isLeap_14 : decode mX12_isLeap.2.1 14 = .ok (.sipush 400, 3) := by decide +kernel
theorem dX12_isLeap_17 : decode mX12_isLeap.2.1 17 = .ok (.irem, 1) := by decide +kernel
theorem dX12_isLeap_18 : decode mX12_isLeap.2.1 18 = .ok (.ifCond .ne 7, 3) := by decide +kernel
theorem dX12_isLeap_21 : decode mX12_isLeap.2.1 21 = .ok (.iconst 1, 1) := by decide +kernel
theorem dX12_isLeap_22 : decode mX12_isLeap.2.1 22 = .ok (.goto 4, 3) := by decide +kernel
theorem dX12_isLeap_25 : decode mX12_isLeap.2.1 25 = .ok (.iconst 0, 1) := by decide +kernel
theorem dX12_isLeap_26 : decode mX12_isLeap.2.1 26 = .ok (.ireturn, 1) := by decide +kernel
theorem sX12_isLeap {SC : Nat → Nat} {X : mh_X} {d kc ks : Nat} {Q : Option am_V → am_W → Prop} {w : am_W} {x0 : Int}
    (h : Q (some (.inl (if ((am_w (Int.tmod x0 4)) = 0 ∧ (¬ (am_w (Int.tmod x0 100)) = 0 ∨ ((am_w (Int.tmod x0 400)) = 0))) then 1 else 0))) w) : am_M (mh_G X) SC (d + 1) kc ks mX12_isLeap [.inl x0] w Q := by
  refine am_M_of (by decide) (Nat.le_of_ble_eq_true rfl) ?_
  show am_A (mh_G X) SC (d + 1) mX12_isLeap Q 0 [(0, .inl x0)] [] w kc ks
  refine am_iload_n dX12_isLeap_0 (List.Mem.head _) ?_
  refine am_iconst dX12_isLeap_1 (by unfold am_rg; omega) ?_
  refine am_irem dX12_isLeap_2 (by decide) ?_
  refine am_ifne (tgt := 25) dX12_isLeap_3 (by decide) (fun c1 => ?_) (fun c1 => ?_)
  · refine am_iconst dX12_isLeap_25 (by unfold am_rg; omega) ?_
    rw [if_neg (by omega)] at h
    exact am_ret (r := some (.inl 0)) dX12_isLeap_26 (Or.inr (Or.inl ⟨rfl, (Or.inl rfl)⟩)) rfl h
  · refine am_iload_n dX12_isLeap_6 (List.Mem.head _) ?_
    refine am_bipush dX12_isLeap_7 (by decide) (by unfold am_rg; omega) ?_
    refine am_irem dX12_isLeap_9 (by decide) ?_
    refine am_ifne (tgt := 21) dX12_isLeap_10 (by decide) (fun c2 => ?_) (fun c2 => ?_)
    · refine am_iconst dX12_isLeap_21 (by unfold am_rg; omega) ?_
      refine am_goto (tgt := 26) dX12_isLeap_22 (by decide) ?_
      rw [if_pos (by omega)] at h
      exact am_ret (r := some (.inl 1)) dX12_isLeap_26 (Or.inr (Or.inl ⟨rfl, (Or.inr rfl)⟩)) rfl h
    · refine am_iload_n dX12_isLeap_13 (List.Mem.head _) ?_
      refine am_sipush dX12_isLeap_14 (by decide) (by unfold am_rg; omega) ?_
      refine am_irem dX12_isLeap_17 (by decide) ?_
      refine am_ifne (tgt := 25) dX12_isLeap_18 (by decide) (fun c3 => ?_) (fun c3 => ?_)
      · refine am_iconst dX12_isLeap_25 (by unfold am_rg; omega) ?_
        rw [if_neg (by omega)] at h
        exact am_ret (r := some (.inl 0)) dX12_isLeap_26 (Or.inr (Or.inl ⟨rfl, (Or.inl rfl)⟩)) rfl h
      · refine am_iconst dX12_isLeap_21 (by unfold am_rg; omega) ?_
        refine am_goto (tgt := 26) dX12_isLeap_22 (by decide) ?_
        rw [if_pos (by omega)] at h
        exact am_ret (r := some (.inl 1)) dX12_isLeap_26 (Or.inr (Or.inl ⟨rfl, (Or.inr rfl)⟩)) rfl h
