-- STRINGBUILDER: a number appended, toString
variable {SC : Nat → Nat} {X : mh_X} {r : Option am_I}
def sb_ds (n : Int) : List Int := if n < 10 then [48 + n] else if n < 100 then [48 + n / 10, 48 + n % 10] else [48 + n / 100, 48 + n / 10 % 10, 48 + n % 10]
def sb_sz (n : Int) : Nat := if n < 10 then 1 else if n < 100 then 2 else 3
theorem sb_sz_l {n : Int} : (sb_ds n).length = sb_sz n := by
  unfold sb_ds sb_sz
  split
  · rfl
  · split <;> rfl
theorem am_reL {G : am_G} {SC : Nat → Nat} {d : Nat} {Y : am_Y} {Q : Option am_V → am_W → Prop} {pc bc bs : Nat} {ls ls' : List (Nat × am_V)} {st : List am_V} {w : am_W} (h : ls = ls') (k : am_A G SC d Y Q pc ls' st w bc bs) : am_A G SC d Y Q pc ls st w bc bs := h ▸ k
theorem sb_sz_b {n : Int} : 1 ≤ sb_sz n ∧ sb_sz n ≤ 3 := by
  unfold sb_sz
  split
  · decide
  · split <;> decide
theorem pJ6_stringSize {d kc ks : Nat} {Q : Option am_V → am_W → Prop} {w : am_W} {n : Int} (hn : 1 ≤ n ∧ n ≤ 999) (K : Q (some (.inl (sb_sz n : Int))) w) : am_M (mh_G X) SC (d + 1) kc ks mJ6_stringSize_0f7a4 [.inl n] w Q := by
  refine am_M_of (by decide) (Nat.le_of_ble_eq_true rfl) ?_
  rcases (show n < 10 ∨ (¬ n < 10 ∧ n < 100) ∨ (¬ n < 10 ∧ ¬ n < 100) by omega) with h | h | h
  · refine am_iconst dJ6_stringSize_0f7a4_0 (by unfold am_rg; omega) ?_
    refine am_istore_n (ls' := [(1, .inl 1), (0, .inl n)]) dJ6_stringSize_0f7a4_1 (by decide) rfl ?_
    refine am_iload_n dJ6_stringSize_0f7a4_2 (by repeat (first | exact List.Mem.head _ | apply List.Mem.tail)) ?_
    refine am_iflt (tgt := 11) dJ6_stringSize_0f7a4_3 (by decide) (fun c => absurd c (by omega)) (fun _ => ?_)
    refine am_iconst dJ6_stringSize_0f7a4_6 (by unfold am_rg; omega) ?_
    refine am_istore_n (ls' := [(1, .inl 0), (0, .inl n)]) dJ6_stringSize_0f7a4_7 (by decide) rfl ?_
    refine am_iload_n dJ6_stringSize_0f7a4_8 (by repeat (first | exact List.Mem.head _ | apply List.Mem.tail)) ?_
    refine am_ineg dJ6_stringSize_0f7a4_9 ?_
    rw [am_w_id (by unfold am_rg; omega)]
    refine am_istore_n (ls' := [(0, .inl (-n)), (1, .inl 0)]) dJ6_stringSize_0f7a4_10 (by decide) rfl ?_
    refine am_bipush dJ6_stringSize_0f7a4_11 (by decide) (by unfold am_rg; omega) ?_
    refine am_istore_n (ls' := [(2, .inl (-10)), (0, .inl (-n)), (1, .inl 0)]) dJ6_stringSize_0f7a4_13 (by decide) rfl ?_
    refine am_iconst dJ6_stringSize_0f7a4_14 (by unfold am_rg; omega) ?_
    refine am_istore_n (ls' := [(3, .inl 1), (2, .inl (-10)), (0, .inl (-n)), (1, .inl 0)]) dJ6_stringSize_0f7a4_15 (by decide) rfl ?_
    refine am_iload_n dJ6_stringSize_0f7a4_16 (by repeat (first | exact List.Mem.head _ | apply List.Mem.tail)) ?_
    refine am_bipush dJ6_stringSize_0f7a4_17 (by decide) (by unfold am_rg; omega) ?_
    refine am_icmpge (tgt := 42) dJ6_stringSize_0f7a4_19 (by decide) (fun c => absurd c (by decide)) (fun _ => ?_)
    refine am_iload_n dJ6_stringSize_0f7a4_22 (by repeat (first | exact List.Mem.head _ | apply List.Mem.tail)) ?_
    refine am_iload_n dJ6_stringSize_0f7a4_23 (by repeat (first | exact List.Mem.head _ | apply List.Mem.tail)) ?_
    refine am_icmple (tgt := 31) dJ6_stringSize_0f7a4_24 (by decide) (fun c => absurd c (by omega)) (fun _ => ?_)
    refine am_iload_n dJ6_stringSize_0f7a4_27 (by repeat (first | exact List.Mem.head _ | apply List.Mem.tail)) ?_
    refine am_iload_n dJ6_stringSize_0f7a4_28 (by repeat (first | exact List.Mem.head _ | apply List.Mem.tail)) ?_
    refine am_iadd dJ6_stringSize_0f7a4_29 ?_
    have e : sb_sz n = 1 := by unfold sb_sz; rw [if_pos (by omega)]
    rw [e] at K
    exact am_ret (r := some (.inl ((1 : Nat) : Int))) dJ6_stringSize_0f7a4_30 (Or.inl rfl) rfl K
  · refine am_iconst dJ6_stringSize_0f7a4_0 (by unfold am_rg; omega) ?_
    refine am_istore_n (ls' := [(1, .inl 1), (0, .inl n)]) dJ6_stringSize_0f7a4_1 (by decide) rfl ?_
    refine am_iload_n dJ6_stringSize_0f7a4_2 (by repeat (first | exact List.Mem.head _ | apply List.Mem.tail)) ?_
    refine am_iflt (tgt := 11) dJ6_stringSize_0f7a4_3 (by decide) (fun c => absurd c (by omega)) (fun _ => ?_)
    refine am_iconst dJ6_stringSize_0f7a4_6 (by unfold am_rg; omega) ?_
    refine am_istore_n (ls' := [(1, .inl 0), (0, .inl n)]) dJ6_stringSize_0f7a4_7 (by decide) rfl ?_
    refine am_iload_n dJ6_stringSize_0f7a4_8 (by repeat (first | exact List.Mem.head _ | apply List.Mem.tail)) ?_
    refine am_ineg dJ6_stringSize_0f7a4_9 ?_
    rw [am_w_id (by unfold am_rg; omega)]
    refine am_istore_n (ls' := [(0, .inl (-n)), (1, .inl 0)]) dJ6_stringSize_0f7a4_10 (by decide) rfl ?_
    refine am_bipush dJ6_stringSize_0f7a4_11 (by decide) (by unfold am_rg; omega) ?_
    refine am_istore_n (ls' := [(2, .inl (-10)), (0, .inl (-n)), (1, .inl 0)]) dJ6_stringSize_0f7a4_13 (by decide) rfl ?_
    refine am_iconst dJ6_stringSize_0f7a4_14 (by unfold am_rg; omega) ?_
    refine am_istore_n (ls' := [(3, .inl 1), (2, .inl (-10)), (0, .inl (-n)), (1, .inl 0)]) dJ6_stringSize_0f7a4_15 (by decide) rfl ?_
    refine am_iload_n dJ6_stringSize_0f7a4_16 (by repeat (first | exact List.Mem.head _ | apply List.Mem.tail)) ?_
    refine am_bipush dJ6_stringSize_0f7a4_17 (by decide) (by unfold am_rg; omega) ?_
    refine am_icmpge (tgt := 42) dJ6_stringSize_0f7a4_19 (by decide) (fun c => absurd c (by decide)) (fun _ => ?_)
    refine am_iload_n dJ6_stringSize_0f7a4_22 (by repeat (first | exact List.Mem.head _ | apply List.Mem.tail)) ?_
    refine am_iload_n dJ6_stringSize_0f7a4_23 (by repeat (first | exact List.Mem.head _ | apply List.Mem.tail)) ?_
    refine am_icmple (tgt := 31) dJ6_stringSize_0f7a4_24 (by decide) (fun _ => ?_) (fun c => absurd c (by omega))
    refine am_bipush dJ6_stringSize_0f7a4_31 (by decide) (by unfold am_rg; omega) ?_
    refine am_iload_n dJ6_stringSize_0f7a4_33 (by repeat (first | exact List.Mem.head _ | apply List.Mem.tail)) ?_
    refine am_imul dJ6_stringSize_0f7a4_34 ?_
    rw [show am_w (10 * (-10)) = -100 by decide]
    refine am_istore_n (ls' := [(2, .inl (-100)), (3, .inl 1), (0, .inl (-n)), (1, .inl 0)]) dJ6_stringSize_0f7a4_35 (by decide) rfl ?_
    refine am_iinc (ls' := [(3, .inl 2), (2, .inl (-100)), (0, .inl (-n)), (1, .inl 0)]) dJ6_stringSize_0f7a4_36 (by repeat (first | exact List.Mem.head _ | apply List.Mem.tail)) (by decide) rfl ?_
    refine am_goto (tgt := 16) dJ6_stringSize_0f7a4_39 (by decide) ?_
    refine am_iload_n dJ6_stringSize_0f7a4_16 (by repeat (first | exact List.Mem.head _ | apply List.Mem.tail)) ?_
    refine am_bipush dJ6_stringSize_0f7a4_17 (by decide) (by unfold am_rg; omega) ?_
    refine am_icmpge (tgt := 42) dJ6_stringSize_0f7a4_19 (by decide) (fun c => absurd c (by decide)) (fun _ => ?_)
    refine am_iload_n dJ6_stringSize_0f7a4_22 (by repeat (first | exact List.Mem.head _ | apply List.Mem.tail)) ?_
    refine am_iload_n dJ6_stringSize_0f7a4_23 (by repeat (first | exact List.Mem.head _ | apply List.Mem.tail)) ?_
    refine am_icmple (tgt := 31) dJ6_stringSize_0f7a4_24 (by decide) (fun c => absurd c (by omega)) (fun _ => ?_)
    refine am_iload_n dJ6_stringSize_0f7a4_27 (by repeat (first | exact List.Mem.head _ | apply List.Mem.tail)) ?_
    refine am_iload_n dJ6_stringSize_0f7a4_28 (by repeat (first | exact List.Mem.head _ | apply List.Mem.tail)) ?_
    refine am_iadd dJ6_stringSize_0f7a4_29 ?_
    have e : sb_sz n = 2 := by unfold sb_sz; rw [if_neg (by omega), if_pos (by omega)]
    rw [e] at K
    exact am_ret (r := some (.inl ((2 : Nat) : Int))) dJ6_stringSize_0f7a4_30 (Or.inl rfl) rfl K
  · refine am_iconst dJ6_stringSize_0f7a4_0 (by unfold am_rg; omega) ?_
    refine am_istore_n (ls' := [(1, .inl 1), (0, .inl n)]) dJ6_stringSize_0f7a4_1 (by decide) rfl ?_
    refine am_iload_n dJ6_stringSize_0f7a4_2 (by repeat (first | exact List.Mem.head _ | apply List.Mem.tail)) ?_
    refine am_iflt (tgt := 11) dJ6_stringSize_0f7a4_3 (by decide) (fun c => absurd c (by omega)) (fun _ => ?_)
    refine am_iconst dJ6_stringSize_0f7a4_6 (by unfold am_rg; omega) ?_
    refine am_istore_n (ls' := [(1, .inl 0), (0, .inl n)]) dJ6_stringSize_0f7a4_7 (by decide) rfl ?_
    refine am_iload_n dJ6_stringSize_0f7a4_8 (by repeat (first | exact List.Mem.head _ | apply List.Mem.tail)) ?_
    refine am_ineg dJ6_stringSize_0f7a4_9 ?_
    rw [am_w_id (by unfold am_rg; omega)]
    refine am_istore_n (ls' := [(0, .inl (-n)), (1, .inl 0)]) dJ6_stringSize_0f7a4_10 (by decide) rfl ?_
    refine am_bipush dJ6_stringSize_0f7a4_11 (by decide) (by unfold am_rg; omega) ?_
    refine am_istore_n (ls' := [(2, .inl (-10)), (0, .inl (-n)), (1, .inl 0)]) dJ6_stringSize_0f7a4_13 (by decide) rfl ?_
    refine am_iconst dJ6_stringSize_0f7a4_14 (by unfold am_rg; omega) ?_
    refine am_istore_n (ls' := [(3, .inl 1), (2, .inl (-10)), (0, .inl (-n)), (1, .inl 0)]) dJ6_stringSize_0f7a4_15 (by decide) rfl ?_
    refine am_iload_n dJ6_stringSize_0f7a4_16 (by repeat (first | exact List.Mem.head _ | apply List.Mem.tail)) ?_
    refine am_bipush dJ6_stringSize_0f7a4_17 (by decide) (by unfold am_rg; omega) ?_
    refine am_icmpge (tgt := 42) dJ6_stringSize_0f7a4_19 (by decide) (fun c => absurd c (by decide)) (fun _ => ?_)
    refine am_iload_n dJ6_stringSize_0f7a4_22 (by repeat (first | exact List.Mem.head _ | apply List.Mem.tail)) ?_
    refine am_iload_n dJ6_stringSize_0f7a4_23 (by repeat (first | exact List.Mem.head _ | apply List.Mem.tail)) ?_
    refine am_icmple (tgt := 31) dJ6_stringSize_0f7a4_24 (by decide) (fun _ => ?_) (fun c => absurd c (by omega))
    refine am_bipush dJ6_stringSize_0f7a4_31 (by decide) (by unfold am_rg; omega) ?_
    refine am_iload_n dJ6_stringSize_0f7a4_33 (by repeat (first | exact List.Mem.head _ | apply List.Mem.tail)) ?_
    refine am_imul dJ6_stringSize_0f7a4_34 ?_
    rw [show am_w (10 * (-10)) = -100 by decide]
    refine am_istore_n (ls' := [(2, .inl (-100)), (3, .inl 1), (0, .inl (-n)), (1, .inl 0)]) dJ6_stringSize_0f7a4_35 (by decide) rfl ?_
    refine am_iinc (ls' := [(3, .inl 2), (2, .inl (-100)), (0, .inl (-n)), (1, .inl 0)]) dJ6_stringSize_0f7a4_36 (by repeat (first | exact List.Mem.head _ | apply List.Mem.tail)) (by decide) rfl ?_
    refine am_goto (tgt := 16) dJ6_stringSize_0f7a4_39 (by decide) ?_
    refine am_iload_n dJ6_stringSize_0f7a4_16 (by repeat (first | exact List.Mem.head _ | apply List.Mem.tail)) ?_
    refine am_bipush dJ6_stringSize_0f7a4_17 (by decide) (by unfold am_rg; omega) ?_
    refine am_icmpge (tgt := 42) dJ6_stringSize_0f7a4_19 (by decide) (fun c => absurd c (by decide)) (fun _ => ?_)
    refine am_iload_n dJ6_stringSize_0f7a4_22 (by repeat (first | exact List.Mem.head _ | apply List.Mem.tail)) ?_
    refine am_iload_n dJ6_stringSize_0f7a4_23 (by repeat (first | exact List.Mem.head _ | apply List.Mem.tail)) ?_
    refine am_icmple (tgt := 31) dJ6_stringSize_0f7a4_24 (by decide) (fun _ => ?_) (fun c => absurd c (by omega))
    refine am_bipush dJ6_stringSize_0f7a4_31 (by decide) (by unfold am_rg; omega) ?_
    refine am_iload_n dJ6_stringSize_0f7a4_33 (by repeat (first | exact List.Mem.head _ | apply List.Mem.tail)) ?_
    refine am_imul dJ6_stringSize_0f7a4_34 ?_
    rw [show am_w (10 * (-100)) = -1000 by decide]
    refine am_istore_n (ls' := [(2, .inl (-1000)), (3, .inl 2), (0, .inl (-n)), (1, .inl 0)]) dJ6_stringSize_0f7a4_35 (by decide) rfl ?_
    refine am_iinc (ls' := [(3, .inl 3), (2, .inl (-1000)), (0, .inl (-n)), (1, .inl 0)]) dJ6_stringSize_0f7a4_36 (by repeat (first | exact List.Mem.head _ | apply List.Mem.tail)) (by decide) rfl ?_
    refine am_goto (tgt := 16) dJ6_stringSize_0f7a4_39 (by decide) ?_
    refine am_iload_n dJ6_stringSize_0f7a4_16 (by repeat (first | exact List.Mem.head _ | apply List.Mem.tail)) ?_
    refine am_bipush dJ6_stringSize_0f7a4_17 (by decide) (by unfold am_rg; omega) ?_
    refine am_icmpge (tgt := 42) dJ6_stringSize_0f7a4_19 (by decide) (fun c => absurd c (by decide)) (fun _ => ?_)
    refine am_iload_n dJ6_stringSize_0f7a4_22 (by repeat (first | exact List.Mem.head _ | apply List.Mem.tail)) ?_
    refine am_iload_n dJ6_stringSize_0f7a4_23 (by repeat (first | exact List.Mem.head _ | apply List.Mem.tail)) ?_
    refine am_icmple (tgt := 31) dJ6_stringSize_0f7a4_24 (by decide) (fun c => absurd c (by omega)) (fun _ => ?_)
    refine am_iload_n dJ6_stringSize_0f7a4_27 (by repeat (first | exact List.Mem.head _ | apply List.Mem.tail)) ?_
    refine am_iload_n dJ6_stringSize_0f7a4_28 (by repeat (first | exact List.Mem.head _ | apply List.Mem.tail)) ?_
    refine am_iadd dJ6_stringSize_0f7a4_29 ?_
    have e : sb_sz n = 3 := by unfold sb_sz; rw [if_neg (by omega), if_neg (by omega)]
    rw [e] at K
    exact am_ret (r := some (.inl ((3 : Nat) : Int))) dJ6_stringSize_0f7a4_30 (Or.inl rfl) rfl K
theorem pJ6_getChars {d kc ks : Nat} {Q : Option am_V → am_W → Prop} {w : am_W} {v : Nat} {n : Int} (hX : mh_st X r) (hn : 1 ≤ n ∧ n ≤ 999) (hv2 : w.2.2.2.1 v = (3, 16))
    (K : ∀ w' : am_W, sb_f w w' → w'.2 = w.2 → (∀ j, ¬ j = v → w'.1 999 j = w.1 999 j) → (∀ i, i < sb_sz n → w'.1 999 v i = (sb_ds n).getD i 0) → Q (some (.inl 0)) w') : am_M (mh_G X) SC (d + 1) kc ks mJ6_getChars_ba4f3 [.inl n, .inl (sb_sz n : Int), .inr (.inr (some (999, v)))] w Q := by
  have hk3 : am_kd (mh_G X) w 999 v = 3 := congrArg Prod.fst hv2
  have hl3 : am_ln (mh_G X) w 999 v = 16 := congrArg Prod.snd hv2
  obtain ⟨-, -, hO, hT⟩ := hX
  have gO : ∀ (u : am_W) (k : Nat), k < 100 → am_gi (mh_G X) u 1003 0 k = ((48 + k % 10 : Nat) : Int) := fun u k hk => by
    show mh_EI X.1 1003 0 k = _
    unfold mh_EI
    rw [if_neg (by decide), if_neg (by decide), if_pos rfl, if_pos hk]
  have gT : ∀ (u : am_W) (k : Nat), k < 100 → am_gi (mh_G X) u 1004 0 k = ((48 + k / 10 : Nat) : Int) := fun u k hk => by
    show mh_EI X.1 1004 0 k = _
    unfold mh_EI
    rw [if_neg (by decide), if_neg (by decide), if_neg (by decide), if_pos rfl, if_pos hk]
  refine am_M_of (by decide) (Nat.le_of_ble_eq_true rfl) ?_
  rcases (show n < 10 ∨ (¬ n < 10 ∧ n < 100) ∨ (¬ n < 10 ∧ ¬ n < 100) by omega) with h | h | h
  · have e : sb_sz n = 1 := by unfold sb_sz; rw [if_pos (by omega)]
    have e2 : sb_ds n = [48 + n] := by unfold sb_ds; rw [if_pos (by omega)]
    rw [e, e2] at K
    refine am_reL (ls' := [(0, .inl n), (1, .inl (1 : Int)), (2, .inr (.inr (some (999, v))))]) (by rw [e]; rfl) ?_
    refine am_iload_n dJ6_getChars_ba4f3_0 (by repeat (first | exact List.Mem.head _ | apply List.Mem.tail)) ?_
    refine am_istore (ls' := [(5, .inl (1 : Int)), (0, .inl n), (1, .inl (1 : Int)), (2, .inr (.inr (some (999, v))))]) dJ6_getChars_ba4f3_1 (by decide) rfl ?_
    refine am_iload_n dJ6_getChars_ba4f3_3 (by repeat (first | exact List.Mem.head _ | apply List.Mem.tail)) ?_
    refine am_ifge (tgt := 11) dJ6_getChars_ba4f3_4 (by decide) (fun _ => ?_) (fun c => absurd c (by omega))
    refine am_iconst dJ6_getChars_ba4f3_11 (by unfold am_rg; omega) ?_
    refine am_istore (ls' := [(6, .inl 0), (5, .inl (1 : Int)), (0, .inl n), (1, .inl (1 : Int)), (2, .inr (.inr (some (999, v))))]) dJ6_getChars_ba4f3_12 (by decide) rfl ?_
    refine am_iload dJ6_getChars_ba4f3_14 (by repeat (first | exact List.Mem.head _ | apply List.Mem.tail)) ?_
    refine am_ifne (tgt := 22) dJ6_getChars_ba4f3_16 (by decide) (fun c => absurd c (by decide)) (fun _ => ?_)
    refine am_iload_n dJ6_getChars_ba4f3_19 (by repeat (first | exact List.Mem.head _ | apply List.Mem.tail)) ?_
    refine am_ineg dJ6_getChars_ba4f3_20 ?_
    rw [am_w_id (z := -n) (by unfold am_rg; omega)]
    refine am_istore_n (ls' := [(0, .inl (-n)), (6, .inl 0), (5, .inl (1 : Int)), (1, .inl (1 : Int)), (2, .inr (.inr (some (999, v))))]) dJ6_getChars_ba4f3_21 (by decide) rfl ?_
    refine am_iload_n dJ6_getChars_ba4f3_22 (by repeat (first | exact List.Mem.head _ | apply List.Mem.tail)) ?_
    refine am_bipush dJ6_getChars_ba4f3_23 (by decide) (by unfold am_rg; omega) ?_
    refine am_icmpgt (tgt := 72) dJ6_getChars_ba4f3_25 (by decide) (fun _ => ?_) (fun c => absurd c (by omega))
    refine am_aload_n dJ6_getChars_ba4f3_72 (by repeat (first | exact List.Mem.head _ | apply List.Mem.tail)) ?_
    refine am_iinc (x := 1) (ls' := _) dJ6_getChars_ba4f3_73 (by repeat (first | exact List.Mem.head _ | apply List.Mem.tail)) (by decide) rfl ?_
    rw [show am_w (1 + (-1)) = 0 by decide]
    refine am_reL (ls' := [(5, .inl 0), (0, .inl (-n)), (6, .inl 0), (1, .inl (1 : Int)), (2, .inr (.inr (some (999, v))))]) rfl ?_
    refine am_iload dJ6_getChars_ba4f3_76 (by repeat (first | exact List.Mem.head _ | apply List.Mem.tail)) ?_
    refine am_gets (v := .inr (.inr (some (1003, 0)))) dJ6_getChars_ba4f3_78 hO wd_2405 ?_
    refine am_iload_n dJ6_getChars_ba4f3_81 (by repeat (first | exact List.Mem.head _ | apply List.Mem.tail)) ?_
    refine am_ineg dJ6_getChars_ba4f3_82 ?_
    rw [show am_w (-(-n)) = n by rw [am_w_id (by unfold am_rg; omega)]; omega]
    refine am_baload (v := 48 + n) dJ6_getChars_ba4f3_83 (by decide) rfl (by omega) (by show _ < ((100 : Nat) : Int); omega) (by rw [gO _ _ (by omega)]; omega) ?_
    refine am_bastore (by omega) dJ6_getChars_ba4f3_84 (Or.inr rfl) hk3 (by decide) (show (0 : Int) < ((am_ln (mh_G X) w 999 v : Nat) : Int) by rw [hl3]; decide) ?_
    refine am_iload_n dJ6_getChars_ba4f3_85 (by repeat (first | exact List.Mem.head _ | apply List.Mem.tail)) ?_
    refine am_bipush dJ6_getChars_ba4f3_86 (by decide) (by unfold am_rg; omega) ?_
    refine am_icmpge (tgt := 104) dJ6_getChars_ba4f3_88 (by decide) (fun _ => ?_) (fun c => absurd c (by omega))
    refine am_iload dJ6_getChars_ba4f3_104 (by repeat (first | exact List.Mem.head _ | apply List.Mem.tail)) ?_
    refine am_ifeq (tgt := 118) dJ6_getChars_ba4f3_106 (by decide) (fun _ => ?_) (fun c => absurd c (by decide))
    refine am_iload dJ6_getChars_ba4f3_118 (by repeat (first | exact List.Mem.head _ | apply List.Mem.tail)) ?_
    refine am_ret (r := some (.inl 0)) dJ6_getChars_ba4f3_120 (Or.inl rfl) rfl (K _ ?_ rfl (fun j hj => ?_) (fun i hi => ?_))
    · exact sb_f_u
    · dsimp only; rw [am_up_j hj]
    · dsimp only
      rcases (show i = 0 by omega) with e <;> subst e <;> simp [am_up]
  · have e : sb_sz n = 2 := by unfold sb_sz; rw [if_neg (by omega), if_pos (by omega)]
    have e2 : sb_ds n = [48 + n / 10, 48 + n % 10] := by unfold sb_ds; rw [if_neg (by omega), if_pos (by omega)]
    rw [e, e2] at K
    refine am_reL (ls' := [(0, .inl n), (1, .inl (2 : Int)), (2, .inr (.inr (some (999, v))))]) (by rw [e]; rfl) ?_
    refine am_iload_n dJ6_getChars_ba4f3_0 (by repeat (first | exact List.Mem.head _ | apply List.Mem.tail)) ?_
    refine am_istore (ls' := [(5, .inl (2 : Int)), (0, .inl n), (1, .inl (2 : Int)), (2, .inr (.inr (some (999, v))))]) dJ6_getChars_ba4f3_1 (by decide) rfl ?_
    refine am_iload_n dJ6_getChars_ba4f3_3 (by repeat (first | exact List.Mem.head _ | apply List.Mem.tail)) ?_
    refine am_ifge (tgt := 11) dJ6_getChars_ba4f3_4 (by decide) (fun _ => ?_) (fun c => absurd c (by omega))
    refine am_iconst dJ6_getChars_ba4f3_11 (by unfold am_rg; omega) ?_
    refine am_istore (ls' := [(6, .inl 0), (5, .inl (2 : Int)), (0, .inl n), (1, .inl (2 : Int)), (2, .inr (.inr (some (999, v))))]) dJ6_getChars_ba4f3_12 (by decide) rfl ?_
    refine am_iload dJ6_getChars_ba4f3_14 (by repeat (first | exact List.Mem.head _ | apply List.Mem.tail)) ?_
    refine am_ifne (tgt := 22) dJ6_getChars_ba4f3_16 (by decide) (fun c => absurd c (by decide)) (fun _ => ?_)
    refine am_iload_n dJ6_getChars_ba4f3_19 (by repeat (first | exact List.Mem.head _ | apply List.Mem.tail)) ?_
    refine am_ineg dJ6_getChars_ba4f3_20 ?_
    rw [am_w_id (z := -n) (by unfold am_rg; omega)]
    refine am_istore_n (ls' := [(0, .inl (-n)), (6, .inl 0), (5, .inl (2 : Int)), (1, .inl (2 : Int)), (2, .inr (.inr (some (999, v))))]) dJ6_getChars_ba4f3_21 (by decide) rfl ?_
    refine am_iload_n dJ6_getChars_ba4f3_22 (by repeat (first | exact List.Mem.head _ | apply List.Mem.tail)) ?_
    refine am_bipush dJ6_getChars_ba4f3_23 (by decide) (by unfold am_rg; omega) ?_
    refine am_icmpgt (tgt := 72) dJ6_getChars_ba4f3_25 (by decide) (fun _ => ?_) (fun c => absurd c (by omega))
    refine am_aload_n dJ6_getChars_ba4f3_72 (by repeat (first | exact List.Mem.head _ | apply List.Mem.tail)) ?_
    refine am_iinc (x := 2) (ls' := _) dJ6_getChars_ba4f3_73 (by repeat (first | exact List.Mem.head _ | apply List.Mem.tail)) (by decide) rfl ?_
    rw [show am_w (2 + (-1)) = 1 by decide]
    refine am_reL (ls' := [(5, .inl 1), (0, .inl (-n)), (6, .inl 0), (1, .inl (2 : Int)), (2, .inr (.inr (some (999, v))))]) rfl ?_
    refine am_iload dJ6_getChars_ba4f3_76 (by repeat (first | exact List.Mem.head _ | apply List.Mem.tail)) ?_
    refine am_gets (v := .inr (.inr (some (1003, 0)))) dJ6_getChars_ba4f3_78 hO wd_2405 ?_
    refine am_iload_n dJ6_getChars_ba4f3_81 (by repeat (first | exact List.Mem.head _ | apply List.Mem.tail)) ?_
    refine am_ineg dJ6_getChars_ba4f3_82 ?_
    rw [show am_w (-(-n)) = n by rw [am_w_id (by unfold am_rg; omega)]; omega]
    refine am_baload (v := 48 + n % 10) dJ6_getChars_ba4f3_83 (by decide) rfl (by omega) (by show _ < ((100 : Nat) : Int); omega) (by rw [gO _ _ (by omega)]; omega) ?_
    refine am_bastore (by omega) dJ6_getChars_ba4f3_84 (Or.inr rfl) hk3 (by decide) (show (1 : Int) < ((am_ln (mh_G X) w 999 v : Nat) : Int) by rw [hl3]; decide) ?_
    refine am_iload_n dJ6_getChars_ba4f3_85 (by repeat (first | exact List.Mem.head _ | apply List.Mem.tail)) ?_
    refine am_bipush dJ6_getChars_ba4f3_86 (by decide) (by unfold am_rg; omega) ?_
    refine am_icmpge (tgt := 104) dJ6_getChars_ba4f3_88 (by decide) (fun c => absurd c (by omega)) (fun _ => ?_)
    refine am_aload_n dJ6_getChars_ba4f3_91 (by repeat (first | exact List.Mem.head _ | apply List.Mem.tail)) ?_
    refine am_iinc (x := 1) (ls' := _) dJ6_getChars_ba4f3_92 (by repeat (first | exact List.Mem.head _ | apply List.Mem.tail)) (by decide) rfl ?_
    rw [show am_w (1 + (-1)) = 0 by decide]
    refine am_reL (ls' := [(5, .inl 0), (0, .inl (-n)), (6, .inl 0), (1, .inl (2 : Int)), (2, .inr (.inr (some (999, v))))]) rfl ?_
    refine am_iload dJ6_getChars_ba4f3_95 (by repeat (first | exact List.Mem.head _ | apply List.Mem.tail)) ?_
    refine am_gets (v := .inr (.inr (some (1004, 0)))) dJ6_getChars_ba4f3_97 hT wd_2407 ?_
    refine am_iload_n dJ6_getChars_ba4f3_100 (by repeat (first | exact List.Mem.head _ | apply List.Mem.tail)) ?_
    refine am_ineg dJ6_getChars_ba4f3_101 ?_
    rw [show am_w (-(-n)) = n by rw [am_w_id (by unfold am_rg; omega)]; omega]
    refine am_baload (v := 48 + n / 10) dJ6_getChars_ba4f3_102 (by decide) rfl (by omega) (by show _ < ((100 : Nat) : Int); omega) (by rw [gT _ _ (by omega)]; omega) ?_
    refine am_bastore (by omega) dJ6_getChars_ba4f3_103 (Or.inr rfl) hk3 (by decide) (show (0 : Int) < ((am_ln (mh_G X) w 999 v : Nat) : Int) by rw [hl3]; decide) ?_
    refine am_iload dJ6_getChars_ba4f3_104 (by repeat (first | exact List.Mem.head _ | apply List.Mem.tail)) ?_
    refine am_ifeq (tgt := 118) dJ6_getChars_ba4f3_106 (by decide) (fun _ => ?_) (fun c => absurd c (by decide))
    refine am_iload dJ6_getChars_ba4f3_118 (by repeat (first | exact List.Mem.head _ | apply List.Mem.tail)) ?_
    refine am_ret (r := some (.inl 0)) dJ6_getChars_ba4f3_120 (Or.inl rfl) rfl (K _ ?_ rfl (fun j hj => ?_) (fun i hi => ?_))
    · exact sb_f_t (sb_f_u) sb_f_u
    · dsimp only; rw [am_up_j hj]; rw [am_up_j hj]
    · dsimp only
      rcases (show i = 0 ∨ i = 1 by omega) with e | e <;> subst e <;> simp [am_up]
  · have e : sb_sz n = 3 := by unfold sb_sz; rw [if_neg (by omega), if_neg (by omega)]
    have e2 : sb_ds n = [48 + n / 100, 48 + n / 10 % 10, 48 + n % 10] := by unfold sb_ds; rw [if_neg (by omega), if_neg (by omega)]
    rw [e, e2] at K
    refine am_reL (ls' := [(0, .inl n), (1, .inl (3 : Int)), (2, .inr (.inr (some (999, v))))]) (by rw [e]; rfl) ?_
    refine am_iload_n dJ6_getChars_ba4f3_0 (by repeat (first | exact List.Mem.head _ | apply List.Mem.tail)) ?_
    refine am_istore (ls' := [(5, .inl (3 : Int)), (0, .inl n), (1, .inl (3 : Int)), (2, .inr (.inr (some (999, v))))]) dJ6_getChars_ba4f3_1 (by decide) rfl ?_
    refine am_iload_n dJ6_getChars_ba4f3_3 (by repeat (first | exact List.Mem.head _ | apply List.Mem.tail)) ?_
    refine am_ifge (tgt := 11) dJ6_getChars_ba4f3_4 (by decide) (fun _ => ?_) (fun c => absurd c (by omega))
    refine am_iconst dJ6_getChars_ba4f3_11 (by unfold am_rg; omega) ?_
    refine am_istore (ls' := [(6, .inl 0), (5, .inl (3 : Int)), (0, .inl n), (1, .inl (3 : Int)), (2, .inr (.inr (some (999, v))))]) dJ6_getChars_ba4f3_12 (by decide) rfl ?_
    refine am_iload dJ6_getChars_ba4f3_14 (by repeat (first | exact List.Mem.head _ | apply List.Mem.tail)) ?_
    refine am_ifne (tgt := 22) dJ6_getChars_ba4f3_16 (by decide) (fun c => absurd c (by decide)) (fun _ => ?_)
    refine am_iload_n dJ6_getChars_ba4f3_19 (by repeat (first | exact List.Mem.head _ | apply List.Mem.tail)) ?_
    refine am_ineg dJ6_getChars_ba4f3_20 ?_
    rw [am_w_id (z := -n) (by unfold am_rg; omega)]
    refine am_istore_n (ls' := [(0, .inl (-n)), (6, .inl 0), (5, .inl (3 : Int)), (1, .inl (3 : Int)), (2, .inr (.inr (some (999, v))))]) dJ6_getChars_ba4f3_21 (by decide) rfl ?_
    refine am_iload_n dJ6_getChars_ba4f3_22 (by repeat (first | exact List.Mem.head _ | apply List.Mem.tail)) ?_
    refine am_bipush dJ6_getChars_ba4f3_23 (by decide) (by unfold am_rg; omega) ?_
    refine am_icmpgt (tgt := 72) dJ6_getChars_ba4f3_25 (by decide) (fun c => absurd c (by omega)) (fun _ => ?_)
    refine am_iload_n dJ6_getChars_ba4f3_28 (by repeat (first | exact List.Mem.head _ | apply List.Mem.tail)) ?_
    refine am_bipush dJ6_getChars_ba4f3_29 (by decide) (by unfold am_rg; omega) ?_
    refine am_idiv dJ6_getChars_ba4f3_31 (by decide) ?_
    rw [show am_w ((-n).tdiv 100) = -(n / 100) by rw [Int.neg_tdiv, Int.tdiv_eq_ediv_of_nonneg (by omega), am_w_id (by unfold am_rg; omega)]]
    refine am_istore_n (ls' := [(3, .inl (-(n / 100))), (0, .inl (-n)), (6, .inl 0), (5, .inl (3 : Int)), (1, .inl (3 : Int)), (2, .inr (.inr (some (999, v))))]) dJ6_getChars_ba4f3_32 (by decide) rfl ?_
    refine am_iload_n dJ6_getChars_ba4f3_33 (by repeat (first | exact List.Mem.head _ | apply List.Mem.tail)) ?_
    refine am_bipush dJ6_getChars_ba4f3_34 (by decide) (by unfold am_rg; omega) ?_
    refine am_imul dJ6_getChars_ba4f3_36 ?_
    rw [show am_w (-(n / 100) * 100) = -(n / 100) * 100 by rw [am_w_id (by unfold am_rg; omega)]]
    refine am_iload_n dJ6_getChars_ba4f3_37 (by repeat (first | exact List.Mem.head _ | apply List.Mem.tail)) ?_
    refine am_isub dJ6_getChars_ba4f3_38 ?_
    rw [show am_w (-(n / 100) * 100 - -n) = n % 100 by rw [am_w_id (by unfold am_rg; omega)]; omega]
    refine am_istore (ls' := [(4, .inl (n % 100)), (3, .inl (-(n / 100))), (0, .inl (-n)), (6, .inl 0), (5, .inl (3 : Int)), (1, .inl (3 : Int)), (2, .inr (.inr (some (999, v))))]) dJ6_getChars_ba4f3_39 (by decide) rfl ?_
    refine am_iload_n dJ6_getChars_ba4f3_41 (by repeat (first | exact List.Mem.head _ | apply List.Mem.tail)) ?_
    refine am_istore_n (ls' := [(0, .inl (-(n / 100))), (4, .inl (n % 100)), (3, .inl (-(n / 100))), (6, .inl 0), (5, .inl (3 : Int)), (1, .inl (3 : Int)), (2, .inr (.inr (some (999, v))))]) dJ6_getChars_ba4f3_42 (by decide) rfl ?_
    refine am_aload_n dJ6_getChars_ba4f3_43 (by repeat (first | exact List.Mem.head _ | apply List.Mem.tail)) ?_
    refine am_iinc (x := 3) (ls' := _) dJ6_getChars_ba4f3_44 (by repeat (first | exact List.Mem.head _ | apply List.Mem.tail)) (by decide) rfl ?_
    rw [show am_w (3 + (-1)) = 2 by decide]
    refine am_reL (ls' := [(5, .inl 2), (0, .inl (-(n / 100))), (4, .inl (n % 100)), (3, .inl (-(n / 100))), (6, .inl 0), (1, .inl (3 : Int)), (2, .inr (.inr (some (999, v))))]) rfl ?_
    refine am_iload dJ6_getChars_ba4f3_47 (by repeat (first | exact List.Mem.head _ | apply List.Mem.tail)) ?_
    refine am_gets (v := .inr (.inr (some (1003, 0)))) dJ6_getChars_ba4f3_49 hO wd_2405 ?_
    refine am_iload dJ6_getChars_ba4f3_52 (by repeat (first | exact List.Mem.head _ | apply List.Mem.tail)) ?_
    refine am_baload (v := 48 + n % 10) dJ6_getChars_ba4f3_54 (by decide) rfl (by omega) (by show _ < ((100 : Nat) : Int); omega) (by rw [gO _ _ (by omega)]; omega) ?_
    refine am_bastore (by omega) dJ6_getChars_ba4f3_55 (Or.inr rfl) hk3 (by decide) (show (2 : Int) < ((am_ln (mh_G X) w 999 v : Nat) : Int) by rw [hl3]; decide) ?_
    refine am_aload_n dJ6_getChars_ba4f3_56 (by repeat (first | exact List.Mem.head _ | apply List.Mem.tail)) ?_
    refine am_iinc (x := 2) (ls' := _) dJ6_getChars_ba4f3_57 (by repeat (first | exact List.Mem.head _ | apply List.Mem.tail)) (by decide) rfl ?_
    rw [show am_w (2 + (-1)) = 1 by decide]
    refine am_reL (ls' := [(5, .inl 1), (0, .inl (-(n / 100))), (4, .inl (n % 100)), (3, .inl (-(n / 100))), (6, .inl 0), (1, .inl (3 : Int)), (2, .inr (.inr (some (999, v))))]) rfl ?_
    refine am_iload dJ6_getChars_ba4f3_60 (by repeat (first | exact List.Mem.head _ | apply List.Mem.tail)) ?_
    refine am_gets (v := .inr (.inr (some (1004, 0)))) dJ6_getChars_ba4f3_62 hT wd_2407 ?_
    refine am_iload dJ6_getChars_ba4f3_65 (by repeat (first | exact List.Mem.head _ | apply List.Mem.tail)) ?_
    refine am_baload (v := 48 + n / 10 % 10) dJ6_getChars_ba4f3_67 (by decide) rfl (by omega) (by show _ < ((100 : Nat) : Int); omega) (by rw [gT _ _ (by omega)]; omega) ?_
    refine am_bastore (by omega) dJ6_getChars_ba4f3_68 (Or.inr rfl) hk3 (by decide) (show (1 : Int) < ((am_ln (mh_G X) w 999 v : Nat) : Int) by rw [hl3]; decide) ?_
    refine am_goto (tgt := 22) dJ6_getChars_ba4f3_69 (by decide) ?_
    refine am_iload_n dJ6_getChars_ba4f3_22 (by repeat (first | exact List.Mem.head _ | apply List.Mem.tail)) ?_
    refine am_bipush dJ6_getChars_ba4f3_23 (by decide) (by unfold am_rg; omega) ?_
    refine am_icmpgt (tgt := 72) dJ6_getChars_ba4f3_25 (by decide) (fun _ => ?_) (fun c => absurd c (by omega))
    refine am_aload_n dJ6_getChars_ba4f3_72 (by repeat (first | exact List.Mem.head _ | apply List.Mem.tail)) ?_
    refine am_iinc (x := 1) (ls' := _) dJ6_getChars_ba4f3_73 (by repeat (first | exact List.Mem.head _ | apply List.Mem.tail)) (by decide) rfl ?_
    rw [show am_w (1 + (-1)) = 0 by decide]
    refine am_reL (ls' := [(5, .inl 0), (0, .inl (-(n / 100))), (4, .inl (n % 100)), (3, .inl (-(n / 100))), (6, .inl 0), (1, .inl (3 : Int)), (2, .inr (.inr (some (999, v))))]) rfl ?_
    refine am_iload dJ6_getChars_ba4f3_76 (by repeat (first | exact List.Mem.head _ | apply List.Mem.tail)) ?_
    refine am_gets (v := .inr (.inr (some (1003, 0)))) dJ6_getChars_ba4f3_78 hO wd_2405 ?_
    refine am_iload_n dJ6_getChars_ba4f3_81 (by repeat (first | exact List.Mem.head _ | apply List.Mem.tail)) ?_
    refine am_ineg dJ6_getChars_ba4f3_82 ?_
    rw [show am_w (-(-(n / 100))) = n / 100 by rw [am_w_id (by unfold am_rg; omega)]; omega]
    refine am_baload (v := 48 + n / 100) dJ6_getChars_ba4f3_83 (by decide) rfl (by omega) (by show _ < ((100 : Nat) : Int); omega) (by rw [gO _ _ (by omega)]; omega) ?_
    refine am_bastore (by omega) dJ6_getChars_ba4f3_84 (Or.inr rfl) hk3 (by decide) (show (0 : Int) < ((am_ln (mh_G X) w 999 v : Nat) : Int) by rw [hl3]; decide) ?_
    refine am_iload_n dJ6_getChars_ba4f3_85 (by repeat (first | exact List.Mem.head _ | apply List.Mem.tail)) ?_
    refine am_bipush dJ6_getChars_ba4f3_86 (by decide) (by unfold am_rg; omega) ?_
    refine am_icmpge (tgt := 104) dJ6_getChars_ba4f3_88 (by decide) (fun _ => ?_) (fun c => absurd c (by omega))
    refine am_iload dJ6_getChars_ba4f3_104 (by repeat (first | exact List.Mem.head _ | apply List.Mem.tail)) ?_
    refine am_ifeq (tgt := 118) dJ6_getChars_ba4f3_106 (by decide) (fun _ => ?_) (fun c => absurd c (by decide))
    refine am_iload dJ6_getChars_ba4f3_118 (by repeat (first | exact List.Mem.head _ | apply List.Mem.tail)) ?_
    refine am_ret (r := some (.inl 0)) dJ6_getChars_ba4f3_120 (Or.inl rfl) rfl (K _ ?_ rfl (fun j hj => ?_) (fun i hi => ?_))
    · exact sb_f_t (sb_f_t (sb_f_u) sb_f_u) sb_f_u
    · dsimp only; rw [am_up_j hj]; rw [am_up_j hj]; rw [am_up_j hj]
    · dsimp only
      rcases (show i = 0 ∨ i = 1 ∨ i = 2 by omega) with e | e | e <;> subst e <;> simp [am_up]
