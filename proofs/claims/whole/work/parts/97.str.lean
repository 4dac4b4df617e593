-- STRINGS: static fields that nobody writes; length and charAt of a Latin1 String
section AMG
variable {G : am_G} {SC : Nat → Nat} {d : Nat} {Y : am_Y} {Q : Option am_V → am_W → Prop} {pc bc bs : Nat} {ls : List (Nat × am_V)} {st : List am_V} {w : am_W}
theorem am_gets {idx : Nat} {C n dsc : String} {v : am_V} (hd : decode Y.2.1 pc = .ok (.getstatic idx, 3)) (hm : (C, n, dsc, v) ∈ G.2.2.2.2) (hw : Cond.fieldLink Y.1.cls idx C n dsc ∈ am_TW) (k : am_A G SC d Y Q (pc + 3) ls (v :: st) w bc bs) : am_A G SC d Y Q pc ls st w bc bs := by
  intro p l e R s m args below meth c H locs cells slots QQ Dg cI ad A lsA ad0 w0 hX hH hg h1 h2 hl ho hs hR
  have hZ := hH.2.2.2.2.2.2.2.2 _ hm
  exact va_gets hX.1 hX.2.1 hZ hH.2.2.1 hX.2.2.2.2.2.1 (hX.2.2.2.2.2.2.1 _ hw) (fun _ h => h) hd (k p l e R s m args below meth c H locs cells slots QQ Dg cI ad A lsA ad0 w0 hX hH hg h1 h2 hl ho (am_oc (hH.2.2.2.2.1.2.2.1 _ hm) hs) hR)
end AMG
/-- the static fields, as they stand: r is the formatter of a fault, which is never used -/
def mh_st (X : mh_X) (r : Option am_I) : Prop := ("java/lang/String", "COMPACT_STRINGS", "Z", .inl 1) ∈ X.2.2 ∧ ("jdk/internal/util/Preconditions", "SIOOBE_FORMATTER", "Ljava/util/function/BiFunction;", .inr (.inr r)) ∈ X.2.2 ∧
  ("java/lang/Integer", "DigitOnes", "[B", .inr (.inr (some (1003, 0)))) ∈ X.2.2 ∧ ("java/lang/Integer", "DigitTens", "[B", .inr (.inr (some (1004, 0)))) ∈ X.2.2
variable {SC : Nat → Nat} {X : mh_X} {r : Option am_I}
/-- (t, j) is a String of n Latin1 chars, which stand in (tv, jv) -/
def mh_S (X : mh_X) (w : am_W) (t j tv jv n : Nat) : Prop := (t < 1100 ∧ am_kd (mh_G X) w t j = 111 ∧ am_gr (mh_G X) w t j 0 = some (tv, jv) ∧ am_gi (mh_G X) w t j 1 = 0) ∧ (tv < 1100 ∧ am_kd (mh_G X) w tv jv = 3 ∧ am_ln (mh_G X) w tv jv = n ∧ n < 2147483648)
theorem pJ0_coder {d kc ks : Nat} {Q : Option am_V → am_W → Prop} {w : am_W} {t j tv jv n : Nat} (hX : mh_st X r) (hS : mh_S X w t j tv jv n) (K : Q (some (.inl 0)) w) : am_M (mh_G X) SC (d + 1) kc ks mJ0_coder_7d493 [.inr (.inr (some (t, j)))] w Q := by
  obtain ⟨⟨ht, hk, -, hc⟩, -⟩ := hS
  refine am_M_of (by decide) (Nat.le_of_ble_eq_true rfl) ?_
  refine am_gets (v := .inl 1) dJ0_coder_7d493_0 hX.1 wd_729 ?_
  refine am_ifeq (tgt := 13) dJ0_coder_7d493_3 (by decide) (fun c => absurd c (by decide)) (fun _ => ?_)
  refine am_aload_n dJ0_coder_7d493_6 (List.Mem.head _) ?_
  refine am_getf (f := 1) (v := .inl (am_gi (mh_G X) w t j 1)) dJ0_coder_7d493_7 hc_11 (by decide) wd_2464 ht hk rfl ?_
  rw [hc]
  refine am_goto (tgt := 14) dJ0_coder_7d493_10 (by decide) ?_
  exact am_ret (r := some (.inl 0)) dJ0_coder_7d493_14 (Or.inr (Or.inr (Or.inr ⟨rfl, by decide⟩))) rfl K
theorem pJ0_isLatin1 {d kc ks : Nat} {Q : Option am_V → am_W → Prop} {w : am_W} {t j tv jv n : Nat} (hX : mh_st X r) (hS : mh_S X w t j tv jv n) (K : Q (some (.inl 1)) w) : am_M (mh_G X) SC (d + 1) kc ks mJ0_isLatin1_aae02 [.inr (.inr (some (t, j)))] w Q := by
  obtain ⟨⟨ht, hk, -, hc⟩, -⟩ := hS
  refine am_M_of (by decide) (Nat.le_of_ble_eq_true rfl) ?_
  refine am_gets (v := .inl 1) dJ0_isLatin1_aae02_0 hX.1 wd_729 ?_
  refine am_ifeq (tgt := 17) dJ0_isLatin1_aae02_3 (by decide) (fun c => absurd c (by decide)) (fun _ => ?_)
  refine am_aload_n dJ0_isLatin1_aae02_6 (List.Mem.head _) ?_
  refine am_getf (f := 1) (v := .inl (am_gi (mh_G X) w t j 1)) dJ0_isLatin1_aae02_7 hc_11 (by decide) wd_2464 ht hk rfl ?_
  rw [hc]
  refine am_ifne (tgt := 17) dJ0_isLatin1_aae02_10 (by decide) (fun c => absurd rfl c) (fun _ => ?_)
  refine am_iconst dJ0_isLatin1_aae02_13 (by unfold am_rg; omega) ?_
  refine am_goto (tgt := 18) dJ0_isLatin1_aae02_14 (by decide) ?_
  exact am_ret (r := some (.inl 1)) dJ0_isLatin1_aae02_18 (Or.inr (Or.inl ⟨rfl, Or.inr rfl⟩)) rfl K
theorem pJ0_length {d kc ks : Nat} {Q : Option am_V → am_W → Prop} {w : am_W} {t j tv jv n : Nat} (hX : mh_st X r) (hS : mh_S X w t j tv jv n) (K : Q (some (.inl (n : Int))) w) : am_M (mh_G X) SC (d + 2) kc ks mJ0_length_8abf5 [.inr (.inr (some (t, j)))] w Q := by
  have hS0 := hS
  obtain ⟨⟨ht, hk, hv, hc⟩, htv, hk2, hn, h31⟩ := hS
  refine am_M_of (by decide) (Nat.le_of_ble_eq_true rfl) ?_
  refine am_aload_n dJ0_length_8abf5_0 (List.Mem.head _) ?_
  refine am_getf (f := 0) (v := .inr (.inr (am_gr (mh_G X) w t j 0))) dJ0_length_8abf5_1 hc_11 (by decide) wd_2463 ht hk rfl ?_
  rw [hv]
  refine am_alen (kd := 3) (v := (n : Int)) dJ0_length_8abf5_4 htv hk2 (by decide) (by rw [hn]) (by unfold am_rg; omega) ?_
  refine am_aload_n dJ0_length_8abf5_5 (List.Mem.head _) ?_
  refine am_callv (d' := d + 1) (kc := 0) (ks := 0) (as := []) dJ0_length_8abf5_6 wc_J0_coder_7d493 wd_725 wd_726 wd_727 wd_124 ds_J0_coder_7d493 (by decide) (by omega) (Nat.le_of_ble_eq_true rfl) (Nat.zero_le _) (Nat.zero_le _) hc_11 ht hk rfl (pJ0_coder hX hS0 ?_)
  refine am_ishr dJ0_length_8abf5_9 ?_
  rw [show am_shr (n : Int) 0 = (n : Int) from by have := ab_shr (a := n) (k := 0) h31 (by decide); rw [Nat.pow_zero, Nat.div_one] at this; exact this]
  exact am_ret (r := some (.inl (n : Int))) dJ0_length_8abf5_10 (Or.inl rfl) rfl K
theorem pJ3_checkIndex {d kc ks : Nat} {Q : Option am_V → am_W → Prop} {w : am_W} {i n : Int} {f : Option am_I} (h0 : 0 ≤ i) (h1 : i < n) (K : Q (some (.inl i)) w) : am_M (mh_G X) SC (d + 1) kc ks mJ3_checkIndex_8e157 [.inl i, .inl n, .inr (.inr f)] w Q := by
  refine am_M_of (by decide) (Nat.le_of_ble_eq_true rfl) ?_
  refine am_iload_n dJ3_checkIndex_8e157_0 (List.Mem.head _) ?_
  refine am_iflt (tgt := 9) dJ3_checkIndex_8e157_1 (by decide) (fun c => absurd c (by omega)) (fun _ => ?_)
  refine am_iload_n dJ3_checkIndex_8e157_4 (List.Mem.head _) ?_
  refine am_iload_n dJ3_checkIndex_8e157_5 (List.Mem.tail _ (List.Mem.head _)) ?_
  refine am_icmplt (tgt := 16) dJ3_checkIndex_8e157_6 (by decide) (fun _ => ?_) (fun c => absurd h1 c)
  refine am_iload_n dJ3_checkIndex_8e157_16 (List.Mem.head _) ?_
  exact am_ret (r := some (.inl i)) dJ3_checkIndex_8e157_17 (Or.inl rfl) rfl K
theorem pJ0_checkIndex {d kc ks : Nat} {Q : Option am_V → am_W → Prop} {w : am_W} {i n : Int} (hX : mh_st X r) (h0 : 0 ≤ i) (h1 : i < n) (K : Q none w) : am_M (mh_G X) SC (d + 2) kc ks mJ0_checkIndex_df160 [.inl i, .inl n] w Q := by
  refine am_M_of (by decide) (Nat.le_of_ble_eq_true rfl) ?_
  refine am_iload_n dJ0_checkIndex_df160_0 (List.Mem.head _) ?_
  refine am_iload_n dJ0_checkIndex_df160_1 (List.Mem.tail _ (List.Mem.head _)) ?_
  refine am_gets (v := .inr (.inr r)) dJ0_checkIndex_df160_2 hX.2.1 wd_745 ?_
  refine am_calls (d' := d + 1) (kc := 0) (ks := 0) (as := [.inl i, .inl n, .inr (.inr r)]) dJ0_checkIndex_df160_5 wc_J3_checkIndex_8e157 wd_747 wd_748 wd_126 ds_J3_checkIndex_8e157 (by decide) (by omega) (Nat.le_of_ble_eq_true rfl) (Nat.zero_le _) (Nat.zero_le _) rfl (pJ3_checkIndex h0 h1 ?_)
  refine am_pop dJ0_checkIndex_df160_8 rfl ?_
  exact am_ret (r := none) dJ0_checkIndex_df160_9 rfl rfl K
theorem ab_chr : ∀ n : Nat, n < 128 → am_i2c (am_and (n : Int) 255) = (n : Int) := by decide +kernel
theorem pJ0_charAt {d kc ks : Nat} {Q : Option am_V → am_W → Prop} {w : am_W} {t j tv jv n : Nat} {i v : Int} (hX : mh_st X r) (hS : mh_S X w t j tv jv n) (h0 : 0 ≤ i) (h1 : i < n) (hv : am_gi (mh_G X) w tv jv i.toNat = v) (hv2 : 0 ≤ v ∧ v < 128) (K : Q (some (.inl v)) w) :
    am_M (mh_G X) SC (d + 4) kc ks mJ0_charAt_5068e [.inr (.inr (some (t, j))), .inl i] w Q := by
  have hS0 := hS
  obtain ⟨⟨ht, hk, hr, hc⟩, htv, hk2, hn, h31⟩ := hS
  obtain ⟨c, rfl⟩ := mh_nat hv2.1
  refine am_M_of (by decide) (Nat.le_of_ble_eq_true rfl) ?_
  refine am_aload_n dJ0_charAt_5068e_0 (List.Mem.head _) ?_
  refine am_callv (d' := d + 3) (kc := 0) (ks := 0) (as := []) dJ0_charAt_5068e_1 wc_J0_isLatin1_aae02 wd_735 wd_736 wd_737 wd_124 ds_J0_isLatin1_aae02 (by decide) (by omega) (Nat.le_of_ble_eq_true rfl) (Nat.zero_le _) (Nat.zero_le _) hc_11 ht hk rfl (pJ0_isLatin1 hX hS0 ?_)
  refine am_ifeq (tgt := 16) dJ0_charAt_5068e_4 (by decide) (fun c => absurd c (by decide)) (fun _ => ?_)
  refine am_aload_n dJ0_charAt_5068e_7 (List.Mem.head _) ?_
  refine am_getf (f := 0) (v := .inr (.inr (am_gr (mh_G X) w t j 0))) dJ0_charAt_5068e_8 hc_11 (by decide) wd_2463 ht hk rfl ?_
  rw [hr]
  refine am_iload_n dJ0_charAt_5068e_11 (List.Mem.tail _ (List.Mem.head _)) ?_
  refine am_calls (d' := d + 3) (kc := 0) (ks := 0) (as := [.inr (.inr (some (tv, jv))), .inl i]) dJ0_charAt_5068e_12 wc_J1_charAt_3b067 wd_739 wd_740 wd_125 ds_J1_charAt_3b067 (by decide) (by omega) (Nat.le_of_ble_eq_true rfl) (Nat.zero_le _) (Nat.zero_le _) rfl ?_
  refine am_M_of (by decide) (Nat.le_of_ble_eq_true rfl) ?_
  refine am_iload_n dJ1_charAt_3b067_0 (List.Mem.tail _ (List.Mem.head _)) ?_
  refine am_aload_n dJ1_charAt_3b067_1 (List.Mem.head _) ?_
  refine am_alen (kd := 3) (v := (n : Int)) dJ1_charAt_3b067_2 htv hk2 (by decide) (by rw [hn]) (by unfold am_rg; omega) ?_
  refine am_calls (d' := d + 2) (kc := 0) (ks := 0) (as := [.inl i, .inl (n : Int)]) dJ1_charAt_3b067_3 wc_J0_checkIndex_df160 wd_742 wd_743 wd_124 ds_J0_checkIndex_df160 (by decide) (by omega) (Nat.le_of_ble_eq_true rfl) (Nat.zero_le _) (Nat.zero_le _) rfl (pJ0_checkIndex hX h0 h1 ?_)
  refine am_aload_n dJ1_charAt_3b067_6 (List.Mem.head _) ?_
  refine am_iload_n dJ1_charAt_3b067_7 (List.Mem.tail _ (List.Mem.head _)) ?_
  refine am_baload (v := (c : Int)) dJ1_charAt_3b067_8 htv hk2 h0 (by rw [hn]; exact h1) hv ?_
  refine am_sipush dJ1_charAt_3b067_9 (by decide) (by unfold am_rg; omega) ?_
  refine am_iand dJ1_charAt_3b067_12 ?_
  refine am_i2cR dJ1_charAt_3b067_13 ?_
  rw [ab_chr c (by omega)]
  refine am_ret (r := some (.inl (c : Int))) dJ1_charAt_3b067_14 (Or.inr (Or.inr (Or.inl ⟨rfl, by omega, by omega⟩))) rfl ?_
  exact am_ret (r := some (.inl (c : Int))) dJ0_charAt_5068e_15 (Or.inr (Or.inr (Or.inl ⟨rfl, by omega, by omega⟩))) rfl K
/-- the constants -/
theorem mh_S_k {w : am_W} {j : Nat} (hj : j < 91) : mh_S X w 1000 j 1001 j (mh_tx.getD j []).length := by
  have l : ∀ j, j < 91 → (mh_tx.getD j []).length < 100 := by decide
  refine ⟨⟨by decide, rfl, rfl, rfl⟩, by decide, rfl, rfl, ?_⟩
  have := l j hj
  omega
