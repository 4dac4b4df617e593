-- STRINGBUILDER: append(int), toString
variable {SC : Nat → Nat} {X : mh_X} {r : Option am_I}
theorem pJ5_appendI {d kc ks : Nat} {Q : Option am_V → am_W → Prop} {w : am_W} {b v : Nat} {n : Int} (hPV : sb_PV) (hX : mh_st X r) (hn : 1 ≤ n ∧ n ≤ 999) (hB : sb_B w b v) (h3 : w.1 999 b 3 = 0)
    (K : ∀ w' : am_W, sb_f w w' → w'.2 = w.2 → sb_B w' b v → w'.1 999 b 3 = (sb_sz n : Int) → (∀ i, i < sb_sz n → w'.1 999 v i = (sb_ds n).getD i 0) → Q (some (.inr (.inr (some (999, b))))) w') : am_M (mh_G X) SC (d + 2) kc ks mJ5_append_c97b9 [.inr (.inr (some (999, b))), .inl n] w Q := by
  have hB0 := hB
  have hz := sb_sz_b (n := n)
  obtain ⟨⟨hb, hv, hc⟩, hv2, hbv⟩ := hB
  have hk : am_kd (mh_G X) w 999 b = 100 + 12 := hb
  have hk3 : am_kd (mh_G X) w 999 v = 3 := congrArg Prod.fst hv2
  have hl3 : am_ln (mh_G X) w 999 v = 16 := congrArg Prod.snd hv2
  refine am_M_of (by decide) (Nat.le_of_ble_eq_true rfl) ?_
  refine am_aload_n dJ5_append_c97b9_0 (by repeat (first | exact List.Mem.head _ | apply List.Mem.tail)) ?_
  refine am_getf (f := 3) (v := .inl 0) dJ5_append_c97b9_1 hc_12 (by decide) wd_2284 (by decide) hk (congrArg Sum.inl h3) ?_
  refine am_istore_n (ls' := [(2, .inl 0), (0, .inr (.inr (some (999, b)))), (1, .inl n)]) dJ5_append_c97b9_4 (by decide) rfl ?_
  refine am_iload_n dJ5_append_c97b9_5 (by repeat (first | exact List.Mem.head _ | apply List.Mem.tail)) ?_
  refine am_iload_n dJ5_append_c97b9_6 (by repeat (first | exact List.Mem.head _ | apply List.Mem.tail)) ?_
  refine am_calls (d' := d + 1) (kc := 0) (ks := 0) (as := [.inl n]) dJ5_append_c97b9_7 wc_J6_stringSize_0f7a4 wd_2399 wd_2400 wd_130 ds_J6_stringSize_0f7a4 (by decide) (by omega) (Nat.le_of_ble_eq_true rfl) (Nat.zero_le _) (Nat.zero_le _) rfl (pJ6_stringSize hn ?_)
  refine am_iadd dJ5_append_c97b9_10 ?_
  rw [show am_w (0 + (sb_sz n : Int)) = (sb_sz n : Int) by rw [am_w_id (by unfold am_rg; omega)]; omega]
  refine am_istore_n (ls' := [(3, .inl (sb_sz n : Int)), (2, .inl 0), (0, .inr (.inr (some (999, b)))), (1, .inl n)]) dJ5_append_c97b9_11 (by decide) rfl ?_
  refine am_aload_n dJ5_append_c97b9_12 (by repeat (first | exact List.Mem.head _ | apply List.Mem.tail)) ?_
  refine am_iload_n dJ5_append_c97b9_13 (by repeat (first | exact List.Mem.head _ | apply List.Mem.tail)) ?_
  refine am_callU (d' := d + 1) (kc := 0) (ks := 0) (as := [.inl (sb_sz n : Int)]) dJ5_append_c97b9_14 wc_J5_ensureCapacityInternal_d00df wd_2306 wd_2505 wd_2308 wc_J5_ensureCapacityInternal_d00df wd_2308 hPV.1 wd_131 ⟨⟨by decide, by decide⟩, ds_J5_ensureCapacityInternal_d00df.2.2⟩ (by decide) (by omega) (Nat.le_of_ble_eq_true rfl) (Nat.zero_le _) (Nat.zero_le _) hc_12 (by decide) hk rfl (pJ5_ensure (by omega) hB0 ?_)
  refine am_aload_n dJ5_append_c97b9_17 (by repeat (first | exact List.Mem.head _ | apply List.Mem.tail)) ?_
  refine am_callU (d' := d + 1) (kc := 0) (ks := 0) (as := []) dJ5_append_c97b9_18 wc_J5_isLatin1_aae02 wd_2337 wd_2339 wd_2338 wc_J5_isLatin1_aae02 wd_2338 (am_sel_in wd_2340) wd_131 ⟨⟨by decide, by decide⟩, ds_J5_isLatin1_aae02.2.2⟩ (by decide) (by omega) (Nat.le_of_ble_eq_true rfl) (Nat.zero_le _) (Nat.zero_le _) hc_12 (by decide) hk rfl (pJ5_isLatin1 hX hB0 ?_)
  refine am_ifeq (tgt := 37) dJ5_append_c97b9_21 (by decide) (fun c => absurd c (by decide)) (fun _ => ?_)
  refine am_iload_n dJ5_append_c97b9_24 (by repeat (first | exact List.Mem.head _ | apply List.Mem.tail)) ?_
  refine am_iload_n dJ5_append_c97b9_25 (by repeat (first | exact List.Mem.head _ | apply List.Mem.tail)) ?_
  refine am_aload_n dJ5_append_c97b9_26 (by repeat (first | exact List.Mem.head _ | apply List.Mem.tail)) ?_
  refine am_getf (f := 0) (v := .inr (.inr (some (999, v)))) dJ5_append_c97b9_27 hc_12 (by decide) wd_2281 (by decide) hk (congrArg (fun r => (.inr (.inr r) : am_V)) hv) ?_
  refine am_calls (d' := d + 1) (kc := 0) (ks := 0) (as := [.inl n, .inl (sb_sz n : Int), .inr (.inr (some (999, v)))]) dJ5_append_c97b9_30 wc_J6_getChars_ba4f3 wd_2402 wd_2403 wd_130 ds_J6_getChars_ba4f3 (by decide) (by omega) (Nat.le_of_ble_eq_true rfl) (Nat.zero_le _) (Nat.zero_le _) rfl (pJ6_getChars hX hn hv2 (fun w' f1 f2 f3 f4 => ?_))
  have hk' : am_kd (mh_G X) w' 999 b = 100 + 12 := by show (w'.2.2.2.1 b).1 = 112; rw [f2]; exact hb
  refine am_pop dJ5_append_c97b9_33 rfl ?_
  refine am_goto (tgt := 48) dJ5_append_c97b9_34 (by decide) ?_
  refine am_aload_n dJ5_append_c97b9_48 (by repeat (first | exact List.Mem.head _ | apply List.Mem.tail)) ?_
  refine am_iload_n dJ5_append_c97b9_49 (by repeat (first | exact List.Mem.head _ | apply List.Mem.tail)) ?_
  refine am_putf (f := 3) dJ5_append_c97b9_50 hc_12 (by decide) wd_2284 rfl (Or.inl rfl) (Or.inr rfl) hk' ?_
  refine am_aload_n dJ5_append_c97b9_53 (by repeat (first | exact List.Mem.head _ | apply List.Mem.tail)) ?_
  refine am_ret (r := some (.inr (.inr (some (999, b))))) dJ5_append_c97b9_54 ⟨_, rfl, Or.inl ⟨_, rfl⟩⟩ rfl (K _ (sb_f_t f1 sb_f_u) f2 ⟨⟨?_, ?_, ?_⟩, ?_, hbv⟩ ?_ (fun i hi => ?_))
  · show (w'.2.2.2.1 b).1 = 112; rw [f2]; exact hb
  · show w'.2.2.1 b 0 = _; rw [f2]; exact hv
  · dsimp only; rw [am_up_k (by decide), f3 b hbv]; exact hc
  · show w'.2.2.2.1 v = _; rw [f2]; exact hv2
  · dsimp only; rw [am_up_s]
  · dsimp only; rw [am_up_j (fun e => hbv e.symm)]; exact f4 i hi
theorem pJ4_appendI {d kc ks : Nat} {Q : Option am_V → am_W → Prop} {w : am_W} {b v : Nat} {n : Int} (hPV : sb_PV) (hX : mh_st X r) (hn : 1 ≤ n ∧ n ≤ 999) (hB : sb_B w b v) (h3 : w.1 999 b 3 = 0)
    (K : ∀ w' : am_W, sb_f w w' → w'.2 = w.2 → sb_B w' b v → w'.1 999 b 3 = (sb_sz n : Int) → (∀ i, i < sb_sz n → w'.1 999 v i = (sb_ds n).getD i 0) → Q (some (.inr (.inr (some (999, b))))) w') : am_M (mh_G X) SC (d + 3) kc ks mJ4_append_bf812 [.inr (.inr (some (999, b))), .inl n] w Q := by
  have hk : am_kd (mh_G X) w 999 b = 100 + 12 := hB.1.1
  refine am_M_of (by decide) (Nat.le_of_ble_eq_true rfl) ?_
  refine am_aload_n dJ4_append_bf812_0 (by repeat (first | exact List.Mem.head _ | apply List.Mem.tail)) ?_
  refine am_iload_n dJ4_append_bf812_1 (by repeat (first | exact List.Mem.head _ | apply List.Mem.tail)) ?_
  refine am_callSU (d' := d + 2) (kc := 0) (ks := 0) (as := [.inl n]) dJ4_append_bf812_2 wc_J5_append_c97b9 wd_2396 wd_2510 wd_2293 wd_2397 wd_131 ⟨by decide, ds_J5_append_c97b9.2.2⟩ (by decide) (by omega) (Nat.le_of_ble_eq_true rfl) (Nat.zero_le _) (Nat.zero_le _) hc_12 (by decide) hk rfl (pJ5_appendI hPV hX hn hB h3 (fun w' f1 f2 f3 f4 f5 => ?_))
  refine am_pop dJ4_append_bf812_5 rfl ?_
  refine am_aload_n dJ4_append_bf812_6 (by repeat (first | exact List.Mem.head _ | apply List.Mem.tail)) ?_
  exact am_ret (r := some (.inr (.inr (some (999, b))))) dJ4_append_bf812_7 ⟨_, rfl, Or.inl ⟨_, rfl⟩⟩ rfl (K w' f1 f2 f3 f4 f5)
theorem pJ7_checkLength {d kc ks : Nat} {Q : Option am_V → am_W → Prop} {w : am_W} {n : Int} (hn : 0 ≤ n) (K : Q none w) : am_M (mh_G X) SC (d + 1) kc ks mJ7_checkLength_df160 [.inl 0, .inl n] w Q := by
  refine am_M_of (by decide) (Nat.le_of_ble_eq_true rfl) ?_
  refine am_iload_n dJ7_checkLength_df160_0 (by repeat (first | exact List.Mem.head _ | apply List.Mem.tail)) ?_
  refine am_iload_n dJ7_checkLength_df160_1 (by repeat (first | exact List.Mem.head _ | apply List.Mem.tail)) ?_
  refine am_icmpge (tgt := 37) dJ7_checkLength_df160_2 (by decide) (fun _ => ?_) (fun c => absurd c (by omega))
  exact am_ret (r := none) dJ7_checkLength_df160_37 rfl rfl K
theorem pJ7_copyB {d kc ks : Nat} {Q : Option am_V → am_W → Prop} {w : am_W} {v n : Nat} (hv2 : w.2.2.2.1 v = (3, 16)) (hv : v < w.2.2.2.2) (hn : n ≤ 3) (hb : ∀ i, i < n → -128 ≤ w.1 999 v i ∧ w.1 999 v i < 128) (hkc : 1 ≤ kc) (hks : n ≤ ks) (K : Q (some (.inr (.inr (some (999, w.2.2.2.2))))) (am_cpw (mh_G X) (am_fr w 3 n) 999 v 0 w.2.2.2.2 0 n)) : am_M (mh_G X) SC (d + 2) kc ks mJ7_copyOfRangeByte_39247 [.inr (.inr (some (999, v))), .inl 0, .inl (n : Int)] w Q := by
  have e1 : (am_fr w 3 n).2.2.2.1 v = (3, 16) := (if_neg (by omega)).trans hv2
  have hk3 : am_kd (mh_G X) (am_fr w 3 n) 999 v = 3 := congrArg Prod.fst e1
  have hl3 : am_ln (mh_G X) (am_fr w 3 n) 999 v = 16 := congrArg Prod.snd e1
  have e3 : ∀ i, am_gi (mh_G X) (am_fr w 3 n) 999 v i = w.1 999 v i := fun i => by
    show (if 999 = 999 ∧ v = w.2.2.2.2 then 0 else w.1 999 v i) = _
    rw [if_neg (fun e => by omega)]
  refine am_M_of (by decide) (Nat.le_of_ble_eq_true rfl) ?_
  refine am_iload_n dJ7_copyOfRangeByte_39247_0 (by repeat (first | exact List.Mem.head _ | apply List.Mem.tail)) ?_
  refine am_iload_n dJ7_copyOfRangeByte_39247_1 (by repeat (first | exact List.Mem.head _ | apply List.Mem.tail)) ?_
  refine am_calls (d' := d + 1) (kc := 0) (ks := 0) (as := [.inl 0, .inl (n : Int)]) dJ7_copyOfRangeByte_39247_2 wc_J7_checkLength_df160 wd_2450 wd_2451 wd_134 ds_J7_checkLength_df160 (by decide) (by omega) (Nat.le_of_ble_eq_true rfl) (Nat.zero_le _) (Nat.zero_le _) rfl (pJ7_checkLength (by omega) ?_)
  refine am_iload_n dJ7_copyOfRangeByte_39247_5 (by repeat (first | exact List.Mem.head _ | apply List.Mem.tail)) ?_
  refine am_iload_n dJ7_copyOfRangeByte_39247_6 (by repeat (first | exact List.Mem.head _ | apply List.Mem.tail)) ?_
  refine am_isub dJ7_copyOfRangeByte_39247_7 ?_
  rw [show am_w ((n : Int) - 0) = (n : Int) by rw [am_w_id (by unfold am_rg; omega)]; omega]
  refine am_istore_n (ls' := [(3, .inl (n : Int)), (0, .inr (.inr (some (999, v)))), (1, .inl 0), (2, .inl (n : Int))]) dJ7_copyOfRangeByte_39247_8 (by decide) rfl ?_
  refine am_iload_n dJ7_copyOfRangeByte_39247_9 (by repeat (first | exact List.Mem.head _ | apply List.Mem.tail)) ?_
  refine am_newarr (kd := 3) (ln := n) dJ7_copyOfRangeByte_39247_10 rfl (by decide) wd_916 rfl (by omega) (by omega) (by omega) ?_
  refine am_astore (ls' := [(4, .inr (.inr (some (999, w.2.2.2.2)))), (3, .inl (n : Int)), (0, .inr (.inr (some (999, v)))), (1, .inl 0), (2, .inl (n : Int))]) dJ7_copyOfRangeByte_39247_12 (by decide) rfl ?_
  refine am_aload_n dJ7_copyOfRangeByte_39247_14 (by repeat (first | exact List.Mem.head _ | apply List.Mem.tail)) ?_
  refine am_iload_n dJ7_copyOfRangeByte_39247_15 (by repeat (first | exact List.Mem.head _ | apply List.Mem.tail)) ?_
  refine am_aload dJ7_copyOfRangeByte_39247_16 (by repeat (first | exact List.Mem.head _ | apply List.Mem.tail)) ?_
  refine am_iconst dJ7_copyOfRangeByte_39247_18 (by unfold am_rg; omega) ?_
  refine am_aload_n dJ7_copyOfRangeByte_39247_19 (by repeat (first | exact List.Mem.head _ | apply List.Mem.tail)) ?_
  refine am_alen (kd := 3) (v := 16) dJ7_copyOfRangeByte_39247_20 (by decide) hk3 (by decide) (by rw [hl3]; rfl) (by unfold am_rg; omega) ?_
  refine am_iload_n dJ7_copyOfRangeByte_39247_21 (by repeat (first | exact List.Mem.head _ | apply List.Mem.tail)) ?_
  refine am_isub dJ7_copyOfRangeByte_39247_22 ?_
  rw [show am_w (16 - 0) = 16 by decide]
  refine am_iload_n dJ7_copyOfRangeByte_39247_23 (by repeat (first | exact List.Mem.head _ | apply List.Mem.tail)) ?_
  refine am_mmin dJ7_copyOfRangeByte_39247_24 wd_2333 (by omega) (Nat.le_of_ble_eq_true rfl) ?_
  rw [show min (16 : Int) (n : Int) = (n : Int) by omega]
  refine am_copyb (t0 := 999) (j0 := v) (j := w.2.2.2.2) (sp := 0) (dp := 0) (n := n) dJ7_copyOfRangeByte_39247_27 wd_2334 wd_2336 wd_2335 wd_135 (by omega) (Nat.le_of_ble_eq_true rfl) (by decide) hk3 am_fr_kd (by rw [hl3]; omega) (by rw [am_fr_ln]; omega) (fun i hi => by rw [e3, Nat.zero_add]; exact hb i hi) ?_
  refine am_aload dJ7_copyOfRangeByte_39247_30 (by repeat (first | exact List.Mem.head _ | apply List.Mem.tail)) ?_
  exact am_ret (r := some (.inr (.inr (some (999, w.2.2.2.2))))) dJ7_copyOfRangeByte_39247_32 ⟨_, rfl, Or.inr ⟨_, rfl⟩⟩ rfl K
theorem pJ7_copy {d kc ks : Nat} {Q : Option am_V → am_W → Prop} {w : am_W} {v n : Nat} (hv2 : w.2.2.2.1 v = (3, 16)) (hv : v < w.2.2.2.2) (hn : n ≤ 3) (hb : ∀ i, i < n → -128 ≤ w.1 999 v i ∧ w.1 999 v i < 128) (hkc : 1 ≤ kc) (hks : n ≤ ks) (K : Q (some (.inr (.inr (some (999, w.2.2.2.2))))) (am_cpw (mh_G X) (am_fr w 3 n) 999 v 0 w.2.2.2.2 0 n)) : am_M (mh_G X) SC (d + 3) kc ks mJ7_copyOfRange_39247 [.inr (.inr (some (999, v))), .inl 0, .inl (n : Int)] w Q := by
  have hk3 : am_kd (mh_G X) w 999 v = 3 := congrArg Prod.fst hv2
  have hl3 : am_ln (mh_G X) w 999 v = 16 := congrArg Prod.snd hv2
  refine am_M_of (by decide) (Nat.le_of_ble_eq_true rfl) ?_
  refine am_iload_n dJ7_copyOfRange_39247_0 (by repeat (first | exact List.Mem.head _ | apply List.Mem.tail)) ?_
  refine am_ifne (tgt := 10) dJ7_copyOfRange_39247_1 (by decide) (fun c => absurd rfl c) (fun _ => ?_)
  refine am_iload_n dJ7_copyOfRange_39247_4 (by repeat (first | exact List.Mem.head _ | apply List.Mem.tail)) ?_
  refine am_aload_n dJ7_copyOfRange_39247_5 (by repeat (first | exact List.Mem.head _ | apply List.Mem.tail)) ?_
  refine am_alen (kd := 3) (v := 16) dJ7_copyOfRange_39247_6 (by decide) hk3 (by decide) (by rw [hl3]; rfl) (by unfold am_rg; omega) ?_
  refine am_icmpeq (tgt := 17) dJ7_copyOfRange_39247_7 (by decide) (fun c => absurd c (by omega)) (fun _ => ?_)
  refine am_aload_n dJ7_copyOfRange_39247_10 (by repeat (first | exact List.Mem.head _ | apply List.Mem.tail)) ?_
  refine am_iload_n dJ7_copyOfRange_39247_11 (by repeat (first | exact List.Mem.head _ | apply List.Mem.tail)) ?_
  refine am_iload_n dJ7_copyOfRange_39247_12 (by repeat (first | exact List.Mem.head _ | apply List.Mem.tail)) ?_
  refine am_calls (d' := d + 2) (kc := 1) (ks := n) (as := [.inr (.inr (some (999, v))), .inl 0, .inl (n : Int)]) dJ7_copyOfRange_39247_13 wc_J7_copyOfRangeByte_39247 wd_2447 wd_2448 wd_134 ds_J7_copyOfRangeByte_39247 (by decide) (by omega) (Nat.le_of_ble_eq_true rfl) hkc hks rfl (pJ7_copyB hv2 hv hn hb (Nat.le_refl _) (Nat.le_refl _) ?_)
  exact am_ret (r := some (.inr (.inr (some (999, w.2.2.2.2))))) dJ7_copyOfRange_39247_16 ⟨_, rfl, Or.inr ⟨_, rfl⟩⟩ rfl K
theorem pJ0_init2 {d kc ks : Nat} {Q : Option am_V → am_W → Prop} {w : am_W} {b v : Nat} {s n : Nat} (hPV : sb_PV) (hX : mh_st X r) (hB : sb_B w b v) (h3 : w.1 999 b 3 = (n : Int)) (hn : n ≤ 3) (hs : (w.2.2.2.1 s).1 = 111) (hlt : v < w.2.2.2.2 ∧ s < w.2.2.2.2) (hb8 : ∀ i, i < n → -128 ≤ w.1 999 v i ∧ w.1 999 v i < 128) (hkc : 1 ≤ kc) (hks : n ≤ ks) (K : Q none (am_upr (am_cpw (mh_G X) (am_fr (am_up w.1 999 s 1 0, w.2) 3 n) 999 v 0 w.2.2.2.2 0 n) s 0 (some (999, w.2.2.2.2)))) : am_M (mh_G X) SC (d + 4) kc ks mJ0_init_db425 [.inr (.inr (some (999, s))), .inr (.inr (some (999, b))), .inr (.inr none)] w Q := by
  have hB0 := hB
  obtain ⟨⟨hb, hv, hc⟩, hv2, hbv⟩ := hB
  have hk : am_kd (mh_G X) w 999 b = 100 + 12 := hb
  have hk3 : am_kd (mh_G X) w 999 v = 3 := congrArg Prod.fst hv2
  have hl3 : am_ln (mh_G X) w 999 v = 16 := congrArg Prod.snd hv2
  have hks2 : am_kd (mh_G X) w 999 s = 100 + 11 := hs
  have hvs : ¬ v = s := fun e => by rw [e] at hv2; rw [hv2] at hs; exact absurd hs (by decide)
  refine am_M_of (by decide) (Nat.le_of_ble_eq_true rfl) ?_
  refine am_aload_n dJ0_init_db425_0 (by repeat (first | exact List.Mem.head _ | apply List.Mem.tail)) ?_
  refine am_objinit dJ0_init_db425_1 wd_2429 wd_142 wd_143 (by omega) (Nat.le_of_ble_eq_true rfl) ?_
  refine am_aload_n dJ0_init_db425_4 (by repeat (first | exact List.Mem.head _ | apply List.Mem.tail)) ?_
  refine am_callU (d' := d + 3) (kc := 0) (ks := 0) (as := []) dJ0_init_db425_5 wc_J5_getValue_6d5f1 wd_2430 wd_2432 wd_2431 wc_J5_getValue_6d5f1 wd_2431 (am_sel_in wd_2433) wd_131 ⟨⟨by decide, by decide⟩, ds_J5_getValue_6d5f1.2.2⟩ (by decide) (by omega) (Nat.le_of_ble_eq_true rfl) (Nat.zero_le _) (Nat.zero_le _) hc_12 (by decide) hk rfl (pJ5_getValue hB0 ?_)
  refine am_astore_n (ls' := [(3, .inr (.inr (some (999, v)))), (0, .inr (.inr (some (999, s)))), (1, .inr (.inr (some (999, b)))), (2, .inr (.inr none))]) dJ0_init_db425_8 (by decide) rfl ?_
  refine am_aload_n dJ0_init_db425_9 (by repeat (first | exact List.Mem.head _ | apply List.Mem.tail)) ?_
  refine am_callU (d' := d + 3) (kc := 0) (ks := 0) (as := []) dJ0_init_db425_10 wc_J4_length_8abf5 wd_2435 wd_2437 wd_2436 wc_J5_length_8abf5 wd_2439 (am_sel_in wd_2438) wd_132 ⟨⟨by decide, by decide⟩, ds_J5_length_8abf5.2.2⟩ (by decide) (by omega) (Nat.le_of_ble_eq_true rfl) (Nat.zero_le _) (Nat.zero_le _) hc_12 (by decide) hk rfl (pJ4_length (d := d + 1) hB0 ?_)
  rw [h3]
  refine am_istore (ls' := [(4, .inl (n : Int)), (3, .inr (.inr (some (999, v)))), (0, .inr (.inr (some (999, s)))), (1, .inr (.inr (some (999, b)))), (2, .inr (.inr none))]) dJ0_init_db425_13 (by decide) rfl ?_
  refine am_aload_n dJ0_init_db425_15 (by repeat (first | exact List.Mem.head _ | apply List.Mem.tail)) ?_
  refine am_callU (d' := d + 3) (kc := 0) (ks := 0) (as := []) dJ0_init_db425_16 wc_J5_isLatin1_aae02 wd_2443 wd_2339 wd_2338 wc_J5_isLatin1_aae02 wd_2338 (am_sel_in wd_2340) wd_131 ⟨⟨by decide, by decide⟩, ds_J5_isLatin1_aae02.2.2⟩ (by decide) (by omega) (Nat.le_of_ble_eq_true rfl) (Nat.zero_le _) (Nat.zero_le _) hc_12 (by decide) hk rfl (pJ5_isLatin1 hX hB0 ?_)
  refine am_ifeq (tgt := 41) dJ0_init_db425_19 (by decide) (fun c => absurd c (by decide)) (fun _ => ?_)
  refine am_aload_n dJ0_init_db425_22 (by repeat (first | exact List.Mem.head _ | apply List.Mem.tail)) ?_
  refine am_iconst dJ0_init_db425_23 (by unfold am_rg; omega) ?_
  refine am_putfF (f := 1) dJ0_init_db425_24 hc_11 (by decide) wd_2464 rfl rfl rfl (Or.inr (Or.inr ⟨rfl, by decide, by decide⟩)) (Or.inr rfl) hks2 ?_
  refine am_aload_n dJ0_init_db425_27 (by repeat (first | exact List.Mem.head _ | apply List.Mem.tail)) ?_
  refine am_aload_n dJ0_init_db425_28 (by repeat (first | exact List.Mem.head _ | apply List.Mem.tail)) ?_
  refine am_iconst dJ0_init_db425_29 (by unfold am_rg; omega) ?_
  refine am_iload dJ0_init_db425_30 (by repeat (first | exact List.Mem.head _ | apply List.Mem.tail)) ?_
  refine am_calls (d' := d + 3) (kc := 1) (ks := n) (as := [.inr (.inr (some (999, v))), .inl 0, .inl (n : Int)]) dJ0_init_db425_32 wc_J7_copyOfRange_39247 wd_2444 wd_2445 wd_134 ds_J7_copyOfRange_39247 (by decide) (by omega) (Nat.le_of_ble_eq_true rfl) (by omega) (by omega) rfl (pJ7_copy hv2 hlt.1 hn (fun i hi => by dsimp only; rw [am_up_j hvs]; exact hb8 i hi) (Nat.le_refl _) (Nat.le_refl _) ?_)
  refine am_putr (f := 0) dJ0_init_db425_35 hc_11 (by decide) wd_2463 (Or.inr ⟨rfl, rfl, rfl⟩) rfl (by show ((if s = w.2.2.2.2 then _ else w.2.2.2.1 s : Nat × Nat)).1 = 111; rw [if_neg (by omega)]; exact hs) ?_
  refine am_goto (tgt := 97) dJ0_init_db425_38 (by decide) ?_
  exact am_ret (r := none) dJ0_init_db425_97 rfl rfl K
theorem pJ0_init1 {d kc ks : Nat} {Q : Option am_V → am_W → Prop} {w : am_W} {b v : Nat} {s n : Nat} (hPV : sb_PV) (hX : mh_st X r) (hB : sb_B w b v) (h3 : w.1 999 b 3 = (n : Int)) (hn : n ≤ 3) (hs : (w.2.2.2.1 s).1 = 111) (hlt : v < w.2.2.2.2 ∧ s < w.2.2.2.2) (hb8 : ∀ i, i < n → -128 ≤ w.1 999 v i ∧ w.1 999 v i < 128) (hkc : 1 ≤ kc) (hks : n ≤ ks) (K : Q none (am_upr (am_cpw (mh_G X) (am_fr (am_up w.1 999 s 1 0, w.2) 3 n) 999 v 0 w.2.2.2.2 0 n) s 0 (some (999, w.2.2.2.2)))) : am_M (mh_G X) SC (d + 5) kc ks mJ0_init_81219 [.inr (.inr (some (999, s))), .inr (.inr (some (999, b)))] w Q := by
  refine am_M_of (by decide) (Nat.le_of_ble_eq_true rfl) ?_
  refine am_aload_n dJ0_init_81219_0 (by repeat (first | exact List.Mem.head _ | apply List.Mem.tail)) ?_
  refine am_aload_n dJ0_init_81219_1 (by repeat (first | exact List.Mem.head _ | apply List.Mem.tail)) ?_
  refine am_null dJ0_init_81219_2 ?_
  refine am_calli (d' := d + 4) (kc := 1) (ks := n) (as := [.inr (.inr (some (999, b))), .inr (.inr none)]) dJ0_init_81219_3 wc_J0_init_db425 wd_2426 wd_2427 rfl rfl wd_124 ds_J0_init_db425 (by decide) (by omega) (Nat.le_of_ble_eq_true rfl) hkc hks rfl (pJ0_init2 hPV hX hB h3 hn hs hlt hb8 (Nat.le_refl _) (Nat.le_refl _) ?_)
  exact am_ret (r := none) dJ0_init_81219_6 rfl rfl K
theorem pJ4_toString {d kc ks : Nat} {Q : Option am_V → am_W → Prop} {w : am_W} {b v : Nat} {n : Nat} (hPV : sb_PV) (hX : mh_st X r) (hB : sb_B w b v) (h3 : w.1 999 b 3 = (n : Int)) (hn : n ≤ 3) (hlt : b < w.2.2.2.2 ∧ v < w.2.2.2.2) (hb8 : ∀ i, i < n → 0 ≤ w.1 999 v i ∧ w.1 999 v i < 128) (hkc : 2 ≤ kc) (hks : 4 + n ≤ ks)
    (K : ∀ w' : am_W, sb_f w w' → mh_S X w' 999 w.2.2.2.2 999 (w.2.2.2.2 + 1) n → (∀ i, i < n → am_gi (mh_G X) w' 999 (w.2.2.2.2 + 1) i = w.1 999 v i) → w'.2.2.2.2 = w.2.2.2.2 + 2 → Q (some (.inr (.inr (some (999, w.2.2.2.2))))) w') : am_M (mh_G X) SC (d + 6) kc ks mJ4_toString_0e30d [.inr (.inr (some (999, b)))] w Q := by
  have eK : ∀ j, ¬ j = w.2.2.2.2 → (am_fr w (100 + 11) 0).2.2.2.1 j = w.2.2.2.1 j := fun j hj => if_neg hj
  have eR : ∀ j k, ¬ j = w.2.2.2.2 → (am_fr w (100 + 11) 0).2.2.1 j k = w.2.2.1 j k := fun j k hj => if_neg hj
  have eI : ∀ j k, ¬ j = w.2.2.2.2 → (am_fr w (100 + 11) 0).1 999 j k = w.1 999 j k := fun j k hj => if_neg (fun e => hj e.2)
  have hB1 : sb_B (am_fr w (100 + 11) 0) b v := by
    obtain ⟨⟨hb, hv, hc⟩, hv2, hbv⟩ := hB
    refine ⟨⟨?_, ?_, ?_⟩, ?_, hbv⟩
    · rw [eK b (by omega)]; exact hb
    · rw [eR b 0 (by omega)]; exact hv
    · rw [eI b 1 (by omega)]; exact hc
    · rw [eK v (by omega)]; exact hv2
  refine am_M_of (by decide) (Nat.le_of_ble_eq_true rfl) ?_
  refine am_newS (n := 4) dJ4_toString_0e30d_0 hc_11 wd_2421 wd_2422 wd_124 (by omega) (by omega) ?_
  refine am_dup dJ4_toString_0e30d_3 rfl ?_
  refine am_aload_n dJ4_toString_0e30d_4 (by repeat (first | exact List.Mem.head _ | apply List.Mem.tail)) ?_
  refine am_calli (d' := d + 5) (kc := 1) (ks := n) (as := [.inr (.inr (some (999, b)))]) dJ4_toString_0e30d_5 wc_J0_init_81219 wd_2423 wd_2424 rfl rfl wd_124 ds_J0_init_81219 (by decide) (by omega) (Nat.le_of_ble_eq_true rfl) (by omega) (by omega) rfl (pJ0_init1 hPV hX hB1 (by rw [eI b 3 (by omega)]; exact h3) hn (by show ((if w.2.2.2.2 = w.2.2.2.2 then (111, 0) else w.2.2.2.1 w.2.2.2.2 : Nat × Nat)).1 = 111; rw [if_pos rfl]) ⟨Nat.lt_succ_of_lt hlt.2, Nat.lt_succ_self _⟩ (fun i hi => by have h8 := hb8 i hi; rw [eI v i (by omega)]; omega) (Nat.le_refl _) (Nat.le_refl _) ?_)
  refine am_ret (r := some (.inr (.inr (some (999, w.2.2.2.2))))) dJ4_toString_0e30d_8 ⟨_, rfl, Or.inl ⟨_, rfl⟩⟩ rfl (K _ (sb_f_t (sb_f_t (sb_f_t (sb_f_t sb_f_n sb_f_u) sb_f_n) sb_f_c) sb_f_p) ⟨⟨by decide, ?_, ?_, ?_⟩, by decide, ?_, ?_, by omega⟩ (fun i hi => ?_) rfl)
  · simp [am_kd, am_upr, am_cpw, am_fr]
  · simp [am_gr, am_upr, am_fr]
  · simp [am_gi, am_upr, am_cpw, am_fr, am_up]
  · simp [am_kd, am_upr, am_cpw, am_fr]
  · simp [am_ln, am_upr, am_cpw, am_fr]
  · have hne : ¬ v = w.2.2.2.2 := by omega
    have hne2 : ¬ v = w.2.2.2.2 + 1 := by omega
    simp [am_gi, am_upr, am_cpw, am_fr, am_up, hi, hne, hne2]
