-- STRINGBUILDER: made, an empty String appended
variable {SC : Nat → Nat} {X : mh_X} {r : Option am_I}
section AMG3
variable {G : am_G} {SC : Nat → Nat} {d : Nat} {Y : am_Y} {Q : Option am_V → am_W → Prop} {pc bc bs : Nat} {ls : List (Nat × am_V)} {st : List am_V} {w : am_W}
theorem am_ineg {x : Int} (hd : decode Y.2.1 pc = .ok (.ineg, 1)) (k : am_A G SC d Y Q (pc + 1) ls (.inl (am_w (-x)) :: st) w bc bs) : am_A G SC d Y Q pc ls (.inl x :: st) w bc bs := by
  intro p l e R s m args below meth c H locs cells slots QQ Dg cI ad A lsA ad0 w0 hX hH hg h1 h2 hl ho hs hR
  refine lv_ineg hX.1 hX.2.1 hd ?_
  rw [show -Int32.ofInt x = Int32.ofInt (am_w (-x)) by rw [am_ofw, Int32.ofInt_neg]]
  exact k p l e R s m args below meth c H locs cells slots QQ Dg cI ad A lsA ad0 w0 hX hH hg h1 h2 hl ho (am_oc (am_w_rg _) (am_o2 hs)) hR
theorem am_cpw_0 {t0 j0 sp j dp : Nat} : am_cpw G w t0 j0 sp j dp 0 = w := by
  unfold am_cpw
  have : (fun t a k => if t = 999 ∧ a = j ∧ dp ≤ k ∧ k < dp + 0 then am_gi G w t0 j0 (sp + (k - dp)) else w.1 t a k) = w.1 := by
    funext t a k
    exact if_neg (fun e => by omega)
  rw [this]
end AMG3
def sb_f (w w' : am_W) : Prop := (∀ t, ¬ t = 999 → w'.1 t = w.1 t) ∧ ∀ t, ¬ t = 999 → w'.2.1 t = w.2.1 t
theorem sb_f_r {w : am_W} : sb_f w w := ⟨fun _ _ => rfl, fun _ _ => rfl⟩
theorem sb_f_t {a b c : am_W} (h : sb_f a b) (g : sb_f b c) : sb_f a c := ⟨fun t ht => (g.1 t ht).trans (h.1 t ht), fun t ht => (g.2 t ht).trans (h.2 t ht)⟩
theorem sb_f_u {w : am_W} {j k : Nat} {v : Int} : sb_f w (am_up w.1 999 j k v, w.2) := ⟨fun t ht => am_up_t ht, fun _ _ => rfl⟩
theorem sb_f_n {w : am_W} {kd ln : Nat} : sb_f w (am_fr w kd ln) := ⟨fun t ht => by funext a b; exact if_neg (fun e => ht e.1), fun t ht => by funext a b; exact if_neg (fun e => ht e.1)⟩
theorem sb_f_p {w : am_W} {j k : Nat} {r : Option am_I} : sb_f w (am_upr w j k r) := ⟨fun _ _ => rfl, fun _ _ => rfl⟩
theorem sb_f_c {G : am_G} {w : am_W} {t0 j0 sp j dp n : Nat} : sb_f w (am_cpw G w t0 j0 sp j dp n) := ⟨fun t ht => by funext a b; exact if_neg (fun e => ht e.1), fun _ _ => rfl⟩
/-- the private methods of a builder are those that are selected -/
def sb_PV : Prop := am_sel "java/lang/StringBuilder" mJ5_ensureCapacityInternal_d00df.1 mJ5_ensureCapacityInternal_d00df.1 ∧ am_sel "java/lang/StringBuilder" mJ5_putStringAt_47b60.1 mJ5_putStringAt_47b60.1 ∧ am_sel "java/lang/StringBuilder" mJ5_inflateIfNeededFor_a7421.1 mJ5_inflateIfNeededFor_a7421.1
/-- a builder b whose bytes are v -/
def sb_B (w : am_W) (b v : Nat) : Prop := ((w.2.2.2.1 b).1 = 112 ∧ w.2.2.1 b 0 = some (999, v) ∧ w.1 999 b 1 = 0) ∧ w.2.2.2.1 v = (3, 16) ∧ ¬ b = v
theorem pJ5_isLatin1 {d kc ks : Nat} {Q : Option am_V → am_W → Prop} {w : am_W} {b v : Nat} (hX : mh_st X r) (hB : sb_B w b v) (K : Q (some (.inl 1)) w) : am_M (mh_G X) SC (d + 1) kc ks mJ5_isLatin1_aae02 [.inr (.inr (some (999, b)))] w Q := by
  obtain ⟨⟨hb, hv, hc⟩, hv2, hbv⟩ := hB
  have hk : am_kd (mh_G X) w 999 b = 100 + 12 := hb
  have hk3 : am_kd (mh_G X) w 999 v = 3 := congrArg Prod.fst hv2
  have hl3 : am_ln (mh_G X) w 999 v = 16 := congrArg Prod.snd hv2
  refine am_M_of (by decide) (Nat.le_of_ble_eq_true rfl) ?_
  refine am_gets (v := .inl 1) dJ5_isLatin1_aae02_0 hX.1 wd_2273 ?_
  refine am_ifeq (tgt := 17) dJ5_isLatin1_aae02_3 (by decide) (fun c => absurd c (by decide)) (fun _ => ?_)
  refine am_aload_n dJ5_isLatin1_aae02_6 (by repeat (first | exact List.Mem.head _ | apply List.Mem.tail)) ?_
  refine am_getf (f := 1) (v := .inl 0) dJ5_isLatin1_aae02_7 hc_12 (by decide) wd_2282 (by decide) hk (congrArg Sum.inl hc) ?_
  refine am_ifne (tgt := 17) dJ5_isLatin1_aae02_10 (by decide) (fun c => absurd rfl c) (fun _ => ?_)
  refine am_iconst dJ5_isLatin1_aae02_13 (by unfold am_rg; omega) ?_
  refine am_goto (tgt := 18) dJ5_isLatin1_aae02_14 (by decide) ?_
  exact am_ret (r := some (.inl 1)) dJ5_isLatin1_aae02_18 (Or.inr (Or.inl ⟨rfl, Or.inr rfl⟩)) rfl K
theorem pJ5_getValue {d kc ks : Nat} {Q : Option am_V → am_W → Prop} {w : am_W} {b v : Nat} (hB : sb_B w b v) (K : Q (some (.inr (.inr (some (999, v))))) w) : am_M (mh_G X) SC (d + 1) kc ks mJ5_getValue_6d5f1 [.inr (.inr (some (999, b)))] w Q := by
  obtain ⟨⟨hb, hv, hc⟩, hv2, hbv⟩ := hB
  have hk : am_kd (mh_G X) w 999 b = 100 + 12 := hb
  have hk3 : am_kd (mh_G X) w 999 v = 3 := congrArg Prod.fst hv2
  have hl3 : am_ln (mh_G X) w 999 v = 16 := congrArg Prod.snd hv2
  refine am_M_of (by decide) (Nat.le_of_ble_eq_true rfl) ?_
  refine am_aload_n dJ5_getValue_6d5f1_0 (by repeat (first | exact List.Mem.head _ | apply List.Mem.tail)) ?_
  refine am_getf (f := 0) (v := .inr (.inr (some (999, v)))) dJ5_getValue_6d5f1_1 hc_12 (by decide) wd_2281 (by decide) hk (congrArg (fun r => (.inr (.inr r) : am_V)) hv) ?_
  exact am_ret (r := some (.inr (.inr (some (999, v))))) dJ5_getValue_6d5f1_4 ⟨_, rfl, Or.inr ⟨_, rfl⟩⟩ rfl K
theorem pJ5_length {d kc ks : Nat} {Q : Option am_V → am_W → Prop} {w : am_W} {b v : Nat} (hB : sb_B w b v) (K : Q (some (.inl (w.1 999 b 3))) w) : am_M (mh_G X) SC (d + 1) kc ks mJ5_length_8abf5 [.inr (.inr (some (999, b)))] w Q := by
  obtain ⟨⟨hb, hv, hc⟩, hv2, hbv⟩ := hB
  have hk : am_kd (mh_G X) w 999 b = 100 + 12 := hb
  have hk3 : am_kd (mh_G X) w 999 v = 3 := congrArg Prod.fst hv2
  have hl3 : am_ln (mh_G X) w 999 v = 16 := congrArg Prod.snd hv2
  refine am_M_of (by decide) (Nat.le_of_ble_eq_true rfl) ?_
  refine am_aload_n dJ5_length_8abf5_0 (by repeat (first | exact List.Mem.head _ | apply List.Mem.tail)) ?_
  refine am_getf (f := 3) (v := .inl (w.1 999 b 3)) dJ5_length_8abf5_1 hc_12 (by decide) wd_2284 (by decide) hk rfl ?_
  exact am_ret (r := some (.inl (w.1 999 b 3))) dJ5_length_8abf5_4 (Or.inl rfl) rfl K
theorem pJ4_length {d kc ks : Nat} {Q : Option am_V → am_W → Prop} {w : am_W} {b v : Nat} (hB : sb_B w b v) (K : Q (some (.inl (w.1 999 b 3))) w) : am_M (mh_G X) SC (d + 2) kc ks mJ4_length_8abf5 [.inr (.inr (some (999, b)))] w Q := by
  have hk : am_kd (mh_G X) w 999 b = 100 + 12 := hB.1.1
  refine am_M_of (by decide) (Nat.le_of_ble_eq_true rfl) ?_
  refine am_aload_n dJ4_length_8abf5_0 (by repeat (first | exact List.Mem.head _ | apply List.Mem.tail)) ?_
  refine am_callSU (d' := d + 1) (kc := 0) (ks := 0) (as := []) dJ4_length_8abf5_1 wc_J5_length_8abf5 wd_2441 wd_2437 wd_2293 wd_2436 wd_131 ⟨by decide, ds_J5_length_8abf5.2.2⟩ (by decide) (by omega) (Nat.le_of_ble_eq_true rfl) (Nat.zero_le _) (Nat.zero_le _) hc_12 (by decide) hk rfl (pJ5_length hB ?_)
  exact am_ret (r := some (.inl (w.1 999 b 3))) dJ4_length_8abf5_4 (Or.inl rfl) rfl K
theorem pJ5_ensure {d kc ks : Nat} {Q : Option am_V → am_W → Prop} {w : am_W} {b v : Nat} {n : Int} (hn : 0 ≤ n ∧ n ≤ 16) (hB : sb_B w b v) (K : Q none w) : am_M (mh_G X) SC (d + 1) kc ks mJ5_ensureCapacityInternal_d00df [.inr (.inr (some (999, b))), .inl n] w Q := by
  obtain ⟨⟨hb, hv, hc⟩, hv2, hbv⟩ := hB
  have hk : am_kd (mh_G X) w 999 b = 100 + 12 := hb
  have hk3 : am_kd (mh_G X) w 999 v = 3 := congrArg Prod.fst hv2
  have hl3 : am_ln (mh_G X) w 999 v = 16 := congrArg Prod.snd hv2
  refine am_M_of (by decide) (Nat.le_of_ble_eq_true rfl) ?_
  refine am_aload_n dJ5_ensureCapacityInternal_d00df_0 (by repeat (first | exact List.Mem.head _ | apply List.Mem.tail)) ?_
  refine am_getf (f := 0) (v := .inr (.inr (some (999, v)))) dJ5_ensureCapacityInternal_d00df_1 hc_12 (by decide) wd_2281 (by decide) hk (congrArg (fun r => (.inr (.inr r) : am_V)) hv) ?_
  refine am_alen (kd := 3) (v := 16) dJ5_ensureCapacityInternal_d00df_4 (by decide) hk3 (by decide) (by rw [hl3]; rfl) (by unfold am_rg; omega) ?_
  refine am_aload_n dJ5_ensureCapacityInternal_d00df_5 (by repeat (first | exact List.Mem.head _ | apply List.Mem.tail)) ?_
  refine am_getf (f := 1) (v := .inl 0) dJ5_ensureCapacityInternal_d00df_6 hc_12 (by decide) wd_2282 (by decide) hk (congrArg Sum.inl hc) ?_
  refine am_ishr dJ5_ensureCapacityInternal_d00df_9 ?_
  rw [show am_shr 16 0 = 16 by decide]
  refine am_istore_n (ls' := [(2, .inl 16), (0, .inr (.inr (some (999, b)))), (1, .inl n)]) dJ5_ensureCapacityInternal_d00df_10 (by decide) rfl ?_
  refine am_iload_n dJ5_ensureCapacityInternal_d00df_11 (by repeat (first | exact List.Mem.head _ | apply List.Mem.tail)) ?_
  refine am_iload_n dJ5_ensureCapacityInternal_d00df_12 (by repeat (first | exact List.Mem.head _ | apply List.Mem.tail)) ?_
  refine am_isub dJ5_ensureCapacityInternal_d00df_13 ?_
  rw [am_w_id (by unfold am_rg; omega)]
  refine am_ifle (tgt := 38) dJ5_ensureCapacityInternal_d00df_14 (by decide) (fun _ => ?_) (fun c => absurd c (by omega))
  exact am_ret (r := none) dJ5_ensureCapacityInternal_d00df_38 rfl rfl K
theorem pJ5_inflateIf {d kc ks : Nat} {Q : Option am_V → am_W → Prop} {w : am_W} {b v : Nat} {t j tv jv n : Nat} (hX : mh_st X r) (hS : mh_S X w t j tv jv n) (hB : sb_B w b v) (K : Q none w) : am_M (mh_G X) SC (d + 2) kc ks mJ5_inflateIfNeededFor_a7421 [.inr (.inr (some (999, b))), .inr (.inr (some (t, j)))] w Q := by
  obtain ⟨⟨hb, hv, hc⟩, hv2, hbv⟩ := hB
  have hk : am_kd (mh_G X) w 999 b = 100 + 12 := hb
  have hk3 : am_kd (mh_G X) w 999 v = 3 := congrArg Prod.fst hv2
  have hl3 : am_ln (mh_G X) w 999 v = 16 := congrArg Prod.snd hv2
  obtain ⟨⟨ht, hkS, -, -⟩, -⟩ := id hS
  refine am_M_of (by decide) (Nat.le_of_ble_eq_true rfl) ?_
  refine am_gets (v := .inl 1) dJ5_inflateIfNeededFor_a7421_0 hX.1 wd_2273 ?_
  refine am_ifeq (tgt := 21) dJ5_inflateIfNeededFor_a7421_3 (by decide) (fun c => absurd c (by decide)) (fun _ => ?_)
  refine am_aload_n dJ5_inflateIfNeededFor_a7421_6 (by repeat (first | exact List.Mem.head _ | apply List.Mem.tail)) ?_
  refine am_getf (f := 1) (v := .inl 0) dJ5_inflateIfNeededFor_a7421_7 hc_12 (by decide) wd_2282 (by decide) hk (congrArg Sum.inl hc) ?_
  refine am_aload_n dJ5_inflateIfNeededFor_a7421_10 (by repeat (first | exact List.Mem.head _ | apply List.Mem.tail)) ?_
  refine am_callv (d' := d + 1) (kc := 0) (ks := 0) (as := []) dJ5_inflateIfNeededFor_a7421_11 wc_J0_coder_7d493 wd_2366 wd_726 wd_727 wd_124 ds_J0_coder_7d493 (by decide) (by omega) (Nat.le_of_ble_eq_true rfl) (Nat.zero_le _) (Nat.zero_le _) hc_11 ht hkS rfl (pJ0_coder hX hS ?_)
  refine am_icmpeq (tgt := 21) dJ5_inflateIfNeededFor_a7421_14 (by decide) (fun _ => ?_) (fun c => absurd rfl c)
  exact am_ret (r := none) dJ5_inflateIfNeededFor_a7421_21 rfl rfl K
theorem sb_shl {n : Int} (h : 0 ≤ n ∧ n ≤ 16) : am_shl n 0 = n := by
  obtain ⟨k, rfl⟩ := mh_nat h.1
  have : ∀ k : Nat, k < 17 → am_shl (k : Int) 0 = (k : Int) := by decide +kernel
  exact this k (by omega)
theorem pJ0_getBytes {d kc ks : Nat} {Q : Option am_V → am_W → Prop} {w : am_W} {v : Nat} {t j tv jv n dp : Nat} (hX : mh_st X r) (hS : mh_S X w t j tv jv n) (hv2 : w.2.2.2.1 v = (3, 16)) (hn : dp + n ≤ 16) (hbn : ∀ i, i < n → -128 ≤ am_gi (mh_G X) w tv jv i ∧ am_gi (mh_G X) w tv jv i < 128) (K : Q none (am_cpw (mh_G X) w tv jv 0 v dp n)) : am_M (mh_G X) SC (d + 2) kc ks mJ0_getBytes_840e7 [.inr (.inr (some (t, j))), .inr (.inr (some (999, v))), .inl (dp : Int), .inl 0] w Q := by
  obtain ⟨⟨ht, hkS, hr, hc⟩, htv, hk2, hln, h31⟩ := id hS
  have hk3 : am_kd (mh_G X) w 999 v = 3 := congrArg Prod.fst hv2
  have hl3 : am_ln (mh_G X) w 999 v = 16 := congrArg Prod.snd hv2
  refine am_M_of (by decide) (Nat.le_of_ble_eq_true rfl) ?_
  refine am_aload_n dJ0_getBytes_840e7_0 (by repeat (first | exact List.Mem.head _ | apply List.Mem.tail)) ?_
  refine am_callv (d' := d + 1) (kc := 0) (ks := 0) (as := []) dJ0_getBytes_840e7_1 wc_J0_coder_7d493 wd_725 wd_726 wd_727 wd_124 ds_J0_coder_7d493 (by decide) (by omega) (Nat.le_of_ble_eq_true rfl) (Nat.zero_le _) (Nat.zero_le _) hc_11 ht hkS rfl (pJ0_coder hX hS ?_)
  refine am_iload_n dJ0_getBytes_840e7_4 (by repeat (first | exact List.Mem.head _ | apply List.Mem.tail)) ?_
  refine am_icmpne (tgt := 28) dJ0_getBytes_840e7_5 (by decide) (fun c => absurd rfl c) (fun _ => ?_)
  refine am_aload_n dJ0_getBytes_840e7_8 (by repeat (first | exact List.Mem.head _ | apply List.Mem.tail)) ?_
  refine am_getf (f := 0) (v := .inr (.inr (am_gr (mh_G X) w t j 0))) dJ0_getBytes_840e7_9 hc_11 (by decide) wd_2463 ht hkS rfl ?_
  rw [hr]
  refine am_iconst dJ0_getBytes_840e7_12 (by unfold am_rg; omega) ?_
  refine am_aload_n dJ0_getBytes_840e7_13 (by repeat (first | exact List.Mem.head _ | apply List.Mem.tail)) ?_
  refine am_iload_n dJ0_getBytes_840e7_14 (by repeat (first | exact List.Mem.head _ | apply List.Mem.tail)) ?_
  refine am_iload_n dJ0_getBytes_840e7_15 (by repeat (first | exact List.Mem.head _ | apply List.Mem.tail)) ?_
  refine am_ishl dJ0_getBytes_840e7_16 ?_
  rw [show am_shl (dp : Int) 0 = (dp : Int) from sb_shl (by omega)]
  refine am_aload_n dJ0_getBytes_840e7_17 (by repeat (first | exact List.Mem.head _ | apply List.Mem.tail)) ?_
  refine am_getf (f := 0) (v := .inr (.inr (am_gr (mh_G X) w t j 0))) dJ0_getBytes_840e7_18 hc_11 (by decide) wd_2463 ht hkS rfl ?_
  rw [hr]
  refine am_alen (kd := 3) (v := (n : Int)) dJ0_getBytes_840e7_21 htv hk2 (by decide) (by rw [hln]) (by unfold am_rg; omega) ?_
  refine am_copyb (sp := 0) (dp := dp) (n := n) dJ0_getBytes_840e7_22 wd_2390 wd_2336 wd_2335 wd_135 (by omega) (Nat.le_of_ble_eq_true rfl) htv hk2 hk3 (by omega) (by omega) (fun i hi => by rw [Nat.zero_add]; exact hbn i hi) ?_
  refine am_goto (tgt := 43) dJ0_getBytes_840e7_25 (by decide) ?_
  exact am_ret (r := none) dJ0_getBytes_840e7_43 rfl rfl K
theorem pJ5_putStringAt {d kc ks : Nat} {Q : Option am_V → am_W → Prop} {w : am_W} {b v : Nat} (hPV : sb_PV) {t j tv jv n dp : Nat} (hX : mh_st X r) (hS : mh_S X w t j tv jv n) (hB : sb_B w b v) (hn : dp + n ≤ 16) (hbn : ∀ i, i < n → -128 ≤ am_gi (mh_G X) w tv jv i ∧ am_gi (mh_G X) w tv jv i < 128) (K : Q none (am_cpw (mh_G X) w tv jv 0 v dp n)) : am_M (mh_G X) SC (d + 3) kc ks mJ5_putStringAt_47b60 [.inr (.inr (some (999, b))), .inl (dp : Int), .inr (.inr (some (t, j)))] w Q := by
  have hB0 := hB
  obtain ⟨⟨hb, hv, hc⟩, hv2, hbv⟩ := hB
  have hk : am_kd (mh_G X) w 999 b = 100 + 12 := hb
  have hk3 : am_kd (mh_G X) w 999 v = 3 := congrArg Prod.fst hv2
  have hl3 : am_ln (mh_G X) w 999 v = 16 := congrArg Prod.snd hv2
  obtain ⟨⟨ht, hkS, -, -⟩, -⟩ := id hS
  refine am_M_of (by decide) (Nat.le_of_ble_eq_true rfl) ?_
  refine am_aload_n dJ5_putStringAt_47b60_0 (by repeat (first | exact List.Mem.head _ | apply List.Mem.tail)) ?_
  refine am_aload_n dJ5_putStringAt_47b60_1 (by repeat (first | exact List.Mem.head _ | apply List.Mem.tail)) ?_
  refine am_callU (d' := d + 2) (kc := 0) (ks := 0) (as := [.inr (.inr (some (t, j)))]) dJ5_putStringAt_47b60_2 wc_J5_inflateIfNeededFor_a7421 wd_2362 wd_2508 wd_2364 wc_J5_inflateIfNeededFor_a7421 wd_2364 hPV.2.2 wd_131 ⟨⟨by decide, by decide⟩, ds_J5_inflateIfNeededFor_a7421.2.2⟩ (by decide) (by omega) (Nat.le_of_ble_eq_true rfl) (Nat.zero_le _) (Nat.zero_le _) hc_12 (by decide) hk rfl (pJ5_inflateIf hX hS hB0 ?_)
  refine am_aload_n dJ5_putStringAt_47b60_5 (by repeat (first | exact List.Mem.head _ | apply List.Mem.tail)) ?_
  refine am_aload_n dJ5_putStringAt_47b60_6 (by repeat (first | exact List.Mem.head _ | apply List.Mem.tail)) ?_
  refine am_getf (f := 0) (v := .inr (.inr (some (999, v)))) dJ5_putStringAt_47b60_7 hc_12 (by decide) wd_2281 (by decide) hk (congrArg (fun r => (.inr (.inr r) : am_V)) hv) ?_
  refine am_iload_n dJ5_putStringAt_47b60_10 (by repeat (first | exact List.Mem.head _ | apply List.Mem.tail)) ?_
  refine am_aload_n dJ5_putStringAt_47b60_11 (by repeat (first | exact List.Mem.head _ | apply List.Mem.tail)) ?_
  refine am_getf (f := 1) (v := .inl 0) dJ5_putStringAt_47b60_12 hc_12 (by decide) wd_2282 (by decide) hk (congrArg Sum.inl hc) ?_
  refine am_callv (d' := d + 2) (kc := 0) (ks := 0) (as := [.inr (.inr (some (999, v))), .inl (dp : Int), .inl 0]) dJ5_putStringAt_47b60_15 wc_J0_getBytes_840e7 wd_2386 wd_2387 wd_2388 wd_124 ds_J0_getBytes_840e7 (by decide) (by omega) (Nat.le_of_ble_eq_true rfl) (Nat.zero_le _) (Nat.zero_le _) hc_11 ht hkS rfl (pJ0_getBytes hX hS hv2 hn hbn ?_)
  exact am_ret (r := none) dJ5_putStringAt_47b60_18 rfl rfl K
theorem pJ5_appendS {d kc ks : Nat} {Q : Option am_V → am_W → Prop} {w : am_W} {b v : Nat} (hPV : sb_PV) {t j tv jv : Nat} (hX : mh_st X r) (hS : mh_S X w t j tv jv 0) (hB : sb_B w b v) (h3 : w.1 999 b 3 = 0) (K : Q (some (.inr (.inr (some (999, b))))) (am_up w.1 999 b 3 0, w.2)) : am_M (mh_G X) SC (d + 4) kc ks mJ5_append_cf1ce [.inr (.inr (some (999, b))), .inr (.inr (some (t, j)))] w Q := by
  have hB0 := hB
  obtain ⟨⟨hb, hv, hc⟩, hv2, hbv⟩ := hB
  have hk : am_kd (mh_G X) w 999 b = 100 + 12 := hb
  have hk3 : am_kd (mh_G X) w 999 v = 3 := congrArg Prod.fst hv2
  have hl3 : am_ln (mh_G X) w 999 v = 16 := congrArg Prod.snd hv2
  obtain ⟨⟨ht, hkS, -, -⟩, -⟩ := id hS
  refine am_M_of (by decide) (Nat.le_of_ble_eq_true rfl) ?_
  refine am_aload_n dJ5_append_cf1ce_0 (by repeat (first | exact List.Mem.head _ | apply List.Mem.tail)) ?_
  refine am_ifnonnull (tgt := 9) dJ5_append_cf1ce_1 (by decide) (fun _ => ?_) (fun c => absurd c (by simp))
  refine am_aload_n dJ5_append_cf1ce_9 (by repeat (first | exact List.Mem.head _ | apply List.Mem.tail)) ?_
  refine am_callv (d' := d + 3) (kc := 0) (ks := 0) (as := []) dJ5_append_cf1ce_10 wc_J0_length_8abf5 wd_2357 wd_722 wd_723 wd_124 ds_J0_length_8abf5 (by decide) (by omega) (Nat.le_of_ble_eq_true rfl) (Nat.zero_le _) (Nat.zero_le _) hc_11 ht hkS rfl (pJ0_length (d := d + 1) hX hS ?_)
  refine am_istore_n (ls' := [(2, .inl 0), (0, .inr (.inr (some (999, b)))), (1, .inr (.inr (some (t, j))))]) dJ5_append_cf1ce_13 (by decide) rfl ?_
  refine am_aload_n dJ5_append_cf1ce_14 (by repeat (first | exact List.Mem.head _ | apply List.Mem.tail)) ?_
  refine am_aload_n dJ5_append_cf1ce_15 (by repeat (first | exact List.Mem.head _ | apply List.Mem.tail)) ?_
  refine am_getf (f := 3) (v := .inl 0) dJ5_append_cf1ce_16 hc_12 (by decide) wd_2284 (by decide) hk (congrArg Sum.inl h3) ?_
  refine am_iload_n dJ5_append_cf1ce_19 (by repeat (first | exact List.Mem.head _ | apply List.Mem.tail)) ?_
  refine am_iadd dJ5_append_cf1ce_20 ?_
  rw [show am_w (0 + 0) = 0 by decide]
  refine am_callU (d' := d + 1) (kc := 0) (ks := 0) (as := [.inl 0]) dJ5_append_cf1ce_21 wc_J5_ensureCapacityInternal_d00df wd_2306 wd_2505 wd_2308 wc_J5_ensureCapacityInternal_d00df wd_2308 hPV.1 wd_131 ⟨⟨by decide, by decide⟩, ds_J5_ensureCapacityInternal_d00df.2.2⟩ (by decide) (by omega) (Nat.le_of_ble_eq_true rfl) (Nat.zero_le _) (Nat.zero_le _) hc_12 (by decide) hk rfl (pJ5_ensure (by decide) hB0 ?_)
  refine am_aload_n dJ5_append_cf1ce_24 (by repeat (first | exact List.Mem.head _ | apply List.Mem.tail)) ?_
  refine am_aload_n dJ5_append_cf1ce_25 (by repeat (first | exact List.Mem.head _ | apply List.Mem.tail)) ?_
  refine am_getf (f := 3) (v := .inl 0) dJ5_append_cf1ce_26 hc_12 (by decide) wd_2284 (by decide) hk (congrArg Sum.inl h3) ?_
  refine am_aload_n dJ5_append_cf1ce_29 (by repeat (first | exact List.Mem.head _ | apply List.Mem.tail)) ?_
  refine am_callU (d' := d + 3) (kc := 0) (ks := 0) (as := [.inl 0, .inr (.inr (some (t, j)))]) dJ5_append_cf1ce_30 wc_J5_putStringAt_47b60 wd_2358 wd_2507 wd_2360 wc_J5_putStringAt_47b60 wd_2360 hPV.2.1 wd_131 ⟨⟨by decide, by decide⟩, ds_J5_putStringAt_47b60.2.2⟩ (by decide) (by omega) (Nat.le_of_ble_eq_true rfl) (Nat.zero_le _) (Nat.zero_le _) hc_12 (by decide) hk rfl (pJ5_putStringAt hPV (dp := 0) (n := 0) hX hS hB0 (by decide) (fun i hi => absurd hi (Nat.not_lt_zero i)) ?_)
  rw [am_cpw_0]
  refine am_aload_n dJ5_append_cf1ce_33 (by repeat (first | exact List.Mem.head _ | apply List.Mem.tail)) ?_
  refine am_dup dJ5_append_cf1ce_34 rfl ?_
  refine am_getf (f := 3) (v := .inl 0) dJ5_append_cf1ce_35 hc_12 (by decide) wd_2284 (by decide) hk (congrArg Sum.inl h3) ?_
  refine am_iload_n dJ5_append_cf1ce_38 (by repeat (first | exact List.Mem.head _ | apply List.Mem.tail)) ?_
  refine am_iadd dJ5_append_cf1ce_39 ?_
  rw [show am_w (0 + 0) = 0 by decide]
  refine am_putf (f := 3) dJ5_append_cf1ce_40 hc_12 (by decide) wd_2284 rfl (Or.inl rfl) (Or.inr rfl) hk ?_
  refine am_aload_n dJ5_append_cf1ce_43 (by repeat (first | exact List.Mem.head _ | apply List.Mem.tail)) ?_
  exact am_ret (r := some (.inr (.inr (some (999, b))))) dJ5_append_cf1ce_44 ⟨_, rfl, Or.inl ⟨_, rfl⟩⟩ rfl K
theorem pJ4_appendS {d kc ks : Nat} {Q : Option am_V → am_W → Prop} {w : am_W} {b v : Nat} (hPV : sb_PV) {t j tv jv : Nat} (hX : mh_st X r) (hS : mh_S X w t j tv jv 0) (hB : sb_B w b v) (h3 : w.1 999 b 3 = 0) (K : Q (some (.inr (.inr (some (999, b))))) (am_up w.1 999 b 3 0, w.2)) : am_M (mh_G X) SC (d + 5) kc ks mJ4_append_15ec4 [.inr (.inr (some (999, b))), .inr (.inr (some (t, j)))] w Q := by
  have hk : am_kd (mh_G X) w 999 b = 100 + 12 := hB.1.1
  refine am_M_of (by decide) (Nat.le_of_ble_eq_true rfl) ?_
  refine am_aload_n dJ4_append_15ec4_0 (by repeat (first | exact List.Mem.head _ | apply List.Mem.tail)) ?_
  refine am_aload_n dJ4_append_15ec4_1 (by repeat (first | exact List.Mem.head _ | apply List.Mem.tail)) ?_
  refine am_callSU (d' := d + 4) (kc := 0) (ks := 0) (as := [.inr (.inr (some (t, j)))]) dJ4_append_15ec4_2 wc_J5_append_cf1ce wd_2299 wd_2503 wd_2293 wd_2300 wd_131 ⟨by decide, ds_J5_append_cf1ce.2.2⟩ (by decide) (by omega) (Nat.le_of_ble_eq_true rfl) (Nat.zero_le _) (Nat.zero_le _) hc_12 (by decide) hk rfl (pJ5_appendS hPV hX hS hB h3 ?_)
  refine am_pop dJ4_append_15ec4_5 rfl ?_
  refine am_aload_n dJ4_append_15ec4_6 (by repeat (first | exact List.Mem.head _ | apply List.Mem.tail)) ?_
  exact am_ret (r := some (.inr (.inr (some (999, b))))) dJ4_append_15ec4_7 ⟨_, rfl, Or.inl ⟨_, rfl⟩⟩ rfl K
theorem pJ5_init {d kc ks : Nat} {Q : Option am_V → am_W → Prop} {w : am_W} {b : Nat} (hX : mh_st X r) (hb : (w.2.2.2.1 b).1 = 112) (hlt : b < w.2.2.2.2) (hkc : 1 ≤ kc) (hks : 16 ≤ ks) (K : Q none (am_up (am_upr (am_fr w 3 16) b 0 (some (999, w.2.2.2.2))).1 999 b 1 0, (am_upr (am_fr w 3 16) b 0 (some (999, w.2.2.2.2))).2)) : am_M (mh_G X) SC (d + 1) kc ks mJ5_init_d00df [.inr (.inr (some (999, b))), .inl 16] w Q := by
  have hk : am_kd (mh_G X) (am_fr w 3 16) 999 b = 100 + 12 := by
    show ((am_fr w 3 16).2.2.2.1 b).1 = 112
    rw [show (am_fr w 3 16).2.2.2.1 b = w.2.2.2.1 b from if_neg (by omega)]
    exact hb
  refine am_M_of (by decide) (Nat.le_of_ble_eq_true rfl) ?_
  refine am_aload_n dJ5_init_d00df_0 (by repeat (first | exact List.Mem.head _ | apply List.Mem.tail)) ?_
  refine am_objinit dJ5_init_d00df_1 wd_2272 wd_142 wd_143 (by omega) (Nat.le_of_ble_eq_true rfl) ?_
  refine am_gets (v := .inl 1) dJ5_init_d00df_4 hX.1 wd_2273 ?_
  refine am_ifeq (tgt := 25) dJ5_init_d00df_7 (by decide) (fun c => absurd c (by decide)) (fun _ => ?_)
  refine am_aload_n dJ5_init_d00df_10 (by repeat (first | exact List.Mem.head _ | apply List.Mem.tail)) ?_
  refine am_iload_n dJ5_init_d00df_11 (by repeat (first | exact List.Mem.head _ | apply List.Mem.tail)) ?_
  refine am_newarr (kd := 3) (ln := 16) dJ5_init_d00df_12 rfl (by decide) wd_916 rfl (by decide) hkc hks ?_
  refine am_putr (f := 0) dJ5_init_d00df_14 hc_12 (by decide) wd_2281 (Or.inl rfl) rfl hk ?_
  refine am_aload_n dJ5_init_d00df_17 (by repeat (first | exact List.Mem.head _ | apply List.Mem.tail)) ?_
  refine am_iconst dJ5_init_d00df_18 (by unfold am_rg; omega) ?_
  refine am_putf (f := 1) dJ5_init_d00df_19 hc_12 (by decide) wd_2282 rfl (Or.inr (Or.inr ⟨rfl, by decide, by decide⟩)) (Or.inr rfl) hk ?_
  refine am_goto (tgt := 38) dJ5_init_d00df_22 (by decide) ?_
  exact am_ret (r := none) dJ5_init_d00df_38 rfl rfl K
theorem pJ4_init {d kc ks : Nat} {Q : Option am_V → am_W → Prop} {w : am_W} {b : Nat} (hX : mh_st X r) (hb : (w.2.2.2.1 b).1 = 112) (hlt : b < w.2.2.2.2) (hkc : 1 ≤ kc) (hks : 16 ≤ ks) (K : Q none (am_up (am_upr (am_fr w 3 16) b 0 (some (999, w.2.2.2.2))).1 999 b 1 0, (am_upr (am_fr w 3 16) b 0 (some (999, w.2.2.2.2))).2)) : am_M (mh_G X) SC (d + 2) kc ks mJ4_init_da8c8 [.inr (.inr (some (999, b)))] w Q := by
  refine am_M_of (by decide) (Nat.le_of_ble_eq_true rfl) ?_
  refine am_aload_n dJ4_init_da8c8_0 (by repeat (first | exact List.Mem.head _ | apply List.Mem.tail)) ?_
  refine am_bipush dJ4_init_da8c8_1 (by decide) (by unfold am_rg; omega) ?_
  refine am_calli (d' := d + 1) (kc := 1) (ks := 16) (as := [.inl 16]) dJ4_init_da8c8_3 wc_J5_init_d00df wd_2269 wd_2270 rfl rfl wd_131 ds_J5_init_d00df (by decide) (by omega) (Nat.le_of_ble_eq_true rfl) hkc hks rfl (pJ5_init hX hb hlt (Nat.le_refl _) (Nat.le_refl _) ?_)
  exact am_ret (r := none) dJ4_init_da8c8_6 rfl rfl K
theorem sb_PV_ok : sb_PV := ⟨am_sel_p ⟨by decide, by decide⟩ wd_2265 wd_2340 rfl (List.Mem.head _) wd_2308, am_sel_p ⟨by decide, by decide⟩ wd_2265 wd_2340 rfl (List.Mem.tail _ (List.Mem.head _)) wd_2360, am_sel_p ⟨by decide, by decide⟩ wd_2265 wd_2340 rfl (List.Mem.tail _ (List.Mem.tail _ (List.Mem.head _))) wd_2364⟩
