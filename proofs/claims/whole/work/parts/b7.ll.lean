-- THE LAW: the loop
variable {X : mh_X} {r : Option am_I}
theorem lw_loop (hst : mh_st X r) (hL : X.2.1 ≤ 3072) (hx : ∀ k, am_rg (X.1 k)) : ∀ (n i : Nat) (w : am_W) (bc bs : Nat), mh_E w w → i ≤ 3078 → X.2.1 < i + 6 * (n + 1) → 16 * n ≤ bc → 108 * n ≤ bs → am_A (mh_G X) mh_SC 1400 lw_Y (fun r _ => r = some (.inl 1)) 18 (lw_ls i) [] w bc bs := by
  intro n
  induction n with
  | zero =>
    intro i w bc bs E h3 h hb hs
    refine am_iload_n dl_18 (by repeat (first | exact List.Mem.head _ | apply List.Mem.tail)) ?_
    refine am_aload_n dl_19 (by repeat (first | exact List.Mem.head _ | apply List.Mem.tail)) ?_
    refine am_alen (kd := 0) (v := (X.2.1 : Int)) dl_20 (by decide) rfl (by decide) rfl (by unfold am_rg; omega) ?_
    refine am_bipush dl_21 (by decide) (by unfold am_rg; omega) ?_
    refine am_isub dl_23 ?_
    rw [am_w_id (by unfold am_rg; omega)]
    refine am_icmpgt (tgt := 1429) dl_24 (by decide) (fun _ => ?_) (fun c => absurd (by omega) c)
    refine am_iconst dl_1429 (by unfold am_rg; omega) ?_
    exact am_ret (r := some (.inl 1)) dl_1430 (Or.inr (Or.inl ⟨rfl, Or.inr rfl⟩)) rfl rfl
  | succ n ih =>
    intro i w bc bs E h3 h hb hs
    refine am_iload_n dl_18 (by repeat (first | exact List.Mem.head _ | apply List.Mem.tail)) ?_
    refine am_aload_n dl_19 (by repeat (first | exact List.Mem.head _ | apply List.Mem.tail)) ?_
    refine am_alen (kd := 0) (v := (X.2.1 : Int)) dl_20 (by decide) rfl (by decide) rfl (by unfold am_rg; omega) ?_
    refine am_bipush dl_21 (by decide) (by unfold am_rg; omega) ?_
    refine am_isub dl_23 ?_
    rw [am_w_id (by unfold am_rg; omega)]
    refine am_icmpgt (tgt := 1429) dl_24 (by decide) (fun _ => ?_) (fun c => ?_)
    · refine am_iconst dl_1429 (by unfold am_rg; omega) ?_
      exact am_ret (r := some (.inl 1)) dl_1430 (Or.inr (Or.inl ⟨rfl, Or.inr rfl⟩)) rfl rfl
    have hi : i + 6 ≤ X.2.1 := by omega
    have hb1 : 16 ≤ bc := by omega
    have hs1 : 108 ≤ bs := by omega
    refine am_aload_n dl_27 (by repeat (first | exact List.Mem.head _ | apply List.Mem.tail)) ?_
    refine am_iload_n dl_28 (by repeat (first | exact List.Mem.head _ | apply List.Mem.tail)) ?_
    refine am_iaload (v := X.1 i) dl_29 (by decide) rfl (by omega) (by show (i : Int) < ((X.2.1 : Nat) : Int); omega) (by show X.1 (i : Int).toNat = X.1 i; rw [Int.toNat_natCast]) ?_
    refine am_bipush dl_30 (by decide) (by unfold am_rg; omega) ?_
    refine am_iand dl_32 ?_
    generalize am_and (X.1 i) 63 = v
    have K : ∀ (w' : am_W) (bc' bs' : Nat), mh_E w' w' → bc ≤ bc' + 16 → bs ≤ bs' + 108 → am_A (mh_G X) mh_SC 1400 lw_Y (fun r _ => r = some (.inl 1)) 1423 (lw_ls i) [] w' bc' bs' := fun w' bc' bs' E' g1 g2 => by
      refine am_iinc (x := (i : Int)) (ls' := [(3, .inl (am_w ((i : Int) + 6))), (2, .inr (.inr (some (9, 0)))), (1, .inr (.inr (some (1, 0)))), (0, .inr (.inr (some (1002, 0))))]) dl_1423 (by repeat (first | exact List.Mem.head _ | apply List.Mem.tail)) (by decide) rfl ?_
      rw [am_w_id (by unfold am_rg; omega), show (i : Int) + 6 = ((i + 6 : Nat) : Int) from rfl]
      refine am_goto (tgt := 18) dl_1426 (by decide) ?_
      exact ih (i + 6) w' bc' bs' E' (by omega) (by omega) (by omega) (by omega)
    rcases (show v = 0 ∨ v = 1 ∨ v = 2 ∨ v = 3 ∨ v = 4 ∨ v = 5 ∨ v = 6 ∨ v = 7 ∨ v = 8 ∨ v = 9 ∨ v = 10 ∨ v = 11 ∨ v = 12 ∨ v = 13 ∨ v = 14 ∨ v = 15 ∨ v = 16 ∨ v = 17 ∨ v = 18 ∨ v = 19 ∨ v = 20 ∨ v = 21 ∨ v = 22 ∨ v = 23 ∨ v = 24 ∨ v = 25 ∨ v = 26 ∨ v = 27 ∨ v = 28 ∨ v = 29 ∨ v = 30 ∨ v = 31 ∨ v = 32 ∨ v = 33 ∨ v = 34 ∨ (v < 0 ∨ 34 < v) by omega) with rfl | rfl | rfl | rfl | rfl | rfl | rfl | rfl | rfl | rfl | rfl | rfl | rfl | rfl | rfl | rfl | rfl | rfl | rfl | rfl | rfl | rfl | rfl | rfl | rfl | rfl | rfl | rfl | rfl | rfl | rfl | rfl | rfl | rfl | rfl | hv
    · exact am_tswIn (tgt := 188) dl_33 (by decide) (by decide) rfl (by decide) (lc_0 E hst hi hL hx hb1 hs1 K)
    · exact am_tswIn (tgt := 251) dl_33 (by decide) (by decide) rfl (by decide) (lc_1 E hst hi hL hx hb1 hs1 K)
    · exact am_tswIn (tgt := 274) dl_33 (by decide) (by decide) rfl (by decide) (lc_2 E hst hi hL hx hb1 hs1 K)
    · exact am_tswIn (tgt := 287) dl_33 (by decide) (by decide) rfl (by decide) (lc_3 E hst hi hL hx hb1 hs1 K)
    · exact am_tswIn (tgt := 310) dl_33 (by decide) (by decide) rfl (by decide) (lc_4 E hst hi hL hx hb1 hs1 K)
    · exact am_tswIn (tgt := 333) dl_33 (by decide) (by decide) rfl (by decide) (lc_5 E hst hi hL hx hb1 hs1 K)
    · exact am_tswIn (tgt := 356) dl_33 (by decide) (by decide) rfl (by decide) (lc_6 E hst hi hL hx hb1 hs1 K)
    · exact am_tswIn (tgt := 389) dl_33 (by decide) (by decide) rfl (by decide) (lc_7 E hst hi hL hx hb1 hs1 K)
    · exact am_tswIn (tgt := 412) dl_33 (by decide) (by decide) rfl (by decide) (lc_8 E hst hi hL hx hb1 hs1 K)
    · exact am_tswIn (tgt := 465) dl_33 (by decide) (by decide) rfl (by decide) (lc_9 E hst hi hL hx hb1 hs1 K)
    · exact am_tswIn (tgt := 498) dl_33 (by decide) (by decide) rfl (by decide) (lc_10 E hst hi hL hx hb1 hs1 K)
    · exact am_tswIn (tgt := 541) dl_33 (by decide) (by decide) rfl (by decide) (lc_11 E hst hi hL hx hb1 hs1 K)
    · exact am_tswIn (tgt := 584) dl_33 (by decide) (by decide) rfl (by decide) (lc_12 E hst hi hL hx hb1 hs1 K)
    · exact am_tswIn (tgt := 637) dl_33 (by decide) (by decide) rfl (by decide) (lc_13 E hst hi hL hx hb1 hs1 K)
    · exact am_tswIn (tgt := 680) dl_33 (by decide) (by decide) rfl (by decide) (lc_14 E hst hi hL hx hb1 hs1 K)
    · exact am_tswIn (tgt := 723) dl_33 (by decide) (by decide) rfl (by decide) (lc_15 E hst hi hL hx hb1 hs1 K)
    · exact am_tswIn (tgt := 756) dl_33 (by decide) (by decide) rfl (by decide) (lc_16 E hst hi hL hx hb1 hs1 K)
    · exact am_tswIn (tgt := 789) dl_33 (by decide) (by decide) rfl (by decide) (lc_17 E hst hi hL hx hb1 hs1 K)
    · exact am_tswIn (tgt := 842) dl_33 (by decide) (by decide) rfl (by decide) (lc_18 E hst hi hL hx hb1 hs1 K)
    · exact am_tswIn (tgt := 875) dl_33 (by decide) (by decide) rfl (by decide) (lc_19 E hst hi hL hx hb1 hs1 K)
    · exact am_tswIn (tgt := 908) dl_33 (by decide) (by decide) rfl (by decide) (lc_20 E hst hi hL hx hb1 hs1 K)
    · exact am_tswIn (tgt := 961) dl_33 (by decide) (by decide) rfl (by decide) (lc_21 E hst hi hL hx hb1 hs1 K)
    · exact am_tswIn (tgt := 1004) dl_33 (by decide) (by decide) rfl (by decide) (lc_22 E hst hi hL hx hb1 hs1 K)
    · exact am_tswIn (tgt := 1037) dl_33 (by decide) (by decide) rfl (by decide) (lc_23 E hst hi hL hx hb1 hs1 K)
    · exact am_tswIn (tgt := 1070) dl_33 (by decide) (by decide) rfl (by decide) (lc_24 E hst hi hL hx hb1 hs1 K)
    · exact am_tswIn (tgt := 1093) dl_33 (by decide) (by decide) rfl (by decide) (lc_25 E hst hi hL hx hb1 hs1 K)
    · exact am_tswIn (tgt := 1126) dl_33 (by decide) (by decide) rfl (by decide) (lc_26 E hst hi hL hx hb1 hs1 K)
    · exact am_tswIn (tgt := 1159) dl_33 (by decide) (by decide) rfl (by decide) (lc_27 E hst hi hL hx hb1 hs1 K)
    · exact am_tswIn (tgt := 1202) dl_33 (by decide) (by decide) rfl (by decide) (lc_28 E hst hi hL hx hb1 hs1 K)
    · exact am_tswIn (tgt := 1245) dl_33 (by decide) (by decide) rfl (by decide) (lc_29 E hst hi hL hx hb1 hs1 K)
    · exact am_tswIn (tgt := 1278) dl_33 (by decide) (by decide) rfl (by decide) (lc_30 E hst hi hL hx hb1 hs1 K)
    · exact am_tswIn (tgt := 1301) dl_33 (by decide) (by decide) rfl (by decide) (lc_31 E hst hi hL hx hb1 hs1 K)
    · exact am_tswIn (tgt := 1334) dl_33 (by decide) (by decide) rfl (by decide) (lc_32 E hst hi hL hx hb1 hs1 K)
    · exact am_tswIn (tgt := 1367) dl_33 (by decide) (by decide) rfl (by decide) (lc_33 E hst hi hL hx hb1 hs1 K)
    · exact am_tswIn (tgt := 1400) dl_33 (by decide) (by decide) rfl (by decide) (lc_34 E hst hi hL hx hb1 hs1 K)
    · exact am_tswOut (tgt := 1423) dl_33 hv (by decide) (K w bc bs E (by omega) (by omega))
