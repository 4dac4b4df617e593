-- KIT'S RULES THAT WERE LACKING: references stored into made arrays of objects
section AMK3
variable {G : am_G} {SC : Nat → Nat} {d : Nat} {Y : am_Y} {Q : Option am_V → am_W → Prop} {pc bc bs : Nat} {ls : List (Nat × am_V)} {st : List am_V} {w : am_W}
theorem am_aastore {j kd ci N t' j' : Nat} {C : String} {T : u_T} {i : Int} (hd : decode Y.2.1 pc = .ok (.aastore, 1)) (hkd : am_kd G w 999 j = kd) (h7 : 7 ≤ kd) (h10 : kd < 10) (hc : am_cl[ci]? = some (C, T, N)) (hty : am_aty kd = .object C) (ht' : t' < 1100) (hkv : am_kd G w t' j' = 100 + ci) (h0 : 0 ≤ i) (hi : i < am_ln G w 999 j)
    (k : am_A G SC d Y Q (pc + 1) ls st (am_upr w j i.toNat (some (t', j'))) bc bs) : am_A G SC d Y Q pc ls (.inr (.inr (some (t', j'))) :: .inl i :: .inr (.inr (some (999, j))) :: st) w bc bs := by
  intro p l e R s m args below meth c H locs cells slots QQ Dg cI ad A lsA ad0 w0 hX hH hg h1 h2 hl ho hs hR
  obtain ⟨x1, x2, x3, x4, x5, x6, x7, x8, x9, x10, x11⟩ := id hX
  have hlv0 : am_lv SC w (t', j') := am_o1 hs
  have ri : am_rg i := am_o1 (am_o2 hs)
  have hlv : am_lv SC w (999, j) := am_o1 (am_o2 (am_o2 hs))
  have hst3 := am_o2 (am_o2 (am_o2 hs))
  obtain ⟨q0, hq, hk9⟩ := am_wr (w' := am_upr w j i.toNat (some (t', j'))) hH hlv (show 999 < 1000 by decide) rfl (fun y hy => am_upr_cE hy) (am_wf_r (fun id e => by cases e; exact hlv0) hH.2.2.2.2.1)
  rw [am_cE_r hkd (by omega) (by omega)] at hq
  have hcell := hH.1 q0 _ hq
  have hS := hH.2.2.1
  have hD := hH.2.1
  obtain ⟨hA1, hA2⟩ := x8.2 kd _ (am_tys_at cI h10)
  rw [hty] at hA1 hA2
  obtain ⟨kA, comp, a1, a2, a3, a4⟩ := hA2
  obtain ⟨-, hfc, kC, hkC, hkind⟩ := x8.1 ci _ hc
  obtain rfl : comp = Dg.1 ci := Option.some.inj (a3.symm.trans hfc)
  obtain ⟨cv, v1, v2, v3, v4, -⟩ := am_readO hH hc hlv0 ht' hkv
  have hlt : ad (999, j) < H.size := (Array.getElem?_eq_some_iff.mp hcell).1
  have hn : i.toNat < am_ln G w 999 j := by omega
  have en : (Int32.ofInt i).toNatClampNeg = i.toNat := am_vix ri
  have nn : ¬ Int32.ofInt i < 0 := by rw [← am_0, am_ltI ri am_rg0]; omega
  have hcv : cv.cls = Dg.1 ci := v2
  obtain ⟨ff, hff⟩ : ∃ ff : Nat → Option Nat, ff = fun k => if k < am_ln G w 999 j then (am_gr G w 999 j k).map ad else none := ⟨_, rfl⟩
  have hcell' : H[ad (999, j)]? = some (arrV (cI kd) (am_ln G w 999 j) (fun k => va_rf (ff k))) := by rw [hff]; exact hcell
  have hce : am_cE cI G ad (am_upr w j i.toNat (some (t', j'))) (999, j) = .inl (cI kd, am_ln G w 999 j, .inr (.inr (.inr (.inr (fun k => if k = i.toNat then some (ad (t', j')) else ff k))))) := by
    rw [am_cE_r (w := am_upr w j i.toNat (some (t', j'))) (show am_kd G (am_upr w j i.toNat (some (t', j'))) 999 j = kd from hkd) (by omega) (by omega)]
    refine congrArg (fun g => (.inl (cI kd, am_ln G w 999 j, .inr (.inr (.inr (.inr g)))) : va_E)) (funext fun k9 => ?_)
    rw [am_upr_gr, hff]
    show (if k9 < am_ln G w 999 j then _ else none) = _
    by_cases e9 : k9 = i.toNat
    · rw [if_pos e9, if_pos (by omega), if_pos ⟨rfl, rfl, e9⟩]; rfl
    · rw [if_neg (fun e : (999 : Nat) = 999 ∧ j = j ∧ k9 = i.toNat => e9 e.2.2)]
      exact (if_neg e9).symm
  have hnew : (arrV (cI kd) (am_ln G w 999 j) (fun k => va_rf (ff k))).setSlot i.toNat (.ref (ad (t', j'))) = vp_cell (cI kd) (am_ln G w 999 j, .inr (.inr (.inr (.inr (fun k => if k = i.toNat then some (ad (t', j')) else ff k))))) := by
    rw [arrV_store]
    show _ = arrV (cI kd) (am_ln G w 999 j) (fun k => va_rf (if k = i.toNat then some (ad (t', j')) else ff k))
    refine congrArg (arrV (cI kd) (am_ln G w 999 j)) (funext fun k9 => ?_)
    unfold updV
    by_cases e9 : k9 = i.toNat
    · rw [if_pos e9, if_pos e9]; rfl
    · rw [if_neg e9, if_neg e9]
  refine W.aast x1 x2 (comp := Dg.1 ci) (t := .object C) (kcomp := kC) (k := kA) (kv := kC) hcell' (fun _ h => by cases h) (fun h => by cases h) a1 a2 rfl hkC ⟨nn, by rw [en, arrV_size]; exact hn⟩ v1 (fun _ h => by rw [h] at v3; cases v3) (by rw [hcv]; exact hkC) (by rw [hcv]; exact Vm.assignable_self _ _) rfl rfl hd (fun H1 e1 z1 o1 => ?_)
  rw [en] at e1 ⊢
  rw [hnew] at e1
  exact k p l e R s m args below meth c H1 _ cells slots QQ Dg cI ad A lsA ad0 w0 hX (hk9 _ H1 _ hce (hH.1.set hD hq e1 o1) (hD.set hq) ⟨by rw [z1]; exact hS.1, fun q g1 g2 => by
      rw [o1 q (fun e => g2 (by rw [e]; exact hD.2 q0 _ hq))]
      exact hS.2.1 q g1 g2, fun q hq' => by
      rcases List.mem_append.mp hq' with h | h
      · exact hS.2.2 q h
      · cases List.mem_singleton.mp h
        exact hD.2 q0 _ hq⟩) (am_ag_n rfl hg) h1 h2 hl (fun q hq => am_ok_n rfl (ho q hq)) (fun v hv => am_ok_n rfl (hst3 v hv)) hR
end AMK3
