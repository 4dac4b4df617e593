-- KIT'S RULES THAT WERE LACKING: references stored into made arrays of objects
section AMK3
variable {G : am_G} {SC : Nat → Nat} {d : Nat} {Y : am_Y} {Q : Option am_V → am_W → Prop} {pc bc bs : Nat} {ls : List (Nat × am_V)} {st : List am_V} {w : am_W}
theorem am_aastore {j kd ci N t' j' : Nat} {C : String} {T : u_T} {i : Int} (hd : decode Y.2.1 pc = .ok (.aastore, 1)) (hkd : am_kd G w 999 j = kd) (h7 : 7 ≤ kd) (h10 : kd < 10) (hc : am_cl[ci]? = some (C, T, N)) (hty : am_aty kd = .object C) (ht' : t' < 1100) (hkv : am_kd G w t' j' = 100 + ci) (h0 : 0 ≤ i) (hi : i < am_ln G w 999 j)
    (k : am_A G SC d Y Q (pc + 1) ls st (am_upr w j i.toNat (some (t', j'))) bc bs) : am_A G SC d Y Q pc ls (.inr (.inr (some (t', j'))) :: .inl i :: .inr (.inr (some (999, j))) :: st) w bc bs := by
  intro p l e R s m args below meth c H locs cells slots QQ Dg cI ad A lsA ad0 w0 hX hH hg h1 h2 hl ho hs hR
  obtain ⟨x1, x2, x3, x4, x5, x6, x7, x8, x9, x10, x11⟩ := id hX
  have hlv0 : am_lv SC w (t', j') := am_o1 hs
  have ri : am_rg i := am_o1 (am_o2 hs)
  have hlv : am_lv SC w (999, j) := am_o1 (am_o2 (am_o2 hs))
  have hst3 := am_o2 (am_o2 (am_o2 hs))
  obtain ⟨q0, hq, hk9⟩ := am_wr (w' := am_upr w j i.toNat (some (t', j'))) hH hlv (show 999 < 1000 by decide) rfl (fun y hy => am_upr_cE hy) (am_wf_r (fun id e => by cases e; exact hlv0) hH.2.2.2.2.1)
  rw [am_cE_r hkd (by omega) (by omega)] at hq
  have hcell := hH.1 q0 _ hq
  have hS := hH.2.2.1
  have hD := hH.2.1
  obtain ⟨hA1, hA2⟩ := x8.2 kd _ (am_tys_at cI h10)
  rw [hty] at hA1 hA2
  obtain ⟨kA, comp, a1, a2, a3, a4⟩ := hA2
  obtain ⟨-, hfc, kC, hkC, hkind⟩ := x8.1 ci _ hc
  obtain rfl : comp = Dg.1 ci := Option.some.inj (a3.symm.trans hfc)
  obtain ⟨ws1, q1, hP1, hq1⟩ := am_read hH hlv0 ht'
  rw [am_cE_o hkv] at hq1
  obtain ⟨r, hr, cv, v1, v2, v3, -⟩ := hP1 q1 _ hq1
  have hlt : ad (999, j) < H.size := (Array.getElem?_eq_some_iff.mp hcell).1
  have hn : i.toNat < am_ln G w 999 j := by omega
  sorry
end AMK3
