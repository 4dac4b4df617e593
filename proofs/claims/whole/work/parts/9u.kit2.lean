-- KIT'S RULES THAT WERE LACKING: new String, System.arraycopy of bytes, references stored into made arrays
section AMK2
variable {G : am_G} {SC : Nat → Nat} {d : Nat} {Y : am_Y} {Q : Option am_V → am_W → Prop} {pc bc bs : Nat} {ls : List (Nat × am_V)} {st : List am_V} {w : am_W}
/-- an object has at least the fields that are followed -/
theorem am_newS {idx ci N n : Nat} {C : String} {T : u_T} (hd : decode Y.2.1 pc = .ok (.new idx, 3)) (hc : am_cl[ci]? = some (C, T, N)) (hcl : Cond.classLink Y.1.cls idx C ∈ am_TW) (hins : Cond.instantiable C n ∈ am_TW) (hini : Cond.initialized C ∈ am_TW) (hbc : 1 ≤ bc) (hbs : n ≤ bs) (k : am_A G SC d Y Q (pc + 3) ls (.inr (.inr (some (999, w.2.2.2.2))) :: st) (am_fr w (100 + ci) 0) (bc - 1) (bs - n)) : am_A G SC d Y Q pc ls st w bc bs := by
  intro p l e R s m args below meth c H locs cells slots QQ Dg cI ad A lsA ad0 w0 hX hH hg h1 h2 hl ho hs hR
  obtain ⟨x1, x2, x3, x4, x5, x6, x7, x8, x9, x10, x11⟩ := id hX
  have hE : ∀ q, am_cE cI G (am_ad1 ad w.2.2.2.2 q) (am_fr w (100 + ci) 0) (999, w.2.2.2.2) = .inr (ci, (List.range N).map (am_dv ci)) := by
    intro q
    rw [am_cE_o am_fr_kd, am_nF_of hc]
    congr 2
    apply List.map_congr_left
    intro k9 _
    unfold am_fv am_dv
    rw [am_fr_gl, am_fr_gr, am_fr_gi]
    split
    · rfl
    · split <;> rfl
  have hP := hH.1
  have hD := hH.2.1
  have hS := hH.2.2.1
  have hKn := x8.1 ci _ hc
  refine W.newcK x1 x2 x6 (x7 _ hcl) (x7 _ hins) (x7 _ hini) rfl hd (by omega) (by omega) hKn.2.1 rfl fun H1 kC hkC e1 z1 o1 => ?_
  have hk : ∀ (k : Nat) (x : Nat × va_E), (am_wsl G SC cI ad w)[k]? = some x → H1[x.1]? = H[x.1]? := fun k x hx => o1 x.1 ((hP k x hx).lt)
  have hP1 : va_P Dg am_cl (am_wsl G SC cI ad w ++ [(H.size, .inr (ci, (List.range N).map (am_dv ci)))]) H1 := (hP.kept hk).app (fun k x hx => by
    have hz : k < 1 := (List.getElem?_eq_some_iff.mp hx).1
    rw [show k = 0 by omega] at hx
    cases hx
    refine ⟨_, hc, (u_born (am_tyo T) x7 (am_in hc) hKn hkC e1 (am_tyo_ok hc)).to (fun j hj => ?_)⟩
    rw [am_dv_ok hc hj]
    unfold vp_V
    rw [List.getD_eq_getElem?_getD, List.getElem?_map, List.getElem?_range hj]
    rfl)
  have hH' := am_frH hH (hE H.size) hP1 (hD.push hP rfl (hH.2.2.2.1 _ hS.1)) ⟨Nat.le_trans hS.1 (by omega), fun x h1 h2 => (o1 x (Nat.lt_of_lt_of_le h1 hS.1)).trans (hS.2.1 x h1 h2), hS.2.2⟩
  have q9 := k p l e R s m args below meth c H1 locs (cells + 1) (slots + n) QQ Dg cI (am_ad1 ad w.2.2.2.2 H.size) A lsA ad0 w0 hX hH' (hg.trans am_fr_ag) (by omega) (by omega) (by unfold am_cl2; rw [(am_fr_ag (kd := 100 + ci) (ln := 0)).ls ho]; exact hl) (fun q hq => am_ok_grow (Nat.le_succ _) (ho q hq)) (am_oc (Or.inl ⟨rfl, Nat.lt_succ_self _⟩) (fun v hv => am_ok_grow (Nat.le_succ _) (hs v hv))) hR
  have e9 : ((.inr (.inr (some (999, w.2.2.2.2))) : am_V) :: st).map (am_cv (am_ad1 ad w.2.2.2.2 H.size)) = .ref H.size :: st.map (am_cv ad) := by
    rw [List.map_cons, (am_fr_ag (kd := 100 + ci) (ln := 0)).st hs]
    show va_rf ((some (999, w.2.2.2.2)).map (am_ad1 ad w.2.2.2.2 H.size)) :: _ = _
    rw [Option.map_some, show am_ad1 ad w.2.2.2.2 H.size (999, w.2.2.2.2) = H.size from if_pos rfl]
    rfl
  rw [e9] at q9
  exact q9
/-- bytes are copied into a made array -/
def am_cpw (G : am_G) (w : am_W) (t0 j0 sp j dp n : Nat) : am_W := (fun t a k => if t = 999 ∧ a = j ∧ dp ≤ k ∧ k < dp + n then am_gi G w t0 j0 (sp + (k - dp)) else w.1 t a k, w.2)
theorem am_cpw_gi {t0 j0 sp j dp n t a k : Nat} : am_gi G (am_cpw G w t0 j0 sp j dp n) t a k = if t = 999 ∧ a = j ∧ dp ≤ k ∧ k < dp + n then am_gi G w t0 j0 (sp + (k - dp)) else am_gi G w t a k := by
  by_cases h : t = 999
  · subst h
    unfold am_cpw
    rw [show am_gi G w 999 a k = w.1 999 a k from if_neg (by decide)]
    exact if_neg (by decide)
  · rw [if_neg (fun e => h e.1)]
    unfold am_gi am_cpw
    split
    · rfl
    · exact if_neg (fun e => h e.1)
theorem am_wf_cp {t0 j0 sp j dp n : Nat} (h : am_wf G SC w) : am_wf G SC (am_cpw G w t0 j0 sp j dp n) := by
  refine ⟨fun a b c => ?_, h.2.1, h.2.2⟩
  rw [am_cpw_gi]
  split
  · exact h.1 _ _ _
  · exact h.1 a b c
theorem am_copyb {idx t0 j0 j sp dp n : Nat} (hd : decode Y.2.1 pc = .ok (.invokestatic idx, 3)) (hlink : Cond.methodLink Y.1.cls idx arraycopyName ∈ am_TW) (hnat : Cond.native arraycopyName ∈ am_TW) (hstat : Cond.static arraycopyName ∈ am_TW) (hini : Cond.initialized "java/lang/System" ∈ am_TW) (hdd : 1 ≤ d) (hcat : (st.map am_cat).sum ≤ 8) (ht0 : t0 < 1100) (hk0 : am_kd G w t0 j0 = 3) (hk1 : am_kd G w 999 j = 3) (h4 : sp + n ≤ am_ln G w t0 j0) (h5 : dp + n ≤ am_ln G w 999 j) (hb : ∀ i, i < n → -128 ≤ am_gi G w t0 j0 (sp + i) ∧ am_gi G w t0 j0 (sp + i) < 128)
    (k : am_A G SC d Y Q (pc + 3) ls st (am_cpw G w t0 j0 sp j dp n) bc bs) : am_A G SC d Y Q pc ls (.inl (n : Int) :: .inl (dp : Int) :: .inr (.inr (some (999, j))) :: .inl (sp : Int) :: .inr (.inr (some (t0, j0))) :: st) w bc bs := by
  intro p l e R s m args below meth c H locs cells slots QQ Dg cI ad A lsA ad0 w0 hX hH hg h1 h2 hl ho hs hR
  obtain ⟨x1, x2, x3, x4, x5, x6, x7, x8, x9, x10, x11⟩ := id hX
  have rn : am_rg (n : Int) := am_o1 hs
  have rd : am_rg (dp : Int) := am_o1 (am_o2 hs)
  have hlv : am_lv SC w (999, j) := am_o1 (am_o2 (am_o2 hs))
  have rs : am_rg (sp : Int) := am_o1 (am_o2 (am_o2 (am_o2 hs)))
  have hlv0 : am_lv SC w (t0, j0) := am_o1 (am_o2 (am_o2 (am_o2 (am_o2 hs))))
  have hst5 := am_o2 (am_o2 (am_o2 (am_o2 (am_o2 hs))))
  have en : ∀ x : Nat, am_rg (x : Int) → (Int32.ofInt (x : Int)).toNatClampNeg = x := fun x hx => by rw [am_vix hx]; rfl
  have nn : ∀ x : Nat, am_rg (x : Int) → ¬ Int32.ofInt (x : Int) < 0 := fun x hx => by
    rw [← am_0, am_ltI hx am_rg0]
    omega
  have tI : ∀ x : Nat, am_rg (x : Int) → (Int32.ofInt (x : Int)).toInt = (x : Int) := fun x hx => am_toI hx
  obtain ⟨q0, hq, hk9⟩ := am_wr (w' := am_cpw G w t0 j0 sp j dp n) hH hlv (show 999 < 1000 by decide) rfl (fun y hy => am_cE_eq rfl rfl (fun k9 => by
    rw [am_cpw_gi, if_neg]
    rintro ⟨e1, e2, -⟩
    exact hy (by obtain ⟨a, b⟩ := y; cases e1; cases e2; rfl)) (fun _ => rfl) (fun _ => rfl)) (am_wf_cp hH.2.2.2.2.1)
  rw [am_cE_i hk1 (by decide) (by decide)] at hq
  obtain ⟨c0, a1, a2, a3, a4, a5, a6⟩ := am_readA hH x8 hlv0 ht0 hk0 (by decide)
  have a7 : ∀ k9, k9 < am_ln G w t0 j0 → c0.slots[k9]? = some (.int (Int32.ofInt (am_gi G w t0 j0 k9))) := fun k9 hk9' => by
    have e : am_ar G ad w t0 j0 = .inl (fun k => Int32.ofInt (am_gi G w t0 j0 k)) := by
      unfold am_ar
      rw [hk0, if_neg (by decide), if_pos (by decide)]
    rw [a6 _ hk9', e]
    show (arrV (cI 3) (am_ln G w t0 j0) (fun k => .int (Int32.ofInt (am_gi G w t0 j0 k)))).slots[k9]? = _
    rw [arrV_read _ _ hk9']
  intro T hT X
  have hc1 : H[ad (999, j)]? = some (vp_cell (cI 3) (am_ln G w 999 j, .inl (fun k => Int32.ofInt (am_gi G w 999 j k)))) := hH.1 q0 _ hq
  have ht3 := am_tys_at cI (k := 3) (by decide)
  obtain ⟨a8, k0, hk0', cm0, hkk0⟩ := a2
  obtain ⟨-, k1, hk1', cm1, hkk1⟩ := (x8.2 3 _ ht3).1 (am_ln G w 999 j) (fun k => .int (Int32.ofInt (am_gi G w 999 j k)))
  have hc9 : ((st.map (am_cv ad)).map fun v => v.category).sum ≤ 8 := by rw [List.map_map]; show (st.map (fun v => (am_cv ad v).category)).sum ≤ 8; rw [show (fun v => (am_cv ad v).category) = am_cat from funext (am_cat_cv ad)]; exact hcat
  have nw : nativeFrameWords "java/lang/System" "arraycopy" 5 = 7 := by decide
  obtain ⟨vm', X', step⟩ := X.arraycopy x1 x6 (x7 _ hlink) (x7 _ hnat) (x7 _ hstat) (x7 _ hini) (src := ad (t0, j0)) (dst := ad (999, j)) (cs := c0) (cd := vp_cell (cI 3) (am_ln G w 999 j, .inl (fun k => Int32.ofInt (am_gi G w 999 j k)))) (srcPos := Int32.ofInt (sp : Int)) (destPos := Int32.ofInt (dp : Int)) (n := Int32.ofInt (n : Int)) (by rw [hT]; exact a1) (by rw [hT]; exact hc1)
    a8 (fun _ h => by cases h) a3 (fun h => by cases h) hk0' hk1' hkk0 hkk1 (by rfl) (nn sp rs) (nn dp rd) (nn n rn)
    (by rw [tI sp rs, tI n rn]; omega)
    (by rw [tI dp rd, tI n rn]; show ¬ _ > ((arrV (cI 3) (am_ln G w 999 j) (fun k => .int (Int32.ofInt (am_gi G w 999 j k)))).slots.size : Int); rw [arrV_size]; omega)
    (fun vm₁ _ i hi => by
      rw [en n rn] at hi
      have e : c0.slots.getD ((Int32.ofInt (sp : Int)).toNatClampNeg + i) .null = .int (Int32.ofInt (am_gi G w t0 j0 (sp + i))) := by
        rw [Array.getD_eq_getD_getElem?, en sp rs, a7 _ (by omega)]
        rfl
      refine ⟨?_, ?_⟩
      · rw [e]
        exact (am_nfi (code := 4) (ty := .byte) (hH.2.2.2.2.1.1 _ _ _) (by decide) (Or.inr (Or.inr ⟨rfl, hb i hi⟩))).2
      · rw [e]
        exact trivial)
    (g := F0 m pc lsA (.int (Int32.ofInt (n : Int)) :: .int (Int32.ofInt (dp : Int)) :: .ref (ad (999, j)) :: .int (Int32.ofInt (sp : Int)) :: .ref (ad (t0, j0)) :: st.map (am_cv ad))) rfl (hl.1.trans x3.symm) (rest := st.map (am_cv ad)) rfl (by rw [x2]; exact hd) (by omega) (by rw [nw]; show 2 * 0 + _ + _ ≤ _; omega)
  have e1 : copied c0 (vp_cell (cI 3) (am_ln G w 999 j, .inl (fun k => Int32.ofInt (am_gi G w 999 j k)))) (Int32.ofInt (sp : Int)) (Int32.ofInt (dp : Int)) (Int32.ofInt (n : Int)) = vp_cell (cI 3) (am_ln G w 999 j, .inl (va_cpy (fun k => Int32.ofInt (am_gi G w t0 j0 k)) (fun k => Int32.ofInt (am_gi G w 999 j k)) (Int32.ofInt (sp : Int)).toNatClampNeg (Int32.ofInt (dp : Int)).toNatClampNeg (Int32.ofInt (n : Int)).toNatClampNeg)) := va_copiedX (fun z : Int32 => Value.int z) c0 (cI 3) (n0 := am_ln G w t0 j0) (n1 := am_ln G w 999 j) (sp := (Int32.ofInt (sp : Int)).toNatClampNeg) (dp := (Int32.ofInt (dp : Int)).toNatClampNeg) (n := (Int32.ofInt (n : Int)).toNatClampNeg) (fun k => Int32.ofInt (am_gi G w t0 j0 k)) (fun k => Int32.ofInt (am_gi G w 999 j k)) a7 (by rw [en sp rs, en n rn]; exact h4)
  rw [e1, en sp rs, en dp rd, en n rn] at X' step
  have hcE : am_cE cI G ad (am_cpw G w t0 j0 sp j dp n) (999, j) = .inl (cI 3, am_ln G w 999 j, .inl (va_cpy (fun k => Int32.ofInt (am_gi G w t0 j0 k)) (fun k => Int32.ofInt (am_gi G w 999 j k)) sp dp n)) := by
    rw [am_cE_i (w := am_cpw G w t0 j0 sp j dp n) (show am_kd G (am_cpw G w t0 j0 sp j dp n) 999 j = 3 from hk1) (by decide) (by decide)]
    refine congrArg (fun g => (.inl (cI 3, am_ln G w 999 j, .inl g) : va_E)) (funext fun k9 => ?_)
    unfold va_cpy
    rw [am_cpw_gi]
    by_cases e9 : dp ≤ k9 ∧ k9 < dp + n
    · rw [if_pos e9, if_pos ⟨rfl, rfl, e9⟩]
    · rw [if_neg e9, if_neg (fun e => e9 e.2.2)]
  generalize hcc : vp_cell (cI 3) (am_ln G w 999 j, .inl (va_cpy (fun k => Int32.ofInt (am_gi G w t0 j0 k)) (fun k => Int32.ofInt (am_gi G w 999 j k)) sp dp n)) = cc at X' step
  have hlt : ad (999, j) < H.size := (Array.getElem?_eq_some_iff.mp hc1).1
  have hheap : ((T.setVm vm').setCell (ad (999, j)) cc).heap = H.setIfInBounds (ad (999, j)) cc := by rw [← hT]; rfl
  have oq : ∀ q : Nat, q ≠ ad (999, j) → (H.setIfInBounds (ad (999, j)) cc)[q]? = H[q]? := fun q hq => by simp [Array.getElem?_setIfInBounds, Ne.symm hq]
  have hS := hH.2.2.1
  have hD := hH.2.1
  have hH1 := fun (L : List Loc) (hL : ∀ q ∈ L, q.base = ad (999, j)) => hk9 _ (H.setIfInBounds (ad (999, j)) cc) (locs ++ L) hcE (hH.1.set hD hq (show (H.setIfInBounds (ad (999, j)) cc)[ad (999, j)]? = some _ by rw [← hcc]; simp [Array.getElem?_setIfInBounds, hlt]) oq) (hD.set hq) ⟨by simp; exact hS.1, fun q g1 g2 => by
      rw [oq q (fun e => g2 (by rw [e]; exact hD.2 q0 _ hq))]
      exact hS.2.1 q g1 g2, fun q hq' => by
      rcases List.mem_append.mp hq' with h | h
      · exact hS.2.2 q h
      · rw [hL q h]
        exact hD.2 q0 _ hq⟩
  obtain ⟨t, a1, b1⟩ := k p l e R s m args below meth c _ _ cells slots QQ Dg cI ad A lsA ad0 w0 hX (hH1 _ (fun q hq => by
    obtain ⟨z, -, hz⟩ := List.mem_map.mp hq
    rw [← hz])) (am_ag_n rfl hg) h1 h2 hl (fun q hq => am_ok_n rfl (ho q hq)) (fun v hv => am_ok_n rfl (hst5 v hv)) hR _ hheap X'
  exact ⟨t, step t a1, b1⟩
end AMK2
