-- RULES: arrays and fields
theorem am_cE_eq {cI : Nat → ClassId} {G : am_G} {ad : am_I → Nat} {w w' : am_W} {x : am_I} (h1 : am_kd G w' x.1 x.2 = am_kd G w x.1 x.2) (h2 : am_ln G w' x.1 x.2 = am_ln G w x.1 x.2) (h3 : ∀ k, am_gi G w' x.1 x.2 k = am_gi G w x.1 x.2 k) (h4 : ∀ k, am_gl w' x.1 x.2 k = am_gl w x.1 x.2 k) (h5 : ∀ k, am_gr G w' x.1 x.2 k = am_gr G w x.1 x.2 k) : am_cE cI G ad w' x = am_cE cI G ad w x := by
  unfold am_cE am_ar am_fv
  simp only [h1, h2, h3, h4, h5]
theorem am_cE_i {cI : Nat → ClassId} {G : am_G} {ad : am_I → Nat} {w : am_W} {t j kd : Nat} (h : am_kd G w t j = kd) (h1 : kd ≠ 1) (h5 : kd < 5) : am_cE cI G ad w (t, j) = .inl (cI kd, am_ln G w t j, .inl (fun k => Int32.ofInt (am_gi G w t j k))) := by
  unfold am_cE am_ar
  simp only [h]
  rw [if_pos (by omega), if_neg h1, if_pos h5]
theorem am_cE_l {cI : Nat → ClassId} {G : am_G} {ad : am_I → Nat} {w : am_W} {t j : Nat} (h : am_kd G w t j = 1) : am_cE cI G ad w (t, j) = .inl (cI 1, am_ln G w t j, .inr (.inl (fun k => am_gl w t j k))) := by
  unfold am_cE am_ar
  simp only [h]
  rfl
theorem am_cE_r {cI : Nat → ClassId} {G : am_G} {ad : am_I → Nat} {w : am_W} {t j kd : Nat} (h : am_kd G w t j = kd) (h5 : 5 ≤ kd) (h100 : kd < 100) : am_cE cI G ad w (t, j) = .inl (cI kd, am_ln G w t j, .inr (.inr (.inr (.inr (fun k => if k < am_ln G w t j then (am_gr G w t j k).map ad else none))))) := by
  unfold am_cE am_ar
  simp only [h]
  rw [if_pos h100, if_neg (by omega), if_neg (by omega)]
theorem am_cE_o {cI : Nat → ClassId} {G : am_G} {ad : am_I → Nat} {w : am_W} {t j ci : Nat} (h : am_kd G w t j = 100 + ci) : am_cE cI G ad w (t, j) = .inr (ci, (List.range (am_nF ci)).map (fun k => am_cv ad (am_fv G w t j ci k))) := by
  unfold am_cE
  simp only [h]
  rw [if_neg (by omega), show 100 + ci - 100 = ci by omega]
theorem am_fs_set {α : Type} (n k : Nat) (f g : Nat → α) (v : α) (hk : g k = v) (ho : ∀ i, i ≠ k → g i = f i) : ((List.range n).map f).set k v = (List.range n).map g := by
  apply List.ext_getElem?
  intro i
  rw [List.getElem?_set, List.getElem?_map, List.getElem?_map, List.length_map, List.length_range]
  by_cases h : k = i
  · subst h
    rw [if_pos rfl]
    by_cases h2 : k < n
    · rw [if_pos h2, List.getElem?_range h2]
      exact congrArg some hk.symm
    · rw [if_neg h2, List.getElem?_eq_none (by rw [List.length_range]; omega)]
      rfl
  · rw [if_neg h]
    by_cases h2 : i < n
    · rw [List.getElem?_range h2]
      exact congrArg some (ho i (fun e => h e.symm)).symm
    · rw [List.getElem?_eq_none (by rw [List.length_range]; omega)]
      rfl
theorem am_gi_up {G : am_G} {w : am_W} {t j k : Nat} {v : Int} (ht : t < 1000) (a b c : Nat) : am_gi G (am_up w.1 t j k v, w.2) a b c = if a = t ∧ b = j ∧ c = k then v else am_gi G w a b c := by
  unfold am_gi
  by_cases h : 1000 ≤ a
  · rw [if_pos h, if_pos h, if_neg (by omega)]
  · rw [if_neg h, if_neg h]
    rfl
theorem am_gl_up {w : am_W} {t j k : Nat} {v : Int64} (ht : t < 1000) (a b c : Nat) : am_gl (w.1, am_up w.2.1 t j k v, w.2.2) a b c = if a = t ∧ b = j ∧ c = k then v else am_gl w a b c := by
  unfold am_gl
  by_cases h : 1000 ≤ a
  · rw [if_pos h, if_pos h, if_neg (by omega)]
  · rw [if_neg h, if_neg h]
    rfl
theorem am_wf_i {G : am_G} {SC : Nat → Nat} {w : am_W} {t j k : Nat} {v : Int} (ht : t < 1000) (hv : am_rg v) (h : am_wf G SC w) : am_wf G SC (am_up w.1 t j k v, w.2) := by
  refine ⟨fun a b c => ?_, h.2.1, h.2.2⟩
  rw [am_gi_up ht]
  split
  · exact hv
  · exact h.1 a b c
/-- one cell of the world is written -/
theorem am_wr {G : am_G} {SC : Nat → Nat} {Dg : va_G} {cI : Nat → ClassId} {s : State} {A : Nat → Prop} {ad : am_I → Nat} {w w' : am_W} {H : Heap} {locs : List Loc} (h : am_H G SC Dg cI s A ad w H locs) {id : am_I} (hl : am_lv SC w id) (ht : id.1 < 1000) (hn : w'.2.2.2.2 = w.2.2.2.2) (ho : ∀ x : am_I, x ≠ id → am_cE cI G ad w' x = am_cE cI G ad w x) (hwf : am_wf G SC w') :
    ∃ q0 : Nat, (am_wsl G SC cI ad w)[q0]? = some (ad id, am_cE cI G ad w id) ∧ ∀ (e : va_E) (H1 : Heap) (locs1 : List Loc), am_cE cI G ad w' id = e → va_P Dg am_cl ((am_wsl G SC cI ad w).set q0 (ad id, e)) H1 → va_D A ((am_wsl G SC cI ad w).set q0 (ad id, e)) → va_S A s.heap H1 locs1 → am_H G SC Dg cI s A ad w' H1 locs1 := by
  obtain ⟨q, hq, hq2⟩ := am_wsl_at (G := G) (cI := cI) (ad := ad) (am_ids_mem.mpr ⟨hl, ht⟩)
  refine ⟨q, hq2, fun e H1 locs1 he hP hD hS => ?_⟩
  rw [am_wsl_set hq hn ho he] at hP hD
  refine ⟨hP, hD, hS, h.2.2.2.1, hwf, fun x hx1 hx2 hx3 => ?_, h.2.2.2.2.2.2⟩
  rw [ho x (fun e => by subst e; omega)]
  exact h.2.2.2.2.2.1 x hx1 hx2 hx3
theorem am_ok_n {SC : Nat → Nat} {w w' : am_W} (h : w'.2.2.2.2 = w.2.2.2.2) {v : am_V} (hl : am_ok SC w v) : am_ok SC w' v := am_ok_grow (by omega) hl
theorem am_ag_n {SC : Nat → Nat} {ad0 ad : am_I → Nat} {w0 w w' : am_W} (h : w'.2.2.2.2 = w.2.2.2.2) (g : am_ag SC ad0 w0 ad w) : am_ag SC ad0 w0 ad w' := ⟨by rw [h]; exact g.1, g.2⟩
theorem am_nfi {code : Nat} {ty : FieldType} {z : Int} (hr : am_rg z) (h : am_fty code ty = true) (hz : code = 0 ∨ (code = 3 ∧ (z = 0 ∨ z = 1)) ∨ (code = 4 ∧ -128 ≤ z ∧ z < 128)) : narrow ty (.int (Int32.ofInt z)) = .int (Int32.ofInt z) ∧ fits ty (.int (Int32.ofInt z)) = true := by
  rcases hz with rfl | ⟨rfl, hz⟩ | ⟨rfl, h1, h2⟩
  · have e : ty = .int := by simpa [am_fty] using h
    subst e
    exact ⟨rfl, rfl⟩
  · have e : ty = .boolean := by simpa [am_fty] using h
    subst e
    rcases hz with rfl | rfl <;> exact ⟨rfl, rfl⟩
  · have e : ty = .byte := by simpa [am_fty] using h
    subst e
    have e2 : (Int32.ofInt z).toInt8.toInt32 = Int32.ofInt z := lg_i2b_small (by rw [am_toI hr]; exact h1) (by rw [am_toI hr]; exact h2)
    refine ⟨?_, ?_⟩
    · show Value.int (Int32.ofInt z).toInt8.toInt32 = _
      rw [e2]
    · rw [← e2]
      exact pk_fb _
theorem am_vz (cA : ClassId) (a : vp_A) : ∃ z, vp_cell cA a = arrV cA a.1 z := by
  obtain ⟨n, f | f | f | f | f⟩ := a
  · exact ⟨fun j => .int (f j), rfl⟩
  · exact ⟨fun j => .long (f j), rfl⟩
  · exact ⟨fun j => .float (f j), rfl⟩
  · exact ⟨fun j => .double (f j), rfl⟩
  · exact ⟨fun j => va_rf (f j), rfl⟩
theorem am_cE_a {cI : Nat → ClassId} {G : am_G} {ad : am_I → Nat} {w : am_W} {t j kd : Nat} (h : am_kd G w t j = kd) (h100 : kd < 100) : am_cE cI G ad w (t, j) = .inl (cI kd, am_ln G w t j, am_ar G ad w t j) := by
  unfold am_cE
  simp only [h]
  rw [if_pos h100]
/-- an array that is there can be read -/
theorem am_readA {G : am_G} {SC : Nat → Nat} {Dg : va_G} {cI : Nat → ClassId} {s : State} {A : Nat → Prop} {ad : am_I → Nat} {w : am_W} {H : Heap} {locs : List Loc} (h : am_H G SC Dg cI s A ad w H locs) (hK : va_K Dg am_cl (am_tys cI) s) {t j kd : Nat} (hl : am_lv SC w (t, j)) (ht : t < 1100) (hkd : am_kd G w t j = kd) (h10 : kd < 10) :
    ∃ cell : Cell, H[ad (t, j)]? = some cell ∧ s.isArrayOf cell (am_aty kd) ∧ cell.vm ≠ .unknown ∧ am_ln G w t j ≤ cell.slots.size ∧ cell.slots.size.toInt32 = Int32.ofNat (am_ln G w t j) ∧ ∀ k, k < am_ln G w t j → cell.slots[k]? = (vp_cell (cI kd) (am_ln G w t j, am_ar G ad w t j)).slots[k]? := by
  have hE := am_cE_a (cI := cI) (ad := ad) hkd (show kd < 100 by omega)
  by_cases h1 : t < 1000
  · obtain ⟨q, -, hq⟩ := am_wsl_at (G := G) (cI := cI) (ad := ad) (am_ids_mem.mpr ⟨hl, h1⟩)
    rw [hE] at hq
    have hc : H[ad (t, j)]? = some (vp_cell (cI kd) (am_ln G w t j, am_ar G ad w t j)) := h.1 q _ hq
    obtain ⟨z, hz⟩ := am_vz (cI kd) (am_ln G w t j, am_ar G ad w t j)
    rw [hz] at hc ⊢
    exact ⟨_, hc, (hK.2 kd _ (am_tys_at cI h10)).1 _ z, (fun q => nomatch q), by rw [arrV_size]; exact Nat.le_refl _, by rw [arrV_size], fun k _ => rfl⟩
  · have hsc : j < SC t := by
      rcases hl with ⟨e, -⟩ | ⟨-, e⟩
      · exact absurd e (by show ¬ t = 999; omega)
      · exact e
    obtain ⟨g1, g2, g3⟩ := h.2.2.2.2.2.1 (t, j) (by show 1000 ≤ t; omega) ht hsc
    have e2 : G.2.1 t j = kd := by rw [← hkd]; unfold am_kd; rw [if_neg (by omega)]
    rw [hE] at g1
    have g1 : am_ca s Dg (G.2.1 t j) (ad (t, j), .inl (cI kd, am_ln G w t j, am_ar G ad w t j)) s.heap := g1
    rw [e2] at g1
    exact g1.kept (h.2.2.1.2.1 _ g2 g3)
/-- an object that is there can be read -/
theorem am_readO {G : am_G} {SC : Nat → Nat} {Dg : va_G} {cI : Nat → ClassId} {s : State} {A : Nat → Prop} {ad : am_I → Nat} {w : am_W} {H : Heap} {locs : List Loc} (h : am_H G SC Dg cI s A ad w H locs) {t j ci N : Nat} {C : String} {T : u_T} (hc : am_cl[ci]? = some (C, T, N)) (hl : am_lv SC w (t, j)) (ht : t < 1100) (hkd : am_kd G w t j = 100 + ci) :
    ∃ cell : Cell, H[ad (t, j)]? = some cell ∧ cell.cls = Dg.1 ci ∧ cell.vm.isStatics = false ∧ cell.vm ≠ .unknown ∧ ∀ k, k < N → cell.slots[Dg.2 ci k]? = some (am_cv ad (am_fv G w t j ci k)) := by
  have hE := am_cE_o (cI := cI) (ad := ad) hkd
  have hV : ∀ k, k < N → vp_V ((List.range (am_nF ci)).map (fun k => am_cv ad (am_fv G w t j ci k))) k = am_cv ad (am_fv G w t j ci k) := fun k hk => by
    unfold vp_V
    rw [List.getD_eq_getElem?_getD, List.getElem?_map, List.getElem?_range (by rw [am_nF_of hc]; exact hk)]
    rfl
  by_cases h1 : t < 1000
  · obtain ⟨q, -, hq⟩ := am_wsl_at (G := G) (cI := cI) (ad := ad) (am_ids_mem.mpr ⟨hl, h1⟩)
    rw [hE] at hq
    obtain ⟨r, r1, cell, c1, c2, c3, c4⟩ := h.1 q _ hq
    obtain rfl : r = (C, T, N) := Option.some.inj (r1.symm.trans hc)
    exact ⟨cell, c1, c2, by rw [c3]; rfl, by rw [c3]; exact (fun q => nomatch q), fun k hk => (c4 k hk).trans (congrArg some (hV k hk))⟩
  · have hsc : j < SC t := by
      rcases hl with ⟨e, -⟩ | ⟨-, e⟩
      · exact absurd e (by show ¬ t = 999; omega)
      · exact e
    obtain ⟨g1, g2, g3⟩ := h.2.2.2.2.2.1 (t, j) (by show 1000 ≤ t; omega) ht hsc
    rw [hE] at g1
    obtain ⟨cell, c1, c2, c3, c4, c5⟩ := g1.kept (h.2.2.1.2.1 _ g2 g3)
    exact ⟨cell, c1, c2, c3, c4, fun k hk => (c5 k (by show k < ((List.range (am_nF ci)).map _).length; rw [List.length_map, List.length_range, am_nF_of hc]; exact hk)).trans (congrArg some (hV k hk))⟩
/-- a place of an array of numbers -/
theorem am_rdI {G : am_G} {SC : Nat → Nat} {Dg : va_G} {cI : Nat → ClassId} {s : State} {A : Nat → Prop} {ad : am_I → Nat} {w : am_W} {H : Heap} {locs : List Loc} (h : am_H G SC Dg cI s A ad w H locs) (hK : va_K Dg am_cl (am_tys cI) s) {t j kd : Nat} {i v : Int} (hl : am_lv SC w (t, j)) (ht : t < 1100) (hkd : am_kd G w t j = kd) (hn1 : kd ≠ 1) (h5 : kd < 5) (ri : am_rg i) (h0 : 0 ≤ i) (hi : i < am_ln G w t j) (hv : am_gi G w t j i.toNat = v) :
    ∃ cell : Cell, H[ad (t, j)]? = some cell ∧ s.isArrayOf cell (am_aty kd) ∧ cell.vm ≠ .unknown ∧ ¬ (Int32.ofInt i < 0 ∨ cell.slots.size ≤ (Int32.ofInt i).toNatClampNeg) ∧ cell.slots[(Int32.ofInt i).toNatClampNeg]? = some (.int (Int32.ofInt v)) := by
  obtain ⟨cell, c1, c2, c3, c4, c5, c6⟩ := am_readA h hK hl ht hkd (by omega)
  have hin := am_vin ri h0 hi
  have hlt : i.toNat < am_ln G w t j := by omega
  refine ⟨cell, c1, c2, c3, fun q => q.elim (fun a => hin (Or.inl a)) (fun a => hin (Or.inr (Nat.le_trans c4 a))), ?_⟩
  have e : am_ar G ad w t j = .inl (fun k => Int32.ofInt (am_gi G w t j k)) := by
    unfold am_ar
    rw [hkd, if_neg hn1, if_pos h5]
  rw [am_vix ri, c6 _ hlt, e]
  show (arrV (cI kd) (am_ln G w t j) (fun k => .int (Int32.ofInt (am_gi G w t j k)))).slots[i.toNat]? = _
  rw [arrV_read _ _ hlt, hv]
section AMM
variable {G : am_G} {SC : Nat → Nat} {d : Nat} {Y : am_Y} {Q : Option am_V → am_W → Prop} {pc bc bs : Nat} {ls : List (Nat × am_V)} {st : List am_V} {w : am_W}
theorem am_iaload {t j : Nat} {i v : Int} (hd : decode Y.2.1 pc = .ok (.iaload, 1)) (ht : t < 1100) (hkd : am_kd G w t j = 0) (h0 : 0 ≤ i) (hi : i < am_ln G w t j) (hv : am_gi G w t j i.toNat = v) (k : am_A G SC d Y Q (pc + 1) ls (.inl v :: st) w bc bs) : am_A G SC d Y Q pc ls (.inl i :: .inr (.inr (some (t, j))) :: st) w bc bs := by
  intro p l e R s m args below meth c H locs cells slots QQ Dg cI ad A lsA ad0 w0 hX hH hg h1 h2 hl ho hs hR
  have ri : am_rg i := am_o1 hs
  have hlv : am_lv SC w (t, j) := am_o1 (am_o2 hs)
  have hv' : am_rg v := by rw [← hv]; exact hH.2.2.2.2.1.1 _ _ _
  obtain ⟨cell, c1, c2, c3, c4, c5⟩ := am_rdI hH hX.2.2.2.2.2.2.2.1 hlv ht hkd (by decide) (by decide) ri h0 hi hv
  exact W.iald (v := .int (Int32.ofInt v)) hX.1 hX.2.1 c1 c2 c3 c4 c5 rfl rfl hd (k p l e R s m args below meth c H locs cells slots QQ Dg cI ad A lsA ad0 w0 hX hH hg h1 h2 hl ho (am_oc hv' (am_o2 (am_o2 hs))) hR)
theorem am_caload {t j : Nat} {i v : Int} (hd : decode Y.2.1 pc = .ok (.caload, 1)) (ht : t < 1100) (hkd : am_kd G w t j = 2) (h0 : 0 ≤ i) (hi : i < am_ln G w t j) (hv : am_gi G w t j i.toNat = v) (k : am_A G SC d Y Q (pc + 1) ls (.inl v :: st) w bc bs) : am_A G SC d Y Q pc ls (.inl i :: .inr (.inr (some (t, j))) :: st) w bc bs := by
  intro p l e R s m args below meth c H locs cells slots QQ Dg cI ad A lsA ad0 w0 hX hH hg h1 h2 hl ho hs hR
  have ri : am_rg i := am_o1 hs
  have hlv : am_lv SC w (t, j) := am_o1 (am_o2 hs)
  have hv' : am_rg v := by rw [← hv]; exact hH.2.2.2.2.1.1 _ _ _
  obtain ⟨cell, c1, c2, c3, c4, c5⟩ := am_rdI hH hX.2.2.2.2.2.2.2.1 hlv ht hkd (by decide) (by decide) ri h0 hi hv
  exact W.cald (v := .int (Int32.ofInt v)) hX.1 hX.2.1 c1 c2 c3 c4 c5 rfl rfl hd (k p l e R s m args below meth c H locs cells slots QQ Dg cI ad A lsA ad0 w0 hX hH hg h1 h2 hl ho (am_oc hv' (am_o2 (am_o2 hs))) hR)
theorem am_baload {t j : Nat} {i v : Int} (hd : decode Y.2.1 pc = .ok (.baload, 1)) (ht : t < 1100) (hkd : am_kd G w t j = 3) (h0 : 0 ≤ i) (hi : i < am_ln G w t j) (hv : am_gi G w t j i.toNat = v) (k : am_A G SC d Y Q (pc + 1) ls (.inl v :: st) w bc bs) : am_A G SC d Y Q pc ls (.inl i :: .inr (.inr (some (t, j))) :: st) w bc bs := by
  intro p l e R s m args below meth c H locs cells slots QQ Dg cI ad A lsA ad0 w0 hX hH hg h1 h2 hl ho hs hR
  have ri : am_rg i := am_o1 hs
  have hlv : am_lv SC w (t, j) := am_o1 (am_o2 hs)
  have hv' : am_rg v := by rw [← hv]; exact hH.2.2.2.2.1.1 _ _ _
  obtain ⟨cell, c1, c2, c3, c4, c5⟩ := am_rdI hH hX.2.2.2.2.2.2.2.1 hlv ht hkd (by decide) (by decide) ri h0 hi hv
  exact W.bald (v := .int (Int32.ofInt v)) hX.1 hX.2.1 c1 c2 c3 c4 c5 rfl rfl hd (k p l e R s m args below meth c H locs cells slots QQ Dg cI ad A lsA ad0 w0 hX hH hg h1 h2 hl ho (am_oc hv' (am_o2 (am_o2 hs))) hR)
theorem am_zaload {t j : Nat} {i v : Int} (hd : decode Y.2.1 pc = .ok (.baload, 1)) (ht : t < 1100) (hkd : am_kd G w t j = 4) (h0 : 0 ≤ i) (hi : i < am_ln G w t j) (hv : am_gi G w t j i.toNat = v) (k : am_A G SC d Y Q (pc + 1) ls (.inl v :: st) w bc bs) : am_A G SC d Y Q pc ls (.inl i :: .inr (.inr (some (t, j))) :: st) w bc bs := by
  intro p l e R s m args below meth c H locs cells slots QQ Dg cI ad A lsA ad0 w0 hX hH hg h1 h2 hl ho hs hR
  have ri : am_rg i := am_o1 hs
  have hlv : am_lv SC w (t, j) := am_o1 (am_o2 hs)
  have hv' : am_rg v := by rw [← hv]; exact hH.2.2.2.2.1.1 _ _ _
  obtain ⟨cell, c1, c2, c3, c4, c5⟩ := am_rdI hH hX.2.2.2.2.2.2.2.1 hlv ht hkd (by decide) (by decide) ri h0 hi hv
  exact W.zald (v := .int (Int32.ofInt v)) hX.1 hX.2.1 c1 c2 c3 c4 c5 rfl rfl hd (k p l e R s m args below meth c H locs cells slots QQ Dg cI ad A lsA ad0 w0 hX hH hg h1 h2 hl ho (am_oc hv' (am_o2 (am_o2 hs))) hR)
theorem am_laload {t j : Nat} {i : Int} {x : Int64} (hd : decode Y.2.1 pc = .ok (.laload, 1)) (ht : t < 1100) (hkd : am_kd G w t j = 1) (h0 : 0 ≤ i) (hi : i < am_ln G w t j) (hv : am_gl w t j i.toNat = x) (k : am_A G SC d Y Q (pc + 1) ls (.inr (.inl x) :: st) w bc bs) : am_A G SC d Y Q pc ls (.inl i :: .inr (.inr (some (t, j))) :: st) w bc bs := by
  intro p l e R s m args below meth c H locs cells slots QQ Dg cI ad A lsA ad0 w0 hX hH hg h1 h2 hl ho hs hR
  have ri : am_rg i := am_o1 hs
  have hlv : am_lv SC w (t, j) := am_o1 (am_o2 hs)
  obtain ⟨cell, c1, c2, c3, c4, c5, c6⟩ := am_readA hH hX.2.2.2.2.2.2.2.1 hlv ht hkd (by decide)
  have hin := am_vin ri h0 hi
  have hlt : i.toNat < am_ln G w t j := by omega
  have ea : am_ar G ad w t j = .inr (.inl (fun k => am_gl w t j k)) := by
    unfold am_ar
    rw [hkd, if_pos rfl]
  have c7 : cell.slots[(Int32.ofInt i).toNatClampNeg]? = some (.long x) := by
    rw [am_vix ri, c6 _ hlt, ea]
    show (arrV (cI 1) (am_ln G w t j) (fun k => .long (am_gl w t j k))).slots[i.toNat]? = _
    rw [arrV_read _ _ hlt, hv]
  exact W.lald (v := .long x) hX.1 hX.2.1 c1 c2 c3 (fun q => q.elim (fun a => hin (Or.inl a)) (fun a => hin (Or.inr (Nat.le_trans c4 a)))) c7 rfl rfl hd (k p l e R s m args below meth c H locs cells slots QQ Dg cI ad A lsA ad0 w0 hX hH hg h1 h2 hl ho (am_oc trivial (am_o2 (am_o2 hs))) hR)
theorem am_aaload {t j kd : Nat} {i : Int} {r : Option am_I} (hd : decode Y.2.1 pc = .ok (.aaload, 1)) (ht : t < 1100) (hkd : am_kd G w t j = kd) (h5 : 5 ≤ kd) (h10 : kd < 10) (h0 : 0 ≤ i) (hi : i < am_ln G w t j) (hv : am_gr G w t j i.toNat = r) (k : am_A G SC d Y Q (pc + 1) ls (.inr (.inr r) :: st) w bc bs) : am_A G SC d Y Q pc ls (.inl i :: .inr (.inr (some (t, j))) :: st) w bc bs := by
  intro p l e R s m args below meth c H locs cells slots QQ Dg cI ad A lsA ad0 w0 hX hH hg h1 h2 hl ho hs hR
  have ri : am_rg i := am_o1 hs
  have hlv : am_lv SC w (t, j) := am_o1 (am_o2 hs)
  obtain ⟨cell, c1, c2, c3, c4, c5, c6⟩ := am_readA hH hX.2.2.2.2.2.2.2.1 hlv ht hkd h10
  have hr : am_ok SC w (.inr (.inr r)) := by
    cases r with
    | none => trivial
    | some id => exact hH.2.2.2.2.1.2.1 (t, j) i.toNat id hlv (by unfold am_ext; rw [hkd, if_pos (by omega)]; show i.toNat < am_ln G w t j; omega) hv
  have hty : (am_aty kd).isReference = true := by
    rcases (show kd = 5 ∨ kd = 6 ∨ kd = 7 ∨ kd = 8 ∨ kd = 9 by omega) with rfl | rfl | rfl | rfl | rfl <;> rfl
  have hin := am_vin ri h0 hi
  have hlt : (Int32.ofInt i).toNatClampNeg < am_ln G w t j := Nat.not_le.mp fun q => hin (Or.inr q)
  have ea : am_ar G ad w t j = .inr (.inr (.inr (.inr (fun k => if k < am_ln G w t j then (am_gr G w t j k).map ad else none)))) := by
    unfold am_ar
    rw [hkd, if_neg (by omega), if_neg (by omega)]
  have c7 : cell.slots[(Int32.ofInt i).toNatClampNeg]? = some (am_cv ad (.inr (.inr r))) := by
    rw [c6 _ hlt, ea]
    show (arrV (cI kd) (am_ln G w t j) (fun j9 => va_rf (if j9 < am_ln G w t j then (am_gr G w t j j9).map ad else none))).slots[(Int32.ofInt i).toNatClampNeg]? = _
    rw [arrV_read _ _ hlt, if_pos hlt, am_vix ri, hv]
    rfl
  exact W.aald (v := am_cv ad (.inr (.inr r))) (ty := am_aty kd) hX.1 hX.2.1 c1 c2 hty c3 (fun q => q.elim (fun a => hin (Or.inl a)) (fun a => hin (Or.inr (Nat.le_trans c4 a)))) c7 rfl rfl hd (k p l e R s m args below meth c H locs cells slots QQ Dg cI ad A lsA ad0 w0 hX hH hg h1 h2 hl ho (am_oc hr (am_o2 (am_o2 hs))) hR)
theorem am_alen {t j kd : Nat} {v : Int} (hd : decode Y.2.1 pc = .ok (.arraylength, 1)) (ht : t < 1100) (hkd : am_kd G w t j = kd) (h10 : kd < 10) (hv : (am_ln G w t j : Int) = v) (hr : am_rg v) (k : am_A G SC d Y Q (pc + 1) ls (.inl v :: st) w bc bs) : am_A G SC d Y Q pc ls (.inr (.inr (some (t, j))) :: st) w bc bs := by
  intro p l e R s m args below meth c H locs cells slots QQ Dg cI ad A lsA ad0 w0 hX hH hg h1 h2 hl ho hs hR
  have hlv : am_lv SC w (t, j) := am_o1 hs
  obtain ⟨cell, c1, c2, c3, c4, c5, c6⟩ := am_readA hH hX.2.2.2.2.2.2.2.1 hlv ht hkd h10
  have ea : cell.slots.size.toInt32 = Int32.ofInt v := by
    rw [c5, ← hv]
    exact (Int32.ofInt_eq_ofNat).symm
  exact W.alen (n := Int32.ofInt v) hX.1 hX.2.1 c1 c2 ea rfl rfl hd (k p l e R s m args below meth c H locs cells slots QQ Dg cI ad A lsA ad0 w0 hX hH hg h1 h2 hl ho (am_oc hr (am_o2 hs)) hR)
theorem am_iastore {t j : Nat} {i z : Int}  (hd : decode Y.2.1 pc = .ok (.iastore, 1)) (ht : t < 998 ∨ t = 999) (hkd : am_kd G w t j = 0) (h0 : 0 ≤ i) (hi : i < am_ln G w t j) (k : am_A G SC d Y Q (pc + 1) ls st (am_up w.1 t j i.toNat z, w.2) bc bs) : am_A G SC d Y Q pc ls (.inl z :: .inl i :: .inr (.inr (some (t, j))) :: st) w bc bs := by
  intro p l e R s m args below meth c H locs cells slots QQ Dg cI ad A lsA ad0 w0 hX hH hg h1 h2 hl ho hs hR
  have rz : am_rg z := am_o1 hs
  have ri : am_rg i := am_o1 (am_o2 hs)
  have hlv : am_lv SC w (t, j) := am_o1 (am_o2 (am_o2 hs))
  have ht' : t < 1000 := by omega
  obtain ⟨q0, hq, hk9⟩ := am_wr (w' := (am_up w.1 t j i.toNat z, w.2)) hH hlv ht' rfl (fun x hx => am_cE_eq rfl rfl (fun k9 => by rw [am_gi_up ht', if_neg (fun e => hx (by rw [← e.1, ← e.2.1]))]) (fun _ => rfl) (fun _ => rfl)) (am_wf_i ht' rz hH.2.2.2.2.1)
  rw [am_cE_i hkd (by decide) (by decide)] at hq
  refine va_iast hX.1 hX.2.1 hX.2.2.2.2.2.2.2.1 hH.1 hH.2.1 hH.2.2.1 q0 0 hq (am_tys_at cI (by decide)) (am_vin ri h0 hi) hd (fun H1 locs1 hP hD hS => ?_)
  exact k p l e R s m args below meth c H1 locs1 cells slots QQ Dg cI ad A lsA ad0 w0 hX (hk9 _ H1 locs1 (by
    rw [am_cE_i (w := (am_up w.1 t j i.toNat z, w.2)) (show am_kd G (am_up w.1 t j i.toNat z, w.2) t j = 0 from hkd) (by decide) (by decide), am_vix ri]
    refine congrArg (fun g => (.inl (cI 0, am_ln G w t j, .inl g) : va_E)) (funext fun k9 => ?_)
    unfold upd
    rw [am_gi_up ht']
    by_cases e9 : k9 = i.toNat
    · rw [if_pos e9, if_pos ⟨rfl, rfl, e9⟩]
    · rw [if_neg e9, if_neg (fun e => e9 e.2.2)]) hP hD hS) (am_ag_n rfl hg) h1 h2 hl (fun q hq => am_ok_n rfl (ho q hq)) (fun v hv => am_ok_n rfl (am_o2 (am_o2 (am_o2 hs)) v hv)) hR
theorem am_castore {t j : Nat} {i z : Int} (hz : 0 ≤ z ∧ z < 65536) (hd : decode Y.2.1 pc = .ok (.castore, 1)) (ht : t < 998 ∨ t = 999) (hkd : am_kd G w t j = 2) (h0 : 0 ≤ i) (hi : i < am_ln G w t j) (k : am_A G SC d Y Q (pc + 1) ls st (am_up w.1 t j i.toNat z, w.2) bc bs) : am_A G SC d Y Q pc ls (.inl z :: .inl i :: .inr (.inr (some (t, j))) :: st) w bc bs := by
  intro p l e R s m args below meth c H locs cells slots QQ Dg cI ad A lsA ad0 w0 hX hH hg h1 h2 hl ho hs hR
  have rz : am_rg z := am_o1 hs
  have ri : am_rg i := am_o1 (am_o2 hs)
  have hlv : am_lv SC w (t, j) := am_o1 (am_o2 (am_o2 hs))
  have en : vp_nar .char (Int32.ofInt z) = Int32.ofInt z := lg_i2c_small (v := Int32.ofInt z) (by rw [am_toI rz]; exact hz.1) (by rw [am_toI rz]; exact hz.2)
  have ht' : t < 1000 := by omega
  obtain ⟨q0, hq, hk9⟩ := am_wr (w' := (am_up w.1 t j i.toNat z, w.2)) hH hlv ht' rfl (fun x hx => am_cE_eq rfl rfl (fun k9 => by rw [am_gi_up ht', if_neg (fun e => hx (by rw [← e.1, ← e.2.1]))]) (fun _ => rfl) (fun _ => rfl)) (am_wf_i ht' rz hH.2.2.2.2.1)
  rw [am_cE_i hkd (by decide) (by decide)] at hq
  refine va_cast hX.1 hX.2.1 hX.2.2.2.2.2.2.2.1 hH.1 hH.2.1 hH.2.2.1 q0 2 hq (am_tys_at cI (by decide)) (am_vin ri h0 hi) hd (fun H1 locs1 hP hD hS => ?_)
  exact k p l e R s m args below meth c H1 locs1 cells slots QQ Dg cI ad A lsA ad0 w0 hX (hk9 _ H1 locs1 (by
    rw [am_cE_i (w := (am_up w.1 t j i.toNat z, w.2)) (show am_kd G (am_up w.1 t j i.toNat z, w.2) t j = 2 from hkd) (by decide) (by decide), am_vix ri, en]
    refine congrArg (fun g => (.inl (cI 2, am_ln G w t j, .inl g) : va_E)) (funext fun k9 => ?_)
    unfold upd
    rw [am_gi_up ht']
    by_cases e9 : k9 = i.toNat
    · rw [if_pos e9, if_pos ⟨rfl, rfl, e9⟩]
    · rw [if_neg e9, if_neg (fun e => e9 e.2.2)]) hP hD hS) (am_ag_n rfl hg) h1 h2 hl (fun q hq => am_ok_n rfl (ho q hq)) (fun v hv => am_ok_n rfl (am_o2 (am_o2 (am_o2 hs)) v hv)) hR
theorem am_bastore {t j : Nat} {i z : Int} (hz : -128 ≤ z ∧ z < 128) (hd : decode Y.2.1 pc = .ok (.bastore, 1)) (ht : t < 998 ∨ t = 999) (hkd : am_kd G w t j = 3) (h0 : 0 ≤ i) (hi : i < am_ln G w t j) (k : am_A G SC d Y Q (pc + 1) ls st (am_up w.1 t j i.toNat z, w.2) bc bs) : am_A G SC d Y Q pc ls (.inl z :: .inl i :: .inr (.inr (some (t, j))) :: st) w bc bs := by
  intro p l e R s m args below meth c H locs cells slots QQ Dg cI ad A lsA ad0 w0 hX hH hg h1 h2 hl ho hs hR
  have rz : am_rg z := am_o1 hs
  have ri : am_rg i := am_o1 (am_o2 hs)
  have hlv : am_lv SC w (t, j) := am_o1 (am_o2 (am_o2 hs))
  have en : vp_nar .byte (Int32.ofInt z) = Int32.ofInt z := lg_i2b_small (v := Int32.ofInt z) (by rw [am_toI rz]; exact hz.1) (by rw [am_toI rz]; exact hz.2)
  have ht' : t < 1000 := by omega
  obtain ⟨q0, hq, hk9⟩ := am_wr (w' := (am_up w.1 t j i.toNat z, w.2)) hH hlv ht' rfl (fun x hx => am_cE_eq rfl rfl (fun k9 => by rw [am_gi_up ht', if_neg (fun e => hx (by rw [← e.1, ← e.2.1]))]) (fun _ => rfl) (fun _ => rfl)) (am_wf_i ht' rz hH.2.2.2.2.1)
  rw [am_cE_i hkd (by decide) (by decide)] at hq
  refine va_bast hX.1 hX.2.1 hX.2.2.2.2.2.2.2.1 hH.1 hH.2.1 hH.2.2.1 q0 3 hq (am_tys_at cI (by decide)) (am_vin ri h0 hi) hd (fun H1 locs1 hP hD hS => ?_)
  exact k p l e R s m args below meth c H1 locs1 cells slots QQ Dg cI ad A lsA ad0 w0 hX (hk9 _ H1 locs1 (by
    rw [am_cE_i (w := (am_up w.1 t j i.toNat z, w.2)) (show am_kd G (am_up w.1 t j i.toNat z, w.2) t j = 3 from hkd) (by decide) (by decide), am_vix ri, en]
    refine congrArg (fun g => (.inl (cI 3, am_ln G w t j, .inl g) : va_E)) (funext fun k9 => ?_)
    unfold upd
    rw [am_gi_up ht']
    by_cases e9 : k9 = i.toNat
    · rw [if_pos e9, if_pos ⟨rfl, rfl, e9⟩]
    · rw [if_neg e9, if_neg (fun e => e9 e.2.2)]) hP hD hS) (am_ag_n rfl hg) h1 h2 hl (fun q hq => am_ok_n rfl (ho q hq)) (fun v hv => am_ok_n rfl (am_o2 (am_o2 (am_o2 hs)) v hv)) hR
theorem am_zastore {t j : Nat} {i z : Int} (hz : z = 0 ∨ z = 1) (hd : decode Y.2.1 pc = .ok (.bastore, 1)) (ht : t < 998 ∨ t = 999) (hkd : am_kd G w t j = 4) (h0 : 0 ≤ i) (hi : i < am_ln G w t j) (k : am_A G SC d Y Q (pc + 1) ls st (am_up w.1 t j i.toNat z, w.2) bc bs) : am_A G SC d Y Q pc ls (.inl z :: .inl i :: .inr (.inr (some (t, j))) :: st) w bc bs := by
  intro p l e R s m args below meth c H locs cells slots QQ Dg cI ad A lsA ad0 w0 hX hH hg h1 h2 hl ho hs hR
  have rz : am_rg z := am_o1 hs
  have ri : am_rg i := am_o1 (am_o2 hs)
  have hlv : am_lv SC w (t, j) := am_o1 (am_o2 (am_o2 hs))
  have en : vp_nar .boolean (Int32.ofInt z) = Int32.ofInt z := by rcases hz with rfl | rfl <;> rfl
  have ht' : t < 1000 := by omega
  obtain ⟨q0, hq, hk9⟩ := am_wr (w' := (am_up w.1 t j i.toNat z, w.2)) hH hlv ht' rfl (fun x hx => am_cE_eq rfl rfl (fun k9 => by rw [am_gi_up ht', if_neg (fun e => hx (by rw [← e.1, ← e.2.1]))]) (fun _ => rfl) (fun _ => rfl)) (am_wf_i ht' rz hH.2.2.2.2.1)
  rw [am_cE_i hkd (by decide) (by decide)] at hq
  refine va_zast hX.1 hX.2.1 hX.2.2.2.2.2.2.2.1 hH.1 hH.2.1 hH.2.2.1 q0 4 hq (am_tys_at cI (by decide)) (am_vin ri h0 hi) hd (fun H1 locs1 hP hD hS => ?_)
  exact k p l e R s m args below meth c H1 locs1 cells slots QQ Dg cI ad A lsA ad0 w0 hX (hk9 _ H1 locs1 (by
    rw [am_cE_i (w := (am_up w.1 t j i.toNat z, w.2)) (show am_kd G (am_up w.1 t j i.toNat z, w.2) t j = 4 from hkd) (by decide) (by decide), am_vix ri, en]
    refine congrArg (fun g => (.inl (cI 4, am_ln G w t j, .inl g) : va_E)) (funext fun k9 => ?_)
    unfold upd
    rw [am_gi_up ht']
    by_cases e9 : k9 = i.toNat
    · rw [if_pos e9, if_pos ⟨rfl, rfl, e9⟩]
    · rw [if_neg e9, if_neg (fun e => e9 e.2.2)]) hP hD hS) (am_ag_n rfl hg) h1 h2 hl (fun q hq => am_ok_n rfl (ho q hq)) (fun v hv => am_ok_n rfl (am_o2 (am_o2 (am_o2 hs)) v hv)) hR
theorem am_lastore {t j : Nat} {i : Int} {x : Int64} (hd : decode Y.2.1 pc = .ok (.lastore, 1)) (ht : t < 998 ∨ t = 999) (hkd : am_kd G w t j = 1) (h0 : 0 ≤ i) (hi : i < am_ln G w t j) (k : am_A G SC d Y Q (pc + 1) ls st (w.1, am_up w.2.1 t j i.toNat x, w.2.2) bc bs) : am_A G SC d Y Q pc ls (.inr (.inl x) :: .inl i :: .inr (.inr (some (t, j))) :: st) w bc bs := by
  intro p l e R s m args below meth c H locs cells slots QQ Dg cI ad A lsA ad0 w0 hX hH hg h1 h2 hl ho hs hR
  have ri : am_rg i := am_o1 (am_o2 hs)
  have hlv : am_lv SC w (t, j) := am_o1 (am_o2 (am_o2 hs))
  have ht' : t < 1000 := by omega
  obtain ⟨q0, hq, hk9⟩ := am_wr (w' := (w.1, am_up w.2.1 t j i.toNat x, w.2.2)) hH hlv ht' rfl (fun y hy => am_cE_eq rfl rfl (fun _ => rfl) (fun k9 => by rw [am_gl_up ht', if_neg (fun e => hy (by rw [← e.1, ← e.2.1]))]) (fun _ => rfl)) hH.2.2.2.2.1
  rw [am_cE_l hkd] at hq
  refine va_last hX.1 hX.2.1 hX.2.2.2.2.2.2.2.1 hH.1 hH.2.1 hH.2.2.1 q0 1 hq (am_tys_at cI (by decide)) (am_vin ri h0 hi) hd (fun H1 locs1 hP hD hS => ?_)
  exact k p l e R s m args below meth c H1 locs1 cells slots QQ Dg cI ad A lsA ad0 w0 hX (hk9 _ H1 locs1 (by
    rw [am_cE_l (w := (w.1, am_up w.2.1 t j i.toNat x, w.2.2)) (show am_kd G (w.1, am_up w.2.1 t j i.toNat x, w.2.2) t j = 1 from hkd), am_vix ri]
    refine congrArg (fun g => (.inl (cI 1, am_ln G w t j, .inr (.inl g)) : va_E)) (funext fun k9 => ?_)
    unfold vp_updL
    rw [am_gl_up ht']
    by_cases e9 : k9 = i.toNat
    · rw [if_pos e9, if_pos ⟨rfl, rfl, e9⟩]
    · rw [if_neg e9, if_neg (fun e => e9 e.2.2)]) hP hD hS) (am_ag_n rfl hg) h1 h2 hl (fun q hq => am_ok_n rfl (ho q hq)) (fun v hv => am_ok_n rfl (am_o2 (am_o2 (am_o2 hs)) v hv)) hR
-- fields
theorem am_getf {t j ci f idx N : Nat} {C : String} {T : u_T} {v : am_V} (hd : decode Y.2.1 pc = .ok (.getfield idx, 3)) (hc : am_cl[ci]? = some (C, T, N)) (hf : f < N) (hw : Cond.fieldLink Y.1.cls idx (T f).1 (T f).2.1 (T f).2.2.1 ∈ am_TW) (ht : t < 1100) (hkd : am_kd G w t j = 100 + ci) (hv : am_fv G w t j ci f = v) (k : am_A G SC d Y Q (pc + 3) ls (v :: st) w bc bs) : am_A G SC d Y Q pc ls (.inr (.inr (some (t, j))) :: st) w bc bs := by
  intro p l e R s m args below meth c H locs cells slots QQ Dg cI ad A lsA ad0 w0 hX hH hg h1 h2 hl ho hs hR
  have hlv : am_lv SC w (t, j) := am_o1 hs
  obtain ⟨cell, c1, c2, c3, c4, c5⟩ := am_readO hH hc hlv ht hkd
  have hok : am_ok SC w v := by
    rw [← hv]
    unfold am_fv
    split
    · trivial
    · split
      · cases hr : am_gr G w t j f with
        | none => trivial
        | some id => exact hH.2.2.2.2.1.2.1 (t, j) f id hlv (by unfold am_ext; rw [hkd, if_neg (by omega), show 100 + ci - 100 = ci by omega, am_nF_of hc]; exact hf) hr
      · exact hH.2.2.2.2.1.1 _ _ _
  obtain ⟨hS, hfc, kC, hkC, hkind⟩ := hX.2.2.2.2.2.2.2.1.1 ci _ hc
  obtain ⟨cf, kf, fi, f9, hi, hsl⟩ := hS f hf
  refine W.getf hX.1 hX.2.1 hX.2.2.2.2.2.1 (hX.2.2.2.2.2.2.1 _ hw) hi (u_facts hfc hkC (u_lays hX.2.2.2.2.2.2.1 (am_in hc) hf) hi).1 c1 c4 (v := am_cv ad v) ?_ rfl rfl hd (k p l e R s m args below meth c H locs cells slots QQ Dg cI ad A lsA ad0 w0 hX hH hg h1 h2 hl ho (am_oc hok (am_o2 hs)) hR)
  rw [hsl, c5 f hf, hv]
theorem am_putf {t j ci f idx N : Nat} {C : String} {T : u_T} {z : Int} (hd : decode Y.2.1 pc = .ok (.putfield idx, 3)) (hc : am_cl[ci]? = some (C, T, N)) (hf : f < N) (hw : Cond.fieldLink Y.1.cls idx (T f).1 (T f).2.1 (T f).2.2.1 ∈ am_TW) (hfin : (T f).2.2.2 = false) (hz : am_fT ci f = 0 ∨ (am_fT ci f = 3 ∧ (z = 0 ∨ z = 1)) ∨ (am_fT ci f = 4 ∧ -128 ≤ z ∧ z < 128)) (ht : t < 998 ∨ t = 999) (hkd : am_kd G w t j = 100 + ci) (k : am_A G SC d Y Q (pc + 3) ls st (am_up w.1 t j f z, w.2) bc bs) : am_A G SC d Y Q pc ls (.inl z :: .inr (.inr (some (t, j))) :: st) w bc bs := by
  intro p l e R s m args below meth c H locs cells slots QQ Dg cI ad A lsA ad0 w0 hX hH hg h1 h2 hl ho hs hR
  have rz : am_rg z := am_o1 hs
  have hlv : am_lv SC w (t, j) := am_o1 (am_o2 hs)
  have ht' : t < 1000 := by omega
  obtain ⟨q0, hq, hk9⟩ := am_wr (w' := (am_up w.1 t j f z, w.2)) hH hlv ht' rfl (fun x hx => am_cE_eq rfl rfl (fun k9 => by rw [am_gi_up ht', if_neg (fun e => hx (by rw [← e.1, ← e.2.1]))]) (fun _ => rfl) (fun _ => rfl)) (am_wf_i ht' rz hH.2.2.2.2.1)
  rw [am_cE_o hkd] at hq
  have hft : am_fT ci f ≠ 1 ∧ am_fT ci f ≠ 2 := by omega
  obtain ⟨hn, hfit⟩ := am_nfi rz (am_tyo_ft hc hf) hz
  refine va_put hX.1 hX.2.1 hX.2.2.2.2.2.2.1 (am_in hc) (am_tyo T) (am_tyo_ok hc) (am_nm hc) hX.2.2.2.2.2.1 hX.2.2.2.2.2.2.2.1 hH.1 hH.2.1 hH.2.2.1 q0 hq hc f hf (hX.2.2.2.2.2.2.1 _ hw) (fun _ h => h) hfin (ty := am_tyo T f) (v := .int (Int32.ofInt z)) (am_tyo_ok hc f hf) hn hfit (by rw [List.length_map, List.length_range, am_nF_of hc]; exact hf) hd (fun H1 locs1 hP hD hS => ?_)
  exact k p l e R s m args below meth c H1 locs1 cells slots QQ Dg cI ad A lsA ad0 w0 hX (hk9 _ H1 locs1 (by
    rw [am_cE_o (w := (am_up w.1 t j f z, w.2)) (show am_kd G (am_up w.1 t j f z, w.2) t j = 100 + ci from hkd)]
    refine congrArg (fun g => (.inr (ci, g) : va_E)) ?_
    refine (am_fs_set _ f _ _ _ ?_ (fun i hi9 => ?_)).symm
    · unfold am_fv
      rw [if_neg hft.1, if_neg hft.2, am_gi_up ht', if_pos ⟨rfl, rfl, rfl⟩]
      rfl
    · have h9 : am_gi G (am_up w.1 t j f z, w.2) t j i = am_gi G w t j i := by rw [am_gi_up ht', if_neg (fun e => hi9 e.2.2)]
      unfold am_fv
      rw [h9]
      rfl) hP hD hS) (am_ag_n rfl hg) h1 h2 hl (fun q hq => am_ok_n rfl (ho q hq)) (fun v hv => am_ok_n rfl (am_o2 (am_o2 hs) v hv)) hR
theorem am_putl {t j ci f idx N : Nat} {C : String} {T : u_T} {x : Int64} (hd : decode Y.2.1 pc = .ok (.putfield idx, 3)) (hc : am_cl[ci]? = some (C, T, N)) (hf : f < N) (hw : Cond.fieldLink Y.1.cls idx (T f).1 (T f).2.1 (T f).2.2.1 ∈ am_TW) (hfin : (T f).2.2.2 = false) (hz : am_fT ci f = 1) (ht : t < 998 ∨ t = 999) (hkd : am_kd G w t j = 100 + ci) (k : am_A G SC d Y Q (pc + 3) ls st (w.1, am_up w.2.1 t j f x, w.2.2) bc bs) : am_A G SC d Y Q pc ls (.inr (.inl x) :: .inr (.inr (some (t, j))) :: st) w bc bs := by
  intro p l e R s m args below meth c H locs cells slots QQ Dg cI ad A lsA ad0 w0 hX hH hg h1 h2 hl ho hs hR
  have hlv : am_lv SC w (t, j) := am_o1 (am_o2 hs)
  have ht' : t < 1000 := by omega
  obtain ⟨q0, hq, hk9⟩ := am_wr (w' := (w.1, am_up w.2.1 t j f x, w.2.2)) hH hlv ht' rfl (fun y hy => am_cE_eq rfl rfl (fun _ => rfl) (fun k9 => by rw [am_gl_up ht', if_neg (fun e => hy (by rw [← e.1, ← e.2.1]))]) (fun _ => rfl)) hH.2.2.2.2.1
  rw [am_cE_o hkd] at hq
  have e9 : am_tyo T f = .long := by
    have h9 := am_tyo_ft hc hf
    rw [hz] at h9
    simpa [am_fty] using h9
  refine va_put hX.1 hX.2.1 hX.2.2.2.2.2.2.1 (am_in hc) (am_tyo T) (am_tyo_ok hc) (am_nm hc) hX.2.2.2.2.2.1 hX.2.2.2.2.2.2.2.1 hH.1 hH.2.1 hH.2.2.1 q0 hq hc f hf (hX.2.2.2.2.2.2.1 _ hw) (fun _ h => h) hfin (ty := am_tyo T f) (v := .long x) (am_tyo_ok hc f hf) (by rw [e9]; rfl) (by rw [e9]; rfl) (by rw [List.length_map, List.length_range, am_nF_of hc]; exact hf) hd (fun H1 locs1 hP hD hS => ?_)
  exact k p l e R s m args below meth c H1 locs1 cells slots QQ Dg cI ad A lsA ad0 w0 hX (hk9 _ H1 locs1 (by
    rw [am_cE_o (w := (w.1, am_up w.2.1 t j f x, w.2.2)) (show am_kd G (w.1, am_up w.2.1 t j f x, w.2.2) t j = 100 + ci from hkd)]
    refine congrArg (fun g => (.inr (ci, g) : va_E)) ?_
    refine (am_fs_set _ f _ _ _ ?_ (fun i hi9 => ?_)).symm
    · unfold am_fv
      rw [if_pos hz, am_gl_up ht', if_pos ⟨rfl, rfl, rfl⟩]
      rfl
    · have h9 : am_gl (w.1, am_up w.2.1 t j f x, w.2.2) t j i = am_gl w t j i := by rw [am_gl_up ht', if_neg (fun e => hi9 e.2.2)]
      unfold am_fv
      rw [h9]
      rfl) hP hD hS) (am_ag_n rfl hg) h1 h2 hl (fun q hq => am_ok_n rfl (ho q hq)) (fun v hv => am_ok_n rfl (am_o2 (am_o2 hs) v hv)) hR
theorem am_putfF {t j ci f idx N : Nat} {C : String} {T : u_T} {z : Int} (hd : decode Y.2.1 pc = .ok (.putfield idx, 3)) (hc : am_cl[ci]? = some (C, T, N)) (hf : f < N) (hw : Cond.fieldLink Y.1.cls idx (T f).1 (T f).2.1 (T f).2.2.1 ∈ am_TW) (hfin : (T f).2.2.2 = true) (hi : Y.1.name = "<init>") (hdc : (T f).1 = Y.1.cls) (hz : am_fT ci f = 0 ∨ (am_fT ci f = 3 ∧ (z = 0 ∨ z = 1)) ∨ (am_fT ci f = 4 ∧ -128 ≤ z ∧ z < 128)) (ht : t < 998 ∨ t = 999) (hkd : am_kd G w t j = 100 + ci) (k : am_A G SC d Y Q (pc + 3) ls st (am_up w.1 t j f z, w.2) bc bs) : am_A G SC d Y Q pc ls (.inl z :: .inr (.inr (some (t, j))) :: st) w bc bs := by
  intro p l e R s m args below meth c H locs cells slots QQ Dg cI ad A lsA ad0 w0 hX hH hg h1 h2 hl ho hs hR
  have rz : am_rg z := am_o1 hs
  have hlv : am_lv SC w (t, j) := am_o1 (am_o2 hs)
  have ht' : t < 1000 := by omega
  obtain ⟨q0, hq, hk9⟩ := am_wr (w' := (am_up w.1 t j f z, w.2)) hH hlv ht' rfl (fun x hx => am_cE_eq rfl rfl (fun k9 => by rw [am_gi_up ht', if_neg (fun e => hx (by rw [← e.1, ← e.2.1]))]) (fun _ => rfl) (fun _ => rfl)) (am_wf_i ht' rz hH.2.2.2.2.1)
  rw [am_cE_o hkd] at hq
  have hft : am_fT ci f ≠ 1 ∧ am_fT ci f ≠ 2 := by omega
  obtain ⟨hn, hfit⟩ := am_nfi rz (am_tyo_ft hc hf) hz
  refine va_putF hX.1 hX.2.1 hX.2.2.2.2.2.2.1 (am_in hc) (am_tyo T) (am_tyo_ok hc) (am_nm hc) hX.2.2.2.2.2.1 hX.2.2.2.2.2.2.2.1 hH.1 hH.2.1 hH.2.2.1 q0 hq hc f hf (hX.2.2.2.2.2.2.1 _ hw) (fun _ h => h) hfin (hX.2.2.2.2.2.2.2.2.1.trans hi) hdc (ty := am_tyo T f) (v := .int (Int32.ofInt z)) (am_tyo_ok hc f hf) hn hfit (by rw [List.length_map, List.length_range, am_nF_of hc]; exact hf) hd (fun H1 locs1 hP hD hS => ?_)
  exact k p l e R s m args below meth c H1 locs1 cells slots QQ Dg cI ad A lsA ad0 w0 hX (hk9 _ H1 locs1 (by
    rw [am_cE_o (w := (am_up w.1 t j f z, w.2)) (show am_kd G (am_up w.1 t j f z, w.2) t j = 100 + ci from hkd)]
    refine congrArg (fun g => (.inr (ci, g) : va_E)) ?_
    refine (am_fs_set _ f _ _ _ ?_ (fun i hi9 => ?_)).symm
    · unfold am_fv
      rw [if_neg hft.1, if_neg hft.2, am_gi_up ht', if_pos ⟨rfl, rfl, rfl⟩]
      rfl
    · have h9 : am_gi G (am_up w.1 t j f z, w.2) t j i = am_gi G w t j i := by rw [am_gi_up ht', if_neg (fun e => hi9 e.2.2)]
      unfold am_fv
      rw [h9]
      rfl) hP hD hS) (am_ag_n rfl hg) h1 h2 hl (fun q hq => am_ok_n rfl (ho q hq)) (fun v hv => am_ok_n rfl (am_o2 (am_o2 hs) v hv)) hR
theorem am_putlF {t j ci f idx N : Nat} {C : String} {T : u_T} {x : Int64} (hd : decode Y.2.1 pc = .ok (.putfield idx, 3)) (hc : am_cl[ci]? = some (C, T, N)) (hf : f < N) (hw : Cond.fieldLink Y.1.cls idx (T f).1 (T f).2.1 (T f).2.2.1 ∈ am_TW) (hfin : (T f).2.2.2 = true) (hi : Y.1.name = "<init>") (hdc : (T f).1 = Y.1.cls) (hz : am_fT ci f = 1) (ht : t < 998 ∨ t = 999) (hkd : am_kd G w t j = 100 + ci) (k : am_A G SC d Y Q (pc + 3) ls st (w.1, am_up w.2.1 t j f x, w.2.2) bc bs) : am_A G SC d Y Q pc ls (.inr (.inl x) :: .inr (.inr (some (t, j))) :: st) w bc bs := by
  intro p l e R s m args below meth c H locs cells slots QQ Dg cI ad A lsA ad0 w0 hX hH hg h1 h2 hl ho hs hR
  have hlv : am_lv SC w (t, j) := am_o1 (am_o2 hs)
  have ht' : t < 1000 := by omega
  obtain ⟨q0, hq, hk9⟩ := am_wr (w' := (w.1, am_up w.2.1 t j f x, w.2.2)) hH hlv ht' rfl (fun y hy => am_cE_eq rfl rfl (fun _ => rfl) (fun k9 => by rw [am_gl_up ht', if_neg (fun e => hy (by rw [← e.1, ← e.2.1]))]) (fun _ => rfl)) hH.2.2.2.2.1
  rw [am_cE_o hkd] at hq
  have e9 : am_tyo T f = .long := by
    have h9 := am_tyo_ft hc hf
    rw [hz] at h9
    simpa [am_fty] using h9
  refine va_putF hX.1 hX.2.1 hX.2.2.2.2.2.2.1 (am_in hc) (am_tyo T) (am_tyo_ok hc) (am_nm hc) hX.2.2.2.2.2.1 hX.2.2.2.2.2.2.2.1 hH.1 hH.2.1 hH.2.2.1 q0 hq hc f hf (hX.2.2.2.2.2.2.1 _ hw) (fun _ h => h) hfin (hX.2.2.2.2.2.2.2.2.1.trans hi) hdc (ty := am_tyo T f) (v := .long x) (am_tyo_ok hc f hf) (by rw [e9]; rfl) (by rw [e9]; rfl) (by rw [List.length_map, List.length_range, am_nF_of hc]; exact hf) hd (fun H1 locs1 hP hD hS => ?_)
  exact k p l e R s m args below meth c H1 locs1 cells slots QQ Dg cI ad A lsA ad0 w0 hX (hk9 _ H1 locs1 (by
    rw [am_cE_o (w := (w.1, am_up w.2.1 t j f x, w.2.2)) (show am_kd G (w.1, am_up w.2.1 t j f x, w.2.2) t j = 100 + ci from hkd)]
    refine congrArg (fun g => (.inr (ci, g) : va_E)) ?_
    refine (am_fs_set _ f _ _ _ ?_ (fun i hi9 => ?_)).symm
    · unfold am_fv
      rw [if_pos hz, am_gl_up ht', if_pos ⟨rfl, rfl, rfl⟩]
      rfl
    · have h9 : am_gl (w.1, am_up w.2.1 t j f x, w.2.2) t j i = am_gl w t j i := by rw [am_gl_up ht', if_neg (fun e => hi9 e.2.2)]
      unfold am_fv
      rw [h9]
      rfl) hP hD hS) (am_ag_n rfl hg) h1 h2 hl (fun q hq => am_ok_n rfl (ho q hq)) (fun v hv => am_ok_n rfl (am_o2 (am_o2 hs) v hv)) hR
end AMM
