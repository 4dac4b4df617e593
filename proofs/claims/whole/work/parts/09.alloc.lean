-- RULES: new cells (tag 999, by their number), and references written into them
/-- one more cell, blank -/
def am_fr (w : am_W) (kd ln : Nat) : am_W := (fun t j k => if t = 999 ∧ j = w.2.2.2.2 then 0 else w.1 t j k, fun t j k => if t = 999 ∧ j = w.2.2.2.2 then 0 else w.2.1 t j k, fun j k => if j = w.2.2.2.2 then none else w.2.2.1 j k, fun j => if j = w.2.2.2.2 then (kd, ln) else w.2.2.2.1 j, w.2.2.2.2 + 1)
def am_ad1 (ad : am_I → Nat) (n q : Nat) : am_I → Nat := fun id => if id = (999, n) then q else ad id
theorem am_fr_lv {SC : Nat → Nat} {w : am_W} {kd ln : Nat} {id : am_I} (h : am_lv SC w id) : am_lv SC (am_fr w kd ln) id ∧ id ≠ (999, w.2.2.2.2) := by
  refine ⟨am_lv_grow (Nat.le_succ _) h, fun e => ?_⟩
  subst e
  rcases h with ⟨-, h⟩ | ⟨h, -⟩
  · exact absurd h (Nat.lt_irrefl _)
  · exact h rfl
theorem am_fr_ag {SC : Nat → Nat} {ad : am_I → Nat} {w : am_W} {kd ln q : Nat} : am_ag SC ad w (am_ad1 ad w.2.2.2.2 q) (am_fr w kd ln) := ⟨Nat.le_succ _, fun _ hl => if_neg (am_fr_lv (kd := kd) (ln := ln) hl).2⟩
theorem am_fr_ne {t j n : Nat} (h : ((t, j) : am_I) ≠ (999, n)) : ¬ (t = 999 ∧ j = n) := fun e => h (by rw [e.1, e.2])
theorem am_fr_cE {cI : Nat → ClassId} {G : am_G} {SC : Nat → Nat} {ad : am_I → Nat} {w : am_W} {kd ln q : Nat} (hwf : am_wf G SC w) {id : am_I} (hl : am_lv SC w id) : am_cE cI G (am_ad1 ad w.2.2.2.2 q) (am_fr w kd ln) id = am_cE cI G ad w id := by
  have hne := (am_fr_lv (kd := kd) (ln := ln) hl).2
  obtain ⟨t, j⟩ := id
  have hn := am_fr_ne hne
  have hj : t = 999 → j ≠ w.2.2.2.2 := fun e1 e2 => hn ⟨e1, e2⟩
  have e1 : am_kd G (am_fr w kd ln) t j = am_kd G w t j := by
    unfold am_kd
    by_cases h : t = 999
    · rw [if_pos h, if_pos h]; show (if j = w.2.2.2.2 then (kd, ln) else w.2.2.2.1 j).1 = _; rw [if_neg (hj h)]
    · rw [if_neg h, if_neg h]
  have e2 : am_ln G (am_fr w kd ln) t j = am_ln G w t j := by
    unfold am_ln
    by_cases h : t = 999
    · rw [if_pos h, if_pos h]; show (if j = w.2.2.2.2 then (kd, ln) else w.2.2.2.1 j).2 = _; rw [if_neg (hj h)]
    · rw [if_neg h, if_neg h]
  have e3 : ∀ k, am_gi G (am_fr w kd ln) t j k = am_gi G w t j k := fun k => by
    unfold am_gi
    by_cases h : 1000 ≤ t
    · rw [if_pos h, if_pos h]
    · rw [if_neg h, if_neg h]; exact if_neg hn
  have e4 : ∀ k, am_gl (am_fr w kd ln) t j k = am_gl w t j k := fun k => by
    unfold am_gl
    by_cases h : 1000 ≤ t
    · rw [if_pos h, if_pos h]
    · rw [if_neg h, if_neg h]; exact if_neg hn
  have e5 : ∀ k, am_gr G (am_fr w kd ln) t j k = am_gr G w t j k := fun k => by
    unfold am_gr
    by_cases h : t = 999
    · rw [if_pos h, if_pos h]; exact if_neg (hj h)
    · rw [if_neg h, if_neg h]
  have e6 : ∀ k, k < am_ext G w t j → (am_gr G w t j k).map (am_ad1 ad w.2.2.2.2 q) = (am_gr G w t j k).map ad := fun k hk => by
    cases hr : am_gr G w t j k with
    | none => rfl
    | some id' => exact congrArg some (if_neg (am_fr_lv (kd := kd) (ln := ln) (hwf.2.1 (t, j) k id' hl hk hr)).2)
  rw [am_cE_eq (w := w) (w' := am_fr w kd ln) (x := (t, j)) e1 e2 e3 e4 e5]
  exact am_cE_ad (id := (t, j)) e6
theorem am_fr_wf {G : am_G} {SC : Nat → Nat} {w : am_W} {kd ln : Nat} (h : am_wf G SC w) : am_wf G SC (am_fr w kd ln) := by
  refine ⟨fun t j k => ?_, fun id k id' hl hx hr => ?_, fun q hq => am_ok_grow (Nat.le_succ _) (h.2.2.1 q hq), h.2.2.2⟩
  · have h1 := h.1 t j k
    unfold am_gi at h1 ⊢
    by_cases ht : 1000 ≤ t
    · rw [if_pos ht] at h1 ⊢; exact h1
    · rw [if_neg ht] at h1 ⊢
      show am_rg (if t = 999 ∧ j = w.2.2.2.2 then 0 else w.1 t j k)
      split
      · exact am_rg0
      · exact h1
  · obtain ⟨t, j⟩ := id
    by_cases hn : ((t, j) : am_I) = (999, w.2.2.2.2)
    · have e1 : t = 999 := congrArg Prod.fst hn
      have e2 : j = w.2.2.2.2 := congrArg Prod.snd hn
      exfalso
      unfold am_gr at hr
      rw [if_pos e1] at hr
      have e3 : (am_fr w kd ln).2.2.1 j k = none := if_pos e2
      rw [e3] at hr
      cases hr
    · have hl' : am_lv SC w (t, j) := by
        rcases hl with ⟨a, b⟩ | hl
        · refine Or.inl ⟨a, ?_⟩
          have a9 : t = 999 := a
          have b9 : j < w.2.2.2.2 + 1 := b
          show j < w.2.2.2.2
          have : j ≠ w.2.2.2.2 := fun e => hn (by rw [a9, e])
          omega
        · exact Or.inr hl
      have hr' : am_gr G w t j k = some id' := by
        rw [← hr]
        unfold am_gr
        by_cases h9 : t = 999
        · rw [if_pos h9, if_pos h9]
          exact (if_neg (fun e => hn (by rw [h9]; exact congrArg (Prod.mk 999) e))).symm
        · rw [if_neg h9, if_neg h9]
      have hx' : k < am_ext G w t j := by
        have e1 : am_kd G (am_fr w kd ln) t j = am_kd G w t j := by
          unfold am_kd
          by_cases h9 : t = 999
          · rw [if_pos h9, if_pos h9]
            exact congrArg Prod.fst (if_neg (fun e => hn (by rw [h9]; exact congrArg (Prod.mk 999) e)))
          · rw [if_neg h9, if_neg h9]
        have e2 : am_ln G (am_fr w kd ln) t j = am_ln G w t j := by
          unfold am_ln
          by_cases h9 : t = 999
          · rw [if_pos h9, if_pos h9]
            exact congrArg Prod.snd (if_neg (fun e => hn (by rw [h9]; exact congrArg (Prod.mk 999) e)))
          · rw [if_neg h9, if_neg h9]
        have hx2 : k < am_ext G (am_fr w kd ln) t j := hx
        unfold am_ext at hx2 ⊢
        rw [e1, e2] at hx2
        exact hx2
      exact (am_fr_lv (h.2.1 (t, j) k id' hl' hx' hr')).1
theorem am_fr_ids {SC : Nat → Nat} {w : am_W} {kd ln : Nat} : am_ids SC (am_fr w kd ln) = am_ids SC w ++ [(999, w.2.2.2.2)] := by
  unfold am_ids
  show am_SL SC ++ (List.range (w.2.2.2.2 + 1)).map (fun k => ((999, k) : am_I)) = _
  rw [List.range_succ, List.map_append, List.append_assoc]
  rfl
theorem am_fr_wsl {G : am_G} {SC : Nat → Nat} {cI : Nat → ClassId} {ad : am_I → Nat} {w : am_W} {kd ln q : Nat} (hwf : am_wf G SC w) : am_wsl G SC cI (am_ad1 ad w.2.2.2.2 q) (am_fr w kd ln) = am_wsl G SC cI ad w ++ [(q, am_cE cI G (am_ad1 ad w.2.2.2.2 q) (am_fr w kd ln) (999, w.2.2.2.2))] := by
  unfold am_wsl
  rw [am_fr_ids, List.map_append]
  have e1 : (am_ids SC w).map (fun id => (am_ad1 ad w.2.2.2.2 q id, am_cE cI G (am_ad1 ad w.2.2.2.2 q) (am_fr w kd ln) id)) = (am_ids SC w).map (fun id => (ad id, am_cE cI G ad w id)) := by
    apply List.map_congr_left
    intro id hid
    have hl := (am_ids_mem.mp hid).1
    rw [am_fr_cE hwf hl]
    rw [show am_ad1 ad w.2.2.2.2 q id = ad id from if_neg (am_fr_lv (kd := kd) (ln := ln) hl).2]
  rw [e1, List.map_cons, List.map_nil, show am_ad1 ad w.2.2.2.2 q (999, w.2.2.2.2) = q from if_pos rfl]
theorem am_frH {G : am_G} {SC : Nat → Nat} {Dg : va_G} {cI : Nat → ClassId} {s : State} {A : Nat → Prop} {ad : am_I → Nat} {w : am_W} {H H1 : Heap} {locs locs1 : List Loc} {kd ln q : Nat} {e : va_E} (h : am_H G SC Dg cI s A ad w H locs) (he : am_cE cI G (am_ad1 ad w.2.2.2.2 q) (am_fr w kd ln) (999, w.2.2.2.2) = e) (hP : va_P Dg am_cl (am_wsl G SC cI ad w ++ [(q, e)]) H1) (hD : va_D A (am_wsl G SC cI ad w ++ [(q, e)])) (hS : va_S A s.heap H1 locs1) : am_H G SC Dg cI s A (am_ad1 ad w.2.2.2.2 q) (am_fr w kd ln) H1 locs1 := by
  obtain ⟨i1, i2, i3, i4, i5, i6, i7⟩ := h
  subst he
  rw [← am_fr_wsl i5] at hP hD
  refine ⟨hP, hD, hS, i4, am_fr_wf i5, fun id h1 h2 h3 => ?_, am_E_mv (am_fr_ag (kd := kd) (ln := ln)) i5 i7⟩
  have hl : am_lv SC w id := Or.inr ⟨by omega, h3⟩
  rw [am_fr_cE i5 hl, show am_ad1 ad w.2.2.2.2 q id = ad id from if_neg (am_fr_lv (kd := kd) (ln := ln) hl).2]
  exact i6 id h1 h2 h3
theorem am_fr_kd {G : am_G} {w : am_W} {kd ln : Nat} : am_kd G (am_fr w kd ln) 999 w.2.2.2.2 = kd := by
  unfold am_kd
  rw [if_pos rfl]
  show (if w.2.2.2.2 = w.2.2.2.2 then (kd, ln) else w.2.2.2.1 w.2.2.2.2).1 = kd
  rw [if_pos rfl]
theorem am_fr_ln {G : am_G} {w : am_W} {kd ln : Nat} : am_ln G (am_fr w kd ln) 999 w.2.2.2.2 = ln := by
  unfold am_ln
  rw [if_pos rfl]
  show (if w.2.2.2.2 = w.2.2.2.2 then (kd, ln) else w.2.2.2.1 w.2.2.2.2).2 = ln
  rw [if_pos rfl]
theorem am_fr_gi {G : am_G} {w : am_W} {kd ln k : Nat} : am_gi G (am_fr w kd ln) 999 w.2.2.2.2 k = 0 := by
  unfold am_gi
  rw [if_neg (by omega)]
  exact if_pos ⟨rfl, rfl⟩
theorem am_fr_gl {w : am_W} {kd ln k : Nat} : am_gl (am_fr w kd ln) 999 w.2.2.2.2 k = 0 := by
  unfold am_gl
  rw [if_neg (by omega)]
  exact if_pos ⟨rfl, rfl⟩
theorem am_fr_gr {G : am_G} {w : am_W} {kd ln k : Nat} : am_gr G (am_fr w kd ln) 999 w.2.2.2.2 k = none := by
  unfold am_gr
  rw [if_pos rfl]
  exact if_pos rfl
theorem am_ra {U : State} {cA : ClassId} {ty : FieldType} (h : va_RA U cA ty) : U.vm.findClass ("[" ++ ty.toString) = some cA := by
  cases ty with
  | object C => obtain ⟨kA, comp, h1, h2, h3, h4⟩ := h; exact h4
  | _ => exact h
section AMN
variable {G : am_G} {SC : Nat → Nat} {d : Nat} {Y : am_Y} {Q : Option am_V → am_W → Prop} {pc bc bs : Nat} {ls : List (Nat × am_V)} {st : List am_V} {w : am_W}
theorem am_newarr {atype : ArrayType} {kd ln : Nat} {n : Int} (hd : decode Y.2.1 pc = .ok (.newarray atype, 2)) (hty : newarray.typeOf atype = am_aty kd) (hkd : kd < 5) (hw : Cond.arrayClass (newarray.typeOf atype) ∈ am_TW) (hn : n = (ln : Int)) (hln : ln ≤ 10000000) (hc : 1 ≤ bc) (hs' : ln ≤ bs) (k : am_A G SC d Y Q (pc + 2) ls (.inr (.inr (some (999, w.2.2.2.2))) :: st) (am_fr w kd ln) (bc - 1) (bs - ln)) : am_A G SC d Y Q pc ls (.inl n :: st) w bc bs := by
  intro p l e R s m args below meth c H locs cells slots QQ Dg cI ad A lsA ad0 w0 hX hH hg h1 h2 hl ho hs hR
  have rn : am_rg n := am_o1 hs
  obtain ⟨x1, x2, x3, x4, x5, x6, x7, x8, x9, x10, x11⟩ := id hX
  have hbytes : ln * componentBytes (am_aty kd) ≤ 536870912 := by
    rcases (show kd = 0 ∨ kd = 1 ∨ kd = 2 ∨ kd = 3 ∨ kd = 4 by omega) with rfl | rfl | rfl | rfl | rfl
    · show ln * 4 ≤ _; omega
    · show ln * 8 ≤ _; omega
    · show ln * 2 ≤ _; omega
    · show ln * 1 ≤ _; omega
    · show ln * 1 ≤ _; omega
  obtain ⟨a0, ha0, hE⟩ : ∃ a0 : vp_A, (∀ cA : ClassId, vp_cell cA a0 = arrV cA ln (fun _ => defaultValue (am_aty kd))) ∧ ∀ q, am_cE cI G (am_ad1 ad w.2.2.2.2 q) (am_fr w kd ln) (999, w.2.2.2.2) = .inl (cI kd, a0) := by
    by_cases h9 : kd = 1
    · subst h9
      refine ⟨(ln, .inr (.inl (fun _ => 0))), fun cA => rfl, fun q => ?_⟩
      rw [am_cE_l am_fr_kd, am_fr_ln]
      simp only [am_fr_gl]
    · refine ⟨(ln, .inl (fun _ => Int32.ofInt 0)), fun cA => ?_, fun q => ?_⟩
      · rcases (show kd = 0 ∨ kd = 2 ∨ kd = 3 ∨ kd = 4 by omega) with rfl | rfl | rfl | rfl <;> rfl
      · rw [am_cE_i am_fr_kd h9 hkd, am_fr_ln]
        simp only [am_fr_gi]
  refine va_newa (D := Dg) (cl := am_cl) (ty := am_aty kd) x1 x2 (x7 _ hw) hty x8 hH.1 hH.2.1 hH.2.2.1 hH.2.2.2.1 (N' := ln) ha0 ?_ ?_ hbytes (by omega) (by omega) hd (fun q cA H1 hK hP hD hS => ?_)
  · intro q9
    have := (am_ltI rn am_rg0).mp (by rw [am_0]; exact q9)
    omega
  · rw [am_vix rn]; omega
  · have ec : cA = cI kd := by
      have h3 := am_ra ((hK.2 10 (cA, am_aty kd) (by rw [List.getElem?_append_right (by show 10 ≥ 10; omega)]; rfl)).2)
      have h4 := am_ra ((x8.2 kd _ (am_tys_at cI (by omega))).2)
      exact Option.some.inj (h3.symm.trans h4)
    rw [ec] at hP hD
    have hH' := am_frH hH (hE q) hP hD hS
    have q9 := k p l e R s m args below meth c H1 locs (cells + 1) (slots + ln) QQ Dg cI (am_ad1 ad w.2.2.2.2 q) A lsA ad0 w0 hX hH' (hg.trans am_fr_ag) (by omega) (by omega) (by unfold am_cl2; rw [(am_fr_ag (kd := kd) (ln := ln)).ls ho]; exact hl) (fun q hq => am_ok_grow (Nat.le_succ _) (ho q hq)) (am_oc (Or.inl ⟨rfl, Nat.lt_succ_self _⟩) (fun v hv => am_ok_grow (Nat.le_succ _) (am_o2 hs v hv))) hR
    have e9 : ((.inr (.inr (some (999, w.2.2.2.2))) : am_V) :: st).map (am_cv (am_ad1 ad w.2.2.2.2 q)) = .ref q :: st.map (am_cv ad) := by
      rw [List.map_cons, (am_fr_ag (kd := kd) (ln := ln)).st (am_o2 hs)]
      show va_rf ((some (999, w.2.2.2.2)).map (am_ad1 ad w.2.2.2.2 q)) :: _ = _
      rw [Option.map_some, show am_ad1 ad w.2.2.2.2 q (999, w.2.2.2.2) = q from if_pos rfl]
      rfl
    rw [e9] at q9
    exact q9
theorem am_anew {idx kd ln : Nat} {C : String} {n : Int} (hd : decode Y.2.1 pc = .ok (.anewarray idx, 3)) (hty : am_aty kd = .object C) (h7 : 7 ≤ kd) (h10 : kd < 10) (hcl : Cond.classLink Y.1.cls idx C ∈ am_TW) (hov : FieldType.object C ∈ am_aot) (hn : n = (ln : Int)) (hln : ln ≤ 10000000) (hc : 1 ≤ bc) (hs' : ln ≤ bs) (k : am_A G SC d Y Q (pc + 3) ls (.inr (.inr (some (999, w.2.2.2.2))) :: st) (am_fr w kd ln) (bc - 1) (bs - ln)) : am_A G SC d Y Q pc ls (.inl n :: st) w bc bs := by
  intro p l e R s m args below meth c H locs cells slots QQ Dg cI ad A lsA ad0 w0 hX hH hg h1 h2 hl ho hs hR
  have rn : am_rg n := am_o1 hs
  obtain ⟨x1, x2, x3, x4, x5, x6, x7, x8, x9, x10, x11⟩ := id hX
  have hE : ∀ q, am_cE cI G (am_ad1 ad w.2.2.2.2 q) (am_fr w kd ln) (999, w.2.2.2.2) = .inl (cI kd, (ln, .inr (.inr (.inr (.inr (fun _ => none)))))) := by
    intro q
    rw [am_cE_r am_fr_kd (by omega) (by omega), am_fr_ln]
    simp only [am_fr_gr, Option.map_none, ite_self]
  refine va_newq (D := Dg) (cl := am_cl) (C := C) x1 x2 x6 (x7 _ hcl) (va_AO.of (am_AO.use (X := #[]) (hH.2.2.2.2.2.2.2.1.2.2 _ hov))) x8 hH.1 hH.2.1 hH.2.2.1 hH.2.2.2.1 (N' := ln) ?_ ?_ (by omega) (by omega) (by omega) hd (fun q cA H1 hK hP hD hS => ?_)
  · intro q9
    have := (am_ltI rn am_rg0).mp (by rw [am_0]; exact q9)
    omega
  · rw [am_vix rn]; omega
  · have ec : cA = cI kd := by
      have h3 := am_ra ((hK.2 10 (cA, .object C) (by rw [List.getElem?_append_right (by show 10 ≥ 10; omega)]; rfl)).2)
      have h4 := am_ra ((x8.2 kd _ (am_tys_at cI (by omega))).2)
      rw [hty] at h4
      exact Option.some.inj (h3.symm.trans h4)
    rw [ec] at hP hD
    have hH' := am_frH hH (hE q) hP hD hS
    have q9 := k p l e R s m args below meth c H1 locs (cells + 1) (slots + ln) QQ Dg cI (am_ad1 ad w.2.2.2.2 q) A lsA ad0 w0 hX hH' (hg.trans am_fr_ag) (by omega) (by omega) (by unfold am_cl2; rw [(am_fr_ag (kd := kd) (ln := ln)).ls ho]; exact hl) (fun q hq => am_ok_grow (Nat.le_succ _) (ho q hq)) (am_oc (Or.inl ⟨rfl, Nat.lt_succ_self _⟩) (fun v hv => am_ok_grow (Nat.le_succ _) (am_o2 hs v hv))) hR
    have e9 : ((.inr (.inr (some (999, w.2.2.2.2))) : am_V) :: st).map (am_cv (am_ad1 ad w.2.2.2.2 q)) = .ref q :: st.map (am_cv ad) := by
      rw [List.map_cons, (am_fr_ag (kd := kd) (ln := ln)).st (am_o2 hs)]
      show va_rf ((some (999, w.2.2.2.2)).map (am_ad1 ad w.2.2.2.2 q)) :: _ = _
      rw [Option.map_some, show am_ad1 ad w.2.2.2.2 q (999, w.2.2.2.2) = q from if_pos rfl]
      rfl
    rw [e9] at q9
    exact q9
/-- a field's first value -/
def am_dv (ci k : Nat) : Value := if am_fT ci k = 1 then .long 0 else if am_fT ci k = 2 then .null else .int 0
theorem am_dv_ok {ci : Nat} {C : String} {T : u_T} {N : Nat} (h : am_cl[ci]? = some (C, T, N)) {k : Nat} (hk : k < N) : defaultValue (am_tyo T k) = am_dv ci k := by
  have h1 := am_tyo_ft h hk
  generalize am_tyo T k = ty at h1
  generalize hc : am_fT ci k = code at h1
  unfold am_dv
  rw [hc]
  match code, h1 with
  | 0, h1 => have e : ty = .int := by simpa [am_fty] using h1
             subst e; rfl
  | 1, h1 => have e : ty = .long := by simpa [am_fty] using h1
             subst e; rfl
  | 2, h1 => cases ty <;> first | rfl | exact absurd h1 (by decide)
  | 3, h1 => have e : ty = .boolean := by simpa [am_fty] using h1
             subst e; rfl
  | 4, h1 => have e : ty = .byte := by simpa [am_fty] using h1
             subst e; rfl
  | _ + 5, h1 => exact absurd h1 (by simp [am_fty])
theorem am_new {idx ci N : Nat} {C : String} {T : u_T} (hd : decode Y.2.1 pc = .ok (.new idx, 3)) (hc : am_cl[ci]? = some (C, T, N)) (hcl : Cond.classLink Y.1.cls idx C ∈ am_TW) (hins : Cond.instantiable C N ∈ am_TW) (hini : Cond.initialized C ∈ am_TW) (hbc : 1 ≤ bc) (hbs : N ≤ bs) (k : am_A G SC d Y Q (pc + 3) ls (.inr (.inr (some (999, w.2.2.2.2))) :: st) (am_fr w (100 + ci) 0) (bc - 1) (bs - N)) : am_A G SC d Y Q pc ls st w bc bs := by
  intro p l e R s m args below meth c H locs cells slots QQ Dg cI ad A lsA ad0 w0 hX hH hg h1 h2 hl ho hs hR
  obtain ⟨x1, x2, x3, x4, x5, x6, x7, x8, x9, x10, x11⟩ := id hX
  have hE : ∀ q, am_cE cI G (am_ad1 ad w.2.2.2.2 q) (am_fr w (100 + ci) 0) (999, w.2.2.2.2) = .inr (ci, (List.range N).map (am_dv ci)) := by
    intro q
    rw [am_cE_o am_fr_kd, am_nF_of hc]
    congr 2
    apply List.map_congr_left
    intro k9 _
    unfold am_fv am_dv
    rw [am_fr_gl, am_fr_gr, am_fr_gi]
    split
    · rfl
    · split <;> rfl
  refine va_new (D := Dg) (cl := am_cl) x1 x2 x7 (am_in hc) (am_tyo T) (am_tyo_ok hc) x6 (x7 _ hcl) (x7 _ hins) (x7 _ hini) x8 hH.1 hH.2.1 hH.2.2.1 hH.2.2.2.1 hc (fs := (List.range N).map (am_dv ci)) (fun j hj => ?_) (by omega) (by omega) hd (fun q H1 hP hD hS => ?_)
  · rw [am_dv_ok hc hj]
    unfold vp_V
    rw [List.getD_eq_getElem?_getD, List.getElem?_map, List.getElem?_range hj]
    rfl
  · have hH' := am_frH hH (hE q) hP hD hS
    have q9 := k p l e R s m args below meth c H1 locs (cells + 1) (slots + N) QQ Dg cI (am_ad1 ad w.2.2.2.2 q) A lsA ad0 w0 hX hH' (hg.trans am_fr_ag) (by omega) (by omega) (by unfold am_cl2; rw [(am_fr_ag (kd := 100 + ci) (ln := 0)).ls ho]; exact hl) (fun q hq => am_ok_grow (Nat.le_succ _) (ho q hq)) (am_oc (Or.inl ⟨rfl, Nat.lt_succ_self _⟩) (fun v hv => am_ok_grow (Nat.le_succ _) (hs v hv))) hR
    have e9 : ((.inr (.inr (some (999, w.2.2.2.2))) : am_V) :: st).map (am_cv (am_ad1 ad w.2.2.2.2 q)) = .ref q :: st.map (am_cv ad) := by
      rw [List.map_cons, (am_fr_ag (kd := 100 + ci) (ln := 0)).st hs]
      show va_rf ((some (999, w.2.2.2.2)).map (am_ad1 ad w.2.2.2.2 q)) :: _ = _
      rw [Option.map_some, show am_ad1 ad w.2.2.2.2 q (999, w.2.2.2.2) = q from if_pos rfl]
      rfl
    rw [e9] at q9
    exact q9
end AMN
