-- KIT'S RULES THAT WERE LACKING: references written into made cells, inherited and private methods, arraycopy, new String
section AMK
variable {G : am_G} {SC : Nat → Nat} {d : Nat} {Y : am_Y} {Q : Option am_V → am_W → Prop} {pc bc bs : Nat} {ls : List (Nat × am_V)} {st : List am_V} {w : am_W}
/-- a reference is written into a made cell -/
def am_upr (w : am_W) (j k : Nat) (r : Option am_I) : am_W := (w.1, w.2.1, fun a b => if a = j ∧ b = k then r else w.2.2.1 a b, w.2.2.2)
theorem am_upr_gr {j k t a b : Nat} {r : Option am_I} : am_gr G (am_upr w j k r) t a b = if t = 999 ∧ a = j ∧ b = k then r else am_gr G w t a b := by
  unfold am_gr am_upr
  by_cases h : t = 999
  · simp only [h, if_true, true_and]
  · rw [if_neg h, if_neg h, if_neg (fun e => h e.1)]
theorem am_wf_r {j k : Nat} {r : Option am_I} (hr : ∀ id, r = some id → am_lv SC w id) (h : am_wf G SC w) : am_wf G SC (am_upr w j k r) := by
  refine ⟨h.1, fun id k1 id' hl hk hg => ?_, h.2.2⟩
  rw [am_upr_gr] at hg
  by_cases c : id.1 = 999 ∧ id.2 = j ∧ k1 = k
  · rw [if_pos c] at hg
    exact hr id' hg
  · rw [if_neg c] at hg
    exact h.2.1 id k1 id' hl hk hg
theorem am_upr_cE {cI : Nat → ClassId} {ad : am_I → Nat} {j k : Nat} {r : Option am_I} {x : am_I} (hx : x ≠ (999, j)) : am_cE cI G ad (am_upr w j k r) x = am_cE cI G ad w x := am_cE_eq rfl rfl (fun _ => rfl) (fun _ => rfl) (fun k1 => by
  rw [am_upr_gr, if_neg]
  rintro ⟨e1, e2, -⟩
  exact hx (by obtain ⟨a, b⟩ := x; cases e1; cases e2; rfl))
theorem am_nfr {ty : FieldType} {r : Option Nat} (h : am_fty 2 ty = true) : narrow ty (va_rf r) = va_rf r ∧ fits ty (va_rf r) = true := by
  cases ty <;> first | (cases r <;> exact ⟨rfl, rfl⟩) | exact absurd h (by decide)
theorem am_putr {j ci f idx N : Nat} {C : String} {T : u_T} {r : Option am_I} (hd : decode Y.2.1 pc = .ok (.putfield idx, 3)) (hc : am_cl[ci]? = some (C, T, N)) (hf : f < N) (hw : Cond.fieldLink Y.1.cls idx (T f).1 (T f).2.1 (T f).2.2.1 ∈ am_TW) (hfin : (T f).2.2.2 = false ∨ ((T f).2.2.2 = true ∧ Y.1.name = "<init>" ∧ (T f).1 = Y.1.cls)) (hz : am_fT ci f = 2) (hkd : am_kd G w 999 j = 100 + ci) (k : am_A G SC d Y Q (pc + 3) ls st (am_upr w j f r) bc bs) : am_A G SC d Y Q pc ls (.inr (.inr r) :: .inr (.inr (some (999, j))) :: st) w bc bs := by
  intro p l e R s m args below meth c H locs cells slots QQ Dg cI ad A lsA ad0 w0 hX hH hg h1 h2 hl ho hs hR
  have hlv : am_lv SC w (999, j) := am_o1 (am_o2 hs)
  have hrr : ∀ id, r = some id → am_lv SC w id := fun id e => by
    have h9 := am_o1 hs
    rw [e] at h9
    exact h9
  obtain ⟨q0, hq, hk9⟩ := am_wr (w' := am_upr w j f r) hH hlv (show 999 < 1000 by decide) rfl (fun y hy => am_upr_cE hy) (am_wf_r hrr hH.2.2.2.2.1)
  rw [am_cE_o hkd] at hq
  have h9 := am_tyo_ft hc hf
  rw [hz] at h9
  obtain ⟨hn, hfit⟩ := am_nfr (r := r.map ad) h9
  have hce : am_cE cI G ad (am_upr w j f r) (999, j) = .inr (ci, ((List.range (am_nF ci)).map (fun k => am_cv ad (am_fv G w 999 j ci k))).set f (va_rf (r.map ad))) := by
    rw [am_cE_o (w := am_upr w j f r) (show am_kd G (am_upr w j f r) 999 j = 100 + ci from hkd)]
    refine congrArg (fun g => (.inr (ci, g) : va_E)) ?_
    refine (am_fs_set _ f _ _ (va_rf (r.map ad)) ?_ (fun i hi9 => ?_)).symm
    · unfold am_fv
      rw [if_neg (by omega), if_pos hz, am_upr_gr, if_pos ⟨rfl, rfl, rfl⟩]
      rfl
    · have h9 : am_gr G (am_upr w j f r) 999 j i = am_gr G w 999 j i := by rw [am_upr_gr, if_neg (fun e => hi9 e.2.2)]
      unfold am_fv
      rw [h9]
      rfl
  rcases hfin with hfin | ⟨hfin, hi, hdc⟩
  · refine va_put hX.1 hX.2.1 hX.2.2.2.2.2.2.1 (am_in hc) (am_tyo T) (am_tyo_ok hc) (am_nm hc) hX.2.2.2.2.2.1 hX.2.2.2.2.2.2.2.1 hH.1 hH.2.1 hH.2.2.1 q0 hq hc f hf (hX.2.2.2.2.2.2.1 _ hw) (fun _ h => h) hfin (ty := am_tyo T f) (v := va_rf (r.map ad)) (am_tyo_ok hc f hf) hn hfit (by rw [List.length_map, List.length_range, am_nF_of hc]; exact hf) hd (fun H1 locs1 hP hD hS => ?_)
    exact k p l e R s m args below meth c H1 locs1 cells slots QQ Dg cI ad A lsA ad0 w0 hX (hk9 _ H1 locs1 hce hP hD hS) (am_ag_n rfl hg) h1 h2 hl (fun q hq => am_ok_n rfl (ho q hq)) (fun v hv => am_ok_n rfl (am_o2 (am_o2 hs) v hv)) hR
  · refine va_putF hX.1 hX.2.1 hX.2.2.2.2.2.2.1 (am_in hc) (am_tyo T) (am_tyo_ok hc) (am_nm hc) hX.2.2.2.2.2.1 hX.2.2.2.2.2.2.2.1 hH.1 hH.2.1 hH.2.2.1 q0 hq hc f hf (hX.2.2.2.2.2.2.1 _ hw) (fun _ h => h) hfin (hX.2.2.2.2.2.2.2.2.1.trans hi) hdc (ty := am_tyo T f) (v := va_rf (r.map ad)) (am_tyo_ok hc f hf) hn hfit (by rw [List.length_map, List.length_range, am_nF_of hc]; exact hf) hd (fun H1 locs1 hP hD hS => ?_)
    exact k p l e R s m args below meth c H1 locs1 cells slots QQ Dg cI ad A lsA ad0 w0 hX (hk9 _ H1 locs1 hce hP hD hS) (am_ag_n rfl hg) h1 h2 hl (fun q hq => am_ok_n rfl (ho q hq)) (fun v hv => am_ok_n rfl (am_o2 (am_o2 hs) v hv)) hR
/-- which code runs of a method that x names, in an object of class C -/
def am_sel (C : String) (x y : MethodName) : Prop := ∀ (s : State) (args : Array Value), (∀ w ∈ am_TW, w.before args s = true) → (∀ y ∈ am_pv, va_Nw (.privateMethod y) s) → (Cond.selects C x y).before args s = true
theorem am_sel_in {C : String} {x y : MethodName} (h : Cond.selects C x y ∈ am_TW) : am_sel C x y := fun _ _ hw _ => hw _ h
theorem am_sel_p {C : String} {y : MethodName} {n : Nat} (hy : y.cls ≠ "java/lang/invoke/MethodHandle" ∧ y.cls ≠ "java/lang/invoke/VarHandle") (hC : Cond.instantiable C n ∈ am_TW) {x2 y2 : MethodName} {C2 : String} (h2 : Cond.selects C2 x2 y2 ∈ am_TW) (hc2 : y2.cls = y.cls) (hpv : y ∈ am_pv) (hinst : Cond.instanceMethod y ∈ am_TW) : am_sel C y y := by
  intro s args hw hv
  obtain ⟨c, k, hc, hk, -, hniab, -, -⟩ := Cond.instantiable_spec (hw _ hC)
  obtain ⟨mk, methM, hnamed, hmethM, -, -⟩ := Cond.instanceMethod_spec (hw _ hinst)
  have hfound : s.methodFound? y.cls y.name y.desc = some mk := State.methodFound?_of_named hnamed hy
  obtain ⟨c2, r2, m2, -, -, q3, -, kP, hkP, hkPi⟩ := Cond.selects_spec (hw _ h2)
  have hcls : m2.cls = mk.cls := Option.some.inj ((findClass_of_methodNamed q3).symm.trans ((congrArg s.vm.findClass hc2).trans (findClass_of_methodNamed hnamed)))
  rw [hcls] at hkP
  have hsel : selectMethod {} s.vm c mk = .method mk := selectMethod_private hmethM (Cond.privateMethod_at (am_pv_use (args := args) (hv _ hpv)) mk methM hnamed hmethM)
  simp only [Cond.before, Cond.holds, Cond.value, hc, hfound, hnamed, hsel, hkP]
  simp; exact hkPi
/-- a method that is found in a superclass -/
theorem am_callU {d' kc ks idx t j ci N : Nat} {C : String} {x : MethodName} {T : u_T} {Y' : am_Y} {as st0 : List am_V} {b0 : ByteArray} {m0 : Nat} {r0 : Option FieldType} (hd : decode Y.2.1 pc = .ok (.invokevirtual idx, 3)) (hcode : am_code Y') (hlink : Cond.methodLink Y.1.cls idx x ∈ am_TW) (hsame : Cond.sameMethod x.cls x.cls x.name x.desc ∈ am_TW) (hix : Cond.instanceMethod x ∈ am_TW) (hcx : Cond.code x b0 m0 r0 ∈ am_TW) (hinst : Cond.instanceMethod Y'.1 ∈ am_TW) (hsel : am_sel C x Y'.1) (hini : Cond.initialized Y'.1.cls ∈ am_TW)
    (hdx : (x.cls ≠ "java/lang/invoke/MethodHandle" ∧ x.cls ≠ "java/lang/invoke/VarHandle") ∧ (parseMethodDescriptor x.desc).map (fun d => d.parameters.length) = some as.length) (hmax : Y'.2.2.1 ≤ 41) (hdd : d' + 1 ≤ d) (hcat : (st.map am_cat).sum ≤ 8) (hkc : kc ≤ bc) (hks : ks ≤ bs) (hc : am_cl[ci]? = some (C, T, N)) (ht : t < 1100) (hkd : am_kd G w t j = 100 + ci) (hst : as.reverse ++ .inr (.inr (some (t, j))) :: st = st0)
    (k : am_M G SC d' kc ks Y' (.inr (.inr (some (t, j))) :: as) w (fun r w' => am_A G SC d Y Q (pc + 3) ls (r.toList ++ st) w' (bc - kc) (bs - ks))) : am_A G SC d Y Q pc ls st0 w bc bs := by
  intro p l e R s m args below meth c H locs cells slots QQ Dg cI ad A lsA ad0 w0 hX hH hg h1 h2 hl ho hs hR
  subst hst
  obtain ⟨x1, x2, x3, x4, x5, x6, x7, x8, x9, x10, x11⟩ := id hX
  have hrv : am_lv SC w (t, j) := hs (.inr (.inr (some (t, j)))) (List.mem_append_right _ List.mem_cons_self)
  have has : ∀ v ∈ (.inr (.inr (some (t, j))) : am_V) :: as, am_ok SC w v := am_oc hrv (fun v hv => hs v (List.mem_append_left _ (List.mem_reverse.mpr hv)))
  have hst' : ∀ v ∈ st, am_ok SC w v := fun v hv => hs v (List.mem_append_right _ (List.mem_cons_of_mem _ hv))
  have hM := k l Dg cI ad H.size
  have cw : va_CU R s args Y.1.cls C x.cls idx x Y'.1 Y'.2.1 Y'.2.2.1 Y'.2.2.2 (am_ws Y') (am_rm d' kc ks) kc ks as.length := by
    refine ⟨⟨rfl, rfl, by show d' + 1 ≤ R.frames; omega, by show 8 + (Y'.2.2.1 + 11) + 60 * d' ≤ R.locals; omega, pay_in x7 (am_gd hcode), by unfold am_ws; exact List.mem_cons_self⟩, x7 _ hcode, x7 _ hini, hdx.1, fun sig h => ?_, x7 _ hlink, x7 _ hsame, va_Decl.of (x7 _ hix) (x7 _ hcx), hsel s args x7 hH.2.2.2.2.2.2.2.1.2.1, x7 _ hinst⟩
    have h2 := hdx.2
    rw [h] at h2
    exact (Option.some.inj h2).symm
  obtain ⟨pb1, pb2⟩ := am_pre (as := .inr (.inr (some (t, j))) :: as) hH x8 has
  refine am_run (va_runU (As := as.map (am_cv ad)) (rest := st.map (am_cv ad)) ⟨x1, x2, x3, x6, x7⟩ hM cw ⟨pb1, am_recv hH x8 hc hrv ht hkd, pb2⟩ rfl (by rw [List.length_map]) hl.1 (by show (as.reverse ++ .inr (.inr (some (t, j))) :: st).map (am_cv ad) = _; rw [List.map_append, List.map_reverse, List.map_cons]; rfl) (lv_room (by rw [List.map_map]; show (st.map (fun v => (am_cv ad v).category)).sum ≤ 8; rw [show (fun v => (am_cv ad v).category) = am_cat from funext (am_cat_cv ad)]; exact hcat)) hd ⟨by omega, by omega⟩) (fun v st₀ t' H1 L h0 ht' hal hq hL => ?_)
  obtain ⟨r, w', ad', hQ, rfl, hag, hok, hH'⟩ := am_back hH h0 ht' hL hq
  have q := hQ p l e R s m args below meth c H1 (locs ++ L) (cells + kc) (slots + ks) QQ Dg cI ad' A lsA ad0 w0 hX hH' (hg.trans hag) (by omega) (by omega) (by unfold am_cl2; rw [hag.ls ho]; exact hl) (fun q hq => am_ok_grow hag.1 (ho q hq)) (fun v hv => by
    rcases List.mem_append.mp hv with h | h
    · cases r with
      | none => cases h
      | some r0 => obtain rfl : v = r0 := by simpa using h
                   exact hok
    · exact am_ok_grow hag.1 (hst' v h)) hR
  rw [List.map_append, hag.st hst'] at q
  have e : (r.map (am_cv ad')).toList = r.toList.map (am_cv ad') := by cases r <;> rfl
  rw [e]
  exact q
/-- super.method() -/
theorem am_callSU {d' kc ks idx t j ci N : Nat} {C : String} {T : u_T} {Y' : am_Y} {as st0 : List am_V} (hd : decode Y.2.1 pc = .ok (.invokespecial idx, 3)) (hcode : am_code Y') (hlink : Cond.methodLink Y.1.cls idx Y'.1 ∈ am_TW) (hsame : Cond.sameMethod Y'.1.cls Y'.1.cls Y'.1.name Y'.1.desc ∈ am_TW) (hsup : Cond.superclass Y.1.cls Y'.1.cls ∈ am_TW) (hinst : Cond.instanceMethod Y'.1 ∈ am_TW) (hini : Cond.initialized Y'.1.cls ∈ am_TW)
    (hdx : Y'.1.name ≠ "<init>" ∧ (parseMethodDescriptor Y'.1.desc).map (fun d => d.parameters.length) = some as.length) (hmax : Y'.2.2.1 ≤ 41) (hdd : d' + 1 ≤ d) (hcat : (st.map am_cat).sum ≤ 8) (hkc : kc ≤ bc) (hks : ks ≤ bs) (hc : am_cl[ci]? = some (C, T, N)) (ht : t < 1100) (hkd : am_kd G w t j = 100 + ci) (hst : as.reverse ++ .inr (.inr (some (t, j))) :: st = st0)
    (k : am_M G SC d' kc ks Y' (.inr (.inr (some (t, j))) :: as) w (fun r w' => am_A G SC d Y Q (pc + 3) ls (r.toList ++ st) w' (bc - kc) (bs - ks))) : am_A G SC d Y Q pc ls st0 w bc bs := by
  intro p l e R s m args below meth c H locs cells slots QQ Dg cI ad A lsA ad0 w0 hX hH hg h1 h2 hl ho hs hR
  subst hst
  obtain ⟨x1, x2, x3, x4, x5, x6, x7, x8, x9, x10, x11⟩ := id hX
  have hrv : am_lv SC w (t, j) := hs (.inr (.inr (some (t, j)))) (List.mem_append_right _ List.mem_cons_self)
  have has : ∀ v ∈ (.inr (.inr (some (t, j))) : am_V) :: as, am_ok SC w v := am_oc hrv (fun v hv => hs v (List.mem_append_left _ (List.mem_reverse.mpr hv)))
  have hst' : ∀ v ∈ st, am_ok SC w v := fun v hv => hs v (List.mem_append_right _ (List.mem_cons_of_mem _ hv))
  have hM := k l Dg cI ad H.size
  have cw : va_CS R s args Y.1.cls idx Y'.1 Y'.2.1 Y'.2.2.1 Y'.2.2.2 (am_ws Y') (am_rm d' kc ks) kc ks as.length := by
    refine ⟨⟨rfl, rfl, by show d' + 1 ≤ R.frames; omega, by show 8 + (Y'.2.2.1 + 11) + 60 * d' ≤ R.locals; omega, pay_in x7 (am_gd hcode), by unfold am_ws; exact List.mem_cons_self⟩, x7 _ hlink, x7 _ hsame, x7 _ hsup, x7 _ hinst, x7 _ hini, x7 _ hcode, hdx.1, fun sig h => ?_⟩
    have h2 := hdx.2
    rw [h] at h2
    exact (Option.some.inj h2).symm
  obtain ⟨pb1, pb2⟩ := am_pre (as := .inr (.inr (some (t, j))) :: as) hH x8 has
  refine am_run (va_runSU (hX.2.2.2.2.2.2.2.1.1 ci _ hc).2 (As := as.map (am_cv ad)) (rest := st.map (am_cv ad)) ⟨x1, x2, x3, x6, x7⟩ hM cw ⟨pb1, am_recv hH x8 hc hrv ht hkd, pb2⟩ rfl (by rw [List.length_map]) hl.1 (by show (as.reverse ++ .inr (.inr (some (t, j))) :: st).map (am_cv ad) = _; rw [List.map_append, List.map_reverse, List.map_cons]; rfl) (lv_room (by rw [List.map_map]; show (st.map (fun v => (am_cv ad v).category)).sum ≤ 8; rw [show (fun v => (am_cv ad v).category) = am_cat from funext (am_cat_cv ad)]; exact hcat)) hd ⟨by omega, by omega⟩) (fun v st₀ t' H1 L h0 ht' hal hq hL => ?_)
  obtain ⟨r, w', ad', hQ, rfl, hag, hok, hH'⟩ := am_back hH h0 ht' hL hq
  have q := hQ p l e R s m args below meth c H1 (locs ++ L) (cells + kc) (slots + ks) QQ Dg cI ad' A lsA ad0 w0 hX hH' (hg.trans hag) (by omega) (by omega) (by unfold am_cl2; rw [hag.ls ho]; exact hl) (fun q hq => am_ok_grow hag.1 (ho q hq)) (fun v hv => by
    rcases List.mem_append.mp hv with h | h
    · cases r with
      | none => cases h
      | some r0 => obtain rfl : v = r0 := by simpa using h
                   exact hok
    · exact am_ok_grow hag.1 (hst' v h)) hR
  rw [List.map_append, hag.st hst'] at q
  have e : (r.map (am_cv ad')).toList = r.toList.map (am_cv ad') := by cases r <;> rfl
  rw [e]
  exact q
end AMK
