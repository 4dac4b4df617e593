-- RULES: calls
section AMC
variable {G : am_G} {SC : Nat → Nat} {d : Nat} {Y : am_Y} {Q : Option am_V → am_W → Prop} {pc bc bs : Nat} {ls : List (Nat × am_V)} {st : List am_V} {w : am_W}
theorem am_run {p : Program} {l : Launch} {e : Env} {R : Room} {s : State} {m : MethodId} {args : Array Value} {below : List Frame} {meth : Method} {c : Code} {H : Heap} {locs : List Loc} {cells slots mc ms : Nat} {QQ : State → Prop} {pc : Nat} {lsA : Array Slot} {st0 rest : List Value} {Qa : State → Outcome → State → Prop} {free : Addr → Prop} (hr : va_Run p l e R s m args below meth c H locs cells slots mc ms (F0 m pc lsA st0) rest Qa free)
    (kk : ∀ (v : Option Value) (st₀ t : State) (H1 : Heap) (L : List Loc), st₀.heap = H → t.heap = H1 → s.vm.Alike t.vm → Qa st₀ (.returned v) t → (∀ q ∈ L, free q.base) → W p l e R s m args below meth c H1 (locs ++ L) (cells + mc) (slots + ms) QQ (F0 m (pc + 3) lsA (v.toList ++ rest))) : W p l e R s m args below meth c H locs cells slots QQ (F0 m pc lsA st0) := by
  intro T hT X
  obtain ⟨v, st₀, t, T', L, h0, X', hL, e1, e2, hq, st⟩ := hr T hT X
  obtain ⟨t2, a1, b1⟩ := kk v st₀ t T'.heap L h0 e1.symm (by rw [← e2]; exact X'.warmed.alike) hq hL T' rfl X'
  exact ⟨t2, st t2 a1, b1⟩
/-- behind a call: the caller's picture of what the callee left -/
theorem am_back {Dg : va_G} {cI : Nat → ClassId} {s : State} {A : Nat → Prop} {ad : am_I → Nat} {H H1 : Heap} {locs L : List Loc} (hH : am_H G SC Dg cI s A ad w H locs) {Q' : Option am_V → am_W → Prop} {a : Array Value} {st₀ t : State} {v : Option Value} (h0 : st₀.heap = H) (ht : t.heap = H1) (hL : ∀ q ∈ L, va_A (am_wsl G SC cI ad w) H.size q.base) (hq : am_Qc G SC Dg cI ad w H.size Q' a st₀ (.returned v) t) :
    ∃ (r : Option am_V) (w' : am_W) (ad' : am_I → Nat), Q' r w' ∧ v = r.map (am_cv ad') ∧ am_ag SC ad w ad' w' ∧ am_okr SC w' r ∧ am_H G SC Dg cI s A ad' w' H1 (locs ++ L) := by
  obtain ⟨⟨r, w', ad', hQ, hv, hag, hP, hD, hwf, hok⟩, hz, hk⟩ := hq
  cases hv
  rw [h0] at hz hk
  obtain ⟨i1, i2, i3, i4, i5, i6, i7⟩ := hH
  have hA : ∀ q, va_A (am_wsl G SC cI ad w) H.size q → A q := by
    intro q h
    rcases h with ⟨k, e, h⟩ | h
    · exact i2.2 k (q, e) h
    · exact i4 q (Nat.le_trans i3.1 h)
  refine ⟨r, w', ad', hQ, rfl, hag, hok, by rw [← ht]; exact hP, hD.weaken (fun _ q _ h => hA q.1 h), ⟨?_, ?_, ?_⟩, i4, hwf, ?_, am_E_mv hag i5 i7⟩
  · rw [← ht]; exact Nat.le_trans i3.1 hz
  · intro q h1 h2
    rw [← ht, hk q (Nat.lt_of_lt_of_le h1 i3.1) (fun z => h2 (hA q z))]
    exact i3.2.1 q h1 h2
  · intro q hq
    rcases List.mem_append.mp hq with h | h
    · exact i3.2.2 q h
    · exact hA _ (hL q h)
  · intro id h1 h2 h3
    have hl : am_lv SC w id := Or.inr ⟨by omega, h3⟩
    rw [am_cE_env hag i5 h1 hl, hag.2 id hl]
    exact i6 id h1 h2 h3
/-- what a callee finds -/
theorem am_pre {Dg : va_G} {cI : Nat → ClassId} {s : State} {A : Nat → Prop} {ad : am_I → Nat} {H : Heap} {locs : List Loc} {as : List am_V} (hH : am_H G SC Dg cI s A ad w H locs) (hK : va_K Dg am_cl (am_tys cI) s) (has : ∀ v ∈ as, am_ok SC w v) : FrameBlind (va_Pc (as.map (am_cv ad)) (am_B G SC Dg cI ad w H.size as)) ∧ ∀ U : State, U.heap = H → s.WarmedH U.vm → va_Pc (as.map (am_cv ad)) (am_B G SC Dg cI ad w H.size as) (as.map (am_cv ad)).toArray U := by
  obtain ⟨i1, i2, i3, i4, i5, i6, i7⟩ := hH
  have hA : ∀ q, va_A (am_wsl G SC cI ad w) H.size q → A q := by
    intro q h
    rcases h with ⟨k, e, h⟩ | h
    · exact i2.2 k (q, e) h
    · exact i4 q (Nat.le_trans i3.1 h)
  refine ⟨fun a U g mk q => ?_, fun U hU hW => ⟨rfl, ?_⟩⟩
  · obtain ⟨q1, b1, b2, b3, b4, b5, b6, b7, b8⟩ := q
    refine ⟨q1, b1, b2, b3, va_K.moved (u := U) (U := U.calling g mk a) (Vm.Alike.refl U.vm) b4, b5, b6, fun id h1 h2 h3 => ⟨am_ca.moved (u := U) (U := U.calling g mk a) (Vm.Alike.refl U.vm) (b7 id h1 h2 h3).1, (b7 id h1 h2 h3).2⟩, ⟨fun q hq => vk_R.same (u := U) (U := U.calling g mk a) rfl (b8.1 q hq), ⟨fun q hq => va_Nw.warmM (s := U) (U := U.calling g mk a) (State.WarmedH.refl U) (b8.2.1.1 q hq), fun y hy => am_warmP (s := U) (U := U.calling g mk a) (State.WarmedH.refl U) (b8.2.1.2.1 y hy), fun ty hty => am_AO_moved (u := U) (U := U.calling g mk a) (Vm.Alike.refl U.vm) (b8.2.1.2.2 ty hty)⟩, fun q hq => va_Z.moved (u := U) (U := U.calling g mk a) (Vm.Alike.refl U.vm) (b8.2.2 q hq)⟩⟩
  · subst hU
    refine ⟨rfl, i1, i2.weaken (fun _ _ _ _ => trivial), va_K.moved hW.alike hK, i5, has, fun id h1 h2 h3 => ?_, am_E_to ⟨i7.1, i7.2.1, i7.2.2⟩ i3 rfl hW hA⟩
    obtain ⟨g1, g2, g3⟩ := i6 id h1 h2 h3
    exact ⟨(g1.kept (i3.2.1 _ g2 g3)).moved hW.alike, Nat.lt_of_lt_of_le g2 i3.1, fun z => g3 (hA _ z)⟩
abbrev am_ds (Y' : am_Y) (n : Nat) : Prop := Y'.1.cls ≠ "java/lang/invoke/MethodHandle" ∧ Y'.1.cls ≠ "java/lang/invoke/VarHandle" ∧ (parseMethodDescriptor Y'.1.desc).map (fun d => d.parameters.length) = some n
abbrev am_code (Y' : am_Y) : Prop := Cond.code Y'.1 Y'.2.1 Y'.2.2.1 Y'.2.2.2 ∈ am_TW
theorem am_calls {d' kc ks idx : Nat} {Y' : am_Y} {as st0 : List am_V} (hd : decode Y.2.1 pc = .ok (.invokestatic idx, 3)) (hcode : am_code Y') (hlink : Cond.methodLink Y.1.cls idx Y'.1 ∈ am_TW) (hstat : Cond.static Y'.1 ∈ am_TW) (hini : Cond.initialized Y'.1.cls ∈ am_TW) (hds : am_ds Y' as.length) (hmax : Y'.2.2.1 ≤ 41) (hdd : d' + 1 ≤ d) (hcat : (st.map am_cat).sum ≤ 8) (hkc : kc ≤ bc) (hks : ks ≤ bs) (hst : as.reverse ++ st = st0)
    (k : am_M G SC d' kc ks Y' as w (fun r w' => am_A G SC d Y Q (pc + 3) ls (r.toList ++ st) w' (bc - kc) (bs - ks))) : am_A G SC d Y Q pc ls st0 w bc bs := by
  intro p l e R s m args below meth c H locs cells slots QQ Dg cI ad A lsA ad0 w0 hX hH hg h1 h2 hl ho hs hR
  subst hst
  obtain ⟨x1, x2, x3, x4, x5, x6, x7, x8, x9, x10, x11⟩ := id hX
  have has : ∀ v ∈ as, am_ok SC w v := fun v hv => hs v (List.mem_append_left _ (List.mem_reverse.mpr hv))
  have hst' : ∀ v ∈ st, am_ok SC w v := fun v hv => hs v (List.mem_append_right _ hv)
  have hM := k l Dg cI ad H.size
  have hT : GoodIn am_TW (va_wsS Y.1.cls idx Y'.1 (am_ws Y')) := by
    intro z hz
    have hm : z ∈ am_TW := by
      unfold va_wsS at hz
      rcases List.mem_append.mp hz with h | h
      · rcases List.mem_cons.mp h with rfl | h
        · exact hlink
        · rcases List.mem_cons.mp h with rfl | h
          · exact hstat
          · rcases List.mem_cons.mp h with rfl | h
            · exact hini
            · cases h
      · exact (am_gd hcode z h).1
    exact ⟨hm, good_of_word (am_good z hm)⟩
  have cw := va_cwS (R := R) (s := s) (args := args) (mc := kc) (ms := ks) (rm := am_rm d' kc ks) as.length x7 hT rfl rfl rfl hds ⟨by show d' + 1 ≤ R.frames; omega, by show 8 + (Y'.2.2.1 + 11) + 60 * d' ≤ R.locals; omega⟩
  refine am_run (va_runS (As := as.map (am_cv ad)) (rest := st.map (am_cv ad)) ⟨x1, x2, x3, x6, x7⟩ hM cw (am_pre hH x8 has) rfl (by rw [List.length_map]) hl.1 (by show (as.reverse ++ st).map (am_cv ad) = _; rw [List.map_append, List.map_reverse]) (lv_room (by rw [List.map_map]; show (st.map (fun v => (am_cv ad v).category)).sum ≤ 8; rw [show (fun v => (am_cv ad v).category) = am_cat from funext (am_cat_cv ad)]; exact hcat)) hd ⟨by omega, by omega⟩) (fun v st₀ t H1 L h0 ht hal hq hL => ?_)
  obtain ⟨r, w', ad', hQ, rfl, hag, hok, hH'⟩ := am_back hH h0 ht hL hq
  have q := hQ p l e R s m args below meth c H1 (locs ++ L) (cells + kc) (slots + ks) QQ Dg cI ad' A lsA ad0 w0 hX hH' (hg.trans hag) (by omega) (by omega) (by unfold am_cl2; rw [hag.ls ho]; exact hl) (fun q hq => am_ok_grow hag.1 (ho q hq)) (fun v hv => by
    rcases List.mem_append.mp hv with h | h
    · cases r with
      | none => cases h
      | some r0 => obtain rfl : v = r0 := by simpa using h
                   exact hok
    · exact am_ok_grow hag.1 (hst' v h)) hR
  rw [List.map_append, hag.st hst'] at q
  have e : (r.map (am_cv ad')).toList = r.toList.map (am_cv ad') := by cases r <;> rfl
  rw [e]
  exact q
/-- an object's class, as a receiver -/
theorem am_recv {Dg : va_G} {cI : Nat → ClassId} {s : State} {A : Nat → Prop} {ad : am_I → Nat} {H : Heap} {locs : List Loc} (hH : am_H G SC Dg cI s A ad w H locs) (hK : va_K Dg am_cl (am_tys cI) s) {t j ci N : Nat} {C : String} {T : u_T} (hc : am_cl[ci]? = some (C, T, N)) (hlv : am_lv SC w (t, j)) (ht : t < 1100) (hkd : am_kd G w t j = 100 + ci) : ∃ cell : Cell, H[ad (t, j)]? = some cell ∧ cell.vm.isStatics = false ∧ s.vm.findClass C = some cell.cls := by
  obtain ⟨cell, c1, c2, c3, -⟩ := am_readO hH hc hlv ht hkd
  exact ⟨cell, c1, c3, by rw [c2]; exact (hK.1 ci _ hc).2.1⟩
theorem am_callv {d' kc ks idx t j ci N : Nat} {T : u_T} {Y' : am_Y} {as st0 : List am_V} (hd : decode Y.2.1 pc = .ok (.invokevirtual idx, 3)) (hcode : am_code Y') (hlink : Cond.methodLink Y.1.cls idx Y'.1 ∈ am_TW) (hinst : Cond.instanceMethod Y'.1 ∈ am_TW) (hsel : Cond.selects Y'.1.cls Y'.1 Y'.1 ∈ am_TW) (hini : Cond.initialized Y'.1.cls ∈ am_TW) (hds : am_ds Y' as.length) (hmax : Y'.2.2.1 ≤ 41) (hdd : d' + 1 ≤ d) (hcat : (st.map am_cat).sum ≤ 8) (hkc : kc ≤ bc) (hks : ks ≤ bs) (hc : am_cl[ci]? = some (Y'.1.cls, T, N)) (ht : t < 1100) (hkd : am_kd G w t j = 100 + ci) (hst : as.reverse ++ .inr (.inr (some (t, j))) :: st = st0)
    (k : am_M G SC d' kc ks Y' (.inr (.inr (some (t, j))) :: as) w (fun r w' => am_A G SC d Y Q (pc + 3) ls (r.toList ++ st) w' (bc - kc) (bs - ks))) : am_A G SC d Y Q pc ls st0 w bc bs := by
  intro p l e R s m args below meth c H locs cells slots QQ Dg cI ad A lsA ad0 w0 hX hH hg h1 h2 hl ho hs hR
  subst hst
  obtain ⟨x1, x2, x3, x4, x5, x6, x7, x8, x9, x10, x11⟩ := id hX
  have hrv : am_lv SC w (t, j) := hs (.inr (.inr (some (t, j)))) (List.mem_append_right _ List.mem_cons_self)
  have has : ∀ v ∈ (.inr (.inr (some (t, j))) : am_V) :: as, am_ok SC w v := am_oc hrv (fun v hv => hs v (List.mem_append_left _ (List.mem_reverse.mpr hv)))
  have hst' : ∀ v ∈ st, am_ok SC w v := fun v hv => hs v (List.mem_append_right _ (List.mem_cons_of_mem _ hv))
  have hM := k l Dg cI ad H.size
  have hT : GoodIn am_TW (wsV Y.1.cls idx Y'.1.cls Y'.1 (am_ws Y')) := by
    intro z hz
    have hm : z ∈ am_TW := by
      unfold wsV at hz
      rcases List.mem_append.mp hz with h | h
      · rcases List.mem_cons.mp h with rfl | h
        · exact hlink
        · rcases List.mem_cons.mp h with rfl | h
          · exact hinst
          · rcases List.mem_cons.mp h with rfl | h
            · exact hsel
            · rcases List.mem_cons.mp h with rfl | h
              · exact hini
              · cases h
      · exact (am_gd hcode z h).1
    exact ⟨hm, good_of_word (am_good z hm)⟩
  have cw := cwV (R := R) (s := s) (args := args) (mc := kc) (ms := ks) (rm := am_rm d' kc ks) as.length x7 hT rfl rfl rfl ⟨rfl, hds⟩ ⟨by show d' + 1 ≤ R.frames; omega, by show 8 + (Y'.2.2.1 + 11) + 60 * d' ≤ R.locals; omega⟩
  obtain ⟨pb1, pb2⟩ := am_pre (as := .inr (.inr (some (t, j))) :: as) hH x8 has
  refine am_run (va_runV (As := as.map (am_cv ad)) (rest := st.map (am_cv ad)) ⟨x1, x2, x3, x6, x7⟩ hM cw ⟨pb1, am_recv hH x8 hc hrv ht hkd, pb2⟩ rfl (by rw [List.length_map]) hl.1 (by show (as.reverse ++ .inr (.inr (some (t, j))) :: st).map (am_cv ad) = _; rw [List.map_append, List.map_reverse, List.map_cons]; rfl) (lv_room (by rw [List.map_map]; show (st.map (fun v => (am_cv ad v).category)).sum ≤ 8; rw [show (fun v => (am_cv ad v).category) = am_cat from funext (am_cat_cv ad)]; exact hcat)) hd ⟨by omega, by omega⟩) (fun v st₀ t' H1 L h0 ht' hal hq hL => ?_)
  obtain ⟨r, w', ad', hQ, rfl, hag, hok, hH'⟩ := am_back hH h0 ht' hL hq
  have q := hQ p l e R s m args below meth c H1 (locs ++ L) (cells + kc) (slots + ks) QQ Dg cI ad' A lsA ad0 w0 hX hH' (hg.trans hag) (by omega) (by omega) (by unfold am_cl2; rw [hag.ls ho]; exact hl) (fun q hq => am_ok_grow hag.1 (ho q hq)) (fun v hv => by
    rcases List.mem_append.mp hv with h | h
    · cases r with
      | none => cases h
      | some r0 => obtain rfl : v = r0 := by simpa using h
                   exact hok
    · exact am_ok_grow hag.1 (hst' v h)) hR
  rw [List.map_append, hag.st hst'] at q
  have e : (r.map (am_cv ad')).toList = r.toList.map (am_cv ad') := by cases r <;> rfl
  rw [e]
  exact q
theorem am_calli {d' kc ks idx : Nat} {rv : am_I} {Y' : am_Y} {as st0 : List am_V} (hd : decode Y.2.1 pc = .ok (.invokespecial idx, 3)) (hcode : am_code Y') (hlink : Cond.methodLink Y.1.cls idx Y'.1 ∈ am_TW) (hinst : Cond.instanceMethod Y'.1 ∈ am_TW) (hy1 : Y'.1.name = "<init>") (hret : Y'.2.2.2 = none) (hini : Cond.initialized Y'.1.cls ∈ am_TW) (hds : am_ds Y' as.length) (hmax : Y'.2.2.1 ≤ 41) (hdd : d' + 1 ≤ d) (hcat : (st.map am_cat).sum ≤ 8) (hkc : kc ≤ bc) (hks : ks ≤ bs) (hst : as.reverse ++ .inr (.inr (some rv)) :: st = st0)
    (k : am_M G SC d' kc ks Y' (.inr (.inr (some rv)) :: as) w (fun r w' => am_A G SC d Y Q (pc + 3) ls (r.toList ++ st) w' (bc - kc) (bs - ks))) : am_A G SC d Y Q pc ls st0 w bc bs := by
  intro p l e R s m args below meth c H locs cells slots QQ Dg cI ad A lsA ad0 w0 hX hH hg h1 h2 hl ho hs hR
  subst hst
  obtain ⟨x1, x2, x3, x4, x5, x6, x7, x8, x9, x10, x11⟩ := id hX
  have hrv : am_lv SC w rv := hs (.inr (.inr (some rv))) (List.mem_append_right _ List.mem_cons_self)
  have has : ∀ v ∈ (.inr (.inr (some rv)) : am_V) :: as, am_ok SC w v := am_oc hrv (fun v hv => hs v (List.mem_append_left _ (List.mem_reverse.mpr hv)))
  have hst' : ∀ v ∈ st, am_ok SC w v := fun v hv => hs v (List.mem_append_right _ (List.mem_cons_of_mem _ hv))
  have hM := k l Dg cI ad H.size
  have cw := cwI (R := R) (s := s) (args := args) (own := Y.1.cls) (index := idx) (mc := kc) (ms := ks) (rm := am_rm d' kc ks) as.length x7 (am_gd hcode) (by unfold am_ws; rw [hret]) rfl rfl (x7 _ hini) (x7 _ hlink) (x7 _ hinst) hy1 hds ⟨by show d' + 1 ≤ R.frames; omega, by show 8 + (Y'.2.2.1 + 11) + 60 * d' ≤ R.locals; omega⟩
  obtain ⟨pb1, pb2⟩ := am_pre (as := .inr (.inr (some rv)) :: as) hH x8 has
  refine am_run (va_runI (As := as.map (am_cv ad)) (rest := st.map (am_cv ad)) ⟨x1, x2, x3, x6, x7⟩ hM cw ⟨pb1, pb2⟩ rfl (by rw [List.length_map]) hl.1 (by show (as.reverse ++ .inr (.inr (some rv)) :: st).map (am_cv ad) = _; rw [List.map_append, List.map_reverse, List.map_cons]; rfl) (lv_room (by rw [List.map_map]; show (st.map (fun v => (am_cv ad v).category)).sum ≤ 8; rw [show (fun v => (am_cv ad v).category) = am_cat from funext (am_cat_cv ad)]; exact hcat)) hd ⟨by omega, by omega⟩) (fun v st₀ t' H1 L h0 ht' hal hq hL => ?_)
  obtain ⟨r, w', ad', hQ, rfl, hag, hok, hH'⟩ := am_back hH h0 ht' hL hq
  have q := hQ p l e R s m args below meth c H1 (locs ++ L) (cells + kc) (slots + ks) QQ Dg cI ad' A lsA ad0 w0 hX hH' (hg.trans hag) (by omega) (by omega) (by unfold am_cl2; rw [hag.ls ho]; exact hl) (fun q hq => am_ok_grow hag.1 (ho q hq)) (fun v hv => by
    rcases List.mem_append.mp hv with h | h
    · cases r with
      | none => cases h
      | some r0 => obtain rfl : v = r0 := by simpa using h
                   exact hok
    · exact am_ok_grow hag.1 (hst' v h)) hR
  rw [List.map_append, hag.st hst'] at q
  have e : (r.map (am_cv ad')).toList = r.toList.map (am_cv ad') := by cases r <;> rfl
  rw [e]
  exact q
theorem am_callin {d' kc ks idx : Nat} {rv : am_I} {Y' : am_Y} {as st0 : List am_V} (hd : decode Y.2.1 pc = .ok (.invokespecial idx, 3)) (hcode : am_code Y') {host : String} (hlink : (Y.1.cls, idx, Y'.1, host) ∈ am_nst) (hinst : Cond.instanceMethod Y'.1 ∈ am_TW) (hy1 : Y'.1.name = "<init>") (hret : Y'.2.2.2 = none) (hini : Cond.initialized Y'.1.cls ∈ am_TW) (hds : am_ds Y' as.length) (hmax : Y'.2.2.1 ≤ 41) (hdd : d' + 1 ≤ d) (hcat : (st.map am_cat).sum ≤ 8) (hkc : kc ≤ bc) (hks : ks ≤ bs) (hst : as.reverse ++ .inr (.inr (some rv)) :: st = st0)
    (k : am_M G SC d' kc ks Y' (.inr (.inr (some rv)) :: as) w (fun r w' => am_A G SC d Y Q (pc + 3) ls (r.toList ++ st) w' (bc - kc) (bs - ks))) : am_A G SC d Y Q pc ls st0 w bc bs := by
  intro p l e R s m args below meth c H locs cells slots QQ Dg cI ad A lsA ad0 w0 hX hH hg h1 h2 hl ho hs hR
  subst hst
  obtain ⟨x1, x2, x3, x4, x5, x6, x7, x8, x9, x10, x11⟩ := id hX
  have hrv : am_lv SC w rv := hs (.inr (.inr (some rv))) (List.mem_append_right _ List.mem_cons_self)
  have has : ∀ v ∈ (.inr (.inr (some rv)) : am_V) :: as, am_ok SC w v := am_oc hrv (fun v hv => hs v (List.mem_append_left _ (List.mem_reverse.mpr hv)))
  have hst' : ∀ v ∈ st, am_ok SC w v := fun v hv => hs v (List.mem_append_right _ (List.mem_cons_of_mem _ hv))
  have hM := k l Dg cI ad H.size
  have cw := va_cnB (R := R) (s := s) (args := args) (own := Y.1.cls) (index := idx) (host := host) (mc := kc) (ms := ks) (rm := am_rm d' kc ks) as.length x7 (am_gd hcode) (by unfold am_ws; rw [hret]) rfl rfl (hH.2.2.2.2.2.2.2.1.1 _ hlink) (x7 _ hini) hds ⟨by show d' + 1 ≤ R.frames; omega, by show 8 + (Y'.2.2.1 + 11) + 60 * d' ≤ R.locals; omega⟩
  obtain ⟨pb1, pb2⟩ := am_pre (as := .inr (.inr (some rv)) :: as) hH x8 has
  refine am_run (va_runIN (As := as.map (am_cv ad)) (rest := st.map (am_cv ad)) ⟨x1, x2, x3, x6, x7⟩ hM ⟨cw, hy1, x7 _ hinst⟩ ⟨pb1, pb2⟩ rfl (by rw [List.length_map]) hl.1 (by show (as.reverse ++ .inr (.inr (some rv)) :: st).map (am_cv ad) = _; rw [List.map_append, List.map_reverse, List.map_cons]; rfl) (lv_room (by rw [List.map_map]; show (st.map (fun v => (am_cv ad v).category)).sum ≤ 8; rw [show (fun v => (am_cv ad v).category) = am_cat from funext (am_cat_cv ad)]; exact hcat)) hd ⟨by omega, by omega⟩) (fun v st₀ t' H1 L h0 ht' hal hq hL => ?_)
  obtain ⟨r, w', ad', hQ, rfl, hag, hok, hH'⟩ := am_back hH h0 ht' hL hq
  have q := hQ p l e R s m args below meth c H1 (locs ++ L) (cells + kc) (slots + ks) QQ Dg cI ad' A lsA ad0 w0 hX hH' (hg.trans hag) (by omega) (by omega) (by unfold am_cl2; rw [hag.ls ho]; exact hl) (fun q hq => am_ok_grow hag.1 (ho q hq)) (fun v hv => by
    rcases List.mem_append.mp hv with h | h
    · cases r with
      | none => cases h
      | some r0 => obtain rfl : v = r0 := by simpa using h
                   exact hok
    · exact am_ok_grow hag.1 (hst' v h)) hR
  rw [List.map_append, hag.st hst'] at q
  have e : (r.map (am_cv ad')).toList = r.toList.map (am_cv ad') := by cases r <;> rfl
  rw [e]
  exact q
theorem am_objinit {idx : Nat} {r : am_I} (hd : decode Y.2.1 pc = .ok (.invokespecial idx, 3)) (hlink : Cond.methodLink Y.1.cls idx Lib.objectInit ∈ am_TW) (hinst : Cond.instanceMethod Lib.objectInit ∈ am_TW) (hcode : Cond.code Lib.objectInit ⟨#[0xb1]⟩ 1 none ∈ am_TW) (hdd : 1 ≤ d) (hcat : (st.map am_cat).sum ≤ 8) (k : am_A G SC d Y Q (pc + 3) ls st w bc bs) : am_A G SC d Y Q pc ls (.inr (.inr (some r)) :: st) w bc bs := by
  intro p l e R s m args below meth c H locs cells slots QQ Dg cI ad A lsA ad0 w0 hX hH hg h1 h2 hl ho hs hR
  obtain ⟨x1, x2, x3, x4, x5, x6, x7, x8, x9, x10, x11⟩ := id hX
  have hc9 : ((st.map (am_cv ad)).map fun v => v.category).sum ≤ 8 := by rw [List.map_map]; show (st.map (fun v => (am_cv ad v).category)).sum ≤ 8; rw [show (fun v => (am_cv ad v).category) = am_cat from funext (am_cat_cv ad)]; exact hcat
  have hm9 : (F0 m pc lsA ((.inr (.inr (some r)) :: st).map (am_cv ad))).monitorRoom = 0 := rfl
  exact W.objInit x1 x2 x6 (x7 _ hlink) (x7 _ hinst) (x7 _ hcode) rfl (hl.1.trans x3.symm) rfl hd (by omega) (by rw [hm9]; omega) (k p l e R s m args below meth c H locs cells slots QQ Dg cI ad A lsA ad0 w0 hX hH hg h1 h2 hl ho (am_o2 hs) hR)
end AMC
