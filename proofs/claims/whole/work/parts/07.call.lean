-- CONTRACTS AND CALLS
theorem am_cE_ad {cI : Nat → ClassId} {G : am_G} {ad ad' : am_I → Nat} {w : am_W} {id : am_I} (e6 : ∀ k, k < am_ext G w id.1 id.2 → (am_gr G w id.1 id.2 k).map ad' = (am_gr G w id.1 id.2 k).map ad) : am_cE cI G ad' w id = am_cE cI G ad w id := by
  unfold am_cE am_ar am_fv
  unfold am_ext at e6
  split
  · rename_i h9
    rw [if_pos h9] at e6
    have e7 : (fun k => if k < am_ln G w id.1 id.2 then (am_gr G w id.1 id.2 k).map ad' else none) = (fun k => if k < am_ln G w id.1 id.2 then (am_gr G w id.1 id.2 k).map ad else none) := by
      funext k
      split
      · rename_i hk
        exact e6 k hk
      · rfl
    rw [e7]
  · rename_i h9
    rw [if_neg h9] at e6
    congr 2
    apply List.map_congr_left
    intro k hk
    split
    · rfl
    · split
      · exact congrArg va_rf (e6 k (List.mem_range.mp hk))
      · rfl
theorem am_cE_env {cI : Nat → ClassId} {G : am_G} {SC : Nat → Nat} {ad ad' : am_I → Nat} {w w' : am_W} (hg : am_ag SC ad w ad' w') (hwf : am_wf G SC w) {id : am_I} (h : 1000 ≤ id.1) (hl : am_lv SC w id) : am_cE cI G ad' w' id = am_cE cI G ad w id := by
  have hne : id.1 ≠ 999 := by omega
  have e1 : am_kd G w' id.1 id.2 = am_kd G w id.1 id.2 := by unfold am_kd; rw [if_neg hne, if_neg hne]
  have e2 : am_ln G w' id.1 id.2 = am_ln G w id.1 id.2 := by unfold am_ln; rw [if_neg hne, if_neg hne]
  have e3 : ∀ k, am_gi G w' id.1 id.2 k = am_gi G w id.1 id.2 k := fun k => by unfold am_gi; rw [if_pos h, if_pos h]
  have e4 : ∀ k, am_gl w' id.1 id.2 k = am_gl w id.1 id.2 k := fun k => by unfold am_gl; rw [if_pos h, if_pos h]
  have e5 : ∀ k, am_gr G w' id.1 id.2 k = am_gr G w id.1 id.2 k := fun k => by unfold am_gr; rw [if_neg hne, if_neg hne]
  have e6 : ∀ k, k < am_ext G w id.1 id.2 → (am_gr G w id.1 id.2 k).map ad' = (am_gr G w id.1 id.2 k).map ad := fun k hk => by
    cases hr : am_gr G w id.1 id.2 k with
    | none => rfl
    | some id' => exact congrArg some (hg.2 id' (hwf.2.1 id k id' hl hk hr))
  rw [am_cE_eq (w := w) (w' := w') e1 e2 e3 e4 e5]
  exact am_cE_ad e6
theorem am_E_mv {G : am_G} {SC : Nat → Nat} {ad ad' : am_I → Nat} {w w' : am_W} {A : Nat → Prop} {s : State} (hg : am_ag SC ad w ad' w') (hwf : am_wf G SC w) (h : am_E G ad A s) : am_E G ad' A s := by
  refine ⟨fun q hq => ?_, h.2.1, fun q hq => ?_⟩
  · rw [hg.2 (1000, q.2.2.2) (Or.inr ⟨by show 1000 ≠ 999; omega, hwf.2.2.2 q hq⟩)]
    exact h.1 q hq
  · rw [hg.cv (hwf.2.2.1 q hq)]
    exact h.2.2 q hq
theorem am_warmP {y : MethodName} {s U : State} (hW : s.WarmedH U.vm) (hZ : va_Nw (.privateMethod y) s) : va_Nw (.privateMethod y) U := va_tabs rfl (rfl : (s.setVm U.vm).vm = U.vm) (by rw [Cond.privateMethod_setVm hW.alike]; exact hZ)
theorem am_pv_use {y : MethodName} {s : State} {args : Array Value} (hZ : va_Nw (.privateMethod y) s) : (Cond.privateMethod y).before args s = true := va_Nw.use rfl hZ
theorem am_pv_of {y : MethodName} {s : State} {args : Array Value} (h : (Cond.privateMethod y).before args s = true) : va_Nw (.privateMethod y) s := va_Nw.of rfl h
theorem am_E_to {G : am_G} {ad : am_I → Nat} {A B : Nat → Prop} {s U : State} {H : Heap} {locs : List Loc} (h : am_E G ad A s) (hS : va_S A s.heap H locs) (hU : U.heap = H) (hW : s.WarmedH U.vm) (hAB : ∀ q, B q → A q) : am_E G ad B U := by
  refine ⟨fun q hq => vk_R.warm hW (h.1 q hq), ⟨fun q hq => va_Nw.warmM hW (h.2.1.1 q hq), fun y hy => am_warmP hW (h.2.1.2.1 y hy), fun ty hty => am_AO_moved hW.alike (h.2.1.2.2 ty hty)⟩, fun q hq => ?_⟩
  rw [hU]
  exact ((va_Z.moved hW.alike (h.2.2 q hq)).kept hS.2.1).narrow hAB
/-- what a method finds -/
def am_B (G : am_G) (SC : Nat → Nat) (Dg : va_G) (cI : Nat → ClassId) (ad : am_I → Nat) (w : am_W) (sz : Nat) (as : List am_V) (U : State) : Prop :=
  U.heap.size = sz ∧ va_P Dg am_cl (am_wsl G SC cI ad w) U.heap ∧ va_D (fun _ => True) (am_wsl G SC cI ad w) ∧ va_K Dg am_cl (am_tys cI) U ∧ am_wf G SC w ∧ (∀ v ∈ as, am_ok SC w v) ∧ (∀ id : am_I, 1000 ≤ id.1 → id.1 < 1100 → id.2 < SC id.1 → am_ca U Dg (G.2.1 id.1 id.2) (ad id, am_cE cI G ad w id) U.heap ∧ ad id < U.heap.size ∧ ¬ va_A (am_wsl G SC cI ad w) sz (ad id)) ∧ am_E G ad (va_A (am_wsl G SC cI ad w) sz) U
/-- what it leaves -/
def am_Qc (G : am_G) (SC : Nat → Nat) (Dg : va_G) (cI : Nat → ClassId) (ad : am_I → Nat) (w : am_W) (sz : Nat) (Q : Option am_V → am_W → Prop) : Array Value → State → Outcome → State → Prop := fun _ st oc t =>
  (∃ (r : Option am_V) (w' : am_W) (ad' : am_I → Nat), Q r w' ∧ oc = .returned (r.map (am_cv ad')) ∧ am_ag SC ad w ad' w' ∧ va_P Dg am_cl (am_wsl G SC cI ad' w') t.heap ∧ va_D (va_A (am_wsl G SC cI ad w) sz) (am_wsl G SC cI ad' w') ∧ am_wf G SC w' ∧ am_okr SC w' r) ∧ va_F (va_A (am_wsl G SC cI ad w) sz) st t
def am_rm (d kc ks : Nat) : Room := { frames := d, cells := kc, slots := ks, locals := 60 * d }
/-- A METHOD'S CONTRACT: from these arguments and this world it returns, with Q; at most d frames, kc cells, ks places are wanted -/
def am_M (G : am_G) (SC : Nat → Nat) (d kc ks : Nat) (Y : am_Y) (as : List am_V) (w : am_W) (Q : Option am_V → am_W → Prop) : Prop :=
  ∀ (l : Launch) (Dg : va_G) (cI : Nat → ClassId) (ad : am_I → Nat) (sz : Nat), Met l Y.1 (am_ws Y) (am_rm d kc ks) (va_Pc (as.map (am_cv ad)) (am_B G SC Dg cI ad w sz as)) (am_Qc G SC Dg cI ad w sz Q) kc ks (va_A (am_wsl G SC cI ad w) sz)
/-- the arguments as locals -/
def am_ent : Nat → List am_V → List (Nat × am_V)
  | _, [] => []
  | n, v :: vs => (n, v) :: am_ent (n + am_cat v) vs
def am_esz (as : List am_V) : Nat := (as.map am_cat).sum
theorem am_ent_cl (ad : am_I → Nat) : ∀ (as : List am_V) (n : Nat), lv_args n (as.map (am_cv ad)) = am_cl2 ad (am_ent n as)
  | [], _ => rfl
  | v :: vs, n => by
    have ih := am_ent_cl ad vs (n + am_cat v)
    show lv_args n (am_cv ad v :: vs.map (am_cv ad)) = _
    have e9 : (if am_cat v = 2 then n + 2 else n + 1) = n + am_cat v := by
      match v with
      | .inl _ => rfl
      | .inr (.inl _) => rfl
      | .inr (.inr _) => rfl
    rw [lv_args, am_cat_cv, e9, ih]
    rfl
theorem am_sl_len (ad : am_I → Nat) : ∀ as : List am_V, (lg_sl (as.map (am_cv ad))).length = am_esz as
  | [] => rfl
  | v :: vs => by
    have ih := am_sl_len ad vs
    have e : lg_sl ((v :: vs).map (am_cv ad)) = (if (am_cv ad v).category = 2 then [Slot.val (am_cv ad v), Slot.second] else [Slot.val (am_cv ad v)]) ++ lg_sl (vs.map (am_cv ad)) := by
      unfold lg_sl
      rw [List.map_cons, List.flatMap_cons]
    rw [e, List.length_append, ih, am_cat_cv]
    unfold am_esz
    rw [List.map_cons, List.sum_cons]
    match v with
    | .inl _ => rfl
    | .inr (.inl _) => rfl
    | .inr (.inr _) => rfl
theorem am_M_of {G : am_G} {SC : Nat → Nat} {d kc ks : Nat} {Y : am_Y} {as : List am_V} {w : am_W} {Q : Option am_V → am_W → Prop} (hp : plainName Y.1.cls = true) (hsz : am_esz as ≤ Y.2.2.1) (k : am_A G SC d Y Q 0 (am_ent 0 as) [] w kc ks) : am_M G SC d kc ks Y as w Q := by
  intro l Dg cI ad sz
  refine Met.ofW (cc := Y.2.1) (maxL := Y.2.2.1) (ret := Y.2.2.2) hp rfl ?_
  intro p e s m args below meth c s₁ B hml hv
  obtain ⟨rfl, b1, b2, b3, b4, b5, b6, b7, b8⟩ := hv
  have hts := atoms_spec (ws := am_ws Y) B.pre
  have hl := lv_entry (as.map (am_cv ad)) (n := Y.2.2.1) (by rw [am_sl_len]; exact hsz)
  rw [lg_entry_eq]
  rw [am_ent_cl] at hl
  have hlocks := B.notSynchronized
  have hr := B.returns
  have hx := B.exec
  have hb := B.bytes
  refine k p l e (headSpec (am_ws Y) (am_rm d kc ks)).room s m _ below meth c s.heap [] 0 0 _ Dg cI ad (va_A (am_wsl G SC cI ad w) sz) _ ad w
    ⟨hx, hb, hml, hr, hlocks, findClass_of_methodNamed B.named, fun w hw => hts w (List.mem_cons_of_mem _ hw), b4, (name_of_methodNamed B.named B.method).1, Nat.le_refl _, Nat.le_refl _⟩
    ⟨b2, b3.self, va_S.rf, fun q hq => Or.inr (by rw [← b1]; exact hq), b5, b7, b8⟩ am_ag.refl (by show 0 + kc ≤ kc; omega) (by show 0 + ks ≤ ks; omega) hl ?_ (fun v hv => by cases hv) ?_
  · have key : ∀ (as : List am_V) (n : Nat), (∀ v ∈ as, am_ok SC w v) → ∀ q ∈ am_ent n as, am_ok SC w q.2 := by
      intro as
      induction as with
      | nil => intro n _ q hq; cases hq
      | cons v vs ih =>
        intro n h q hq
        rcases List.mem_cons.mp hq with rfl | h2
        · exact am_o1 h
        · exact ih _ (am_o2 h) q h2
    exact key as 0 b6
  · intro r w' ad' H' locs' cells' slots' pc' ls' hQ hH hag hok hty hc hs hd
    have hz : ∀ t : State, t.heap = H' → s.WarmedH t.vm → am_Qc G SC Dg cI ad w sz Q ((as.map (am_cv ad)).toArray) s (.returned (r.map (am_cv ad'))) t := by
      intro t ht _
      refine ⟨⟨r, w', ad', hQ, rfl, hag, by rw [ht]; exact hH.1, hH.2.1, hH.2.2.2.2.1, hok⟩, hH.2.2.1.F ht⟩
    refine W.widen (k := kc) (n := ks) hc hs ?_
    match r, hty, hd, hz, hok with
    | none, hty, hd, hz, _ => exact W.vret hx hb (hr.trans hty) hz hH.2.2.1.2.2 hd hlocks
    | some (.inl z), hty, hd, hz, hok =>
      have hrz : am_rg z := hok
      rcases hty with h | ⟨h, hz9⟩ | ⟨h, hz1, hz2⟩ | ⟨h, hz1, hz2⟩
      · exact W.zret hx hb (hr.trans h) rfl hz hH.2.2.1.2.2 hd hlocks
      · exact W.zret hx hb (hr.trans h) (by rcases hz9 with rfl | rfl <;> rfl) hz hH.2.2.1.2.2 hd hlocks
      · exact W.zret hx hb (hr.trans h) (by
          have e9 : (Int32.ofInt z).toUInt32.toUInt16.toUInt32.toInt32 = Int32.ofInt z := lg_i2c_small (by rw [am_toI hrz]; exact hz1) (by rw [am_toI hrz]; exact hz2)
          show Value.int (Int32.ofInt z).toUInt32.toUInt16.toUInt32.toInt32 = _
          rw [e9]) hz hH.2.2.1.2.2 hd hlocks
      · exact W.zret hx hb (hr.trans h) (by
          have e9 : (Int32.ofInt z).toInt8.toInt32 = Int32.ofInt z := lg_i2b_small (by rw [am_toI hrz]; exact hz1) (by rw [am_toI hrz]; exact hz2)
          show Value.int (Int32.ofInt z).toInt8.toInt32 = _
          rw [e9]) hz hH.2.2.1.2.2 hd hlocks
    | some (.inr (.inl x)), hty, hd, hz, _ => exact W.lret hx hb (hr.trans hty) hz hH.2.2.1.2.2 hd hlocks
    | some (.inr (.inr q)), hty, hd, hz, _ =>
      obtain ⟨rt, h, hrt⟩ := hty
      exact W.aret hx hb (hr.trans h) hrt (va_rf_or _) hz hH.2.2.1.2.2 hd hlocks
