-- RULES: int constants by their word, Strings that are loaded
section AMS
variable {G : am_G} {SC : Nat → Nat} {d : Nat} {Y : am_Y} {Q : Option am_V → am_W → Prop} {pc bc bs : Nat} {ls : List (Nat × am_V)} {st : List am_V} {w : am_W}
theorem am_ldcV {n : Int} {v : Int32} {i : Nat} (hd : decode Y.2.1 pc = .ok (.ldc i, 2)) (hv : Int32.ofInt n = v) (hw : Cond.constant Y.1.cls i v ∈ am_TW) (hn : am_rg n) (k : am_A G SC d Y Q (pc + 2) ls (.inl n :: st) w bc bs) : am_A G SC d Y Q pc ls st w bc bs := by
  subst hv
  exact am_ldc hd hw hn k
theorem am_ldcwV {n : Int} {v : Int32} {i : Nat} (hd : decode Y.2.1 pc = .ok (.ldc_w i, 3)) (hv : Int32.ofInt n = v) (hw : Cond.constant Y.1.cls i v ∈ am_TW) (hn : am_rg n) (k : am_A G SC d Y Q (pc + 3) ls (.inl n :: st) w bc bs) : am_A G SC d Y Q pc ls st w bc bs := by
  subst hv
  exact am_ldcw hd hw hn k
theorem am_ldcS {i sid : Nat} {tx : String} (hd : decode Y.2.1 pc = .ok (.ldc i, 2)) (hm : am_ldcs[sid]? = some (Y.1.cls, i, tx, sid)) (k : am_A G SC d Y Q (pc + 2) ls (.inr (.inr (some (1000, sid))) :: st) w bc bs) : am_A G SC d Y Q pc ls st w bc bs := by
  intro p l e R s m args below meth c H locs cells slots QQ Dg cI ad A lsA ad0 w0 hX hH hg h1 h2 hl ho hs hR
  have hm' := List.mem_of_getElem? hm
  have hZ := hH.2.2.2.2.2.2.1 _ hm'
  have hlv : am_lv SC w (1000, sid) := Or.inr ⟨by show 1000 ≠ 999; omega, hH.2.2.2.2.1.2.2.2 _ hm'⟩
  exact va_ldcS hX.1 hX.2.1 hX.2.2.2.2.2.1 hZ hd (k p l e R s m args below meth c H locs cells slots QQ Dg cI ad A lsA ad0 w0 hX hH hg h1 h2 hl ho (am_oc hlv hs) hR)
theorem am_ldcwS0 {p : Program} {l : Launch} {e : Env} {R : Room} {s : State} {m : MethodId} {args : Array Value} {below : List Frame} {meth : Method} {c : Code} {T : State} {locs : List Loc} {cells slots : Nat} (X : Stand p l e R s m args below meth c T locs cells slots) (hexec : p.tables.exec = Jvm.exec) {own text : String} {index : Nat} {a : Addr} (hown : s.vm.findClass own = some m.cls)
    (hconst : (Cond.stringRef own index text).before args s = true) (hev : (Term.string own index).eval args s none [] s = some (.ref a)) {g : JFrame} (hg : g.method = m) (hdg : decode c.code g.pc = .ok (.ldc_w index, 3)) :
    ∀ target, Steps p.tables e below (T.setTop { g with pc := g.pc + 3, stack := .ref a :: g.stack }) target → Steps p.tables e below (T.setTop g) target := by
  obtain ⟨k, cf, i, a', hk, hcf, hcp, -, hr, hev'⟩ := Cond.stringRef_spec hown hconst
  cases hev.symm.trans hev'
  obtain ⟨k', hk', he⟩ := X.warmed.alike.2.2 _ _ hk
  have hr' : k'.resolved[index]? = some (some (.string a)) := by
    rcases X.warmed.entry hk hk' index with h | ⟨h, -⟩
    · rw [h]; exact hr
    · rw [hr] at h; cases h
  intro target hrest
  subst hg
  jvm_step X.here [hexec, hdg, ldc_w.wp_string (e := e) (s := T) (f := g) X.here.top hk' (by rw [he]; exact hcf) hcp hr']
  exact hrest
theorem am_ldcwS {i sid : Nat} {tx : String} (hd : decode Y.2.1 pc = .ok (.ldc_w i, 3)) (hm : am_ldcs[sid]? = some (Y.1.cls, i, tx, sid)) (k : am_A G SC d Y Q (pc + 3) ls (.inr (.inr (some (1000, sid))) :: st) w bc bs) : am_A G SC d Y Q pc ls st w bc bs := by
  intro p l e R s m args below meth c H locs cells slots QQ Dg cI ad A lsA ad0 w0 hX hH hg h1 h2 hl ho hs hR
  have hm' := List.mem_of_getElem? hm
  have hZ := hH.2.2.2.2.2.2.1 _ hm'
  have hlv : am_lv SC w (1000, sid) := Or.inr ⟨by show 1000 ≠ 999; omega, hH.2.2.2.2.1.2.2.2 _ hm'⟩
  have q := k p l e R s m args below meth c H locs cells slots QQ Dg cI ad A lsA ad0 w0 hX hH hg h1 h2 hl ho (am_oc hlv hs) hR
  intro T hT Xs
  obtain ⟨t, a1, b1⟩ := q T hT Xs
  exact ⟨t, am_ldcwS0 Xs hX.1 hX.2.2.2.2.2.1 (text := tx) (a := ad (1000, sid)) hZ.1 hZ.2 (g := F0 m pc lsA (st.map (am_cv ad))) rfl (by rw [hX.2.1]; exact hd) t a1, b1⟩
end AMS
theorem am_off1 {a o d x : Int} {r : List (Int × Int)} (h : ¬ x = a) : Op.lookupswitch.offset ((a, o) :: r) d x = Op.lookupswitch.offset r d x := by
  rw [Op.lookupswitch.offset_cons, if_neg]
  intro q
  exact h (by first | exact q | exact q.symm)
theorem am_b01 {P : Prop} [Decidable P] : (if P then (1 : Int) else 0) = 0 ∨ (if P then (1 : Int) else 0) = 1 := by
  by_cases h : P
  · exact Or.inr (if_pos h)
  · exact Or.inl (if_neg h)
theorem am_beq1 {P : Prop} [Decidable P] (h : (if P then (1 : Int) else 0) = 0) : ¬ P := fun q => by rw [if_pos q] at h; exact absurd h (by decide)
theorem am_beq2 {P : Prop} [Decidable P] (h : ¬ (if P then (1 : Int) else 0) = 0) : P := by
  by_cases q : P
  · exact q
  · exact absurd (if_neg q) h
theorem am_bne1 {P : Prop} [Decidable P] (h : ¬ (if P then (1 : Int) else 0) = 0) : P := am_beq2 h
theorem am_bne2 {P : Prop} [Decidable P] (h : (if P then (1 : Int) else 0) = 0) : ¬ P := am_beq1 h
theorem am_bcong {P R : Prop} [Decidable P] [Decidable R] (h : P ↔ R) : (if P then (1 : Int) else 0) = if R then 1 else 0 := by
  by_cases q : P
  · rw [if_pos q, if_pos (h.mp q)]
  · rw [if_neg q, if_neg (fun z => q (h.mpr z))]
/-- behind a call whose answer is a truth value -/
theorem am_tf0 {P A B : Prop} [Decidable P] (hA : ¬ P → A) (hB : P → B) : ((if P then (1 : Int) else 0) = 0 → A) ∧ (¬ (if P then (1 : Int) else 0) = 0 → B) := ⟨fun h => hA (am_beq1 h), fun h => hB (am_beq2 h)⟩
theorem am_tf1 {P A B : Prop} [Decidable P] (hA : P → A) (hB : ¬ P → B) : (¬ (if P then (1 : Int) else 0) = 0 → A) ∧ ((if P then (1 : Int) else 0) = 0 → B) := ⟨fun h => hA (am_beq2 h), fun h => hB (am_beq1 h)⟩
/-- the int on top gets a name -/
theorem am_named {G : am_G} {SC : Nat → Nat} {d : Nat} {Y : am_Y} {Q : Option am_V → am_W → Prop} {pc bc bs : Nat} {ls : List (Nat × am_V)} {st : List am_V} {w : am_W} {x : Int} (k : ∀ y : Int, y = x → am_A G SC d Y Q pc ls (.inl y :: st) w bc bs) : am_A G SC d Y Q pc ls (.inl x :: st) w bc bs := k x rfl
