-- THE ABSTRACT STATE: cells are named by (tag, number); ints are Int, longs Int64, references Option of a name
abbrev am_I : Type := Nat × Nat
abbrev am_V : Type := Int ⊕ (Int64 ⊕ Option am_I)
/-- ints (tag, number, place), longs, and of the cells made on the way (tag 999): references, shapes (kind, length), how many -/
abbrev am_W : Type := (Nat → Nat → Nat → Int) × (Nat → Nat → Nat → Int64) × (Nat → Nat → Option am_I) × (Nat → Nat × Nat) × Nat
/-- what never changes: references, kinds and lengths of the cells by tags; ints of the constants (tags from 1000 on); statics -/
abbrev am_G : Type := (Nat → Nat → Nat → Option am_I) × (Nat → Nat → Nat) × (Nat → Nat → Nat) × (Nat → Nat → Nat → Int) × List (String × String × String × am_V)
def am_kd (G : am_G) (w : am_W) (t j : Nat) : Nat := if t = 999 then (w.2.2.2.1 j).1 else G.2.1 t j
def am_ln (G : am_G) (w : am_W) (t j : Nat) : Nat := if t = 999 then (w.2.2.2.1 j).2 else G.2.2.1 t j
def am_gi (G : am_G) (w : am_W) (t j k : Nat) : Int := if 1000 ≤ t then G.2.2.2.1 t j k else w.1 t j k
def am_gl (w : am_W) (t j k : Nat) : Int64 := if 1000 ≤ t then 0 else w.2.1 t j k
def am_gr (G : am_G) (w : am_W) (t j k : Nat) : Option am_I := if t = 999 then w.2.2.1 j k else G.1 t j k
def am_up {α : Type} (f : Nat → Nat → Nat → α) (t j k : Nat) (v : α) : Nat → Nat → Nat → α := fun a b c => if a = t ∧ b = j ∧ c = k then v else f a b c
def am_cv (ad : am_I → Nat) (v : am_V) : Value := match v with
  | .inl z => .int (Int32.ofInt z)
  | .inr (.inl x) => .long x
  | .inr (.inr r) => va_rf (r.map ad)
def am_fv (G : am_G) (w : am_W) (t j ci k : Nat) : am_V := if am_fT ci k = 1 then .inr (.inl (am_gl w t j k)) else if am_fT ci k = 2 then .inr (.inr (am_gr G w t j k)) else .inl (am_gi G w t j k)
def am_ar (G : am_G) (ad : am_I → Nat) (w : am_W) (t j : Nat) : (Nat → Int32) ⊕ (Nat → Int64) ⊕ (Nat → UInt32) ⊕ (Nat → UInt64) ⊕ (Nat → Option Nat) :=
  if am_kd G w t j = 1 then .inr (.inl (fun k => am_gl w t j k)) else if am_kd G w t j < 5 then .inl (fun k => Int32.ofInt (am_gi G w t j k)) else .inr (.inr (.inr (.inr (fun k => if k < am_ln G w t j then (am_gr G w t j k).map ad else none))))
/-- how many places a cell has -/
def am_ext (G : am_G) (w : am_W) (t j : Nat) : Nat := if am_kd G w t j < 100 then am_ln G w t j else am_nF (am_kd G w t j - 100)
/-- a cell as the kit has it: kinds below 100 are arrays (0 int, 1 long, 2 char, 3 byte, 4 boolean, others of references), 100 + c an object of class c -/
def am_cE (cI : Nat → ClassId) (G : am_G) (ad : am_I → Nat) (w : am_W) (id : am_I) : va_E :=
  if am_kd G w id.1 id.2 < 100 then .inl (cI (am_kd G w id.1 id.2), am_ln G w id.1 id.2, am_ar G ad w id.1 id.2)
  else .inr (am_kd G w id.1 id.2 - 100, (List.range (am_nF (am_kd G w id.1 id.2 - 100))).map (fun k => am_cv ad (am_fv G w id.1 id.2 (am_kd G w id.1 id.2 - 100) k)))
def am_aty (k : Nat) : FieldType := match k with
  | 0 => .int
  | 1 => .long
  | 2 => .char
  | 3 => .byte
  | 4 => .boolean
  | 5 => .array .int
  | 6 => .array (.array .int)
  | 7 => .object "MourningHouse$Law"
  | 8 => .object "MourningHouse$Mourning"
  | _ => .object "java/lang/String"
def am_tys (cI : Nat → ClassId) : List (ClassId × FieldType) := (List.range 10).map fun k => (cI k, am_aty k)
theorem am_tys_at (cI : Nat → ClassId) {k : Nat} (h : k < 10) : (am_tys cI)[k]? = some (cI k, am_aty k) := by
  unfold am_tys
  rw [List.getElem?_map, List.getElem?_range h]
  rfl
/-- which cells there are -/
def am_lv (SC : Nat → Nat) (w : am_W) (id : am_I) : Prop := (id.1 = 999 ∧ id.2 < w.2.2.2.2) ∨ (id.1 ≠ 999 ∧ id.2 < SC id.1)
def am_SL (SC : Nat → Nat) : List am_I := (List.range 999).flatMap fun t => (List.range (SC t)).map fun j => (t, j)
def am_ids (SC : Nat → Nat) (w : am_W) : List am_I := am_SL SC ++ (List.range w.2.2.2.2).map fun k => (999, k)
theorem am_SL_mem {SC : Nat → Nat} {id : am_I} : id ∈ am_SL SC ↔ id.1 < 999 ∧ id.2 < SC id.1 := by
  unfold am_SL
  simp only [List.mem_flatMap, List.mem_map, List.mem_range]
  constructor
  · rintro ⟨t, ht, j, hj, rfl⟩; exact ⟨ht, hj⟩
  · rintro ⟨h1, h2⟩; exact ⟨id.1, h1, id.2, h2, rfl⟩
theorem am_ids_mem {SC : Nat → Nat} {w : am_W} {id : am_I} : id ∈ am_ids SC w ↔ am_lv SC w id ∧ id.1 < 1000 := by
  unfold am_ids am_lv
  rw [List.mem_append, am_SL_mem, List.mem_map]
  simp only [List.mem_range]
  constructor
  · rintro (⟨h1, h2⟩ | ⟨k, hk, rfl⟩)
    · exact ⟨Or.inr ⟨by omega, h2⟩, by omega⟩
    · exact ⟨Or.inl ⟨rfl, hk⟩, by show 999 < 1000; omega⟩
  · rintro ⟨⟨h1, h2⟩ | ⟨h1, h2⟩, h3⟩
    · exact Or.inr ⟨id.2, h2, by rw [← h1]⟩
    · exact Or.inl ⟨by omega, h2⟩
theorem am_nd_flat : ∀ (l : List Nat) (SC : Nat → Nat), l.Nodup → (l.flatMap fun t => (List.range (SC t)).map fun j => ((t, j) : am_I)).Nodup := by
  intro l SC
  induction l with
  | nil => intro _; simp
  | cons t l ih =>
    intro h
    have h' := List.nodup_cons.mp h
    rw [List.flatMap_cons, List.nodup_append]
    refine ⟨?_, ih h'.2, ?_⟩
    · rw [List.nodup_iff_pairwise_ne, List.pairwise_map]
      exact List.Pairwise.imp (fun hab he => hab (by simpa using he)) (List.nodup_iff_pairwise_ne.mp List.nodup_range)
    · intro a ha b hb hab
      subst hab
      obtain ⟨j, -, rfl⟩ := List.mem_map.mp ha
      obtain ⟨t', ht', hb⟩ := List.mem_flatMap.mp hb
      obtain ⟨j', -, he⟩ := List.mem_map.mp hb
      have : t' = t := congrArg Prod.fst he
      subst this
      exact h'.1 ht'
theorem am_ids_nd (SC : Nat → Nat) (w : am_W) : (am_ids SC w).Nodup := by
  unfold am_ids
  rw [List.nodup_append]
  refine ⟨am_nd_flat _ SC List.nodup_range, ?_, ?_⟩
  · rw [List.nodup_iff_pairwise_ne, List.pairwise_map]
    exact List.Pairwise.imp (fun hab he => hab (by simpa using he)) (List.nodup_iff_pairwise_ne.mp List.nodup_range)
  · intro a ha b hb hab
    subst hab
    have h1 := (am_SL_mem.mp ha).1
    obtain ⟨k, -, rfl⟩ := List.mem_map.mp hb
    exact absurd h1 (by show ¬ 999 < 999; omega)
def am_wsl (G : am_G) (SC : Nat → Nat) (cI : Nat → ClassId) (ad : am_I → Nat) (w : am_W) : va_W := (am_ids SC w).map fun id => (ad id, am_cE cI G ad w id)
theorem am_wsl_at {G : am_G} {SC : Nat → Nat} {cI : Nat → ClassId} {ad : am_I → Nat} {w : am_W} {id : am_I} (h : id ∈ am_ids SC w) : ∃ q : Nat, (am_ids SC w)[q]? = some id ∧ (am_wsl G SC cI ad w)[q]? = some (ad id, am_cE cI G ad w id) := by
  obtain ⟨q, hq⟩ := List.getElem?_of_mem h
  exact ⟨q, hq, by unfold am_wsl; rw [List.getElem?_map, hq]; rfl⟩
theorem am_wsl_of {G : am_G} {SC : Nat → Nat} {cI : Nat → ClassId} {ad : am_I → Nat} {w : am_W} {k : Nat} {x : Nat × va_E} (h : (am_wsl G SC cI ad w)[k]? = some x) : ∃ id : am_I, (am_ids SC w)[k]? = some id ∧ x = (ad id, am_cE cI G ad w id) := by
  unfold am_wsl at h
  rw [List.getElem?_map] at h
  cases hi : (am_ids SC w)[k]? with
  | none => rw [hi] at h; cases h
  | some id => rw [hi] at h; cases h; exact ⟨id, rfl, rfl⟩
/-- one cell is written -/
theorem am_wsl_set {G : am_G} {SC : Nat → Nat} {cI : Nat → ClassId} {ad : am_I → Nat} {w w' : am_W} {id : am_I} {q : Nat} (hq : (am_ids SC w)[q]? = some id) (hn : w'.2.2.2.2 = w.2.2.2.2) (ho : ∀ x : am_I, x ≠ id → am_cE cI G ad w' x = am_cE cI G ad w x) {e : va_E} (he : am_cE cI G ad w' id = e) : (am_wsl G SC cI ad w).set q (ad id, e) = am_wsl G SC cI ad w' := by
  have hids : am_ids SC w' = am_ids SC w := by unfold am_ids; rw [hn]
  subst he
  unfold am_wsl
  rw [hids]
  apply List.ext_getElem?
  intro i
  rw [List.getElem?_set, List.getElem?_map, List.getElem?_map, List.length_map]
  have hlt : q < (am_ids SC w).length := (List.getElem?_eq_some_iff.mp hq).1
  by_cases hi : q = i
  · subst hi
    rw [if_pos rfl, if_pos hlt, hq]
    rfl
  · rw [if_neg hi]
    cases hx : (am_ids SC w)[i]? with
    | none => rfl
    | some x =>
      have hne : x ≠ id := by
        intro e
        subst e
        have hi2 : i < (am_ids SC w).length := (List.getElem?_eq_some_iff.mp hx).1
        have h1 := (List.getElem?_eq_some_iff.mp hx).2
        have h2 := (List.getElem?_eq_some_iff.mp hq).2
        exact hi ((List.getElem_inj (am_ids_nd SC w)).mp (h2.trans h1.symm))
      show some (ad x, am_cE cI G ad w x) = some (ad x, am_cE cI G ad w' x)
      rw [ho x hne]
def am_rg (z : Int) : Prop := -2147483648 ≤ z ∧ z < 2147483648
def am_ok0 (SC : Nat → Nat) (w : am_W) (v : am_V) : Prop := match v with
  | .inl z => am_rg z
  | .inr (.inl _) => True
  | .inr (.inr none) => True
  | .inr (.inr (some id)) => am_lv SC w id
/-- ints in range, references to cells that are there -/
def am_wf (G : am_G) (SC : Nat → Nat) (w : am_W) : Prop := (∀ t j k, am_rg (am_gi G w t j k)) ∧ (∀ (id : am_I) (k : Nat) (id' : am_I), am_lv SC w id → k < am_ext G w id.1 id.2 → am_gr G w id.1 id.2 k = some id' → am_lv SC w id') ∧ (∀ q ∈ G.2.2.2.2, am_ok0 SC w q.2.2.2) ∧ ∀ q ∈ am_ldcs, q.2.2.2 < SC 1000
abbrev am_ok (SC : Nat → Nat) (w : am_W) (v : am_V) : Prop := am_ok0 SC w v
/-- private methods of an abstract class that run on a StringBuilder: their word isn't one that am_TW keeps -/
def am_pv : List MethodName := [⟨"java/lang/AbstractStringBuilder", "ensureCapacityInternal", "(I)V"⟩, ⟨"java/lang/AbstractStringBuilder", "putStringAt", "(ILjava/lang/String;)V"⟩, ⟨"java/lang/AbstractStringBuilder", "inflateIfNeededFor", "(Ljava/lang/String;)V"⟩]
/-- arrays of references: their words aren't such that am_TW keeps either -/
def am_aot : List FieldType := [.object "MourningHouse$Law", .object "MourningHouse$Mourning", .object "java/lang/String", .array .int, .array (.array .int)]
def am_AO (ty : FieldType) (U : State) : Prop := (Cond.arrayOver ty).before #[] U = true
theorem am_AO.of {ty : FieldType} {X : Array Value} {U : State} (h : (Cond.arrayOver ty).before X U = true) : am_AO ty U := h
theorem am_AO.use {ty : FieldType} {X : Array Value} {U : State} (h : am_AO ty U) : (Cond.arrayOver ty).before X U = true := h
theorem am_fidx {vm vm' : Vm} (h : vm.Alike vm') (f : Class → Bool) (hf : ∀ k : Class, f k.bare = f k) : vm'.classes.findIdx? f = vm.classes.findIdx? f := by
  have e : ∀ v : Vm, v.bare.classes.findIdx? f = v.classes.findIdx? f := fun v => by
    simp only [Vm.bare, Array.findIdx?_map]
    congr 1; funext k; exact hf k
  rw [← e vm', ← e vm, h.bare_eq]
theorem am_AO_eq {ty : FieldType} {u : State} {vm' : Vm} (h : u.vm.Alike vm') : (Cond.arrayOver ty).before #[] (u.setVm vm') = (Cond.arrayOver ty).before #[] u := by
  simp only [Cond.before, Cond.holds, Cond.value, State.vm_setVm, h.findClass]
  congr 1
  congr 1
  funext comp
  rw [am_fidx h _ (fun k => rfl)]
  congr 1
  funext c
  exact h.class_map _ (fun k r _ _ => rfl) c
theorem am_AO_moved {ty : FieldType} {u U : State} (hvm : u.vm.Alike U.vm) (h : am_AO ty u) : am_AO ty U := by
  have e := am_AO_eq (ty := ty) hvm
  have h' : (Cond.arrayOver ty).before #[] (u.setVm U.vm) = true := e.trans h
  exact h'
/-- what is known of a constant's cell: that it can be read -/
def am_ca (U : State) (Dg : va_G) (kd : Nat) (q : Nat × va_E) (H : Heap) : Prop := match q.2 with
  | .inl a => ∃ cell : Cell, H[q.1]? = some cell ∧ U.isArrayOf cell (am_aty kd) ∧ cell.vm ≠ .unknown ∧ a.2.1 ≤ cell.slots.size ∧ cell.slots.size.toInt32 = Int32.ofNat a.2.1 ∧ ∀ k, k < a.2.1 → cell.slots[k]? = (vp_cell a.1 a.2).slots[k]?
  | .inr o => ∃ cell : Cell, H[q.1]? = some cell ∧ cell.cls = Dg.1 o.1 ∧ cell.vm.isStatics = false ∧ cell.vm ≠ .unknown ∧ ∀ k, k < o.2.length → cell.slots[Dg.2 o.1 k]? = some (vp_V o.2 k)
theorem am_ca.kept {U : State} {Dg : va_G} {kd : Nat} {q : Nat × va_E} {H H1 : Heap} (h : am_ca U Dg kd q H) (e : H1[q.1]? = H[q.1]?) : am_ca U Dg kd q H1 := by
  obtain ⟨a, x⟩ := q
  cases x with
  | inl x =>
    obtain ⟨cell, c1, c2⟩ := h
    exact ⟨cell, e.trans c1, c2⟩
  | inr o =>
    obtain ⟨cell, c1, c2⟩ := h
    exact ⟨cell, e.trans c1, c2⟩
theorem am_ca.moved {u U : State} {Dg : va_G} {kd : Nat} {q : Nat × va_E} {H : Heap} (hvm : u.vm.Alike U.vm) (h : am_ca u Dg kd q H) : am_ca U Dg kd q H := by
  obtain ⟨a, x⟩ := q
  cases x with
  | inl x =>
    obtain ⟨cell, c1, c2, c3⟩ := h
    exact ⟨cell, c1, State.isArrayOf_alike hvm c2, c3⟩
  | inr o =>
    obtain ⟨cell, c1, c2⟩ := h
    exact ⟨cell, c1, c2⟩
/-- what stands outside the world: Strings that are loaded, the nest's private constructors, statics -/
def am_E (G : am_G) (ad : am_I → Nat) (A : Nat → Prop) (s : State) : Prop :=
  (∀ q ∈ am_ldcs, vk_R q.1 q.2.1 q.2.2.1 (ad (1000, q.2.2.2)) s) ∧ ((∀ q ∈ am_nst, va_Nw (.methodLinkNest q.1 q.2.1 q.2.2.1 q.2.2.2) s) ∧ (∀ y ∈ am_pv, va_Nw (.privateMethod y) s) ∧ ∀ ty ∈ am_aot, am_AO ty s) ∧ ∀ q ∈ G.2.2.2.2, va_Z q.1 q.2.1 q.2.2.1 (am_cv ad q.2.2.2) A s s.heap
/-- the heap holds the world; the constants lie below and stay -/
def am_H (G : am_G) (SC : Nat → Nat) (Dg : va_G) (cI : Nat → ClassId) (s : State) (A : Nat → Prop) (ad : am_I → Nat) (w : am_W) (H : Heap) (locs : List Loc) : Prop :=
  va_P Dg am_cl (am_wsl G SC cI ad w) H ∧ va_D A (am_wsl G SC cI ad w) ∧ va_S A s.heap H locs ∧ (∀ q, s.heap.size ≤ q → A q) ∧ am_wf G SC w ∧ (∀ id : am_I, 1000 ≤ id.1 → id.1 < 1100 → id.2 < SC id.1 → am_ca s Dg (G.2.1 id.1 id.2) (ad id, am_cE cI G ad w id) s.heap ∧ ad id < s.heap.size ∧ ¬ A (ad id)) ∧ am_E G ad A s
theorem am_lv_grow {SC : Nat → Nat} {w w' : am_W} (h : w.2.2.2.2 ≤ w'.2.2.2.2) {id : am_I} (hl : am_lv SC w id) : am_lv SC w' id := by
  rcases hl with ⟨a, b⟩ | h2
  · exact Or.inl ⟨a, Nat.lt_of_lt_of_le b h⟩
  · exact Or.inr h2
theorem am_ok_grow {SC : Nat → Nat} {w w' : am_W} (h : w.2.2.2.2 ≤ w'.2.2.2.2) {v : am_V} (hl : am_ok SC w v) : am_ok SC w' v := by
  match v, hl with
  | .inl z, hl => exact hl
  | .inr (.inl _), _ => trivial
  | .inr (.inr none), _ => trivial
  | .inr (.inr (some id)), hl => exact am_lv_grow h hl
/-- the names of the cells that were there keep their addresses -/
def am_ag (SC : Nat → Nat) (ad : am_I → Nat) (w : am_W) (ad' : am_I → Nat) (w' : am_W) : Prop := w.2.2.2.2 ≤ w'.2.2.2.2 ∧ ∀ id, am_lv SC w id → ad' id = ad id
theorem am_ag.refl {SC : Nat → Nat} {ad : am_I → Nat} {w : am_W} : am_ag SC ad w ad w := ⟨Nat.le_refl _, fun _ _ => rfl⟩
theorem am_ag.trans {SC : Nat → Nat} {a1 a2 a3 : am_I → Nat} {w1 w2 w3 : am_W} (h : am_ag SC a1 w1 a2 w2) (g : am_ag SC a2 w2 a3 w3) : am_ag SC a1 w1 a3 w3 := ⟨Nat.le_trans h.1 g.1, fun id hl => (g.2 id (am_lv_grow h.1 hl)).trans (h.2 id hl)⟩
theorem am_ag.cv {SC : Nat → Nat} {ad ad' : am_I → Nat} {w w' : am_W} (h : am_ag SC ad w ad' w') {v : am_V} (hv : am_ok SC w v) : am_cv ad' v = am_cv ad v := by
  match v, hv with
  | .inl z, _ => rfl
  | .inr (.inl _), _ => rfl
  | .inr (.inr none), _ => rfl
  | .inr (.inr (some id)), hv =>
    have e := h.2 id hv
    unfold am_cv
    simp only [Option.map_some]
    rw [e]
theorem am_ag.st {SC : Nat → Nat} {ad ad' : am_I → Nat} {w w' : am_W} (h : am_ag SC ad w ad' w') {st : List am_V} (hv : ∀ v ∈ st, am_ok SC w v) : st.map (am_cv ad') = st.map (am_cv ad) := List.map_congr_left fun v hm => h.cv (hv v hm)
theorem am_ag.ls {SC : Nat → Nat} {ad ad' : am_I → Nat} {w w' : am_W} (h : am_ag SC ad w ad' w') {ls : List (Nat × am_V)} (hv : ∀ q ∈ ls, am_ok SC w q.2) : ls.map (fun q => (q.1, am_cv ad' q.2)) = ls.map (fun q => (q.1, am_cv ad q.2)) := List.map_congr_left fun q hm => by rw [h.cv (hv q hm)]
