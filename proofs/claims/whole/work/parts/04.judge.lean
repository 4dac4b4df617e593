-- THE JUDGEMENT: am_A: from here, in any frame that holds these abstract locals, stack and world, the method comes to an end with Q
abbrev am_Y : Type := MethodName × ByteArray × Nat × Option FieldType
def am_ws (Y : am_Y) : List Cond := Cond.code Y.1 Y.2.1 Y.2.2.1 Y.2.2.2 :: am_TW
theorem am_gd {Y : am_Y} (h : Cond.code Y.1 Y.2.1 Y.2.2.1 Y.2.2.2 ∈ am_TW) : GoodIn am_TW (am_ws Y) := by
  intro w hw
  have hm : w ∈ am_TW := by
    rcases List.mem_cons.mp hw with rfl | h'
    · exact h
    · exact h'
  exact ⟨hm, good_of_word (am_good w hm)⟩
def am_X (d : Nat) (Y : am_Y) (Dg : va_G) (cI : Nat → ClassId) (p : Program) (R : Room) (s : State) (m : MethodId) (args : Array Value) (meth : Method) (c : Code) : Prop :=
  p.tables.exec = Jvm.exec ∧ c.code = Y.2.1 ∧ c.maxLocals = Y.2.2.1 ∧ meth.sig.returnType = Y.2.2.2 ∧ meth.locks = false ∧ s.vm.findClass Y.1.cls = some m.cls ∧ (∀ w ∈ am_TW, w.before args s = true) ∧ va_K Dg am_cl (am_tys cI) s ∧ meth.name = Y.1.name ∧ d ≤ R.frames ∧ 60 * d ≤ R.locals
def am_okr (SC : Nat → Nat) (w : am_W) (r : Option am_V) : Prop := match r with
  | none => True
  | some v => am_ok SC w v
/-- an answer fits the method's type -/
def am_rty (ret : Option FieldType) (r : Option am_V) : Prop := match r with
  | none => ret = none
  | some (.inl z) => ret = some .int ∨ (ret = some .boolean ∧ (z = 0 ∨ z = 1)) ∨ (ret = some .char ∧ 0 ≤ z ∧ z < 65536) ∨ (ret = some .byte ∧ -128 ≤ z ∧ z < 128)
  | some (.inr (.inl _)) => ret = some .long
  | some (.inr (.inr _)) => ∃ rt, ret = some rt ∧ ((∃ n, rt = .object n) ∨ ∃ t, rt = .array t)
def am_ri (r : Option am_V) : Instr := match r with
  | none => .return_
  | some (.inl _) => .ireturn
  | some (.inr (.inl _)) => .lreturn
  | some (.inr (.inr _)) => .areturn
def am_R (G : am_G) (SC : Nat → Nat) (Y : am_Y) (Dg : va_G) (cI : Nat → ClassId) (p : Program) (l : Launch) (e : Env) (R : Room) (s : State) (m : MethodId) (args : Array Value) (below : List Frame) (meth : Method) (c : Code) (A : Nat → Prop) (ad0 : am_I → Nat) (w0 : am_W) (Q : Option am_V → am_W → Prop) (QQ : State → Prop) : Prop :=
  ∀ (r : Option am_V) (w' : am_W) (ad' : am_I → Nat) (H' : Heap) (locs' : List Loc) (cells' slots' pc' : Nat) (ls' : Array Slot), Q r w' → am_H G SC Dg cI s A ad' w' H' locs' → am_ag SC ad0 w0 ad' w' → am_okr SC w' r → am_rty Y.2.2.2 r → cells' ≤ R.cells → slots' ≤ R.slots → decode Y.2.1 pc' = .ok (am_ri r, 1) → W p l e R s m args below meth c H' locs' cells' slots' QQ (F0 m pc' ls' (r.map (am_cv ad')).toList)
def am_cl2 (ad : am_I → Nat) (ls : List (Nat × am_V)) : List (Nat × Value) := ls.map fun q => (q.1, am_cv ad q.2)
def am_A (G : am_G) (SC : Nat → Nat) (d : Nat) (Y : am_Y) (Q : Option am_V → am_W → Prop) (pc : Nat) (ls : List (Nat × am_V)) (st : List am_V) (w : am_W) (bc bs : Nat) : Prop :=
  ∀ (p : Program) (l : Launch) (e : Env) (R : Room) (s : State) (m : MethodId) (args : Array Value) (below : List Frame) (meth : Method) (c : Code) (H : Heap) (locs : List Loc) (cells slots : Nat) (QQ : State → Prop) (Dg : va_G) (cI : Nat → ClassId) (ad : am_I → Nat) (A : Nat → Prop) (lsA : Array Slot) (ad0 : am_I → Nat) (w0 : am_W),
    am_X d Y Dg cI p R s m args meth c → am_H G SC Dg cI s A ad w H locs → am_ag SC ad0 w0 ad w → cells + bc ≤ R.cells → slots + bs ≤ R.slots → lv_has lsA Y.2.2.1 (am_cl2 ad ls) → (∀ q ∈ ls, am_ok SC w q.2) → (∀ v ∈ st, am_ok SC w v) → am_R G SC Y Dg cI p l e R s m args below meth c A ad0 w0 Q QQ →
    W p l e R s m args below meth c H locs cells slots QQ (F0 m pc lsA (st.map (am_cv ad)))
-- numbers
def am_w (z : Int) : Int := (z + 2147483648) % 4294967296 - 2147483648
theorem am_w_rg (z : Int) : am_rg (am_w z) := by unfold am_rg am_w; omega
theorem am_w_id {z : Int} (h : am_rg z) : am_w z = z := by unfold am_rg at h; unfold am_w; omega
theorem am_toI {z : Int} (h : am_rg z) : (Int32.ofInt z).toInt = z := by
  unfold am_rg at h
  rw [Int32.toInt_ofInt, Int.bmod_def, show ((Int32.size : Nat) : Int) = 4294967296 from rfl]
  omega
theorem am_ofw (z : Int) : Int32.ofInt (am_w z) = Int32.ofInt z := by
  apply Int32.toInt_inj.mp
  rw [am_toI (am_w_rg z), Int32.toInt_ofInt, Int.bmod_def, show ((Int32.size : Nat) : Int) = 4294967296 from rfl]
  unfold am_w
  split <;> omega
theorem am_ofT (x : Int32) : Int32.ofInt x.toInt = x := Int32.toInt_inj.mp (am_toI ⟨Int32.le_toInt x, Int32.toInt_lt x⟩)
theorem am_T_rg (x : Int32) : am_rg x.toInt := ⟨Int32.le_toInt x, Int32.toInt_lt x⟩
theorem am_addI (x y : Int) : Int32.ofInt x + Int32.ofInt y = Int32.ofInt (am_w (x + y)) := by rw [am_ofw, Int32.ofInt_add]
theorem am_subI (x y : Int) : Int32.ofInt x - Int32.ofInt y = Int32.ofInt (am_w (x - y)) := by rw [am_ofw, Int32.ofInt_sub]
theorem am_mulI (x y : Int) : Int32.ofInt x * Int32.ofInt y = Int32.ofInt (am_w (x * y)) := by rw [am_ofw, Int32.ofInt_mul]
theorem am_ltI {x y : Int} (hx : am_rg x) (hy : am_rg y) : Int32.ofInt x < Int32.ofInt y ↔ x < y := by rw [Int32.lt_iff_toInt_lt, am_toI hx, am_toI hy]
theorem am_leI {x y : Int} (hx : am_rg x) (hy : am_rg y) : Int32.ofInt x ≤ Int32.ofInt y ↔ x ≤ y := by rw [Int32.le_iff_toInt_le, am_toI hx, am_toI hy]
theorem am_eqI {x y : Int} (hx : am_rg x) (hy : am_rg y) : Int32.ofInt x = Int32.ofInt y ↔ x = y := by rw [← Int32.toInt_inj, am_toI hx, am_toI hy]
theorem am_0 : Int32.ofInt 0 = 0 := by decide
theorem am_rg0 : am_rg 0 := by unfold am_rg; omega
theorem am_divI {x y : Int} (hx : am_rg x) (hy : am_rg y) : Int32.ofInt x / Int32.ofInt y = Int32.ofInt (am_w (x.tdiv y)) := by
  apply Int32.toInt_inj.mp
  rw [Int32.toInt_div, am_toI hx, am_toI hy, am_toI (am_w_rg _), Int.bmod_def]
  unfold am_w
  split <;> omega
theorem am_remI {x y : Int} (hx : am_rg x) (hy : am_rg y) : Int32.ofInt x - Int32.ofInt x / Int32.ofInt y * Int32.ofInt y = Int32.ofInt (am_w (x.tmod y)) := by
  apply Int32.toInt_inj.mp
  rw [rem_toInt, am_toI hx, am_toI hy, am_toI (am_w_rg _)]
  have h : am_rg (x.tmod y) := by
    have h1 : (x.tmod y).natAbs ≤ x.natAbs := by
      rw [Int.natAbs_tmod]
      exact Nat.mod_le _ _
    have h3 : 0 ≤ x → 0 ≤ x.tmod y := fun h => Int.tmod_nonneg y h
    have h4 : x ≤ 0 → x.tmod y ≤ 0 := fun h => by
      have h5 := Int.tmod_nonneg y (show 0 ≤ -x by omega)
      rw [Int.neg_tmod] at h5
      omega
    unfold am_rg at hx ⊢
    omega
  exact (am_w_id h).symm
theorem am_vin {i : Int} {n : Nat} (hr : am_rg i) (h0 : 0 ≤ i) (h1 : i < n) : vp_in (Int32.ofInt i) n := vp_in_iff.mpr (by rw [am_toI hr]; exact ⟨h0, h1⟩)
theorem am_vix {i : Int} (hr : am_rg i) : (Int32.ofInt i).toNatClampNeg = i.toNat := by
  show (Int32.ofInt i).toInt.toNat = _
  rw [am_toI hr]
-- what holds of stacks and locals
def am_cat (v : am_V) : Nat := match v with
  | .inr (.inl _) => 2
  | _ => 1
theorem am_cat_cv (ad : am_I → Nat) (v : am_V) : (am_cv ad v).category = am_cat v := by
  match v with
  | .inl z => rfl
  | .inr (.inl _) => rfl
  | .inr (.inr none) => rfl
  | .inr (.inr (some id)) => rfl
theorem am_o1 {SC : Nat → Nat} {w : am_W} {v : am_V} {st : List am_V} (h : ∀ x ∈ v :: st, am_ok SC w x) : am_ok SC w v := h v List.mem_cons_self
theorem am_o2 {SC : Nat → Nat} {w : am_W} {v : am_V} {st : List am_V} (h : ∀ x ∈ v :: st, am_ok SC w x) : ∀ x ∈ st, am_ok SC w x := fun x hx => h x (List.mem_cons_of_mem _ hx)
theorem am_oc {SC : Nat → Nat} {w : am_W} {v : am_V} {st : List am_V} (h1 : am_ok SC w v) (h2 : ∀ x ∈ st, am_ok SC w x) : ∀ x ∈ v :: st, am_ok SC w x := fun x hx => by
  rcases List.mem_cons.mp hx with rfl | h
  · exact h1
  · exact h2 x h
theorem am_lat {ad : am_I → Nat} {ls : List (Nat × am_V)} {lsA : Array Slot} {n i : Nat} {v : am_V} (h : lv_has lsA n (am_cl2 ad ls)) (hm : (i, v) ∈ ls) : lsA[i]? = some (.val (am_cv ad v)) := h.2.2 (i, am_cv ad v) (List.mem_map.mpr ⟨(i, v), hm, rfl⟩)
def am_s1 (i : Nat) (v : am_V) (ls : List (Nat × am_V)) : List (Nat × am_V) := (i, v) :: ls.filter fun q => !(q.1 == i) && !(q.1 + 1 == i && am_cat q.2 == 2)
def am_s2 (i : Nat) (v : am_V) (ls : List (Nat × am_V)) : List (Nat × am_V) := (i, v) :: ls.filter fun q => !(q.1 == i) && (!(q.1 == i + 1) && !(q.1 + 1 == i && am_cat q.2 == 2))
theorem am_s1_cl (ad : am_I → Nat) (i : Nat) (v : am_V) (ls : List (Nat × am_V)) : (i, am_cv ad v) :: (am_cl2 ad ls).filter (fun q => !(q.1 == i) && !(q.1 + 1 == i && q.2.category == 2)) = am_cl2 ad (am_s1 i v ls) := by
  unfold am_s1 am_cl2
  rw [List.map_cons, List.filter_map]
  congr 2
  apply List.filter_congr
  intro q _
  simp only [Function.comp, am_cat_cv]
theorem am_s2_cl (ad : am_I → Nat) (i : Nat) (v : am_V) (ls : List (Nat × am_V)) : (i, am_cv ad v) :: (am_cl2 ad ls).filter (fun q => !(q.1 == i) && (!(q.1 == i + 1) && !(q.1 + 1 == i && q.2.category == 2))) = am_cl2 ad (am_s2 i v ls) := by
  unfold am_s2 am_cl2
  rw [List.map_cons, List.filter_map]
  congr 2
  apply List.filter_congr
  intro q _
  simp only [Function.comp, am_cat_cv]
theorem am_s1_ok {SC : Nat → Nat} {w : am_W} {i : Nat} {v : am_V} {ls : List (Nat × am_V)} (hv : am_ok SC w v) (h : ∀ q ∈ ls, am_ok SC w q.2) : ∀ q ∈ am_s1 i v ls, am_ok SC w q.2 := fun q hq => by
  rcases List.mem_cons.mp hq with rfl | h1
  · exact hv
  · exact h q (List.mem_filter.mp h1).1
theorem am_s2_ok {SC : Nat → Nat} {w : am_W} {i : Nat} {v : am_V} {ls : List (Nat × am_V)} (hv : am_ok SC w v) (h : ∀ q ∈ ls, am_ok SC w q.2) : ∀ q ∈ am_s2 i v ls, am_ok SC w q.2 := fun q hq => by
  rcases List.mem_cons.mp hq with rfl | h1
  · exact hv
  · exact h q (List.mem_filter.mp h1).1
