-- THE START: what the Statement gives of constants
def ls_do : List Int := (List.range 100).map fun k => ((48 + k % 10 : Nat) : Int)
def ls_dt : List Int := (List.range 100).map fun k => ((48 + k / 10 : Nat) : Int)
def ls_ar (tm : Term) (v : List Int) : List Cond := .arrayOf tm .byte :: .eq (.length tm) (.int (Int32.ofNat v.length)) :: (List.range v.length).map fun j => .eq (.elem tm (.int (Int32.ofNat j))) (.int (Int32.ofInt (v.getD j 0)))
def ls_tm (i : Nat) : Term := .string (am_ldcs.getD i ("", 0, "", 0)).1 (am_ldcs.getD i ("", 0, "", 0)).2.1
def ls_vl (i : Nat) : Term := .field (ls_tm i) "java/lang/String" "value" "[B"
def ls_s (i : Nat) : List Cond := .exactly (ls_tm i) "java/lang/String" :: .eq (.field (ls_tm i) "java/lang/String" "coder" "B") (.int 0) :: ls_ar (ls_vl i) (mh_tx.getD i [])
def ls_cs : Term := .static "java/lang/String" "COMPACT_STRINGS" "Z"
def ls_fo : Term := .static "jdk/internal/util/Preconditions" "SIOOBE_FORMATTER" "Ljava/util/function/BiFunction;"
def ls_d1 : Term := .static "java/lang/Integer" "DigitOnes" "[B"
def ls_d2 : Term := .static "java/lang/Integer" "DigitTens" "[B"
def ls_E : List Cond := .eq ls_cs (.int 1) :: .isRef ls_fo :: (ls_ar ls_d1 ls_do ++ (ls_ar ls_d2 ls_dt ++ (List.range 91).flatMap ls_s))
set_option maxRecDepth 100000 in
theorem ls_sub : List.Sublist ls_E (flatC (Cond.and given_1 narrow_1)) := by decide +kernel
section LS
variable {args : Array Value} {s : State} {A : Nat → Prop}
theorem ls_all (h : (Cond.and given_1 narrow_1).before args s = true) : ∀ c ∈ ls_E, c.before args s = true := fun c hc => flat_of_before _ h c (ls_sub.subset hc)
theorem ls_T {tm : Term} {v : List Int} (h : ∀ c ∈ ls_ar tm v, c.before args s = true) (hv : v.length < 2 ^ 31) (hA : ∀ a : Nat, a < s.heap.size → ¬ A a) : ∃ t : Nat, tm.eval args s none [] s = some (.ref t) ∧ va_T .byte t v.length (fun j => .int (Int32.ofInt (v.getD j 0))) A s s.heap := by
  refine va_Tof hv (h _ List.mem_cons_self) (va_eqt (h _ (List.mem_cons_of_mem _ List.mem_cons_self))) (fun j hj => va_eqt (h _ ?_)) hA
  exact List.mem_cons_of_mem _ (List.mem_cons_of_mem _ (List.mem_map.mpr ⟨j, List.mem_range.mpr hj, rfl⟩))
theorem ls_in {i : Nat} (hi : i < 91) : ∀ c ∈ ls_s i, c ∈ ls_E := fun c hc => by
  refine List.mem_cons_of_mem _ (List.mem_cons_of_mem _ (List.mem_append_right _ (List.mem_append_right _ ?_)))
  exact List.mem_flatMap.mpr ⟨i, List.mem_range.mpr hi, hc⟩
set_option maxRecDepth 100000 in
theorem ls_len : ∀ i, i < 91 → (mh_tx.getD i []).length < 1000 := by decide +kernel
theorem ls_mapD (L : List Int) (j : Nat) : (L.map Int32.ofInt).getD j 0 = Int32.ofInt (L.getD j 0) := by
  rw [List.getD_eq_getElem?_getD, List.getD_eq_getElem?_getD, List.getElem?_map]
  cases L[j]? <;> rfl
/-- what is known of a String that is loaded -/
theorem ls_str (h : ∀ c ∈ ls_E, c.before args s = true) (hA : ∀ a : Nat, a < s.heap.size → ¬ A a) {i : Nat} (hi : i < 91) : ∃ a v : Nat, (ls_tm i).eval args s none [] s = some (.ref a) ∧ va_O "java/lang/String" a A s s.heap ∧ va_OF "java/lang/String" "coder" "B" (.int 0) a A s s.heap ∧ va_OF "java/lang/String" "value" "[B" (.ref v) a A s s.heap ∧ va_T .byte v (mh_tx.getD i []).length (fun j => .int (Int32.ofInt ((mh_tx.getD i []).getD j 0))) A s s.heap := by
  have g := fun c hc => h c (ls_in hi c hc)
  have hl := ls_len i hi
  obtain ⟨adK, adV, hS, he⟩ := vk_Sof (args := args) (s := s) (A := A) (N := 1) (tm := fun _ => ls_tm i) (len := [(mh_tx.getD i []).length]) (byt := [(mh_tx.getD i []).map Int32.ofInt])
    (fun k hk => by obtain rfl : k = 0 := by omega
                    show (mh_tx.getD i []).length < 2 ^ 31; omega)
    (fun k hk => g _ List.mem_cons_self) (fun k hk => g _ (List.mem_cons_of_mem _ List.mem_cons_self))
    (fun k hk => g _ (List.mem_cons_of_mem _ (List.mem_cons_of_mem _ List.mem_cons_self)))
    (fun k hk => by obtain rfl : k = 0 := by omega
                    exact g _ (List.mem_cons_of_mem _ (List.mem_cons_of_mem _ (List.mem_cons_of_mem _ List.mem_cons_self))))
    (fun k hk j hj => by
      obtain rfl : k = 0 := by omega
      have hj' : j < (mh_tx.getD i []).length := hj
      have e : (([(mh_tx.getD i []).map Int32.ofInt] : List (List Int32)).getD 0 []).getD j 0 = Int32.ofInt ((mh_tx.getD i []).getD j 0) := ls_mapD _ _
      rw [e]
      exact g _ (List.mem_cons_of_mem _ (List.mem_cons_of_mem _ (List.mem_cons_of_mem _ (List.mem_cons_of_mem _ (List.mem_map.mpr ⟨j, List.mem_range.mpr hj', rfl⟩))))))
    (fun k l hk hl hne => absurd (show k = l by omega) hne) hA
  obtain ⟨h1, h2, h3, cell, t1, t2, t3, t4, t5, t6, t7⟩ := hS.1 0 (by omega)
  refine ⟨adK 0, adV 0, he 0 (by omega), h1, h2, h3, cell, t1, t2, t3, t4, t5, fun j hj => (t6 j hj).trans ?_, t7⟩
  have e : (([(mh_tx.getD i []).map Int32.ofInt] : List (List Int32)).getD 0 []).getD j 0 = Int32.ofInt ((mh_tx.getD i []).getD j 0) := ls_mapD _ _
  exact congrArg (fun z => some (Value.int z)) e
/-- a table of bytes as am_ca has it -/
theorem ls_caT {Dg : va_G} {cA : ClassId} {t n : Nat} {v : List Int} {f : Nat → Int32} (h : va_T .byte t n (fun j => .int (Int32.ofInt (v.getD j 0))) A s s.heap) (hf : ∀ j, j < n → f j = Int32.ofInt (v.getD j 0)) : am_ca s Dg 3 (t, .inl (cA, n, .inl f)) s.heap ∧ t < s.heap.size ∧ ¬ A t := by
  obtain ⟨cell, t1, t2, t3, t4, t5, t6, t7⟩ := h
  refine ⟨⟨cell, t1, t2, t3, t4, t5, fun k hk => (t6 k hk).trans ?_⟩, (Array.getElem?_eq_some_iff.mp t1).1, t7⟩
  show _ = (arrV cA n (fun j => .int (f j))).slots[k]?
  rw [arrV_read _ _ hk, hf k hk]
/-- a String as am_ca has it -/
theorem ls_caS {Dg : va_G} {a v : Nat} (hKn : u_Kn s "java/lang/String" am_T11 2 (Dg.1 11) (Dg.2 11)) (h1 : va_O "java/lang/String" a A s s.heap) (h2 : va_OF "java/lang/String" "coder" "B" (.int 0) a A s s.heap) (h3 : va_OF "java/lang/String" "value" "[B" (.ref v) a A s s.heap) : am_ca s Dg 111 (a, .inr (11, [.ref v, .int 0])) s.heap ∧ a < s.heap.size ∧ ¬ A a := by
  obtain ⟨cell, b1, b2, b3, b4⟩ := h1
  obtain ⟨hS, hfc, -⟩ := hKn
  obtain ⟨cf, k, i, f, cell2, c1, c2, c3, c4, c5, -⟩ := h2
  obtain ⟨cf', k', i', f', cell3, d1, d2, d3, d4, d5, -⟩ := h3
  obtain rfl : cell2 = cell := Option.some.inj (c3.symm.trans b1)
  obtain rfl : cell3 = cell2 := Option.some.inj (d3.symm.trans c3)
  obtain ⟨_, _, _, f0, e0, s0⟩ := hS 0 (by decide)
  obtain ⟨_, _, _, f1, e1, s1⟩ := hS 1 (by decide)
  have g0 : f' = f0 := by
    have z := d1.symm.trans e0
    cases z
    rfl
  have g1 : f = f1 := by
    have z := c1.symm.trans e1
    cases z
    rfl
  refine ⟨⟨cell3, b1, ?_, b2, c4, fun q hq => ?_⟩, (Array.getElem?_eq_some_iff.mp b1).1, b4⟩
  · exact Option.some.inj (b3.symm.trans hfc)
  · have hq' : q < 2 := hq
    rcases (show q = 0 ∨ q = 1 by omega) with rfl | rfl
    · show cell3.slots[Dg.2 11 0]? = some (.ref v)
      rw [← s0, ← g0]; exact d5
    · show cell3.slots[Dg.2 11 1]? = some (.int 0)
      rw [← s1, ← g1]; exact c5
/-- the script as am_ca has it -/
theorem ls_caX {Dg : va_G} {cA : ClassId} {b L : Nat} {xs : Nat → Int32} {f : Nat → Int32} (h : va_X b L xs s s.heap) (hA : ∀ a : Nat, a < s.heap.size → ¬ A a) (hf : ∀ j, j < L → f j = xs j) : am_ca s Dg 0 (b, .inl (cA, L, .inl f)) s.heap ∧ b < s.heap.size ∧ ¬ A b := by
  obtain ⟨cell, t1, t2, t3, t4, t5⟩ := h
  have hlt := (Array.getElem?_eq_some_iff.mp t1).1
  refine ⟨⟨cell, t1, t2, t3, by rw [t4]; exact Nat.le_refl _, by rw [t4], fun k hk => (t5 k hk).trans ?_⟩, hlt, hA b hlt⟩
  show _ = (arrV cA L (fun j => .int (f j))).slots[k]?
  rw [arrV_read _ _ hk, hf k hk]
end LS
