-- THE START: what holds at the law's entry
theorem wt_209 : Cond.arrayOver (.object "MourningHouse$Law") ∈ lw_tbl := List.mem_append_right _ (show Cond.arrayOver (.object "MourningHouse$Law") ∈ tables_1 from List.mem_append_left _ (show Cond.arrayOver (.object "MourningHouse$Law") ∈ tables_1_1 from List.mem_of_getElem? (i := 98) (by decide +kernel)))
theorem wt_393 : Cond.arrayOver (.object "MourningHouse$Mourning") ∈ lw_tbl := List.mem_append_right _ (show Cond.arrayOver (.object "MourningHouse$Mourning") ∈ tables_1 from List.mem_append_right _ (List.mem_append_left _ (show Cond.arrayOver (.object "MourningHouse$Mourning") ∈ tables_1_2 from List.mem_of_getElem? (i := 42) (by decide +kernel))))
theorem wt_1515 : Cond.arrayOver (.array .int) ∈ lw_tbl := List.mem_append_right _ (show Cond.arrayOver (.array .int) ∈ tables_1 from List.mem_append_right _ (List.mem_append_right _ (List.mem_append_right _ (List.mem_append_right _ (List.mem_append_right _ (List.mem_append_left _ (show Cond.arrayOver (.array .int) ∈ tables_1_6 from List.mem_of_getElem? (i := 204) (by decide +kernel))))))))
theorem wt_1517 : Cond.arrayOver (.array (.array .int)) ∈ lw_tbl := List.mem_append_right _ (show Cond.arrayOver (.array (.array .int)) ∈ tables_1 from List.mem_append_right _ (List.mem_append_right _ (List.mem_append_right _ (List.mem_append_right _ (List.mem_append_right _ (List.mem_append_left _ (show Cond.arrayOver (.array (.array .int)) ∈ tables_1_6 from List.mem_of_getElem? (i := 206) (by decide +kernel))))))))
theorem wt_1519 : Cond.arrayOver (.object "java/lang/String") ∈ lw_tbl := List.mem_append_right _ (show Cond.arrayOver (.object "java/lang/String") ∈ tables_1 from List.mem_append_right _ (List.mem_append_right _ (List.mem_append_right _ (List.mem_append_right _ (List.mem_append_right _ (List.mem_append_left _ (show Cond.arrayOver (.object "java/lang/String") ∈ tables_1_6 from List.mem_of_getElem? (i := 208) (by decide +kernel))))))))
theorem wt_2307 : Cond.privateMethod ⟨"java/lang/AbstractStringBuilder", "ensureCapacityInternal", "(I)V"⟩ ∈ lw_tbl := List.mem_append_right _ (show Cond.privateMethod ⟨"java/lang/AbstractStringBuilder", "ensureCapacityInternal", "(I)V"⟩ ∈ tables_1 from List.mem_append_right _ (List.mem_append_right _ (List.mem_append_right _ (List.mem_append_right _ (List.mem_append_right _ (List.mem_append_right _ (List.mem_append_right _ (List.mem_append_right _ (List.mem_append_right _ ((show Cond.privateMethod ⟨"java/lang/AbstractStringBuilder", "ensureCapacityInternal", "(I)V"⟩ ∈ tables_1_10 from List.mem_of_getElem? (i := 36) (by decide +kernel))))))))))))
theorem wt_2359 : Cond.privateMethod ⟨"java/lang/AbstractStringBuilder", "putStringAt", "(ILjava/lang/String;)V"⟩ ∈ lw_tbl := List.mem_append_right _ (show Cond.privateMethod ⟨"java/lang/AbstractStringBuilder", "putStringAt", "(ILjava/lang/String;)V"⟩ ∈ tables_1 from List.mem_append_right _ (List.mem_append_right _ (List.mem_append_right _ (List.mem_append_right _ (List.mem_append_right _ (List.mem_append_right _ (List.mem_append_right _ (List.mem_append_right _ (List.mem_append_right _ ((show Cond.privateMethod ⟨"java/lang/AbstractStringBuilder", "putStringAt", "(ILjava/lang/String;)V"⟩ ∈ tables_1_10 from List.mem_of_getElem? (i := 88) (by decide +kernel))))))))))))
theorem wt_2363 : Cond.privateMethod ⟨"java/lang/AbstractStringBuilder", "inflateIfNeededFor", "(Ljava/lang/String;)V"⟩ ∈ lw_tbl := List.mem_append_right _ (show Cond.privateMethod ⟨"java/lang/AbstractStringBuilder", "inflateIfNeededFor", "(Ljava/lang/String;)V"⟩ ∈ tables_1 from List.mem_append_right _ (List.mem_append_right _ (List.mem_append_right _ (List.mem_append_right _ (List.mem_append_right _ (List.mem_append_right _ (List.mem_append_right _ (List.mem_append_right _ (List.mem_append_right _ ((show Cond.privateMethod ⟨"java/lang/AbstractStringBuilder", "inflateIfNeededFor", "(Ljava/lang/String;)V"⟩ ∈ tables_1_10 from List.mem_of_getElem? (i := 92) (by decide +kernel))))))))))))
theorem wt_185 : Cond.arrayClass .char ∈ lw_tbl := List.mem_append_right _ (show Cond.arrayClass .char ∈ tables_1 from List.mem_append_left _ (show Cond.arrayClass .char ∈ tables_1_1 from List.mem_of_getElem? (i := 74) (by decide +kernel)))
theorem wt_186 : Cond.arrayClass .int ∈ lw_tbl := List.mem_append_right _ (show Cond.arrayClass .int ∈ tables_1 from List.mem_append_left _ (show Cond.arrayClass .int ∈ tables_1_1 from List.mem_of_getElem? (i := 75) (by decide +kernel)))
theorem wt_385 : Cond.arrayClass .long ∈ lw_tbl := List.mem_append_right _ (show Cond.arrayClass .long ∈ tables_1 from List.mem_append_right _ (List.mem_append_left _ (show Cond.arrayClass .long ∈ tables_1_2 from List.mem_of_getElem? (i := 34) (by decide +kernel))))
theorem wt_522 : Cond.arrayClass .boolean ∈ lw_tbl := List.mem_append_right _ (show Cond.arrayClass .boolean ∈ tables_1 from List.mem_append_right _ (List.mem_append_left _ (show Cond.arrayClass .boolean ∈ tables_1_2 from List.mem_of_getElem? (i := 171) (by decide +kernel))))
theorem wt_916 : Cond.arrayClass .byte ∈ lw_tbl := List.mem_append_right _ (show Cond.arrayClass .byte ∈ tables_1 from List.mem_append_right _ (List.mem_append_right _ (List.mem_append_right _ (List.mem_append_left _ (show Cond.arrayClass .byte ∈ tables_1_4 from List.mem_of_getElem? (i := 85) (by decide +kernel))))))
theorem wt_730 : Cond.laysStatic "java/lang/String" "COMPACT_STRINGS" "Z" ∈ lw_tbl := List.mem_append_right _ (show Cond.laysStatic "java/lang/String" "COMPACT_STRINGS" "Z" ∈ tables_1 from List.mem_append_right _ (List.mem_append_right _ (List.mem_append_left _ (show Cond.laysStatic "java/lang/String" "COMPACT_STRINGS" "Z" ∈ tables_1_3 from List.mem_of_getElem? (i := 139) (by decide +kernel)))))
theorem wt_746 : Cond.laysStatic "jdk/internal/util/Preconditions" "SIOOBE_FORMATTER" "Ljava/util/function/BiFunction;" ∈ lw_tbl := List.mem_append_right _ (show Cond.laysStatic "jdk/internal/util/Preconditions" "SIOOBE_FORMATTER" "Ljava/util/function/BiFunction;" ∈ tables_1 from List.mem_append_right _ (List.mem_append_right _ (List.mem_append_left _ (show Cond.laysStatic "jdk/internal/util/Preconditions" "SIOOBE_FORMATTER" "Ljava/util/function/BiFunction;" ∈ tables_1_3 from List.mem_of_getElem? (i := 155) (by decide +kernel)))))
theorem wt_2406 : Cond.laysStatic "java/lang/Integer" "DigitOnes" "[B" ∈ lw_tbl := List.mem_append_right _ (show Cond.laysStatic "java/lang/Integer" "DigitOnes" "[B" ∈ tables_1 from List.mem_append_right _ (List.mem_append_right _ (List.mem_append_right _ (List.mem_append_right _ (List.mem_append_right _ (List.mem_append_right _ (List.mem_append_right _ (List.mem_append_right _ (List.mem_append_right _ ((show Cond.laysStatic "java/lang/Integer" "DigitOnes" "[B" ∈ tables_1_10 from List.mem_of_getElem? (i := 135) (by decide +kernel))))))))))))
theorem wt_2408 : Cond.laysStatic "java/lang/Integer" "DigitTens" "[B" ∈ lw_tbl := List.mem_append_right _ (show Cond.laysStatic "java/lang/Integer" "DigitTens" "[B" ∈ tables_1 from List.mem_append_right _ (List.mem_append_right _ (List.mem_append_right _ (List.mem_append_right _ (List.mem_append_right _ (List.mem_append_right _ (List.mem_append_right _ (List.mem_append_right _ (List.mem_append_right _ ((show Cond.laysStatic "java/lang/Integer" "DigitTens" "[B" ∈ tables_1_10 from List.mem_of_getElem? (i := 137) (by decide +kernel))))))))))))
theorem wt_124 : Cond.initialized "java/lang/String" ∈ lw_tbl := List.mem_append_right _ (show Cond.initialized "java/lang/String" ∈ tables_1 from List.mem_append_left _ (show Cond.initialized "java/lang/String" ∈ tables_1_1 from List.mem_of_getElem? (i := 13) (by decide +kernel)))
theorem wt_126 : Cond.initialized "jdk/internal/util/Preconditions" ∈ lw_tbl := List.mem_append_right _ (show Cond.initialized "jdk/internal/util/Preconditions" ∈ tables_1 from List.mem_append_left _ (show Cond.initialized "jdk/internal/util/Preconditions" ∈ tables_1_1 from List.mem_of_getElem? (i := 15) (by decide +kernel)))
theorem wt_130 : Cond.initialized "java/lang/Integer" ∈ lw_tbl := List.mem_append_right _ (show Cond.initialized "java/lang/Integer" ∈ tables_1 from List.mem_append_left _ (show Cond.initialized "java/lang/Integer" ∈ tables_1_1 from List.mem_of_getElem? (i := 19) (by decide +kernel)))
theorem wt_137 : Cond.instantiable "MourningHouse" 13 ∈ lw_tbl := List.mem_append_right _ (show Cond.instantiable "MourningHouse" 13 ∈ tables_1 from List.mem_append_left _ (show Cond.instantiable "MourningHouse" 13 ∈ tables_1_1 from List.mem_of_getElem? (i := 26) (by decide +kernel)))
theorem wt_145 : Cond.instantiable "MourningHouse$Reader" 10 ∈ lw_tbl := List.mem_append_right _ (show Cond.instantiable "MourningHouse$Reader" 10 ∈ tables_1 from List.mem_append_left _ (show Cond.instantiable "MourningHouse$Reader" 10 ∈ tables_1_1 from List.mem_of_getElem? (i := 34) (by decide +kernel)))
theorem wt_188 : Cond.instantiable "MourningHouse$Page" 2 ∈ lw_tbl := List.mem_append_right _ (show Cond.instantiable "MourningHouse$Page" 2 ∈ tables_1 from List.mem_append_left _ (show Cond.instantiable "MourningHouse$Page" 2 ∈ tables_1_1 from List.mem_of_getElem? (i := 77) (by decide +kernel)))
theorem wt_203 : Cond.instantiable "MourningHouse$Decrees" 7 ∈ lw_tbl := List.mem_append_right _ (show Cond.instantiable "MourningHouse$Decrees" 7 ∈ tables_1 from List.mem_append_left _ (show Cond.instantiable "MourningHouse$Decrees" 7 ∈ tables_1_1 from List.mem_of_getElem? (i := 92) (by decide +kernel)))
theorem wt_210 : Cond.instantiable "MourningHouse$Law" 18 ∈ lw_tbl := List.mem_append_right _ (show Cond.instantiable "MourningHouse$Law" 18 ∈ tables_1 from List.mem_append_left _ (show Cond.instantiable "MourningHouse$Law" 18 ∈ tables_1_1 from List.mem_of_getElem? (i := 99) (by decide +kernel)))
theorem wt_310 : Cond.instantiable "MourningHouse$Family" 20 ∈ lw_tbl := List.mem_append_right _ (show Cond.instantiable "MourningHouse$Family" 20 ∈ tables_1 from List.mem_append_left _ (show Cond.instantiable "MourningHouse$Family" 20 ∈ tables_1_1 from List.mem_of_getElem? (i := 199) (by decide +kernel)))
theorem wt_387 : Cond.instantiable "MourningHouse$Mourner" 10 ∈ lw_tbl := List.mem_append_right _ (show Cond.instantiable "MourningHouse$Mourner" 10 ∈ tables_1 from List.mem_append_right _ (List.mem_append_left _ (show Cond.instantiable "MourningHouse$Mourner" 10 ∈ tables_1_2 from List.mem_of_getElem? (i := 36) (by decide +kernel))))
theorem wt_394 : Cond.instantiable "MourningHouse$Mourning" 11 ∈ lw_tbl := List.mem_append_right _ (show Cond.instantiable "MourningHouse$Mourning" 11 ∈ tables_1 from List.mem_append_right _ (List.mem_append_left _ (show Cond.instantiable "MourningHouse$Mourning" 11 ∈ tables_1_2 from List.mem_of_getElem? (i := 43) (by decide +kernel))))
theorem wt_470 : Cond.instantiable "MourningHouse$Wardrobe" 12 ∈ lw_tbl := List.mem_append_right _ (show Cond.instantiable "MourningHouse$Wardrobe" 12 ∈ tables_1 from List.mem_append_right _ (List.mem_append_left _ (show Cond.instantiable "MourningHouse$Wardrobe" 12 ∈ tables_1_2 from List.mem_of_getElem? (i := 119) (by decide +kernel))))
theorem wt_524 : Cond.instantiable "MourningHouse$Planner" 13 ∈ lw_tbl := List.mem_append_right _ (show Cond.instantiable "MourningHouse$Planner" 13 ∈ tables_1 from List.mem_append_right _ (List.mem_append_left _ (show Cond.instantiable "MourningHouse$Planner" 13 ∈ tables_1_2 from List.mem_of_getElem? (i := 173) (by decide +kernel))))
theorem wt_1509 : Cond.instantiable "MourningHouseModel" 100 ∈ lw_tbl := List.mem_append_right _ (show Cond.instantiable "MourningHouseModel" 100 ∈ tables_1 from List.mem_append_right _ (List.mem_append_right _ (List.mem_append_right _ (List.mem_append_right _ (List.mem_append_right _ (List.mem_append_left _ (show Cond.instantiable "MourningHouseModel" 100 ∈ tables_1_6 from List.mem_of_getElem? (i := 198) (by decide +kernel))))))))
theorem wt_2422 : Cond.instantiable "java/lang/String" 4 ∈ lw_tbl := List.mem_append_right _ (show Cond.instantiable "java/lang/String" 4 ∈ tables_1 from List.mem_append_right _ (List.mem_append_right _ (List.mem_append_right _ (List.mem_append_right _ (List.mem_append_right _ (List.mem_append_right _ (List.mem_append_right _ (List.mem_append_right _ (List.mem_append_right _ ((show Cond.instantiable "java/lang/String" 4 ∈ tables_1_10 from List.mem_of_getElem? (i := 151) (by decide +kernel))))))))))))
theorem wt_2265 : Cond.instantiable "java/lang/StringBuilder" 4 ∈ lw_tbl := List.mem_append_right _ (show Cond.instantiable "java/lang/StringBuilder" 4 ∈ tables_1 from List.mem_append_right _ (List.mem_append_right _ (List.mem_append_right _ (List.mem_append_right _ (List.mem_append_right _ (List.mem_append_right _ (List.mem_append_right _ (List.mem_append_right _ (List.mem_append_left _ (show Cond.instantiable "java/lang/StringBuilder" 4 ∈ tables_1_9 from List.mem_of_getElem? (i := 234) (by decide +kernel)))))))))))
set_option maxRecDepth 100000 in
theorem lt_nst : List.Sublist (am_nst.map fun q => Cond.methodLinkNest q.1 q.2.1 q.2.2.1 q.2.2.2) tables_1 := by decide +kernel
set_option maxRecDepth 100000 in
theorem lt_ldc : List.Sublist (am_ldcs.map fun q => Cond.stringRef q.1 q.2.1 q.2.2.1) tables_1 := by decide +kernel
theorem lt_ldn : am_ldcs.length = 91 := by decide +kernel
set_option maxRecDepth 100000 in
theorem lt_ldi : ∀ i, i < 91 → (am_ldcs.getD i ("", 0, "", 0)).2.2.2 = i := by decide +kernel
theorem lt_ld {q : String × Nat × String × Nat} (hq : q ∈ am_ldcs) : q.2.2.2 < 91 ∧ ls_tm q.2.2.2 = .string q.1 q.2.1 := by
  obtain ⟨i, hi⟩ := List.getElem?_of_mem hq
  have hlt : i < 91 := by rw [← lt_ldn]; exact (List.getElem?_eq_some_iff.mp hi).1
  have e : am_ldcs.getD i ("", 0, "", 0) = q := by rw [List.getD_eq_getElem?_getD, hi]; rfl
  have e2 := lt_ldi i hlt
  rw [e] at e2
  rw [e2]
  refine ⟨hlt, ?_⟩
  unfold ls_tm
  rw [e]
theorem lt_rg (t j k : Nat) (xs : Nat → Int) (hx : ∀ k, am_rg (xs k)) : am_rg (mh_EI xs t j k) := by
  unfold mh_EI
  by_cases h1 : t = 1000
  · rw [if_pos h1]; exact am_rg0
  rw [if_neg h1]
  by_cases h2 : t = 1001
  · rw [if_pos h2]
    by_cases hj : j < 91
    · by_cases hk : k < (mh_tx.getD j []).length
      · have := mh_tx_c hj hk
        unfold am_rg; omega
      · rw [List.getD_eq_getElem?_getD, List.getElem?_eq_none (by omega)]; exact am_rg0
    · have e : mh_tx.getD j [] = [] := by rw [List.getD_eq_getElem?_getD, List.getElem?_eq_none (show mh_tx.length ≤ j from Nat.le_trans (by decide +kernel) (Nat.le_of_not_lt hj))]; rfl
      rw [e]; exact am_rg0
  rw [if_neg h2]
  by_cases h3 : t = 1003
  · rw [if_pos h3]; split
    · unfold am_rg; omega
    · exact am_rg0
  rw [if_neg h3]
  by_cases h4 : t = 1004
  · rw [if_pos h4]; split
    · unfold am_rg; omega
    · exact am_rg0
  rw [if_neg h4]
  exact hx k
def lt_st (r : Option am_I) : List (String × String × String × am_V) := [("java/lang/String", "COMPACT_STRINGS", "Z", .inl 1), ("jdk/internal/util/Preconditions", "SIOOBE_FORMATTER", "Ljava/util/function/BiFunction;", .inr (.inr r)), ("java/lang/Integer", "DigitOnes", "[B", .inr (.inr (some (1003, 0)))), ("java/lang/Integer", "DigitTens", "[B", .inr (.inr (some (1004, 0))))]
section LT
variable {s : State} {args : Array Value}
theorem lt_K (hts : ∀ w ∈ lw_tbl, w.before args s = true) : ∃ (Dg : va_G) (cI : Nat → ClassId), va_K Dg am_cl (am_tys cI) s := by
  have x7 : ∀ w ∈ am_TW, w.before args s = true := fun w hw => hts w (List.mem_filter.mp hw).1
  have hc : ∀ k : Nat, ∃ x : ClassId × (Nat → Nat), ∀ q : vw_C, am_cl[k]? = some q → u_Kn s q.1 q.2.1 q.2.2 x.1 x.2 := by
    intro k
    match k with
    | 0 => obtain ⟨c, iS, h⟩ := u_known (C := "MourningHouse") (T := am_T0) (N := 13) x7 (am_in hc_0) (hts _ wt_137); exact ⟨(c, iS), fun q hq => by cases hq; exact h⟩
    | 1 => obtain ⟨c, iS, h⟩ := u_known (C := "MourningHouse$Reader") (T := am_T1) (N := 10) x7 (am_in hc_1) (hts _ wt_145); exact ⟨(c, iS), fun q hq => by cases hq; exact h⟩
    | 2 => obtain ⟨c, iS, h⟩ := u_known (C := "MourningHouse$Page") (T := am_T2) (N := 2) x7 (am_in hc_2) (hts _ wt_188); exact ⟨(c, iS), fun q hq => by cases hq; exact h⟩
    | 3 => obtain ⟨c, iS, h⟩ := u_known (C := "MourningHouse$Decrees") (T := am_T3) (N := 7) x7 (am_in hc_3) (hts _ wt_203); exact ⟨(c, iS), fun q hq => by cases hq; exact h⟩
    | 4 => obtain ⟨c, iS, h⟩ := u_known (C := "MourningHouse$Law") (T := am_T4) (N := 18) x7 (am_in hc_4) (hts _ wt_210); exact ⟨(c, iS), fun q hq => by cases hq; exact h⟩
    | 5 => obtain ⟨c, iS, h⟩ := u_known (C := "MourningHouse$Family") (T := am_T5) (N := 20) x7 (am_in hc_5) (hts _ wt_310); exact ⟨(c, iS), fun q hq => by cases hq; exact h⟩
    | 6 => obtain ⟨c, iS, h⟩ := u_known (C := "MourningHouse$Mourner") (T := am_T6) (N := 10) x7 (am_in hc_6) (hts _ wt_387); exact ⟨(c, iS), fun q hq => by cases hq; exact h⟩
    | 7 => obtain ⟨c, iS, h⟩ := u_known (C := "MourningHouse$Mourning") (T := am_T7) (N := 11) x7 (am_in hc_7) (hts _ wt_394); exact ⟨(c, iS), fun q hq => by cases hq; exact h⟩
    | 8 => obtain ⟨c, iS, h⟩ := u_known (C := "MourningHouse$Wardrobe") (T := am_T8) (N := 12) x7 (am_in hc_8) (hts _ wt_470); exact ⟨(c, iS), fun q hq => by cases hq; exact h⟩
    | 9 => obtain ⟨c, iS, h⟩ := u_known (C := "MourningHouse$Planner") (T := am_T9) (N := 13) x7 (am_in hc_9) (hts _ wt_524); exact ⟨(c, iS), fun q hq => by cases hq; exact h⟩
    | 10 => obtain ⟨c, iS, h⟩ := u_known (C := "MourningHouseModel") (T := am_T10) (N := 100) x7 (am_in hc_10) (hts _ wt_1509); exact ⟨(c, iS), fun q hq => by cases hq; exact h⟩
    | 11 => obtain ⟨c, iS, h⟩ := u_known (C := "java/lang/String") (T := am_T11) (N := 2) x7 (am_in hc_11) (hts _ wt_2422); exact ⟨(c, iS), fun q hq => by cases hq; exact h⟩
    | 12 => obtain ⟨c, iS, h⟩ := u_known (C := "java/lang/StringBuilder") (T := am_T12) (N := 4) x7 (am_in hc_12) (hts _ wt_2265); exact ⟨(c, iS), fun q hq => by cases hq; exact h⟩
    | k + 13 => exact ⟨(0, fun _ => 0), fun q hq => by simp [am_cl] at hq⟩
  have ha : ∀ k : Nat, ∃ c : ClassId, k < 10 → ArrOfT s c (am_aty k) ∧ va_RA s c (am_aty k) := by
    intro k
    match k with
    | 0 => obtain ⟨c, kA, comp, h1, h2, h3⟩ := Cond.arrayClass_spec (hts _ wt_186); exact ⟨c, fun _ => ⟨fun N z => ⟨(fun k h => by cases h), kA, h2, comp, h3⟩, h1⟩⟩
    | 1 => obtain ⟨c, kA, comp, h1, h2, h3⟩ := Cond.arrayClass_spec (hts _ wt_385); exact ⟨c, fun _ => ⟨fun N z => ⟨(fun k h => by cases h), kA, h2, comp, h3⟩, h1⟩⟩
    | 2 => obtain ⟨c, kA, comp, h1, h2, h3⟩ := Cond.arrayClass_spec (hts _ wt_185); exact ⟨c, fun _ => ⟨fun N z => ⟨(fun k h => by cases h), kA, h2, comp, h3⟩, h1⟩⟩
    | 3 => obtain ⟨c, kA, comp, h1, h2, h3⟩ := Cond.arrayClass_spec (hts _ wt_916); exact ⟨c, fun _ => ⟨fun N z => ⟨(fun k h => by cases h), kA, h2, comp, h3⟩, h1⟩⟩
    | 4 => obtain ⟨c, kA, comp, h1, h2, h3⟩ := Cond.arrayClass_spec (hts _ wt_522); exact ⟨c, fun _ => ⟨fun N z => ⟨(fun k h => by cases h), kA, h2, comp, h3⟩, h1⟩⟩
    | 5 => obtain ⟨comp, c, kA, h1, -, h3, h4, h5⟩ := arrayOverA_spec (hts _ wt_1515); exact ⟨c, fun _ => ⟨fun N z => ⟨(fun k h => by cases h), kA, h3, comp, h4⟩, h5⟩⟩
    | 6 => obtain ⟨comp, c, kA, h1, -, h3, h4, h5⟩ := arrayOverA_spec (hts _ wt_1517); exact ⟨c, fun _ => ⟨fun N z => ⟨(fun k h => by cases h), kA, h3, comp, h4⟩, h5⟩⟩
    | 7 => obtain ⟨comp, c, kA, h1, -, h3, h4, h5⟩ := Cond.arrayOver_spec (hts _ wt_209); exact ⟨c, fun _ => ⟨fun N z => ⟨(fun k h => by cases h), kA, h3, comp, h4⟩, kA, comp, h3, h4, h1, h5⟩⟩
    | 8 => obtain ⟨comp, c, kA, h1, -, h3, h4, h5⟩ := Cond.arrayOver_spec (hts _ wt_393); exact ⟨c, fun _ => ⟨fun N z => ⟨(fun k h => by cases h), kA, h3, comp, h4⟩, kA, comp, h3, h4, h1, h5⟩⟩
    | 9 => obtain ⟨comp, c, kA, h1, -, h3, h4, h5⟩ := Cond.arrayOver_spec (hts _ wt_1519); exact ⟨c, fun _ => ⟨fun N z => ⟨(fun k h => by cases h), kA, h3, comp, h4⟩, kA, comp, h3, h4, h1, h5⟩⟩
    | k + 10 => exact ⟨0, fun h => absurd h (by omega)⟩
  obtain ⟨f, hf⟩ := Classical.axiomOfChoice hc
  obtain ⟨g, hg⟩ := Classical.axiomOfChoice ha
  refine ⟨(fun k => (f k).1, fun k => (f k).2), g, fun c q hq => hf c q hq, fun k q hk => ?_⟩
  have hk10 : k < 10 := by
    have h := (List.getElem?_eq_some_iff.mp hk).1
    unfold am_tys at h
    rwa [List.length_map, List.length_range] at h
  rw [am_tys_at g hk10] at hk
  cases hk
  exact hg k hk10
/-- what the law finds -/
theorem lt_start {b L : Nat} {xs : Nat → Int32} (hts : ∀ w ∈ lw_tbl, w.before args s = true) (hX : va_X b L xs s s.heap) (hgv : (Cond.and given_1 narrow_1).before args s = true) :
    ∃ (X : mh_X) (r : Option am_I) (Dg : va_G) (cI : Nat → ClassId) (ad : am_I → Nat), X.2.1 = L ∧ (∀ k, am_rg (X.1 k)) ∧ mh_st X r ∧ (∀ q ∈ X.2.2, ∀ id : am_I, q.2.2.2 = .inr (.inr (some id)) → 1000 ≤ id.1) ∧ va_K Dg am_cl (am_tys cI) s ∧ ad (1002, 0) = b ∧ am_H (mh_G X) mh_S0 Dg cI s (fun q => s.heap.size ≤ q) ad (cs_W []) s.heap [] := by
  obtain ⟨Dg, cI, hK⟩ := lt_K hts
  have hE := ls_all hgv
  have hA : ∀ a : Nat, a < s.heap.size → ¬ (fun q : Nat => s.heap.size ≤ q) a := fun a ha => Nat.not_le.mpr ha
  have hstr : ∀ i : Nat, ∃ q : Nat × Nat, i < 91 → (ls_tm i).eval args s none [] s = some (.ref q.1) ∧ va_O "java/lang/String" q.1 (fun q : Nat => s.heap.size ≤ q) s s.heap ∧ va_OF "java/lang/String" "coder" "B" (.int 0) q.1 (fun q : Nat => s.heap.size ≤ q) s s.heap ∧ va_OF "java/lang/String" "value" "[B" (.ref q.2) q.1 (fun q : Nat => s.heap.size ≤ q) s s.heap ∧ va_T .byte q.2 (mh_tx.getD i []).length (fun j => .int (Int32.ofInt ((mh_tx.getD i []).getD j 0))) (fun q : Nat => s.heap.size ≤ q) s s.heap := by
    intro i
    by_cases hi : i < 91
    · obtain ⟨a, v, h⟩ := ls_str hE hA hi
      exact ⟨(a, v), fun _ => h⟩
    · exact ⟨(0, 0), fun h => absurd h hi⟩
  obtain ⟨f, hf⟩ := Classical.axiomOfChoice hstr
  obtain ⟨d1, e1, t1⟩ := ls_T (tm := ls_d1) (v := ls_do) (fun c hc => hE c (List.mem_cons_of_mem _ (List.mem_cons_of_mem _ (List.mem_append_left _ hc)))) (by decide +kernel) hA
  obtain ⟨d2, e2, t2⟩ := ls_T (tm := ls_d2) (v := ls_dt) (fun c hc => hE c (List.mem_cons_of_mem _ (List.mem_cons_of_mem _ (List.mem_append_right _ (List.mem_append_left _ hc))))) (by decide +kernel) hA
  have z0 : va_Z "java/lang/String" "COMPACT_STRINGS" "Z" (.int 1) (fun q : Nat => s.heap.size ≤ q) s s.heap := va_Zof (hts _ wt_730) (hts _ wt_124) (va_eqi (hE _ List.mem_cons_self)) hA
  have z1 : va_Z "java/lang/Integer" "DigitOnes" "[B" (.ref d1) (fun q : Nat => s.heap.size ≤ q) s s.heap := va_Zof (hts _ wt_2406) (hts _ wt_130) e1 hA
  have z2 : va_Z "java/lang/Integer" "DigitTens" "[B" (.ref d2) (fun q : Nat => s.heap.size ≤ q) s s.heap := va_Zof (hts _ wt_2408) (hts _ wt_130) e2 hA
  obtain ⟨r, t, hr, zf⟩ : ∃ (r : Option am_I) (t : Nat), (r = none ∨ r = some (1100, 0)) ∧ va_Z "jdk/internal/util/Preconditions" "SIOOBE_FORMATTER" "Ljava/util/function/BiFunction;" (va_rf (r.map fun _ => t)) (fun q : Nat => s.heap.size ≤ q) s s.heap := by
    rcases va_Zqof (hts _ wt_746) (hts _ wt_126) (hE _ (List.mem_cons_of_mem _ List.mem_cons_self)) hA with h | ⟨t, h⟩
    · exact ⟨none, 0, Or.inl rfl, h⟩
    · exact ⟨some (1100, 0), t, Or.inr rfl, h⟩
  obtain ⟨ad, had⟩ : ∃ ad : am_I → Nat, ad = fun id => if id.1 = 1000 then (f id.2).1 else if id.1 = 1001 then (f id.2).2 else if id.1 = 1002 then b else if id.1 = 1003 then d1 else if id.1 = 1004 then d2 else t := ⟨_, rfl⟩
  have ad0 : ∀ i, ad (1000, i) = (f i).1 := fun i => by rw [had]; rfl
  have ad1 : ∀ i, ad (1001, i) = (f i).2 := fun i => by rw [had]; rfl
  have ad2 : ad (1002, 0) = b := by rw [had]; rfl
  have ad3 : ad (1003, 0) = d1 := by rw [had]; rfl
  have ad4 : ad (1004, 0) = d2 := by rw [had]; rfl
  have ad5 : ad (1100, 0) = t := by rw [had]; rfl
  have hxr : ∀ k, am_rg ((fun k => (xs k).toInt) k) := fun k => am_T_rg _
  obtain ⟨X, hXX⟩ : ∃ X : mh_X, X = (fun k => (xs k).toInt, L, lt_st r) := ⟨_, rfl⟩
  have hno : ∀ id : am_I, id ∈ am_ids mh_S0 (cs_W []) → False := fun id hid => by
    obtain ⟨g1, g2⟩ := am_ids_mem.mp hid
    obtain ⟨-, g3⟩ := mh_S0_1 g1 g2
    exact absurd g3 (Nat.not_lt_zero _)
  have hnw : ∀ (k : Nat) (q : Nat × va_E), (am_wsl (mh_G X) mh_S0 cI ad (cs_W []))[k]? = some q → False := fun k q hk => by
    obtain ⟨id, g1, -⟩ := am_wsl_of hk
    exact hno id (List.mem_of_getElem? g1)
  have hst : ∀ q ∈ lt_st r, q = ("java/lang/String", "COMPACT_STRINGS", "Z", .inl 1) ∨ q = ("jdk/internal/util/Preconditions", "SIOOBE_FORMATTER", "Ljava/util/function/BiFunction;", .inr (.inr r)) ∨ q = ("java/lang/Integer", "DigitOnes", "[B", .inr (.inr (some (1003, 0)))) ∨ q = ("java/lang/Integer", "DigitTens", "[B", .inr (.inr (some (1004, 0)))) := fun q hq => by
    unfold lt_st at hq
    simpa using hq
  subst hXX
  refine ⟨_, r, Dg, cI, ad, rfl, hxr, ⟨List.mem_cons_self, List.mem_cons_of_mem _ List.mem_cons_self, List.mem_cons_of_mem _ (List.mem_cons_of_mem _ List.mem_cons_self), List.mem_cons_of_mem _ (List.mem_cons_of_mem _ (List.mem_cons_of_mem _ List.mem_cons_self))⟩, fun q hq id e => ?_, hK, ad2, fun k q hk => (hnw k q hk).elim, ⟨fun i j p q hp _ _ => (hnw i p hp).elim, fun k q hk => (hnw k q hk).elim⟩, va_S.rf, fun q hq => hq, ⟨fun t9 j k => ?_, fun id k id' hl hk hr9 => ?_, fun q hq => ?_, fun q hq => (lt_ld hq).1⟩, fun id g1 g2 g3 => ?_, ⟨fun q hq => ?_, ⟨fun q hq => ?_, fun y hy => ?_, fun ty hty => ?_⟩, fun q hq => ?_⟩⟩
  · rcases hst q hq with rfl | rfl | rfl | rfl
    · cases e
    · rcases hr with rfl | rfl
      · cases e
      · cases e; decide
    · cases e; decide
    · cases e; decide
  · unfold am_gi
    split
    · exact lt_rg t9 j k _ hxr
    · show am_rg (if t9 = 999 then cs_i (([] : List cs_C).getD j cs_d).2.2.2 k else 0)
      split
      · exact am_rg0
      · exact am_rg0
  · by_cases c : id.1 < 1000
    · obtain ⟨-, g3⟩ := mh_S0_1 hl c
      exact absurd g3 (Nat.not_lt_zero _)
    · have ne : ¬ id.1 = 999 := by omega
      have hr8 : mh_RF id.1 id.2 k = some id' := (if_neg ne).symm.trans hr9
      obtain ⟨rfl, e⟩ := mh_RFc (by omega) hr8
      rcases hl with ⟨z, -⟩ | ⟨-, z⟩
      · exact absurd z ne
      · rw [e] at z
        exact Or.inr ⟨by show 1001 ≠ 999; omega, z⟩
  · rcases hst q hq with rfl | rfl | rfl | rfl
    · show am_rg 1; unfold am_rg; omega
    · rcases hr with rfl | rfl
      · trivial
      · exact Or.inr ⟨by decide, by decide⟩
    · exact Or.inr ⟨by decide, by decide⟩
    · exact Or.inr ⟨by decide, by decide⟩
  · obtain ⟨t9, j⟩ := id
    have g1 : 1000 ≤ t9 := g1
    have g2 : t9 < 1100 := g2
    have g3 : j < mh_S0 t9 := g3
    rw [mh_S0_c g1] at g3
    unfold mh_SC at g3
    rw [if_neg (by omega)] at g3
    by_cases c0 : t9 = 1000
    · subst c0
      have hj : j < 91 := g3
      obtain ⟨-, h1, h2, h3, -⟩ := hf j hj
      have e := am_cE_o (cI := cI) (G := mh_G (fun k => (xs k).toInt, L, lt_st r)) (ad := ad) (w := cs_W []) (t := 1000) (j := j) (ci := 11) rfl
      have e9 : (List.range (am_nF 11)).map (fun k => am_cv ad (am_fv (mh_G (fun k => (xs k).toInt, L, lt_st r)) (cs_W []) 1000 j 11 k)) = [.ref (f j).2, .int 0] := by
        show [Value.ref (ad (1001, j)), .int (Int32.ofInt 0)] = _
        rw [ad1]
        rfl
      rw [e9] at e
      rw [e]
      show am_ca s Dg 111 (ad (1000, j), _) s.heap ∧ ad (1000, j) < s.heap.size ∧ _
      rw [ad0]
      exact ls_caS (hK.1 11 _ hc_11) h1 h2 h3
    rw [if_neg c0] at g3
    by_cases c1 : t9 = 1001
    · subst c1
      have hj : j < 91 := g3
      obtain ⟨-, -, -, -, h4⟩ := hf j hj
      have e := am_cE_i (cI := cI) (G := mh_G (fun k => (xs k).toInt, L, lt_st r)) (ad := ad) (w := cs_W []) (t := 1001) (j := j) (kd := 3) rfl (by decide) (by decide)
      rw [e]
      show am_ca s Dg 3 (ad (1001, j), _) s.heap ∧ ad (1001, j) < s.heap.size ∧ _
      rw [ad1]
      exact ls_caT h4 (fun k _ => rfl)
    rw [if_neg c1] at g3
    by_cases c2 : t9 = 1002
    · subst c2
      obtain rfl : j = 0 := by
        have : j < 1 := g3
        omega
      have e := am_cE_i (cI := cI) (G := mh_G (fun k => (xs k).toInt, L, lt_st r)) (ad := ad) (w := cs_W []) (t := 1002) (j := 0) (kd := 0) rfl (by decide) (by decide)
      rw [e]
      show am_ca s Dg 0 (ad (1002, 0), _) s.heap ∧ ad (1002, 0) < s.heap.size ∧ _
      rw [ad2]
      exact ls_caX hX hA (fun k _ => am_ofT (xs k))
    rw [if_neg c2] at g3
    by_cases c3 : t9 = 1003
    · subst c3
      obtain rfl : j = 0 := by
        have : j < 1 := g3
        omega
      have e := am_cE_i (cI := cI) (G := mh_G (fun k => (xs k).toInt, L, lt_st r)) (ad := ad) (w := cs_W []) (t := 1003) (j := 0) (kd := 3) rfl (by decide) (by decide)
      rw [e]
      show am_ca s Dg 3 (ad (1003, 0), _) s.heap ∧ ad (1003, 0) < s.heap.size ∧ _
      rw [ad3]
      refine ls_caT (n := 100) t1 (fun k hk => ?_)
      show Int32.ofInt (if k < 100 then ((48 + k % 10 : Nat) : Int) else 0) = _
      rw [if_pos hk]
      unfold ls_do
      rw [List.getD_eq_getElem?_getD, List.getElem?_map, List.getElem?_range hk]
      rfl
    rw [if_neg c3] at g3
    by_cases c4 : t9 = 1004
    · subst c4
      obtain rfl : j = 0 := by
        have : j < 1 := g3
        omega
      have e := am_cE_i (cI := cI) (G := mh_G (fun k => (xs k).toInt, L, lt_st r)) (ad := ad) (w := cs_W []) (t := 1004) (j := 0) (kd := 3) rfl (by decide) (by decide)
      rw [e]
      show am_ca s Dg 3 (ad (1004, 0), _) s.heap ∧ ad (1004, 0) < s.heap.size ∧ _
      rw [ad4]
      refine ls_caT (n := 100) t2 (fun k hk => ?_)
      show Int32.ofInt (if k < 100 then ((48 + k / 10 : Nat) : Int) else 0) = _
      rw [if_pos hk]
      unfold ls_dt
      rw [List.getD_eq_getElem?_getD, List.getElem?_map, List.getElem?_range hk]
      rfl
    rw [if_neg c4, if_neg (by omega)] at g3
    exact absurd g3 (Nat.not_lt_zero _)
  · obtain ⟨hlt, e⟩ := lt_ld hq
    obtain ⟨h0, -⟩ := hf _ hlt
    rw [ad0]
    rw [e] at h0
    exact vk_R.of (hts _ (List.mem_append_right _ (lt_ldc.subset (List.mem_map.mpr ⟨q, hq, rfl⟩)))) h0
  · exact va_Nw.of rfl (hts _ (List.mem_append_right _ (lt_nst.subset (List.mem_map.mpr ⟨q, hq, rfl⟩))))
  · rcases List.mem_cons.mp hy with rfl | hy
    · exact am_pv_of (hts _ wt_2307)
    rcases List.mem_cons.mp hy with rfl | hy
    · exact am_pv_of (hts _ wt_2359)
    rcases List.mem_cons.mp hy with rfl | hy
    · exact am_pv_of (hts _ wt_2363)
    · cases hy
  · rcases List.mem_cons.mp hty with rfl | hty
    · exact am_AO.of (hts _ wt_209)
    rcases List.mem_cons.mp hty with rfl | hty
    · exact am_AO.of (hts _ wt_393)
    rcases List.mem_cons.mp hty with rfl | hty
    · exact am_AO.of (hts _ wt_1519)
    rcases List.mem_cons.mp hty with rfl | hty
    · exact am_AO.of (hts _ wt_1515)
    rcases List.mem_cons.mp hty with rfl | hty
    · exact am_AO.of (hts _ wt_1517)
    · cases hty
  · rcases hst q hq with rfl | rfl | rfl | rfl
    · exact z0
    · rcases hr with rfl | rfl
      · exact zf
      · show va_Z _ _ _ (.ref (ad (1100, 0))) _ s s.heap
        rw [ad5]
        exact zf
    · show va_Z _ _ _ (.ref (ad (1003, 0))) _ s s.heap
      rw [ad3]
      exact z1
    · show va_Z _ _ _ (.ref (ad (1004, 0))) _ s s.heap
      rw [ad4]
      exact z2
end LT
