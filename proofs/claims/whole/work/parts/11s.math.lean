-- RULES: Math.max and Math.min, by the library's contracts
theorem wm_max : Cond.code Lib.Math.max.name Lib.Math.max.code 2 (some .int) ∈ am_TW := am_tk3 (List.mem_of_getElem? (i := 195) (by decide +kernel)) rfl
theorem wms_max : Cond.static Lib.Math.max.name ∈ am_TW := am_tk3 (List.mem_of_getElem? (i := 194) (by decide +kernel)) rfl
theorem wm_min : Cond.code Lib.Math.min.name Lib.Math.min.code 2 (some .int) ∈ am_TW := am_tk3 (List.mem_of_getElem? (i := 192) (by decide +kernel)) rfl
theorem wms_min : Cond.static Lib.Math.min.name ∈ am_TW := am_tk3 (List.mem_of_getElem? (i := 191) (by decide +kernel)) rfl
theorem wmi : Cond.initialized "java/lang/Math" ∈ am_TW := am_tk1 (List.mem_of_getElem? (i := 17) (by decide +kernel)) rfl
section AMX
variable {G : am_G} {SC : Nat → Nat} {d : Nat} {Y : am_Y} {Q : Option am_V → am_W → Prop} {pc bc bs : Nat} {ls : List (Nat × am_V)} {st : List am_V} {w : am_W}
theorem am_mmax {idx : Nat} {a b : Int} (hd : decode Y.2.1 pc = .ok (.invokestatic idx, 3)) (hlink : Cond.methodLink Y.1.cls idx Lib.Math.max.name ∈ am_TW) (hdd : 1 ≤ d) (hcat : (st.map am_cat).sum ≤ 8) (k : am_A G SC d Y Q (pc + 3) ls (.inl (max a b) :: st) w bc bs) : am_A G SC d Y Q pc ls (.inl b :: .inl a :: st) w bc bs := by
  intro p l e R s m args below meth c H locs cells slots QQ Dg cI ad A lsA ad0 w0 hX hH hg h1 h2 hl ho hs hR
  obtain ⟨x1, x2, x3, x4, x5, x6, x7, x8, x9, x10, x11⟩ := id hX
  have rb : am_rg b := am_o1 hs
  have ra : am_rg a := am_o1 (am_o2 hs)
  have hc9 : ((st.map (am_cv ad)).map fun v => v.category).sum ≤ 8 := by rw [List.map_map]; show (st.map (fun v => (am_cv ad v).category)).sum ≤ 8; rw [show (fun v => (am_cv ad v).category) = am_cat from funext (am_cat_cv ad)]; exact hcat
  have hrv : am_rg (max a b) := by unfold am_rg at ra rb ⊢; omega
  have q := k p l e R s m args below meth c H locs cells slots QQ Dg cI ad A lsA ad0 w0 hX hH hg h1 h2 hl ho (am_oc hrv (am_o2 (am_o2 hs))) hR
  have e9 : (if Int32.ofInt a < Int32.ofInt b then Int32.ofInt b else Int32.ofInt a) = Int32.ofInt (max a b) := by
    have hlt := am_ltI ra rb
    by_cases h : Int32.ofInt a < Int32.ofInt b
    · have h9 := hlt.mp h
      rw [if_pos h, show max a b = b by omega]
    · have h9 : ¬ _ := fun z => h (hlt.mpr z)
      rw [if_neg h, show max a b = a by omega]
  refine va_mmax x1 x2 (x3.trans hl.1.symm) x6 (x7 _ hlink) (x7 _ wms_max) (x7 _ wmi) (x7 _ wm_max) (by omega) (by omega) (by omega) (by omega) hd ?_
  rw [e9]
  exact q
theorem am_mmin {idx : Nat} {a b : Int} (hd : decode Y.2.1 pc = .ok (.invokestatic idx, 3)) (hlink : Cond.methodLink Y.1.cls idx Lib.Math.min.name ∈ am_TW) (hdd : 1 ≤ d) (hcat : (st.map am_cat).sum ≤ 8) (k : am_A G SC d Y Q (pc + 3) ls (.inl (min a b) :: st) w bc bs) : am_A G SC d Y Q pc ls (.inl b :: .inl a :: st) w bc bs := by
  intro p l e R s m args below meth c H locs cells slots QQ Dg cI ad A lsA ad0 w0 hX hH hg h1 h2 hl ho hs hR
  obtain ⟨x1, x2, x3, x4, x5, x6, x7, x8, x9, x10, x11⟩ := id hX
  have rb : am_rg b := am_o1 hs
  have ra : am_rg a := am_o1 (am_o2 hs)
  have hc9 : ((st.map (am_cv ad)).map fun v => v.category).sum ≤ 8 := by rw [List.map_map]; show (st.map (fun v => (am_cv ad v).category)).sum ≤ 8; rw [show (fun v => (am_cv ad v).category) = am_cat from funext (am_cat_cv ad)]; exact hcat
  have hrv : am_rg (min a b) := by unfold am_rg at ra rb ⊢; omega
  have q := k p l e R s m args below meth c H locs cells slots QQ Dg cI ad A lsA ad0 w0 hX hH hg h1 h2 hl ho (am_oc hrv (am_o2 (am_o2 hs))) hR
  have e9 : (if Int32.ofInt b < Int32.ofInt a then Int32.ofInt b else Int32.ofInt a) = Int32.ofInt (min a b) := by
    have hlt := am_ltI rb ra
    by_cases h : Int32.ofInt b < Int32.ofInt a
    · have h9 := hlt.mp h
      rw [if_pos h, show min a b = b by omega]
    · have h9 : ¬ _ := fun z => h (hlt.mpr z)
      rw [if_neg h, show min a b = a by omega]
  refine va_mmin x1 x2 (x3.trans hl.1.symm) x6 (x7 _ hlink) (x7 _ wms_min) (x7 _ wmi) (x7 _ wm_min) (by omega) (by omega) (by omega) (by omega) hd ?_
  rw [e9]
  exact q
end AMX
