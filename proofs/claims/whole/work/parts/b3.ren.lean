-- CELLS THAT WERE MADE GET THEIR FIXED NAMES
section AMREN
variable {G : am_G} {SC SC' : Nat → Nat} {Dg : va_G} {cI : Nat → ClassId} {s : State} {A : Nat → Prop} {ad : am_I → Nat} {w w' : am_W} {H : Heap} {locs : List Loc} {sg : am_I → am_I}
/-- cell by cell the worlds agree -/
def am_same (G : am_G) (sg : am_I → am_I) (w' w : am_W) (id : am_I) : Prop := am_kd G w' id.1 id.2 = am_kd G w (sg id).1 (sg id).2 ∧ am_ln G w' id.1 id.2 = am_ln G w (sg id).1 (sg id).2 ∧ (∀ k, am_gi G w' id.1 id.2 k = am_gi G w (sg id).1 (sg id).2 k) ∧ (∀ k, am_gl w' id.1 id.2 k = am_gl w (sg id).1 (sg id).2 k) ∧ ∀ k, k < am_ext G w' id.1 id.2 → (am_gr G w' id.1 id.2 k).map sg = am_gr G w (sg id).1 (sg id).2 k
theorem am_same_cE {id : am_I} (h : am_same G sg w' w id) : am_cE cI G (fun x => ad (sg x)) w' id = am_cE cI G ad w (sg id) := by
  obtain ⟨h1, h2, h3, h4, h5⟩ := h
  have h6 : ∀ k, k < am_ext G w' id.1 id.2 → (am_gr G w' id.1 id.2 k).map (fun x => ad (sg x)) = (am_gr G w (sg id).1 (sg id).2 k).map ad := fun k hk => by
    rw [← h5 k hk, Option.map_map]; rfl
  unfold am_ext at h6
  unfold am_cE
  rw [h1] at h6 ⊢
  by_cases c : am_kd G w (sg id).1 (sg id).2 < 100
  · rw [if_pos c] at h6
    rw [if_pos c, if_pos c, h2]
    unfold am_ar
    rw [h1]
    simp only [h3, h4, h2]
    have e7 : (fun k => if k < am_ln G w (sg id).1 (sg id).2 then (am_gr G w' id.1 id.2 k).map (fun x => ad (sg x)) else none) = (fun k => if k < am_ln G w (sg id).1 (sg id).2 then (am_gr G w (sg id).1 (sg id).2 k).map ad else none) := by
      funext k
      by_cases hk : k < am_ln G w (sg id).1 (sg id).2
      · rw [if_pos hk, if_pos hk]
        exact h6 k (by rw [h2]; exact hk)
      · rw [if_neg hk, if_neg hk]
    rw [e7]
  · rw [if_neg c] at h6
    rw [if_neg c, if_neg c]
    congr 2
    apply List.map_congr_left
    intro k hk
    have h7 := h6 k (List.mem_range.mp hk)
    unfold am_fv
    rw [h3, h4]
    split
    · rfl
    · split
      · exact congrArg va_rf h7
      · rfl
theorem am_ren (h : am_H G SC Dg cI s A ad w H locs) (h1 : ∀ id : am_I, am_lv SC' w' id → id.1 < 1000 → am_lv SC w (sg id) ∧ (sg id).1 < 1000)
    (h2 : ∀ id id' : am_I, am_lv SC' w' id → am_lv SC' w' id' → id.1 < 1000 → id'.1 < 1000 → sg id = sg id' → id = id') (h3 : ∀ id : am_I, 1000 ≤ id.1 → sg id = id) (h4 : ∀ t, 1000 ≤ t → SC' t = SC t)
    (h5 : ∀ id : am_I, am_lv SC' w' id → id.1 < 1000 → am_same G sg w' w id) (h6 : am_wf G SC' w') (h7 : ∀ (id : am_I) (k : Nat) (id' : am_I), 1000 ≤ id.1 → G.1 id.1 id.2 k = some id' → 1000 ≤ id'.1) (h8 : ∀ q ∈ G.2.2.2.2, ∀ id : am_I, q.2.2.2 = .inr (.inr (some id)) → 1000 ≤ id.1) :
    am_H G SC' Dg cI s A (fun id => ad (sg id)) w' H locs := by
  obtain ⟨i1, i2, i3, i4, i5, i6, i7⟩ := h
  have key : ∀ (k : Nat) (q : Nat × va_E), (am_wsl G SC' cI (fun id => ad (sg id)) w')[k]? = some q → ∃ id : am_I, (am_ids SC' w')[k]? = some id ∧ (am_lv SC' w' id ∧ id.1 < 1000) ∧ q = (ad (sg id), am_cE cI G ad w (sg id)) ∧ ∃ q0 : Nat, (am_ids SC w)[q0]? = some (sg id) ∧ (am_wsl G SC cI ad w)[q0]? = some q := by
    intro k q hk
    obtain ⟨id, g1, g2⟩ := am_wsl_of hk
    have g3 := am_ids_mem.mp (List.mem_of_getElem? g1)
    have e : q = (ad (sg id), am_cE cI G ad w (sg id)) := by rw [g2, am_same_cE (h5 id g3.1 g3.2)]
    obtain ⟨q0, a1, a2⟩ := am_wsl_at (G := G) (cI := cI) (ad := ad) (am_ids_mem.mpr (h1 id g3.1 g3.2))
    exact ⟨id, g1, g3, e, q0, a1, by rw [e]; exact a2⟩
  refine ⟨fun k q hk => ?_, ⟨fun i j p q hp hq e => ?_, fun k q hk => ?_⟩, i3, i4, h6, fun id g1 g2 g3 => ?_, ?_⟩
  · obtain ⟨id, -, -, -, q0, -, a2⟩ := key k q hk
    exact i1 q0 q a2
  · obtain ⟨x, b1, b2, b3, q0, b4, b5⟩ := key i p hp
    obtain ⟨y, c1, c2, c3, q1, c4, c5⟩ := key j q hq
    have e1 : q0 = q1 := i2.1 q0 q1 p q b5 c5 e
    subst e1
    have e2 : sg x = sg y := Option.some.inj (b4.symm.trans c4)
    have e3 := h2 x y b2.1 c2.1 b2.2 c2.2 e2
    subst e3
    have l1 := (List.getElem?_eq_some_iff.mp b1)
    have l2 := (List.getElem?_eq_some_iff.mp c1)
    exact (List.getElem_inj (am_ids_nd SC' w')).mp (l1.2.trans l2.2.symm)
  · obtain ⟨id, -, -, -, q0, -, a2⟩ := key k q hk
    exact i2.2 q0 q a2
  · rw [h4 id.1 g1] at g3
    have s1 : sg id = id := h3 id g1
    have ne : id.1 ≠ 999 := by omega
    have sm : am_same G sg w' w id := by
      unfold am_same
      rw [s1]
      refine ⟨?_, ?_, fun k => ?_, fun k => ?_, fun k hk => ?_⟩
      · unfold am_kd; rw [if_neg ne, if_neg ne]
      · unfold am_ln; rw [if_neg ne, if_neg ne]
      · unfold am_gi; rw [if_pos g1, if_pos g1]
      · unfold am_gl; rw [if_pos g1, if_pos g1]
      · unfold am_gr; rw [if_neg ne, if_neg ne]
        cases hr : G.1 id.1 id.2 k with
        | none => rfl
        | some id' => exact congrArg some (h3 id' (h7 id k id' g1 hr))
    obtain ⟨a1, a2, a3⟩ := i6 id g1 g2 g3
    have e9 := am_same_cE (cI := cI) (ad := ad) sm
    rw [s1] at e9
    refine ⟨?_, ?_, ?_⟩
    · show am_ca s Dg (G.2.1 id.1 id.2) (ad (sg id), _) s.heap
      rw [e9, s1]; exact a1
    · show ad (sg id) < _; rw [s1]; exact a2
    · show ¬ A (ad (sg id)); rw [s1]; exact a3
  · refine ⟨fun q hq => ?_, i7.2.1, fun q hq => ?_⟩
    · show vk_R q.1 q.2.1 q.2.2.1 (ad (sg (1000, q.2.2.2))) s
      rw [h3 _ (show 1000 ≤ 1000 from Nat.le_refl _)]
      exact i7.1 q hq
    · have e : am_cv (fun id => ad (sg id)) q.2.2.2 = am_cv ad q.2.2.2 := by
        cases hv : q.2.2.2 with
        | inl z => rfl
        | inr v =>
          cases v with
          | inl x => rfl
          | inr r =>
            cases r with
            | none => rfl
            | some id => show va_rf (some (ad (sg id))) = va_rf (some (ad id)); rw [h3 id (h8 q hq id hv)]
      rw [e]
      exact i7.2.2 q hq
end AMREN
