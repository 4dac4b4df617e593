-- ONE COMPONENT CHANGES (written by gencomp.py)
theorem mh_E_T {a b a' b' : am_W} (h : mh_E a b) (f : ∀ t, t ∉ [2, 24, 25, 26] → a'.1 t = a.1 t) (fo : ∀ k, k ∉ [3, 4, 5, 6, 7, 8, 9] → a'.1 2 0 k = a.1 2 0 k) (fl : a'.2.1 = a.2.1) (g : mh_fm [66, 93, 94, 95] [1, 2, 3, 4, 30, 31, 32] b b') (w : mh_RT a'.1 b'.1) : mh_E a' b' := by
  obtain ⟨⟨h1, h2⟩, h3, h4, h5, h6, h7, h8, h9⟩ := h
  have F : ∀ (l : List Nat), (∀ t, t ∈ l → t ∉ [2, 24, 25, 26]) → ∀ t, t ∈ l → a'.1 t = a.1 t := fun l q t ht => f t (q t ht)
  have G : ∀ (l : List Nat), (∀ t, t ∈ l → t ∉ [66, 93, 94, 95] ∧ ¬ t = 9) → ∀ t, t ∈ l → b'.1 t = b.1 t := fun l q t ht => g.1 t (q t ht).1 (q t ht).2
  have G9 : ∀ (l : List Nat), (∀ t, t ∈ l → t ∉ [1, 2, 3, 4, 30, 31, 32]) → ∀ t, t ∈ l → b'.1 9 0 t = b.1 9 0 t := fun l q t ht => g.2.1 t (q t ht)
  have e1 : ∀ k, a'.1 1 0 k = a.1 1 0 k := fun k => by rw [f 1 (by decide)]
  have e2 : ∀ k, k ∉ [3, 4, 5, 6, 7, 8, 9] → a'.1 2 0 k = a.1 2 0 k := fo
  have e3 : ∀ k, a'.1 3 0 k = a.1 3 0 k := fun k => by rw [f 3 (by decide)]
  have e4 : ∀ k, a'.1 4 0 k = a.1 4 0 k := fun k => by rw [f 4 (by decide)]
  have e5 : ∀ k, a'.1 5 0 k = a.1 5 0 k := fun k => by rw [f 5 (by decide)]
  have hn : a.1 1 0 12 ≤ a'.1 1 0 12 := by rw [e1 12]; exact Int.le_refl _
  refine ⟨⟨mh_Wr_s h1 (F _ (by decide)), mh_We_s h2 (F _ (by decide)) (G _ (by decide)) (G9 _ (by decide))⟩, ?_, ?_, ?_, ?_, ?_, ?_, ?_⟩
  · unfold mh_RN at *
    rw [g.2.1 33 (by decide), e1 12]; exact h3
  · exact w
  · exact mh_RL_s h5 hn (e4 5) (F _ (by decide)) (G _ (by decide)) (g.2.1 21 (by decide))
  · exact mh_RK_s h6 hn (fun k _ => e5 k) (F _ (by decide)) (fun t _ => by rw [fl]) (by rw [fl]) (G _ (by decide)) (G9 _ (by decide))
  · exact mh_RO_s h7 (e4 6) (F _ (by decide)) (G _ (by decide)) (g.2.1 52 (by decide))
  · exact mh_RD_s h8 hn (by rw [e5 18]; exact Int.le_refl _) (e1 11) (F _ (by decide)) (G _ (by decide)) (g.2.1 70 (by decide))
  · exact mh_RP_s h9 (e3 1) (f 27 (by decide)) (g.1 143 (by decide) (by decide)) (g.2.1 99 (by decide))
theorem mh_E_F {a b a' b' : am_W} (h : mh_E a b) (f : ∀ t, t ∉ [5, 33, 34, 35, 36, 37, 38, 39, 40, 44, 45, 46, 47] → a'.1 t = a.1 t) (fo : ∀ k, k ∉ [18, 19] → a'.1 5 0 k = a.1 5 0 k) (fp : a.1 5 0 18 ≤ a'.1 5 0 18) (g : mh_fm [96, 97, 98, 99, 100, 101, 102, 103, 104, 105, 106, 107] [42, 47] b b') (w : mh_RK a'.1 a'.2.1 b'.1) : mh_E a' b' := by
  obtain ⟨⟨h1, h2⟩, h3, h4, h5, h6, h7, h8, h9⟩ := h
  have F : ∀ (l : List Nat), (∀ t, t ∈ l → t ∉ [5, 33, 34, 35, 36, 37, 38, 39, 40, 44, 45, 46, 47]) → ∀ t, t ∈ l → a'.1 t = a.1 t := fun l q t ht => f t (q t ht)
  have G : ∀ (l : List Nat), (∀ t, t ∈ l → t ∉ [96, 97, 98, 99, 100, 101, 102, 103, 104, 105, 106, 107] ∧ ¬ t = 9) → ∀ t, t ∈ l → b'.1 t = b.1 t := fun l q t ht => g.1 t (q t ht).1 (q t ht).2
  have G9 : ∀ (l : List Nat), (∀ t, t ∈ l → t ∉ [42, 47]) → ∀ t, t ∈ l → b'.1 9 0 t = b.1 9 0 t := fun l q t ht => g.2.1 t (q t ht)
  have e1 : ∀ k, a'.1 1 0 k = a.1 1 0 k := fun k => by rw [f 1 (by decide)]
  have e2 : ∀ k, a'.1 2 0 k = a.1 2 0 k := fun k => by rw [f 2 (by decide)]
  have e3 : ∀ k, a'.1 3 0 k = a.1 3 0 k := fun k => by rw [f 3 (by decide)]
  have e4 : ∀ k, a'.1 4 0 k = a.1 4 0 k := fun k => by rw [f 4 (by decide)]
  have e5 : ∀ k, k ∉ [18, 19] → a'.1 5 0 k = a.1 5 0 k := fo
  have hn : a.1 1 0 12 ≤ a'.1 1 0 12 := by rw [e1 12]; exact Int.le_refl _
  refine ⟨⟨mh_Wr_s h1 (F _ (by decide)), mh_We_s h2 (F _ (by decide)) (G _ (by decide)) (G9 _ (by decide))⟩, ?_, ?_, ?_, ?_, ?_, ?_, ?_⟩
  · unfold mh_RN at *
    rw [g.2.1 33 (by decide), e1 12]; exact h3
  · exact mh_RT_s h4 (fun k hk => e2 k) (f 24 (by decide)) (g.1 66 (by decide) (by decide)) (G9 _ (by decide))
  · exact mh_RL_s h5 hn (e4 5) (F _ (by decide)) (G _ (by decide)) (g.2.1 21 (by decide))
  · exact w
  · exact mh_RO_s h7 (e4 6) (F _ (by decide)) (G _ (by decide)) (g.2.1 52 (by decide))
  · exact mh_RD_s h8 hn fp (e1 11) (F _ (by decide)) (G _ (by decide)) (g.2.1 70 (by decide))
  · exact mh_RP_s h9 (e3 1) (f 27 (by decide)) (g.1 143 (by decide) (by decide)) (g.2.1 99 (by decide))
theorem mh_E_O {a b a' b' : am_W} (h : mh_E a b) (f : ∀ t, t ∉ [4, 29, 30, 31, 32] → a'.1 t = a.1 t) (fo : ∀ k, k ∉ [6] → a'.1 4 0 k = a.1 4 0 k) (fl : a'.2.1 = a.2.1) (g : mh_fm [108, 109, 110, 111] [52] b b') (w : mh_RO a'.1 b'.1) : mh_E a' b' := by
  obtain ⟨⟨h1, h2⟩, h3, h4, h5, h6, h7, h8, h9⟩ := h
  have F : ∀ (l : List Nat), (∀ t, t ∈ l → t ∉ [4, 29, 30, 31, 32]) → ∀ t, t ∈ l → a'.1 t = a.1 t := fun l q t ht => f t (q t ht)
  have G : ∀ (l : List Nat), (∀ t, t ∈ l → t ∉ [108, 109, 110, 111] ∧ ¬ t = 9) → ∀ t, t ∈ l → b'.1 t = b.1 t := fun l q t ht => g.1 t (q t ht).1 (q t ht).2
  have G9 : ∀ (l : List Nat), (∀ t, t ∈ l → t ∉ [52]) → ∀ t, t ∈ l → b'.1 9 0 t = b.1 9 0 t := fun l q t ht => g.2.1 t (q t ht)
  have e1 : ∀ k, a'.1 1 0 k = a.1 1 0 k := fun k => by rw [f 1 (by decide)]
  have e2 : ∀ k, a'.1 2 0 k = a.1 2 0 k := fun k => by rw [f 2 (by decide)]
  have e3 : ∀ k, a'.1 3 0 k = a.1 3 0 k := fun k => by rw [f 3 (by decide)]
  have e4 : ∀ k, k ∉ [6] → a'.1 4 0 k = a.1 4 0 k := fo
  have e5 : ∀ k, a'.1 5 0 k = a.1 5 0 k := fun k => by rw [f 5 (by decide)]
  have hn : a.1 1 0 12 ≤ a'.1 1 0 12 := by rw [e1 12]; exact Int.le_refl _
  refine ⟨⟨mh_Wr_s h1 (F _ (by decide)), mh_We_s h2 (F _ (by decide)) (G _ (by decide)) (G9 _ (by decide))⟩, ?_, ?_, ?_, ?_, ?_, ?_, ?_⟩
  · unfold mh_RN at *
    rw [g.2.1 33 (by decide), e1 12]; exact h3
  · exact mh_RT_s h4 (fun k hk => e2 k) (f 24 (by decide)) (g.1 66 (by decide) (by decide)) (G9 _ (by decide))
  · exact mh_RL_s h5 hn (e4 5 (by decide)) (F _ (by decide)) (G _ (by decide)) (g.2.1 21 (by decide))
  · exact mh_RK_s h6 hn (fun k _ => e5 k) (F _ (by decide)) (fun t _ => by rw [fl]) (by rw [fl]) (G _ (by decide)) (G9 _ (by decide))
  · exact w
  · exact mh_RD_s h8 hn (by rw [e5 18]; exact Int.le_refl _) (e1 11) (F _ (by decide)) (G _ (by decide)) (g.2.1 70 (by decide))
  · exact mh_RP_s h9 (e3 1) (f 27 (by decide)) (g.1 143 (by decide) (by decide)) (g.2.1 99 (by decide))
theorem mh_E_D {a b a' b' : am_W} (h : mh_E a b) (f : ∀ t, t ∉ [1, 20, 21, 22] → a'.1 t = a.1 t) (fo : ∀ k, k ∉ [11] → a'.1 1 0 k = a.1 1 0 k) (fl : a'.2.1 = a.2.1) (g : mh_fm [122, 123, 124] [70] b b') (w : mh_RD a'.1 b'.1) : mh_E a' b' := by
  obtain ⟨⟨h1, h2⟩, h3, h4, h5, h6, h7, h8, h9⟩ := h
  have F : ∀ (l : List Nat), (∀ t, t ∈ l → t ∉ [1, 20, 21, 22]) → ∀ t, t ∈ l → a'.1 t = a.1 t := fun l q t ht => f t (q t ht)
  have G : ∀ (l : List Nat), (∀ t, t ∈ l → t ∉ [122, 123, 124] ∧ ¬ t = 9) → ∀ t, t ∈ l → b'.1 t = b.1 t := fun l q t ht => g.1 t (q t ht).1 (q t ht).2
  have G9 : ∀ (l : List Nat), (∀ t, t ∈ l → t ∉ [70]) → ∀ t, t ∈ l → b'.1 9 0 t = b.1 9 0 t := fun l q t ht => g.2.1 t (q t ht)
  have e1 : ∀ k, k ∉ [11] → a'.1 1 0 k = a.1 1 0 k := fo
  have e2 : ∀ k, a'.1 2 0 k = a.1 2 0 k := fun k => by rw [f 2 (by decide)]
  have e3 : ∀ k, a'.1 3 0 k = a.1 3 0 k := fun k => by rw [f 3 (by decide)]
  have e4 : ∀ k, a'.1 4 0 k = a.1 4 0 k := fun k => by rw [f 4 (by decide)]
  have e5 : ∀ k, a'.1 5 0 k = a.1 5 0 k := fun k => by rw [f 5 (by decide)]
  have hn : a.1 1 0 12 ≤ a'.1 1 0 12 := by rw [e1 12 (by decide)]; exact Int.le_refl _
  refine ⟨⟨mh_Wr_s h1 (F _ (by decide)), mh_We_s h2 (F _ (by decide)) (G _ (by decide)) (G9 _ (by decide))⟩, ?_, ?_, ?_, ?_, ?_, ?_, ?_⟩
  · unfold mh_RN at *
    rw [g.2.1 33 (by decide), e1 12 (by decide)]; exact h3
  · exact mh_RT_s h4 (fun k hk => e2 k) (f 24 (by decide)) (g.1 66 (by decide) (by decide)) (G9 _ (by decide))
  · exact mh_RL_s h5 hn (e4 5) (F _ (by decide)) (G _ (by decide)) (g.2.1 21 (by decide))
  · exact mh_RK_s h6 hn (fun k _ => e5 k) (F _ (by decide)) (fun t _ => by rw [fl]) (by rw [fl]) (G _ (by decide)) (G9 _ (by decide))
  · exact mh_RO_s h7 (e4 6) (F _ (by decide)) (G _ (by decide)) (g.2.1 52 (by decide))
  · exact w
  · exact mh_RP_s h9 (e3 1) (f 27 (by decide)) (g.1 143 (by decide) (by decide)) (g.2.1 99 (by decide))
theorem mh_E_P {a b a' b' : am_W} (h : mh_E a b) (f : ∀ t, t ∉ [3, 27] → a'.1 t = a.1 t) (fo : ∀ k, k ∉ [1] → a'.1 3 0 k = a.1 3 0 k) (fl : a'.2.1 = a.2.1) (g : mh_fm [142, 143] [98, 99] b b') (w : mh_RP a'.1 b'.1) : mh_E a' b' := by
  obtain ⟨⟨h1, h2⟩, h3, h4, h5, h6, h7, h8, h9⟩ := h
  have F : ∀ (l : List Nat), (∀ t, t ∈ l → t ∉ [3, 27]) → ∀ t, t ∈ l → a'.1 t = a.1 t := fun l q t ht => f t (q t ht)
  have G : ∀ (l : List Nat), (∀ t, t ∈ l → t ∉ [142, 143] ∧ ¬ t = 9) → ∀ t, t ∈ l → b'.1 t = b.1 t := fun l q t ht => g.1 t (q t ht).1 (q t ht).2
  have G9 : ∀ (l : List Nat), (∀ t, t ∈ l → t ∉ [98, 99]) → ∀ t, t ∈ l → b'.1 9 0 t = b.1 9 0 t := fun l q t ht => g.2.1 t (q t ht)
  have e1 : ∀ k, a'.1 1 0 k = a.1 1 0 k := fun k => by rw [f 1 (by decide)]
  have e2 : ∀ k, a'.1 2 0 k = a.1 2 0 k := fun k => by rw [f 2 (by decide)]
  have e3 : ∀ k, k ∉ [1] → a'.1 3 0 k = a.1 3 0 k := fo
  have e4 : ∀ k, a'.1 4 0 k = a.1 4 0 k := fun k => by rw [f 4 (by decide)]
  have e5 : ∀ k, a'.1 5 0 k = a.1 5 0 k := fun k => by rw [f 5 (by decide)]
  have hn : a.1 1 0 12 ≤ a'.1 1 0 12 := by rw [e1 12]; exact Int.le_refl _
  refine ⟨⟨mh_Wr_s h1 (F _ (by decide)), mh_We_s h2 (F _ (by decide)) (G _ (by decide)) (G9 _ (by decide))⟩, ?_, ?_, ?_, ?_, ?_, ?_, ?_⟩
  · unfold mh_RN at *
    rw [g.2.1 33 (by decide), e1 12]; exact h3
  · exact mh_RT_s h4 (fun k hk => e2 k) (f 24 (by decide)) (g.1 66 (by decide) (by decide)) (G9 _ (by decide))
  · exact mh_RL_s h5 hn (e4 5) (F _ (by decide)) (G _ (by decide)) (g.2.1 21 (by decide))
  · exact mh_RK_s h6 hn (fun k _ => e5 k) (F _ (by decide)) (fun t _ => by rw [fl]) (by rw [fl]) (G _ (by decide)) (G9 _ (by decide))
  · exact mh_RO_s h7 (e4 6) (F _ (by decide)) (G _ (by decide)) (g.2.1 52 (by decide))
  · exact mh_RD_s h8 hn (by rw [e5 18]; exact Int.le_refl _) (e1 11) (F _ (by decide)) (G _ (by decide)) (g.2.1 70 (by decide))
  · exact w
