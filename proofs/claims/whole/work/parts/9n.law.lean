-- the new law of class and reference, line by line
variable {SC : Nat → Nat} {X : mh_X} {r : Option am_I} {L : List (Nat × Nat)} {B : Nat → Int} {ln : Int}
theorem La_may {a a' b b' : am_W} {l : Nat} {x y : Int} (h : mh_La a.1 b.1 l 6) (FA : tk_CL [153] l a a') (FB : tk_ls [83] b b') (hx : 21 ≤ x ∧ x ≤ 24) (hy : tk_st y)
    (e1 : ∀ i, a'.1 153 l i = if i = (x - 21).toNat then y - 12 else a.1 153 l i) (e2 : ∀ i, b'.1 83 6 i = if i = (x - 21).toNat then y - 12 else b.1 83 6 i) : mh_La a'.1 b'.1 l 6 := by
  have I : ∀ t, t ∈ [10, 144, 145, 146, 147, 148, 149, 150, 151, 152] → a'.1 t = a.1 t := fun t ht => FA.1 t (fun e => by rw [e] at ht; revert ht; decide) (fun e => by simp at e; rw [e] at ht; revert ht; decide)
  have J : ∀ t, t ∈ [68, 69, 71, 73, 75, 78, 81, 85, 87, 88, 89, 90, 91, 92] → b'.1 t = b.1 t := fun t ht => FB.1 t (by revert ht; revert t; decide) (by revert ht; revert t; decide)
  obtain ⟨h1, h2, h3, h4, h5⟩ := h
  unfold mh_La
  simp only [I 10 (by decide), I 144 (by decide), I 145 (by decide), I 146 (by decide), I 147 (by decide), I 148 (by decide), I 149 (by decide), I 150 (by decide), I 151 (by decide), I 152 (by decide), J 68 (by decide), J 69 (by decide), J 71 (by decide), J 73 (by decide), J 75 (by decide), J 78 (by decide), J 81 (by decide), J 85 (by decide), J 87 (by decide), J 88 (by decide), J 89 (by decide), J 90 (by decide), J 91 (by decide), J 92 (by decide)]
  refine ⟨h1, h2, h3, fun i hi => ?_, h5⟩
  rw [e1, e2]
  unfold tk_st at hy
  by_cases z : i = (x - 21).toNat
  · rw [if_pos z, if_pos z]; omega
  · rw [if_neg z, if_neg z]; exact h4 i hi
theorem La_heir {a a' b b' : am_W} {l : Nat} {x y : Int} (h : mh_La a.1 b.1 l 6) (FA : tk_CL [10] l a a') (FB : tk_ls [88, 89] b b') (hx : 1 ≤ x ∧ x ≤ 400) (hy : 0 ≤ y ∧ y ≤ 4)
    (e1 : a'.1 10 l 12 = x ∧ a'.1 10 l 13 = y) (e0 : ∀ k, ¬ k = 12 → ¬ k = 13 → a'.1 10 l k = a.1 10 l k) (e2 : b'.1 88 0 6 = x ∧ b'.1 89 0 6 = y) : mh_La a'.1 b'.1 l 6 := by
  have I : ∀ t, t ∈ [144, 145, 146, 147, 148, 149, 150, 151, 152, 153] → a'.1 t = a.1 t := fun t ht => FA.1 t (fun e => by rw [e] at ht; revert ht; decide) (fun e => by simp at e; rw [e] at ht; revert ht; decide)
  have J : ∀ t, t ∈ [68, 69, 71, 73, 75, 78, 81, 83, 85, 87, 90, 91, 92] → b'.1 t = b.1 t := fun t ht => FB.1 t (by revert ht; revert t; decide) (by revert ht; revert t; decide)
  obtain ⟨h1, h2, h3, h4, h5, h6, h7, h8⟩ := h
  unfold mh_La
  simp only [e0 10 (by decide) (by decide), e0 11 (by decide) (by decide), e0 14 (by decide) (by decide), e0 15 (by decide) (by decide), e0 16 (by decide) (by decide), I 144 (by decide), I 145 (by decide), I 146 (by decide), I 147 (by decide), I 148 (by decide), I 149 (by decide), I 150 (by decide), I 151 (by decide), I 152 (by decide), I 153 (by decide), J 68 (by decide), J 69 (by decide), J 71 (by decide), J 73 (by decide), J 75 (by decide), J 78 (by decide), J 81 (by decide), J 83 (by decide), J 85 (by decide), J 87 (by decide), J 90 (by decide), J 91 (by decide), J 92 (by decide), e1.1, e1.2, e2.1, e2.2]
  exact ⟨h1, h2, h3, h4, ⟨trivial, by omega, hx.2⟩, fun _ => trivial, hy, h8⟩
theorem La_under {a a' b b' : am_W} {l : Nat} {x y : Int} (h : mh_La a.1 b.1 l 6) (FA : tk_CL [10] l a a') (FB : tk_ls [90, 91] b b') (hx : 1 ≤ x ∧ x ≤ 30) (hy : 0 ≤ y ∧ y ≤ 4)
    (e1 : a'.1 10 l 14 = x ∧ a'.1 10 l 15 = y) (e0 : ∀ k, ¬ k = 14 → ¬ k = 15 → a'.1 10 l k = a.1 10 l k) (e2 : b'.1 90 0 6 = x ∧ b'.1 91 0 6 = y) : mh_La a'.1 b'.1 l 6 := by
  have I : ∀ t, t ∈ [144, 145, 146, 147, 148, 149, 150, 151, 152, 153] → a'.1 t = a.1 t := fun t ht => FA.1 t (fun e => by rw [e] at ht; revert ht; decide) (fun e => by simp at e; rw [e] at ht; revert ht; decide)
  have J : ∀ t, t ∈ [68, 69, 71, 73, 75, 78, 81, 83, 85, 87, 88, 89, 92] → b'.1 t = b.1 t := fun t ht => FB.1 t (by revert ht; revert t; decide) (by revert ht; revert t; decide)
  obtain ⟨h1, h2, h3, h4, h5, h6, h7, h8, h9, h10, h11⟩ := h
  unfold mh_La
  simp only [e0 10 (by decide) (by decide), e0 11 (by decide) (by decide), e0 12 (by decide) (by decide), e0 13 (by decide) (by decide), e0 16 (by decide) (by decide), I 144 (by decide), I 145 (by decide), I 146 (by decide), I 147 (by decide), I 148 (by decide), I 149 (by decide), I 150 (by decide), I 151 (by decide), I 152 (by decide), I 153 (by decide), J 68 (by decide), J 69 (by decide), J 71 (by decide), J 73 (by decide), J 75 (by decide), J 78 (by decide), J 81 (by decide), J 83 (by decide), J 85 (by decide), J 87 (by decide), J 88 (by decide), J 89 (by decide), J 92 (by decide), e1.1, e1.2, e2.1, e2.2]
  exact ⟨h1, h2, h3, h4, h5, h6, h7, ⟨trivial, by omega, hx.2⟩, fun _ => trivial, hy, h11⟩
theorem La_wed {a a' b b' : am_W} {l : Nat} {y : Int} (h : mh_La a.1 b.1 l 6) (FA : tk_CL [10] l a a') (FB : tk_ls [92] b b') (hy : 0 ≤ y ∧ y ≤ 4)
    (e1 : a'.1 10 l 16 = y) (e0 : ∀ k, ¬ k = 16 → a'.1 10 l k = a.1 10 l k) (e2 : b'.1 92 0 6 = y) : mh_La a'.1 b'.1 l 6 := by
  have I : ∀ t, t ∈ [144, 145, 146, 147, 148, 149, 150, 151, 152, 153] → a'.1 t = a.1 t := fun t ht => FA.1 t (fun e => by rw [e] at ht; revert ht; decide) (fun e => by simp at e; rw [e] at ht; revert ht; decide)
  have J : ∀ t, t ∈ [68, 69, 71, 73, 75, 78, 81, 83, 85, 87, 88, 89, 90, 91] → b'.1 t = b.1 t := fun t ht => FB.1 t (by revert ht; revert t; decide) (by revert ht; revert t; decide)
  obtain ⟨h1, h2, h3, h4, h5, h6, h7, h8, h9, h10, h11⟩ := h
  unfold mh_La
  simp only [e0 10 (by decide), e0 11 (by decide), e0 12 (by decide), e0 13 (by decide), e0 14 (by decide), e0 15 (by decide), I 144 (by decide), I 145 (by decide), I 146 (by decide), I 147 (by decide), I 148 (by decide), I 149 (by decide), I 150 (by decide), I 151 (by decide), I 152 (by decide), I 153 (by decide), J 68 (by decide), J 69 (by decide), J 71 (by decide), J 73 (by decide), J 75 (by decide), J 78 (by decide), J 81 (by decide), J 83 (by decide), J 85 (by decide), J 87 (by decide), J 88 (by decide), J 89 (by decide), J 90 (by decide), J 91 (by decide), e1, e2]
  exact ⟨h1, h2, h3, h4, h5, h6, h7, h8, h9, h10, Or.inl trivial, hy⟩
theorem La_feast {a a' b b' : am_W} {l fe : Nat} {x y z : Int} (h : mh_La a.1 b.1 l 6) (FA : tk_CL [10, 151, 152] l a a') (FB : tk_ls [69, 85, 87] b b') (hfe : fe < 8) (h11 : a.1 10 l 11 = (fe : Int)) (hx : (1 ≤ x ∧ x ≤ 12) ∧ 1 ≤ y ∧ y ≤ 31) (hz : 0 ≤ z ∧ z ≤ 4)
    (e1 : a'.1 10 l 11 = (fe : Int) + 1) (e0 : ∀ k, ¬ k = 11 → a'.1 10 l k = a.1 10 l k) (e3 : ∀ i, a'.1 151 l i = if i = fe then 100 * x + y else a.1 151 l i) (e4 : ∀ i, a'.1 152 l i = if i = fe then z else a.1 152 l i)
    (f1 : b'.1 69 0 6 = (fe : Int) + 1) (f3 : ∀ i, b'.1 85 6 i = if i = fe then 100 * x + y else b.1 85 6 i) (f4 : ∀ i, b'.1 87 6 i = if i = fe then z else b.1 87 6 i) : mh_La a'.1 b'.1 l 6 := by
  have I : ∀ t, t ∈ [144, 145, 146, 147, 148, 149, 150, 153] → a'.1 t = a.1 t := fun t ht => FA.1 t (fun e => by rw [e] at ht; revert ht; decide) (by revert ht; revert t; decide)
  have J : ∀ t, t ∈ [68, 71, 73, 75, 78, 81, 83, 88, 89, 90, 91, 92] → b'.1 t = b.1 t := fun t ht => FB.1 t (by revert ht; revert t; decide) (by revert ht; revert t; decide)
  obtain ⟨h1, h2, ⟨h3, h3'⟩, h4, h5⟩ := h
  unfold mh_La
  simp only [e0 10 (by decide), e0 12 (by decide), e0 13 (by decide), e0 14 (by decide), e0 15 (by decide), e0 16 (by decide), I 144 (by decide), I 145 (by decide), I 146 (by decide), I 147 (by decide), I 148 (by decide), I 149 (by decide), I 150 (by decide), I 153 (by decide), J 68 (by decide), J 71 (by decide), J 73 (by decide), J 75 (by decide), J 78 (by decide), J 81 (by decide), J 83 (by decide), J 88 (by decide), J 89 (by decide), J 90 (by decide), J 91 (by decide), J 92 (by decide), e1, f1]
  refine ⟨h1, h2, ⟨⟨trivial, by omega, by omega⟩, fun i hi => ?_⟩, h4, h5⟩
  rw [e3, e4, f3, f4]
  by_cases q : i = fe
  · rw [if_pos q, if_pos q, if_pos q, if_pos q]; omega
  · rw [if_neg q, if_neg q, if_neg q, if_neg q]; exact h3' i (by omega)
theorem La_rule {a a' b b' : am_W} {l rr : Nat} (h : mh_La a.1 b.1 l 6) (FA : tk_RF l rr a a') (h10 : a.1 10 l 10 = (rr : Int)) (hz : (tk_ru (tk_cd L B) (tk_vl L B) rr).2 = 0) (hr : rr ≤ 30)
    (J : ∀ t, t ∈ [69, 83, 85, 87, 88, 89, 90, 91, 92] → b'.1 t = b.1 t) (J1 : ∀ x, ¬ x = rr → b'.1 71 6 x = b.1 71 6 x ∧ b'.1 73 6 x = b.1 73 6 x ∧ b'.1 75 6 x = b.1 75 6 x) (J2 : ∀ x, ¬ x = 30 * 6 + rr → b'.1 78 x = b.1 78 x ∧ b'.1 81 x = b.1 81 x)
    (e1 : a'.1 10 l 10 = (rr : Int) + 1) (e2 : tk_dw L B l rr (tk_rn (tk_cd L B)) a') (e3 : tk_dp L B l rr (2 * tk_rn (tk_cd L B) + 1) (tk_rm (tk_cd L B) (tk_vl L B)) a') (e4 : a'.1 150 l rr = (tk_ro (tk_cd L B) (tk_vl L B)).2)
    (f1 : b'.1 68 0 6 = (rr : Int) + 1) (f2 : tk_cw L B rr (tk_rn (tk_cd L B)) b') (f3 : tk_cp L B rr (2 * tk_rn (tk_cd L B) + 1) (tk_rm (tk_cd L B) (tk_vl L B)) b') (f4 : b'.1 75 6 rr = (tk_ro (tk_cd L B) (tk_vl L B)).2) : mh_La a'.1 b'.1 l 6 := by
  obtain ⟨n30, ⟨nb, nk⟩, ⟨mb, mk⟩, fb⟩ := tk_ru_b hz
  have I : ∀ t, t ∈ [151, 152, 153] → a'.1 t = a.1 t := fun t ht => FA.1.1 t (fun e => by rw [e] at ht; revert ht; decide) (by revert ht; revert t; decide)
  obtain ⟨-, e0, E1, E2⟩ := FA
  obtain ⟨h1, h2, h3, h4, h5⟩ := h
  unfold mh_La
  simp only [e0 11 (by decide), e0 12 (by decide), e0 13 (by decide), e0 14 (by decide), e0 15 (by decide), e0 16 (by decide), I 151 (by decide), I 152 (by decide), I 153 (by decide), J 69 (by decide), J 83 (by decide), J 85 (by decide), J 87 (by decide), J 88 (by decide), J 89 (by decide), J 90 (by decide), J 91 (by decide), J 92 (by decide), e1, f1]
  refine ⟨⟨trivial, by omega, by omega⟩, fun q hq => ?_, h3, h4, h5⟩
  by_cases z : q = rr
  · subst z
    obtain ⟨g1, g2⟩ := e2
    obtain ⟨g3, g4⟩ := e3
    obtain ⟨k1, k2⟩ := f2
    obtain ⟨k3, k4⟩ := f3
    rw [g1, g3, e4, k1, k3, f4]
    refine ⟨⟨rfl, by omega, by omega⟩, fun i hi => ?_, ⟨rfl, by omega, by omega⟩, fun i hi => ?_, rfl, fb.1, fb.2⟩
    · rw [g2 i (by omega), k2 i (by omega)]
      exact ⟨rfl, nk i (by omega)⟩
    · obtain ⟨p1, p2, p3⟩ := g4 i (by omega)
      obtain ⟨s1, s2, s3⟩ := k4 i (by omega)
      obtain ⟨m1, m2, m3⟩ := mk i (by omega)
      rw [p1, p2, p3, s1, s2, s3]
      exact ⟨⟨rfl, by omega, by omega⟩, ⟨rfl, m2.1, m2.2⟩, by omega, m3.1, m3.2⟩
  · have lt : q < rr := by omega
    obtain ⟨j1, j2, j3⟩ := J1 q z
    obtain ⟨j4, j5⟩ := J2 (30 * 6 + q) (by omega)
    obtain ⟨i1, i2, i3⟩ := E1 q z
    have old := h2 q (by omega)
    rw [j1, j2, j3, j4, j5, i1, i2, i3]
    obtain ⟨o1, o2, o3, o4, o5⟩ := old
    refine ⟨o1, fun i hi => ?_, o3, fun i hi => ?_, o5⟩
    · rw [(E2 (q * 4 + i) (by omega)).1]; exact o2 i hi
    · obtain ⟨-, x1, x2, x3⟩ := E2 (q * 4 + i) (by omega)
      rw [x1, x2, x3]; exact o4 i hi
