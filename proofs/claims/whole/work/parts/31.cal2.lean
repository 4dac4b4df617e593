-- the class's calendar
theorem mh_ah1 (y : Int) : mh_ah (y + 1) = 365 * y + y / 4 - y / 100 + y / 400 := by unfold mh_ah; rw [Int.add_sub_cancel]
theorem pX0_dayOf {SC : Nat → Nat} {X : mh_X} {d kc ks : Nat} {Q : Option am_V → am_W → Prop} {w : am_W} {y m a : Int} (hy : 1 ≤ y ∧ y ≤ 9000) (hm : 1 ≤ m ∧ m ≤ 12) (ha : 0 ≤ a ∧ a ≤ 1000)
    (h : Q (some (.inl (mh_do y m a))) w) : am_M (mh_G X) SC (d + 1) kc ks mX0_dayOf [.inl y, .inl m, .inl a] w Q := by
  have e : ∀ z : Int, z = mh_do y m a → Q (some (.inl z)) w := fun z hz => hz ▸ h
  refine am_M_of (by decide) (Nat.le_of_ble_eq_true rfl) ?_
  show am_A (mh_G X) SC (d + 1) mX0_dayOf Q 0 [(0, .inl y), (1, .inl m), (2, .inl a)] [] w kc ks
  refine bX0_dayOf_0 ⟨fun c => ?_, fun c => ?_⟩
  · refine bX0_dayOf_15 ⟨fun _ => ?_, fun c2 => absurd c c2⟩
    refine bX0_dayOf_28 (fun n1 e1 n2 e2 => ?_)
    refine e _ ?_
    simp (disch := first | omega | (unfold am_rg; omega)) only [am_w_id, Int.tdiv_eq_ediv_of_nonneg, Int.tmod_eq_emod_of_nonneg] at e1
    simp (disch := first | omega | (unfold am_rg; omega)) only [am_w_id, Int.tdiv_eq_ediv_of_nonneg, Int.tmod_eq_emod_of_nonneg] at e2
    simp (disch := first | omega | (unfold am_rg; omega)) only [am_w_id, Int.tdiv_eq_ediv_of_nonneg, Int.tmod_eq_emod_of_nonneg]
    unfold mh_do mh_ah mh_cm
    rw [if_pos c]
    omega
  · refine bX0_dayOf_15 ⟨fun c2 => absurd c2 c, fun _ => ?_⟩
    refine bX0_dayOf_28 (fun n1 e1 n2 e2 => ?_)
    refine e _ ?_
    simp (disch := first | omega | (unfold am_rg; omega)) only [am_w_id, Int.tdiv_eq_ediv_of_nonneg, Int.tmod_eq_emod_of_nonneg] at e1
    simp (disch := first | omega | (unfold am_rg; omega)) only [am_w_id, Int.tdiv_eq_ediv_of_nonneg, Int.tmod_eq_emod_of_nonneg] at e2
    simp (disch := first | omega | (unfold am_rg; omega)) only [am_w_id, Int.tdiv_eq_ediv_of_nonneg, Int.tmod_eq_emod_of_nonneg]
    have b1 := mh_ahs y
    rw [mh_ah1] at b1
    have q1 : y % 400 / 4 = y / 4 - 100 * (y / 400) := by omega
    have q2 : y % 400 / 100 = y / 100 - 4 * (y / 400) := by omega
    have q3 : y % 400 = y - 400 * (y / 400) := by omega
    rw [q1, q2, q3] at e2
    unfold mh_do mh_cm
    rw [if_neg c]
    omega
theorem mh_yc {D Y R : Int} (h1 : 0 ≤ D) (h2 : D < 146097) (hY : Y = (D - D / 1460 + D / 36524 - D / 146096) / 365) (hR : R = D - (365 * Y + Y / 4 - Y / 100)) :
    0 ≤ Y ∧ Y ≤ 399 ∧ 0 ≤ R ∧ R ≤ 365 ∧ (R = 365 → (Y + 1) % 4 = 0 ∧ (¬ (Y + 1) % 100 = 0 ∨ (Y + 1) % 400 = 0)) := by
  by_cases t : D = 146096
  · subst t
    have y : Y = 399 := by rw [hY]; decide
    subst y
    have r : R = 365 := by rw [hR]; decide
    subst r
    decide
  have b : D / 36524 = 0 ∨ D / 36524 = 1 ∨ D / 36524 = 2 ∨ D / 36524 = 3 := by omega
  have c0 : D / 146096 = 0 := by omega
  rw [c0] at hY
  have key : ∀ B E : Int, (B = 0 ∨ B = 1 ∨ B = 2 ∨ B = 3) → 0 ≤ E → E < 36524 → D = 36524 * B + E → D / 36524 = B →
      0 ≤ Y ∧ Y ≤ 399 ∧ 0 ≤ R ∧ R ≤ 365 ∧ (R = 365 → (Y + 1) % 4 = 0 ∧ (¬ (Y + 1) % 100 = 0 ∨ (Y + 1) % 400 = 0)) := by
    intro B E hB hE1 hE2 hD hDB
    have u1 : E = 1460 * (E / 1460) + E % 1460 := by omega
    have u2 : 0 ≤ E % 1460 ∧ E % 1460 < 1460 := by omega
    have u3 : 0 ≤ E / 1460 ∧ E / 1460 ≤ 25 := by omega
    generalize E / 1460 = u at *
    generalize E % 1460 = v at *
    have k1 : ∃ s : Int, (s = 0 ∨ s = 1) ∧ D / 1460 = 25 * B + u + s ∧ 1460 * s ≤ 24 * B + v ∧ 24 * B + v < 1460 * s + 1460 := by
      rcases hB with rfl | rfl | rfl | rfl
      · exact ⟨D / 1460 - 25 * 0 - u, by omega, by omega, by omega, by omega⟩
      · exact ⟨D / 1460 - 25 * 1 - u, by omega, by omega, by omega, by omega⟩
      · exact ⟨D / 1460 - 25 * 2 - u, by omega, by omega, by omega, by omega⟩
      · exact ⟨D / 1460 - 25 * 3 - u, by omega, by omega, by omega, by omega⟩
    obtain ⟨s, hs, hq, hs1, hs2⟩ := k1
    rw [hq, hDB] at hY
    have hz : ∃ z : Int, (z = -1 ∨ z = 0 ∨ z = 1 ∨ z = 2 ∨ z = 3) ∧ Y = 100 * B + 4 * u + z ∧ 365 * z ≤ v - u - s ∧ v - u - s < 365 * z + 365 :=
      ⟨(v - u - s) / 365, by omega, by omega, by omega, by omega⟩
    obtain ⟨z, hz, hy, hz1, hz2⟩ := hz
    have w1 : 0 ≤ 4 * u + z ∧ 4 * u + z ≤ 99 := by omega
    have w2 : Y / 100 = B := by omega
    rcases hz with rfl | rfl | rfl | rfl | rfl
    · have w3 : Y / 4 = 25 * B + u - 1 := by omega
      omega
    · have w3 : Y / 4 = 25 * B + u := by omega
      omega
    · have w3 : Y / 4 = 25 * B + u := by omega
      omega
    · have w3 : Y / 4 = 25 * B + u := by omega
      omega
    · have w3 : Y / 4 = 25 * B + u := by omega
      omega
  rcases b with b | b | b | b
  · exact key 0 (D - 36524 * 0) (by omega) (by omega) (by omega) (by omega) b
  · exact key 1 (D - 36524 * 1) (by omega) (by omega) (by omega) (by omega) b
  · exact key 2 (D - 36524 * 2) (by omega) (by omega) (by omega) (by omega) b
  · exact key 3 (D - 36524 * 3) (by omega) (by omega) (by omega) (by omega) b
theorem mh_lpc (c Y : Int) : mh_lp (400 * c + Y) = mh_lp Y := by
  unfold mh_lp
  rw [show (400 * c + Y) % 4 = Y % 4 by omega, show (400 * c + Y) % 100 = Y % 100 by omega, show (400 * c + Y) % 400 = Y % 400 by omega]
theorem mh_dc1 {x c Y R fm : Int} (hx : -36524 ≤ x ∧ x ≤ 2000000) (e : x + 657377 = 146097 * c + (365 * Y + Y / 4 - Y / 100) + R) (hY : 0 ≤ Y ∧ Y ≤ 399) (h0 : 0 ≤ R) (hR : R ≤ 364 + mh_lp (400 * c + Y + 1))
    (hf : fm = (5 * R + 2) / 153) (h10 : 10 ≤ fm) : mh_dt x (400 * c + Y + 1) (fm - 9) (R - (153 * fm + 2) / 5 + 1) := by
  have b := mh_lpb (400 * c + Y + 1)
  have f : fm = 10 ∨ fm = 11 := by omega
  have a1 := mh_ah1 (400 * c + Y)
  have p1 : (400 * c + Y) / 4 = 100 * c + Y / 4 := by omega
  have p2 : (400 * c + Y) / 100 = 4 * c + Y / 100 := by omega
  have p3 : (400 * c + Y) / 400 = c := by omega
  rw [p1, p2, p3] at a1
  refine ⟨by omega, by omega, ?_, ?_⟩
  · unfold mh_ml
    rcases f with f | f
    · rw [f, if_neg (by omega), if_neg (by omega)]; omega
    · rw [f, if_pos (by omega)]; omega
  · unfold mh_do mh_cm
    rw [if_pos (by omega), a1]
    omega
theorem mh_dc2 {x c Y R fm : Int} (hx : -36524 ≤ x ∧ x ≤ 2000000) (e : x + 657377 = 146097 * c + (365 * Y + Y / 4 - Y / 100) + R) (hY : 0 ≤ Y ∧ Y ≤ 399) (h0 : 0 ≤ R)
    (hf : fm = (5 * R + 2) / 153) (h10 : fm < 10) : mh_dt x (400 * c + Y) (fm + 3) (R - (153 * fm + 2) / 5 + 1) := by
  have a1 := mh_ahs (400 * c + Y)
  rw [mh_ah1] at a1
  have p1 : (400 * c + Y) / 4 = 100 * c + Y / 4 := by omega
  have p2 : (400 * c + Y) / 100 = 4 * c + Y / 100 := by omega
  have p3 : (400 * c + Y) / 400 = c := by omega
  rw [p1, p2, p3] at a1
  refine ⟨by omega, by omega, ?_, ?_⟩
  · unfold mh_ml
    rw [if_neg (by omega)]
    rcases (show fm = 0 ∨ fm = 1 ∨ fm = 2 ∨ fm = 3 ∨ fm = 4 ∨ fm = 5 ∨ fm = 6 ∨ fm = 7 ∨ fm = 8 ∨ fm = 9 by omega) with f | f | f | f | f | f | f | f | f | f
    all_goals rw [f]
    all_goals simp
    all_goals omega
  · unfold mh_do mh_cm
    rw [if_neg (by omega)]
    omega
theorem pX0_dateOf {SC : Nat → Nat} {X : mh_X} {d kc ks : Nat} {Q : Option am_V → am_W → Prop} {w : am_W} {x : Int} (hx : -36524 ≤ x ∧ x ≤ 2000000)
    (h : ∀ y m a, mh_dt x y m a → Q (some (.inl (10000 * y + 100 * m + a))) w) : am_M (mh_G X) SC (d + 1) kc ks mX0_dateOf [.inl x] w Q := by
  have e : ∀ z y m a : Int, mh_dt x y m a → z = 10000 * y + 100 * m + a → Q (some (.inl z)) w := fun z y m a t hz => hz ▸ h y m a t
  refine am_M_of (by decide) (Nat.le_of_ble_eq_true rfl) ?_
  show am_A (mh_G X) SC (d + 1) mX0_dateOf Q 0 [(0, .inl x)] [] w kc ks
  refine bX0_dateOf_0 (fun n1 e1 n2 e2 n3 e3 => ?_)
  simp (disch := first | omega | (unfold am_rg; omega)) only [am_w_id, Int.tdiv_eq_ediv_of_nonneg, Int.tmod_eq_emod_of_nonneg] at e1
  have g0 : 0 ≤ n1 ∧ n1 ≤ 401 := by omega
  have hc : x + 657377 = 146097 * ((x + 657377) / 146097) + (x + 657377) % 146097 := by omega
  have hD1 : 0 ≤ (x + 657377) % 146097 := by omega
  have hD2 : (x + 657377) % 146097 < 146097 := by omega
  have hC1 : 0 ≤ (x + 657377) / 146097 ∧ (x + 657377) / 146097 ≤ 18 := by omega
  have gr := mh_yc (Y := n1) (R := (x + 657377) % 146097 - (365 * n1 + n1 / 4 - n1 / 100)) hD1 hD2 e1 rfl
  simp (disch := first | omega | (unfold am_rg; omega)) only [am_w_id, Int.tdiv_eq_ediv_of_nonneg, Int.tmod_eq_emod_of_nonneg] at e2
  rw [← e2] at gr
  obtain ⟨g1, g2, g3, g4, g5⟩ := gr
  simp (disch := first | omega | (unfold am_rg; omega)) only [am_w_id, Int.tdiv_eq_ediv_of_nonneg, Int.tmod_eq_emod_of_nonneg] at e3
  simp (disch := first | omega | (unfold am_rg; omega)) only [am_w_id, Int.tdiv_eq_ediv_of_nonneg, Int.tmod_eq_emod_of_nonneg]
  have ee : x + 657377 = 146097 * ((x + 657377) / 146097) + (365 * n1 + n1 / 4 - n1 / 100) + n2 := by omega
  generalize (x + 657377) / 146097 = c at *
  generalize hf : (5 * n2 + 2) / 153 = fm at *
  have hl : n2 ≤ 364 + mh_lp (400 * c + n1 + 1) := by
    rw [Int.add_assoc, mh_lpc]
    unfold mh_lp
    split
    · omega
    · rename_i q
      have : ¬ n2 = 365 := fun q2 => q (g5 q2)
      omega
  refine ⟨fun c1 => ?_, fun c1 => ?_⟩
  · have t := mh_dc1 hx ee ⟨g1, g2⟩ g3 hl hf.symm c1
    refine bX0_dateOf_107 ⟨fun _ => ?_, fun c2 => absurd c2 (by omega)⟩
    refine bX0_dateOf_128 ?_
    refine e _ _ _ _ t ?_
    simp (disch := first | omega | (unfold am_rg; omega)) only [am_w_id]
    omega
  · have t := mh_dc2 hx ee ⟨g1, g2⟩ g3 hf.symm (by omega)
    refine bX0_dateOf_107 ⟨fun c2 => absurd c2 (by omega), fun _ => ?_⟩
    refine bX0_dateOf_128 ?_
    refine e _ _ _ _ t ?_
    simp (disch := first | omega | (unfold am_rg; omega)) only [am_w_id]
    omega
