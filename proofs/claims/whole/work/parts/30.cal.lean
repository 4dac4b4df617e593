-- the calendar, class and reference
def mh_lp (y : Int) : Int := if y % 4 = 0 ∧ (¬ y % 100 = 0 ∨ y % 400 = 0) then 1 else 0
def mh_ml (y m : Int) : Int := if m = 2 then 28 + mh_lp y else if m = 4 ∨ m = 6 ∨ m = 9 ∨ m = 11 then 30 else 31
def mh_ah (y : Int) : Int := 365 * (y - 1) + (y - 1) / 4 - (y - 1) / 100 + (y - 1) / 400
def mh_cm (y m : Int) : Int := if m ≤ 2 then 31 * (m - 1) else (153 * (m - 3) + 2) / 5 + 59 + mh_lp y
def mh_do (y m d : Int) : Int := mh_ah y - 657071 + mh_cm y m + d - 1
theorem mh_lpb (y : Int) : 0 ≤ mh_lp y ∧ mh_lp y ≤ 1 := by unfold mh_lp; split <;> omega
theorem mh_ahs (y : Int) : mh_ah (y + 1) = mh_ah y + 365 + mh_lp y := by unfold mh_ah mh_lp; split <;> omega
theorem mh_ahm {a b : Int} (h : a ≤ b) : mh_ah a ≤ mh_ah b := by unfold mh_ah; omega
theorem mh_ahb {y : Int} (h : 1 ≤ y ∧ y ≤ 9000) : 0 ≤ mh_ah y ∧ mh_ah y ≤ 4000000 := by unfold mh_ah; omega
theorem mh_mlb (y m : Int) : 28 ≤ mh_ml y m ∧ mh_ml y m ≤ 31 := by
  have := mh_lpb y
  unfold mh_ml; split
  · omega
  · split <;> omega
theorem mh_cmb {y m : Int} (h : 1 ≤ m ∧ m ≤ 12) : 0 ≤ mh_cm y m ∧ mh_cm y m ≤ 335 := by
  have := mh_lpb y
  unfold mh_cm; split <;> omega
theorem mh_cms {y m : Int} (h : 1 ≤ m ∧ m ≤ 11) : mh_cm y (m + 1) = mh_cm y m + mh_ml y m := by
  rcases (show m = 1 ∨ m = 2 ∨ m = 3 ∨ m = 4 ∨ m = 5 ∨ m = 6 ∨ m = 7 ∨ m = 8 ∨ m = 9 ∨ m = 10 ∨ m = 11 by omega) with rfl | rfl | rfl | rfl | rfl | rfl | rfl | rfl | rfl | rfl | rfl
  all_goals unfold mh_cm mh_ml
  all_goals simp
  all_goals omega
theorem mh_cmm {y a b : Int} (h1 : 1 ≤ a) (h2 : a ≤ b) (h3 : b ≤ 12) : mh_cm y a ≤ mh_cm y b := by
  have := mh_lpb y
  unfold mh_cm; split
  · split <;> omega
  · split <;> omega
theorem mh_cm12 (y : Int) : mh_cm y 12 + 31 = 365 + mh_lp y := by unfold mh_cm; simp; omega
theorem mh_tm {y k : Int} (h : 0 ≤ y ∧ y < 2147483648) (hk : k = 4 ∨ k = 100 ∨ k = 400) : am_w (Int.tmod y k) = y % k := by
  rw [Int.tmod_eq_emod_of_nonneg h.1, am_w_id]
  unfold am_rg
  rcases hk with rfl | rfl | rfl <;> omega
-- the reference
theorem pX12_lengthOf {SC : Nat → Nat} {X : mh_X} {d kc ks : Nat} {Q : Option am_V → am_W → Prop} {w : am_W} {y m : Int} (hy : 0 ≤ y ∧ y ≤ 100000)
    (h : Q (some (.inl (mh_ml y m))) w) : am_M (mh_G X) SC (d + 2) kc ks mX12_lengthOf [.inl y, .inl m] w Q := by
  refine sX12_lengthOf ?_
  have e : ∀ z : Int, z = mh_ml y m → Q (some (.inl z)) w := fun z hz => hz ▸ h
  refine e _ ?_
  rw [mh_tm (k := 4) ⟨by omega, by omega⟩ (by decide), mh_tm (k := 100) ⟨by omega, by omega⟩ (by decide), mh_tm (k := 400) ⟨by omega, by omega⟩ (by decide)]
  unfold mh_ml mh_lp
  repeat' split
  all_goals omega
theorem pX0_lengthOf {SC : Nat → Nat} {X : mh_X} {d kc ks : Nat} {Q : Option am_V → am_W → Prop} {w : am_W} {y m : Int} (hy : 0 ≤ y ∧ y ≤ 100000)
    (h : Q (some (.inl (mh_ml y m))) w) : am_M (mh_G X) SC (d + 1) kc ks mX0_lengthOf [.inl y, .inl m] w Q := by
  refine sX0_lengthOf ?_
  have e : ∀ z : Int, z = mh_ml y m → Q (some (.inl z)) w := fun z hz => hz ▸ h
  refine e _ ?_
  rw [mh_tm (k := 4) ⟨by omega, by omega⟩ (by decide), mh_tm (k := 100) ⟨by omega, by omega⟩ (by decide), mh_tm (k := 400) ⟨by omega, by omega⟩ (by decide)]
  unfold mh_ml mh_lp
  repeat' split
  all_goals omega
theorem pX12_dayOf0 {SC : Nat → Nat} {X : mh_X} {d bc bs : Nat} {Q : Option am_V → am_W → Prop} {w : am_W} {y m a : Int} (hy : 1 ≤ y ∧ y ≤ 9000) (hm : 1 ≤ m ∧ m ≤ 12) (ha : 0 ≤ a ∧ a ≤ 1000)
    (h : Q (some (.inl (mh_do y m a))) w) : ∀ (n : Nat) (k : Int), 1 ≤ k → (n : Int) = m - k →
    am_A (mh_G X) SC (d + 3) mX12_dayOf Q 15 [(0, .inl y), (1, .inl m), (2, .inl a), (3, .inl (mh_ah y - 657071 + mh_cm y k)), (4, .inl k)] [] w bc bs
  | 0, k, hk, hn => by
    refine bX12_dayOf_15 ⟨fun _ => ?_, fun c => absurd c (by omega)⟩
    have e : k = m := by omega
    have b1 := mh_ahb hy
    have b2 := mh_cmb (y := y) hm
    rw [e, am_w_id (z := mh_ah y - 657071 + mh_cm y m + a) (by unfold am_rg; omega), am_w_id (by unfold am_rg; omega)]
    exact h
  | n + 1, k, hk, hn => by
    refine bX12_dayOf_15 ⟨fun c => absurd c (by omega), fun _ => ?_⟩
    refine pX12_lengthOf ⟨by omega, by omega⟩ ?_
    refine bX12_dayOf_28 ?_
    have b1 := mh_ahb hy
    have b2 := mh_cmb (y := y) (m := k) ⟨by omega, by omega⟩
    have b3 := mh_mlb y k
    have r := pX12_dayOf0 (SC := SC) (X := X) (d := d) (bc := bc) (bs := bs) hy hm ha h n (k + 1) (by omega) (by omega)
    rw [mh_cms ⟨by omega, by omega⟩] at r
    rw [am_w_id (z := mh_ah y - 657071 + mh_cm y k + mh_ml y k) (by unfold am_rg; omega), am_w_id (z := k + 1) (by unfold am_rg; omega), Int.add_assoc]
    exact r
theorem pX12_dayOf {SC : Nat → Nat} {X : mh_X} {d kc ks : Nat} {Q : Option am_V → am_W → Prop} {w : am_W} {y m a : Int} (hy : 1 ≤ y ∧ y ≤ 9000) (hm : 1 ≤ m ∧ m ≤ 12) (ha : 0 ≤ a ∧ a ≤ 1000)
    (h : Q (some (.inl (mh_do y m a))) w) : am_M (mh_G X) SC (d + 3) kc ks mX12_dayOf [.inl y, .inl m, .inl a] w Q := by
  refine am_M_of (by decide) (Nat.le_of_ble_eq_true rfl) ?_
  show am_A (mh_G X) SC (d + 3) mX12_dayOf Q 0 [(0, .inl y), (1, .inl m), (2, .inl a)] [] w kc ks
  refine bX12_dayOf_0 (fun n1 e1 => ?_)
  have e2 : n1 = mh_ah y - 657071 + mh_cm y 1 := by
    rw [e1]
    simp (disch := first | omega | (unfold am_rg; omega)) only [am_w_id, Int.tdiv_eq_ediv_of_nonneg]
    unfold mh_ah mh_cm
    simp
  rw [e2]
  exact pX12_dayOf0 hy hm ha h (m - 1).toNat 1 (by omega) (by omega)
theorem mh_do11 (y : Int) : mh_do y 1 1 = mh_ah y - 657071 := by unfold mh_do mh_cm; simp
theorem pX12_yearOf0 {SC : Nat → Nat} {X : mh_X} {d bc bs : Nat} {Q : Option am_V → am_W → Prop} {w : am_W} {x y : Int} (hy : 1700 ≤ y ∧ y ≤ 8000) (h1 : mh_ah y - 657071 ≤ x) (h2 : x < mh_ah (y + 1) - 657071)
    (h : Q (some (.inl y)) w) : ∀ (n : Nat) (k : Int), 1700 ≤ k → (n : Int) = y - k →
    am_A (mh_G X) SC (d + 4) mX12_yearOf Q 19 [(0, .inl x), (1, .inl k)] [] w bc bs
  | 0, k, hk, hn => by
    have e : k = y := by omega
    refine bX12_yearOf_19 ?_
    rw [am_w_id (by unfold am_rg; omega)]
    refine pX12_dayOf ⟨by omega, by omega⟩ ⟨by omega, by omega⟩ ⟨by omega, by omega⟩ ?_
    refine bX12_yearOf_27 ⟨fun _ => ?_, fun c => ?_⟩
    · rw [e]; exact h
    · rw [mh_do11, e] at c; exact absurd h2 c
  | n + 1, k, hk, hn => by
    refine bX12_yearOf_19 ?_
    rw [am_w_id (by unfold am_rg; omega)]
    refine pX12_dayOf ⟨by omega, by omega⟩ ⟨by omega, by omega⟩ ⟨by omega, by omega⟩ ?_
    refine bX12_yearOf_27 ⟨fun c => ?_, fun _ => ?_⟩
    · rw [mh_do11] at c
      have := mh_ahm (a := k + 1) (b := y) (by omega)
      exact absurd c (by omega)
    · rw [am_w_id (by unfold am_rg; omega)]
      exact pX12_yearOf0 hy h1 h2 h n (k + 1) (by omega) (by omega)
theorem pX12_yearOf {SC : Nat → Nat} {X : mh_X} {d kc ks : Nat} {Q : Option am_V → am_W → Prop} {w : am_W} {x y : Int} (hy : 1700 ≤ y ∧ y ≤ 8000) (h1 : mh_ah y - 657071 ≤ x) (h2 : x < mh_ah (y + 1) - 657071)
    (h : Q (some (.inl y)) w) : am_M (mh_G X) SC (d + 4) kc ks mX12_yearOf [.inl x] w Q := by
  refine am_M_of (by decide) (Nat.le_of_ble_eq_true rfl) ?_
  show am_A (mh_G X) SC (d + 4) mX12_yearOf Q 0 [(0, .inl x)] [] w kc ks
  refine bX12_yearOf_0 ?_
  refine pX12_dayOf ⟨by omega, by omega⟩ ⟨by omega, by omega⟩ ⟨by omega, by omega⟩ ?_
  refine bX12_yearOf_12 ?_
  have b1 := mh_ahb (y := y) ⟨by omega, by omega⟩
  have b2 := mh_ahb (y := y + 1) ⟨by omega, by omega⟩
  have b3 : mh_ah 1700 = 620547 := by decide
  have b4 := mh_ahm (a := 1700) (b := y) (by omega)
  rw [mh_do11, b3]
  simp (disch := first | omega | (unfold am_rg; omega)) only [am_w_id, Int.tdiv_eq_ediv_of_nonneg]
  have b5 : 1700 + (x - (620547 - 657071)) / 366 ≤ y := by
    have : mh_ah (y + 1) ≤ 620547 + 366 * (y + 1 - 1700) := by unfold mh_ah; omega
    omega
  exact pX12_yearOf0 hy h1 h2 h (y - (1700 + (x - (620547 - 657071)) / 366)).toNat _ (by omega) (by omega)
theorem pX12_monthOf0 {SC : Nat → Nat} {X : mh_X} {d bc bs : Nat} {Q : Option am_V → am_W → Prop} {w : am_W} {x y m : Int} (hy : 1700 ≤ y ∧ y ≤ 8000) (hm : 1 ≤ m ∧ m ≤ 12) (h1 : mh_do y m 1 ≤ x) (h2 : m = 12 ∨ x < mh_do y (m + 1) 1)
    (h : Q (some (.inl m)) w) : ∀ (n : Nat) (k : Int), 1 ≤ k → (n : Int) = m - k →
    am_A (mh_G X) SC (d + 5) mX12_monthOf Q 7 [(0, .inl x), (1, .inl y), (2, .inl k)] [] w bc bs
  | 0, k, hk, hn => by
    have e : k = m := by omega
    refine bX12_monthOf_7 ⟨fun _ => ?_, fun c => ?_⟩
    · rw [e]; exact h
    rw [am_w_id (by unfold am_rg; omega)]
    refine pX12_dayOf ⟨by omega, by omega⟩ ⟨by omega, by omega⟩ ⟨by omega, by omega⟩ ?_
    refine bX12_monthOf_21 ⟨fun _ => ?_, fun c => ?_⟩
    · rw [e]; exact h
    · rw [e] at c; exact absurd (h2.resolve_left (by omega)) c
  | n + 1, k, hk, hn => by
    refine bX12_monthOf_7 ⟨fun c => absurd c (by omega), fun c => ?_⟩
    rw [am_w_id (by unfold am_rg; omega)]
    refine pX12_dayOf ⟨by omega, by omega⟩ ⟨by omega, by omega⟩ ⟨by omega, by omega⟩ ?_
    refine bX12_monthOf_21 ⟨fun c => ?_, fun _ => ?_⟩
    · have := mh_cmm (y := y) (a := k + 1) (b := m) (by omega) (by omega) (by omega)
      unfold mh_do at c h1
      exact absurd c (by omega)
    · rw [am_w_id (by unfold am_rg; omega)]
      exact pX12_monthOf0 hy hm h1 h2 h n (k + 1) (by omega) (by omega)
/-- day x is the a-th of the m-th month of year y -/
def mh_dt (x y m a : Int) : Prop := (1700 ≤ y ∧ y ≤ 8000) ∧ (1 ≤ m ∧ m ≤ 12) ∧ (1 ≤ a ∧ a ≤ mh_ml y m) ∧ mh_do y m a = x
theorem mh_dt_y {x y m a : Int} (t : mh_dt x y m a) : mh_ah y - 657071 ≤ x ∧ x < mh_ah (y + 1) - 657071 ∧ mh_do y m 1 ≤ x ∧ (m = 12 ∨ x < mh_do y (m + 1) 1) := by
  obtain ⟨h1, h2, h3, h4⟩ := t
  have b1 := mh_cmb (y := y) h2
  have b2 := mh_ahs y
  have b3 := mh_cm12 y
  by_cases c : m = 12
  · subst c
    have : mh_ml y 12 = 31 := by unfold mh_ml; simp
    unfold mh_do at *
    omega
  · have b4 := mh_cms (y := y) (m := m) ⟨by omega, by omega⟩
    have b5 := mh_cmm (y := y) (a := m + 1) (b := 12) (by omega) (by omega) (by omega)
    unfold mh_do at *
    omega
theorem pX12_monthOf {SC : Nat → Nat} {X : mh_X} {d kc ks : Nat} {Q : Option am_V → am_W → Prop} {w : am_W} {x y m a : Int} (t : mh_dt x y m a)
    (h : Q (some (.inl m)) w) : am_M (mh_G X) SC (d + 5) kc ks mX12_monthOf [.inl x] w Q := by
  obtain ⟨t1, t2, t3, t4⟩ := mh_dt_y t
  refine am_M_of (by decide) (Nat.le_of_ble_eq_true rfl) ?_
  show am_A (mh_G X) SC (d + 5) mX12_monthOf Q 0 [(0, .inl x)] [] w kc ks
  refine bX12_monthOf_0 ?_
  refine pX12_yearOf t.1 t1 t2 ?_
  refine bX12_monthOf_4 ?_
  have := t.2.1
  exact pX12_monthOf0 t.1 t.2.1 t3 t4 h (m - 1).toNat 1 (by omega) (by omega)
theorem pX12_dateOf {SC : Nat → Nat} {X : mh_X} {d kc ks : Nat} {Q : Option am_V → am_W → Prop} {w : am_W} {x y m a : Int} (t : mh_dt x y m a)
    (h : Q (some (.inl (10000 * y + 100 * m + a))) w) : am_M (mh_G X) SC (d + 6) kc ks mX12_dateOf [.inl x] w Q := by
  obtain ⟨t1, t2, t3, t4⟩ := mh_dt_y t
  obtain ⟨u1, u2, u3, u4⟩ := t
  refine am_M_of (by decide) (Nat.le_of_ble_eq_true rfl) ?_
  show am_A (mh_G X) SC (d + 6) mX12_dateOf Q 0 [(0, .inl x)] [] w kc ks
  refine bX12_dateOf_0 ?_
  refine pX12_yearOf u1 t1 t2 ?_
  refine bX12_dateOf_4 ?_
  refine pX12_monthOf ⟨u1, u2, u3, u4⟩ ?_
  refine bX12_dateOf_9 ?_
  refine pX12_dayOf ⟨by omega, by omega⟩ u2 ⟨by omega, by omega⟩ ?_
  refine bX12_dateOf_28 ?_
  have b1 := mh_ahb (y := y) ⟨by omega, by omega⟩
  have b2 := mh_cmb (y := y) u2
  have b3 := mh_mlb y m
  have e : ∀ z : Int, z = 10000 * y + 100 * m + a → Q (some (.inl z)) w := fun z hz => hz ▸ h
  refine e _ ?_
  unfold mh_do at *
  simp (disch := first | omega | (unfold am_rg; omega)) only [am_w_id]
  omega
