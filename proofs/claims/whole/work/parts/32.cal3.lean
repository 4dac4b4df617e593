-- later / behind, and the calls date, day, months
def mh_be (y m a k : Int) : Int := mh_do ((12 * y + m - 1 + k) / 12) ((12 * y + m - 1 + k) % 12 + 1) (min a (mh_ml ((12 * y + m - 1 + k) / 12) ((12 * y + m - 1 + k) % 12 + 1)))
theorem pX0_later {SC : Nat → Nat} {X : mh_X} {d kc ks : Nat} {Q : Option am_V → am_W → Prop} {w : am_W} {x k : Int} (hx : -36524 ≤ x ∧ x ≤ 2000000) (hk : 0 ≤ k ∧ k ≤ 12000)
    (h : ∀ y m a, mh_dt x y m a → Q (some (.inl (mh_be y m a k))) w) : am_M (mh_G X) SC (d + 2) kc ks mX0_later [.inl x, .inl k] w Q := by
  refine am_M_of (by decide) (Nat.le_of_ble_eq_true rfl) ?_
  show am_A (mh_G X) SC (d + 2) mX0_later Q 0 [(0, .inl x), (1, .inl k)] [] w kc ks
  refine bX0_later_0 ?_
  refine pX0_dateOf hx (fun y m a t => ?_)
  have h' := h y m a t
  obtain ⟨t1, t2, t3, t4⟩ := t
  have b1 := mh_mlb y m
  refine bX0_later_4 (fun n1 e1 => ?_)
  have e2 : n1 = 12 * y + m - 1 + k := by
    rw [e1]
    simp (disch := first | omega | (unfold am_rg; omega)) only [am_w_id, Int.tdiv_eq_ediv_of_nonneg, Int.tmod_eq_emod_of_nonneg]
    omega
  rw [e2]
  have e3 : am_w (Int.tdiv (12 * y + m - 1 + k) 12) = (12 * y + m - 1 + k) / 12 := by
    simp (disch := first | omega | (unfold am_rg; omega)) only [am_w_id, Int.tdiv_eq_ediv_of_nonneg, Int.tmod_eq_emod_of_nonneg]
  have e4 : am_w (am_w (Int.tmod (12 * y + m - 1 + k) 12) + 1) = (12 * y + m - 1 + k) % 12 + 1 := by
    simp (disch := first | omega | (unfold am_rg; omega)) only [am_w_id, Int.tdiv_eq_ediv_of_nonneg, Int.tmod_eq_emod_of_nonneg]
  have e5 : am_w (Int.tmod (10000 * y + 100 * m + a) 100) = a := by
    simp (disch := first | omega | (unfold am_rg; omega)) only [am_w_id, Int.tdiv_eq_ediv_of_nonneg, Int.tmod_eq_emod_of_nonneg]
    omega
  rw [e3, e4, e5]
  refine pX0_lengthOf ⟨by omega, by omega⟩ ?_
  refine bX0_later_55 ?_
  have b2 := mh_mlb ((12 * y + m - 1 + k) / 12) ((12 * y + m - 1 + k) % 12 + 1)
  refine pX0_dayOf ⟨by omega, by omega⟩ ⟨by omega, by omega⟩ ⟨by omega, by omega⟩ ?_
  exact bX0_later_61 h'
theorem pX12_behind {SC : Nat → Nat} {X : mh_X} {d kc ks : Nat} {Q : Option am_V → am_W → Prop} {w : am_W} {x k y m a : Int} (t : mh_dt x y m a) (hk : 0 ≤ k ∧ k ≤ 12000)
    (h : Q (some (.inl (mh_be y m a k))) w) : am_M (mh_G X) SC (d + 7) kc ks mX12_behind [.inl x, .inl k] w Q := by
  refine am_M_of (by decide) (Nat.le_of_ble_eq_true rfl) ?_
  show am_A (mh_G X) SC (d + 7) mX12_behind Q 0 [(0, .inl x), (1, .inl k)] [] w kc ks
  refine bX12_behind_0 ?_
  refine pX12_dateOf t ?_
  obtain ⟨t1, t2, t3, t4⟩ := t
  have b1 := mh_mlb y m
  refine bX12_behind_4 (fun n1 e1 => ?_)
  have e2 : n1 = 12 * y + m - 1 + k := by
    rw [e1]
    simp (disch := first | omega | (unfold am_rg; omega)) only [am_w_id, Int.tdiv_eq_ediv_of_nonneg, Int.tmod_eq_emod_of_nonneg]
    omega
  rw [e2]
  have e3 : am_w (Int.tdiv (12 * y + m - 1 + k) 12) = (12 * y + m - 1 + k) / 12 := by
    simp (disch := first | omega | (unfold am_rg; omega)) only [am_w_id, Int.tdiv_eq_ediv_of_nonneg, Int.tmod_eq_emod_of_nonneg]
  have e4 : am_w (am_w (Int.tmod (12 * y + m - 1 + k) 12) + 1) = (12 * y + m - 1 + k) % 12 + 1 := by
    simp (disch := first | omega | (unfold am_rg; omega)) only [am_w_id, Int.tdiv_eq_ediv_of_nonneg, Int.tmod_eq_emod_of_nonneg]
  have e5 : am_w (Int.tmod (10000 * y + 100 * m + a) 100) = a := by
    simp (disch := first | omega | (unfold am_rg; omega)) only [am_w_id, Int.tdiv_eq_ediv_of_nonneg, Int.tmod_eq_emod_of_nonneg]
    omega
  rw [e3, e4, e5]
  refine pX12_lengthOf ⟨by omega, by omega⟩ ?_
  have b2 := mh_mlb ((12 * y + m - 1 + k) / 12) ((12 * y + m - 1 + k) % 12 + 1)
  refine bX12_behind_59 ⟨fun c => ?_, fun c => ?_⟩
  · refine pX12_lengthOf ⟨by omega, by omega⟩ ?_
    refine bX12_behind_74 ?_
    refine pX12_dayOf ⟨by omega, by omega⟩ ⟨by omega, by omega⟩ ⟨by omega, by omega⟩ ?_
    refine bX12_behind_77 ?_
    unfold mh_be at h
    rw [Int.min_eq_right c] at h
    exact h
  · refine bX12_behind_74a ?_
    refine pX12_dayOf ⟨by omega, by omega⟩ ⟨by omega, by omega⟩ ⟨by omega, by omega⟩ ?_
    refine bX12_behind_77a ?_
    unfold mh_be at h
    rw [Int.min_eq_left (by omega)] at h
    exact h
/-- the reference answers v and leaves the world -/
def mh_an (X : mh_X) (SC : Nat → Nat) (d : Nat) (Y : am_Y) (as : List am_V) (v : Int) : Prop :=
  ∀ (d' kc ks : Nat) (Q : Option am_V → am_W → Prop) (w : am_W), Q (some (.inl v)) w → am_M (mh_G X) SC (d' + d) kc ks Y as w Q
theorem qX_date {SC : Nat → Nat} {X : mh_X} {d kc ks : Nat} {Q : Option am_V → am_W → Prop} {w : am_W} {x : Int}
    (h : ∀ v, mh_an X SC 7 mX12_date [.inr (.inr (some (9, 0))), .inl x] v → Q (some (.inl v)) w) : am_M (mh_G X) SC (d + 2) kc ks mX11_date [.inr (.inr (some (1, 0))), .inl x] w Q := by
  refine am_M_of (by decide) (Nat.le_of_ble_eq_true rfl) ?_
  show am_A (mh_G X) SC (d + 2) mX11_date Q 0 [(0, .inr (.inr (some (1, 0)))), (1, .inl x)] [] w kc ks
  refine bX11_date_0 ⟨fun c => h _ ?_, fun c => ?_⟩
  · intro d' kc ks Q' w' k
    refine am_M_of (by decide) (Nat.le_of_ble_eq_true rfl) ?_
    exact bX12_date_0 ⟨fun _ => k, fun c2 => absurd c2 c⟩
  · refine pX0_dateOf ⟨by omega, by omega⟩ (fun y m a t => ?_)
    refine bX11_date_11 (h _ ?_)
    intro d' kc ks Q' w' k
    refine am_M_of (by decide) (Nat.le_of_ble_eq_true rfl) ?_
    refine bX12_date_0 ⟨fun c2 => absurd c c2, fun _ => ?_⟩
    refine pX12_dateOf t ?_
    exact bX12_date_11 k
theorem qX_months {SC : Nat → Nat} {X : mh_X} {d kc ks : Nat} {Q : Option am_V → am_W → Prop} {w : am_W} {x n : Int}
    (h : ∀ v, mh_an X SC 8 mX12_months [.inr (.inr (some (9, 0))), .inl x, .inl n] v → Q (some (.inl v)) w) : am_M (mh_G X) SC (d + 3) kc ks mX11_months [.inr (.inr (some (1, 0))), .inl x, .inl n] w Q := by
  refine am_M_of (by decide) (Nat.le_of_ble_eq_true rfl) ?_
  show am_A (mh_G X) SC (d + 3) mX11_months Q 0 [(0, .inr (.inr (some (1, 0)))), (1, .inl x), (2, .inl n)] [] w kc ks
  refine bX11_months_0 ⟨fun c => h _ ?_, fun c => ⟨fun c2 => h _ ?_, fun c2 => ⟨fun c3 => ?_, fun c3 => h _ ?_⟩⟩⟩
  · intro d' kc ks Q' w' k
    refine am_M_of (by decide) (Nat.le_of_ble_eq_true rfl) ?_
    exact bX12_months_0 ⟨fun _ => k, fun c4 => absurd c4 c⟩
  · intro d' kc ks Q' w' k
    refine am_M_of (by decide) (Nat.le_of_ble_eq_true rfl) ?_
    exact bX12_months_0 ⟨fun c4 => absurd c c4, fun _ => ⟨fun c5 => absurd c2 c5.1, fun _ => k⟩⟩
  · refine pX0_later ⟨by omega, by omega⟩ ⟨by omega, by omega⟩ (fun y m a t => ?_)
    have r : ∀ {d' kc ks : Nat} {Q' : Option am_V → am_W → Prop} {w' : am_W}, am_A (mh_G X) SC (d' + 8) mX12_months Q' 27 [(0, .inr (.inr (some (9, 0)))), (1, .inl x), (2, .inl n)] [.inl (mh_be y m a n)] w' kc ks →
        am_M (mh_G X) SC (d' + 8) kc ks mX12_months [.inr (.inr (some (9, 0))), .inl x, .inl n] w' Q' := by
      intro d' kc ks Q' w' k
      refine am_M_of (by decide) (Nat.le_of_ble_eq_true rfl) ?_
      refine bX12_months_0 ⟨fun c4 => absurd c c4, fun _ => ⟨fun _ => ?_, fun c4 => absurd ⟨c2, by omega⟩ c4⟩⟩
      exact pX12_behind t ⟨by omega, by omega⟩ k
    refine bX11_months_26 ⟨fun c4 => h _ ?_, fun c4 => h _ ?_⟩
    · intro d' kc ks Q' w' k
      exact r (bX12_months_27 ⟨fun _ => k, fun c5 => absurd c5 c4⟩)
    · intro d' kc ks Q' w' k
      exact r (bX12_months_27 ⟨fun c5 => absurd c4 c5, fun _ => k⟩)
  · intro d' kc ks Q' w' k
    refine am_M_of (by decide) (Nat.le_of_ble_eq_true rfl) ?_
    exact bX12_months_0 ⟨fun c4 => absurd c c4, fun _ => ⟨fun c5 => absurd c5.2 (by omega), fun _ => k⟩⟩
theorem pX0_hasDate {SC : Nat → Nat} {X : mh_X} {d kc ks : Nat} {Q : Option am_V → am_W → Prop} {w : am_W} {x : Int} (hr : am_rg x)
    (h1 : (1700 ≤ x / 10000 ∧ x / 10000 ≤ 1999) → (1 ≤ x / 100 % 100 ∧ x / 100 % 100 ≤ 12) → (1 ≤ x % 100 ∧ x % 100 ≤ mh_ml (x / 10000) (x / 100 % 100)) → Q (some (.inl 1)) w)
    (h0 : ¬ ((1700 ≤ x / 10000 ∧ x / 10000 ≤ 1999) ∧ (1 ≤ x / 100 % 100 ∧ x / 100 % 100 ≤ 12) ∧ (1 ≤ x % 100 ∧ x % 100 ≤ mh_ml (x / 10000) (x / 100 % 100))) → Q (some (.inl 0)) w) :
    am_M (mh_G X) SC (d + 2) kc ks mX0_hasDate [.inl x] w Q := by
  unfold am_rg at hr
  refine am_M_of (by decide) (Nat.le_of_ble_eq_true rfl) ?_
  show am_A (mh_G X) SC (d + 2) mX0_hasDate Q 0 [(0, .inl x)] [] w kc ks
  refine bX0_hasDate_0 ⟨fun c0 => ?_, fun c0 => h0 (by omega)⟩
  have e1 : am_w (Int.tdiv x 10000) = x / 10000 := by
    simp (disch := first | omega | (unfold am_rg; omega)) only [am_w_id, Int.tdiv_eq_ediv_of_nonneg, Int.tmod_eq_emod_of_nonneg]
  have e2 : am_w (Int.tmod (am_w (Int.tdiv x 100)) 100) = x / 100 % 100 := by
    simp (disch := first | omega | (unfold am_rg; omega)) only [am_w_id, Int.tdiv_eq_ediv_of_nonneg, Int.tmod_eq_emod_of_nonneg]
  have e3 : am_w (Int.tmod x 100) = x % 100 := by
    simp (disch := first | omega | (unfold am_rg; omega)) only [am_w_id, Int.tdiv_eq_ediv_of_nonneg, Int.tmod_eq_emod_of_nonneg]
  rw [e1, e2, e3]
  refine ⟨fun c => h0 (by omega), fun c1 => ⟨fun c => h0 (by omega), fun c2 => ⟨fun c => h0 (by omega), fun c3 => ⟨fun c => h0 (by omega), fun c4 => ?_⟩⟩⟩⟩
  refine pX0_lengthOf ⟨by omega, by omega⟩ ?_
  exact bX0_hasDate_56 ⟨fun c => h0 (by omega), fun c => h1 (by omega) (by omega) (by omega)⟩
theorem mh_din {y m a : Int} (hy : 1700 ≤ y ∧ y ≤ 1999) (hm : 1 ≤ m ∧ m ≤ 12) (ha : 1 ≤ a ∧ a ≤ mh_ml y m) : ¬ mh_do y m a < -36524 ∧ ¬ 73047 < mh_do y m a := by
  obtain ⟨t1, t2, _, _⟩ := mh_dt_y (x := mh_do y m a) (y := y) (m := m) (a := a) ⟨⟨by omega, by omega⟩, hm, ha, rfl⟩
  have b1 := mh_ahm (a := 1700) (b := y) (by omega)
  have b2 := mh_ahm (a := y + 1) (b := 2000) (by omega)
  have b3 : mh_ah 1700 = 620547 := by decide
  have b4 : mh_ah 2000 = 730119 := by decide
  omega
theorem qX_day {SC : Nat → Nat} {X : mh_X} {d kc ks : Nat} {Q : Option am_V → am_W → Prop} {w : am_W} {x : Int} (hr : am_rg x)
    (h : ∀ v, mh_an X SC 4 mX12_day [.inr (.inr (some (9, 0))), .inl x] v → Q (some (.inl v)) w) : am_M (mh_G X) SC (d + 3) kc ks mX11_day [.inr (.inr (some (1, 0))), .inl x] w Q := by
  have hr' := hr
  unfold am_rg at hr'
  refine am_M_of (by decide) (Nat.le_of_ble_eq_true rfl) ?_
  show am_A (mh_G X) SC (d + 3) mX11_day Q 0 [(0, .inr (.inr (some (1, 0)))), (1, .inl x)] [] w kc ks
  refine bX11_day_0 ?_
  have e1 : ¬ x < 0 → am_w (Int.tdiv x 10000) = x / 10000 := by
    intro c
    simp (disch := first | omega | (unfold am_rg; omega)) only [am_w_id, Int.tdiv_eq_ediv_of_nonneg, Int.tmod_eq_emod_of_nonneg]
  have e2 : ¬ x < 0 → am_w (Int.tmod (am_w (Int.tdiv x 100)) 100) = x / 100 % 100 := by
    intro c
    simp (disch := first | omega | (unfold am_rg; omega)) only [am_w_id, Int.tdiv_eq_ediv_of_nonneg, Int.tmod_eq_emod_of_nonneg]
  have e3 : ¬ x < 0 → am_w (Int.tmod x 100) = x % 100 := by
    intro c
    simp (disch := first | omega | (unfold am_rg; omega)) only [am_w_id, Int.tdiv_eq_ediv_of_nonneg, Int.tmod_eq_emod_of_nonneg]
  refine pX0_hasDate hr (fun c1 c2 c3 => ?_) (fun c => ?_)
  · refine bX11_day_4 ⟨fun c => absurd c (by decide), fun _ => ?_⟩
    have p : ¬ x < 0 := by omega
    rw [e1 p, e2 p, e3 p]
    have b := mh_mlb (x / 10000) (x / 100 % 100)
    refine pX0_dayOf ⟨by omega, by omega⟩ c2 ⟨by omega, by omega⟩ ?_
    refine bX11_day_26 (h _ ?_)
    intro d' kc ks Q' w' k
    refine am_M_of (by decide) (Nat.le_of_ble_eq_true rfl) ?_
    refine bX12_day_0 ⟨fun c => absurd c p, fun _ => ?_⟩
    rw [e1 p, e2 p, e3 p]
    refine ⟨fun c => absurd ⟨by omega, by omega⟩ c, fun _ => ⟨fun c => absurd ⟨by omega, by omega⟩ c, fun _ => ?_⟩⟩
    refine pX12_lengthOf ⟨by omega, by omega⟩ ?_
    refine bX12_day_51 ⟨fun _ => ?_, fun c => absurd ⟨by omega, by omega⟩ c⟩
    rw [e3 p]
    refine pX12_dayOf ⟨by omega, by omega⟩ c2 ⟨by omega, by omega⟩ ?_
    have z := mh_din c1 c2 c3
    exact bX12_day_70 ⟨fun c => absurd z c, fun _ => k⟩
  · refine bX11_day_4 ⟨fun _ => h _ ?_, fun c => absurd rfl c⟩
    intro d' kc ks Q' w' k
    refine am_M_of (by decide) (Nat.le_of_ble_eq_true rfl) ?_
    refine bX12_day_0 ⟨fun _ => k, fun p => ?_⟩
    rw [e1 p, e2 p, e3 p]
    refine ⟨fun _ => k, fun c1 => ⟨fun _ => k, fun c2 => ?_⟩⟩
    refine pX12_lengthOf ⟨by omega, by omega⟩ ?_
    refine bX12_day_51 ⟨fun c3 => absurd (by omega) c, fun _ => k⟩
