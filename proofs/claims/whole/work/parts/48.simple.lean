-- calls that read, and calls that change one component
variable {SC : Nat → Nat} {X : mh_X}
theorem am_up_n {α : Type} {f : Nat → Nat → Nat → α} {t j k k' : Nat} {v : α} {l : List Nat} (hk : k' ∉ l) (hm : k ∈ l) : am_up f t j k v t j k' = f t j k' := am_up_k (fun e => hk (e ▸ hm))
theorem mh_q_an {dc dm : Nat} {Yc Ym : am_Y} {ac as : List am_V} (h : ∀ (a b0 : am_W), mh_E a b0 → ∀ (d kc ks : Nat) (Q : Option am_V → am_W → Prop), (∀ v, (∀ b, mh_E a b → ∀ (d' kc' ks' : Nat) (Q' : Option am_V → am_W → Prop), Q' (some (.inl v)) b → am_M (mh_G X) SC (d' + dm) kc' ks' Ym as b Q') → Q (some (.inl v)) a) → am_M (mh_G X) SC (d + dc) kc ks Yc ac a Q) : mh_q SC X dc Yc ac dm Ym as :=
  fun a b0 E d kc ks Q k => h a b0 E d kc ks Q (fun v hv => k v a (fun _ _ => rfl) (fun b e d' kc' ks' Q' k' => hv b e d' kc' ks' Q' (k' b e (fun _ _ => rfl) rfl)))
theorem qY_date {x : Int} : mh_q SC X 2 mX11_date [.inr (.inr (some (1, 0))), .inl x] 7 mX12_date [.inr (.inr (some (9, 0))), .inl x] :=
  mh_q_an (fun a b0 _ d kc ks Q h => qX_date (fun v hv => h v (fun b _ d' kc' ks' Q' k => hv d' kc' ks' Q' b k)))
theorem qY_months {x n : Int} : mh_q SC X 3 mX11_months [.inr (.inr (some (1, 0))), .inl x, .inl n] 8 mX12_months [.inr (.inr (some (9, 0))), .inl x, .inl n] :=
  mh_q_an (fun a b0 _ d kc ks Q h => qX_months (fun v hv => h v (fun b _ d' kc' ks' Q' k => hv d' kc' ks' Q' b k)))
theorem qY_day {x : Int} (hr : am_rg x) : mh_q SC X 3 mX11_day [.inr (.inr (some (1, 0))), .inl x] 4 mX12_day [.inr (.inr (some (9, 0))), .inl x] :=
  mh_q_an (fun a b0 _ d kc ks Q h => qX_day hr (fun v hv => h v (fun b _ d' kc' ks' Q' k => hv d' kc' ks' Q' b k)))
theorem qX_fault {x : Int} : mh_q SC X 1 mX11_fault [.inr (.inr (some (1, 0))), .inl x] 1 mX12_fault [.inr (.inr (some (9, 0))), .inl x] := by
  refine mh_q_an (fun a b0 _ d kc ks Q h => sX11_fault (h _ ?_))
  intro b e d' kc' ks' Q' k
  obtain ⟨-, -, ⟨-, ⟨e1, e2, e3⟩, -⟩, -⟩ := e
  refine sX12_fault ?_
  have e : ∀ z : Int, z = (if x = 2 then a.1 2 0 6 else (if x = 1 then a.1 2 0 5 else (if x = 0 then a.1 2 0 4 else -1))) → Q' (some (.inl z)) b := fun z hz => hz ▸ k
  refine e _ ?_
  rw [e1, e2, e3]
  repeat' split
  all_goals omega
theorem qX_out {x : Int} : mh_q SC X 2 mX11_out [.inr (.inr (some (1, 0))), .inl x] 2 mX12_out [.inr (.inr (some (9, 0))), .inl x] := by
  refine mh_q_an (fun a b0 E d kc ks Q h => ?_)
  have i1 := E.2.2.2.2.2.2.2.1
  refine sX11_out (fun c => by omega) (fun c => by omega) (h _ ?_)
  intro b e d' kc' ks' Q' k
  obtain ⟨⟨e1, e2⟩, e3⟩ := e.2.2.2.2.2.2.2
  refine sX12_out (fun c => ?_) (fun c => ?_) ?_
  · omega
  · rw [e1, am_w_id (by unfold am_rg; omega)] at c; omega
  · rw [e1, am_w_id (by unfold am_rg; omega)]
    by_cases c : 0 ≤ x ∧ x < a.1 3 0 1
    · rw [if_pos (by omega)] at k
      rw [if_pos (by omega), e3 _ (by omega)]
      exact k
    · rw [if_neg (by omega)] at k
      rw [if_neg (by omega)]
      exact k
theorem qX_count {x : Int} (hr : am_rg x) : mh_q SC X 2 mX11_count [.inr (.inr (some (1, 0))), .inl x] 2 mX12_count [.inr (.inr (some (9, 0))), .inl x] := by
  unfold am_rg at hr
  refine mh_q_an (fun a b0 E d kc ks Q h => ?_)
  refine sX11_count (fun _ c => ?_) (fun _ c => ?_) (h _ ?_)
  · rw [am_w_id (by unfold am_rg; omega)]; omega
  · rw [am_w_id (by unfold am_rg; omega)]; omega
  intro b e d' kc' ks' Q' k
  obtain ⟨⟨-, ⟨w1, w2, w3⟩, -, -, w4, -⟩, n1, t1, l1, k1, o1, dd1, -⟩ := e
  refine sX12_count (fun c => ?_) (fun c => ?_) ?_
  · rw [am_w_id (by unfold am_rg; omega)]; omega
  · rw [am_w_id (by unfold am_rg; omega)]; omega
  have e : ∀ z : Int, z = _ → Q' (some (.inl z)) b := fun z hz => hz ▸ k
  refine e _ ?_
  rw [w1, w2, w3, n1.1, t1.1.1, l1.1.1, k1.1.1, k1.2.1.1, o1.1.1, dd1.1.1, w4]
  by_cases c : 10 ≤ x
  · rw [am_w_id (by unfold am_rg; omega)]
    repeat' split
    all_goals omega
  · rw [if_neg (show ¬ (¬ x < 10 ∧ ¬ 14 < x) by omega), if_neg c]
theorem qX_told {x1 x2 : Int} : mh_q SC X 3 mX11_told [.inr (.inr (some (1, 0))), .inl x1, .inl x2] 3 mX12_told [.inr (.inr (some (9, 0))), .inl x1, .inl x2] := by
  refine mh_q_an (fun a b0 E d kc ks Q h => ?_)
  have p1 := E.2.2.2.2.1.1
  have ref : ∀ b, mh_E a b → ∀ (d' kc' ks' : Nat) (Q' : Option am_V → am_W → Prop), Q' (some (.inl (if 0 ≤ x1 ∧ x1 < a.1 5 0 18 then (if x2 = 6 then (if (¬ (a.1 40 0 x1.toNat) = 2147483647) then (a.1 40 0 x1.toNat) else (-2147483648)) else (if x2 = 5 then (if (¬ (a.1 40 0 x1.toNat) = 2147483647) then (a.1 39 0 x1.toNat) else (-2147483648)) else (if x2 = 4 then (a.1 37 0 x1.toNat) else (if x2 = 3 then (if (a.1 36 0 x1.toNat) = (-1) then (-2147483648) else (a.1 36 0 x1.toNat)) else (if x2 = 2 then (if (a.1 35 0 x1.toNat) = (-1) then (-2147483648) else (a.1 35 0 x1.toNat)) else (if x2 = 1 then (a.1 34 0 x1.toNat) else (if x2 = 0 then (a.1 33 0 x1.toNat) else (-2147483648)))))))) else -2147483648))) b → am_M (mh_G X) SC (d' + 3) kc' ks' mX12_told [.inr (.inr (some (9, 0))), .inl x1, .inl x2] b Q' := by
    intro b e d' kc' ks' Q' k
    have n1 := e.2.1.2
    obtain ⟨⟨q1, q2⟩, -, q3, -⟩ := e.2.2.2.2.1
    have c0 : (¬ x1 < (0 : Int) ∧ (¬ (am_w ((b.1 9 0 42) - 1)) < x1)) ↔ (0 ≤ x1 ∧ x1 < a.1 5 0 18) := by rw [q1, am_w_id (by unfold am_rg; omega)]; omega
    refine sX12_told (fun c _ => by omega) (fun c _ => by omega) (fun c _ => by omega) (fun c _ => by omega) (fun c _ => by omega) (fun c _ => by omega) (fun c _ => by omega) (fun c _ => by omega) (fun c _ => by omega) (fun c _ => by omega) (fun c _ => by omega) (fun c _ => by omega) (fun c _ => by omega) (fun c _ => by omega) ?_
    have e : ∀ z : Int, z = _ → Q' (some (.inl z)) b := fun z hz => hz ▸ k
    refine e _ ?_
    by_cases c : 0 ≤ x1 ∧ x1 < a.1 5 0 18
    · rw [if_pos (c0.mpr c), if_pos c]
      have := q3 x1.toNat (by omega)
      repeat' split
      all_goals omega
    · rw [if_neg (fun c2 => c (c0.mp c2)), if_neg c]
  refine am_M_of (by decide) (Nat.le_of_ble_eq_true rfl) ?_
  refine bX11_told_0 ⟨fun c => ?_, fun c => ?_⟩
  · refine h _ (fun b e d' kc' ks' Q' k => ref b e d' kc' ks' Q' ?_)
    rw [if_neg (by omega)]; exact k
  · refine sX2_factOf (fun _ => by omega) (fun _ => by omega) (fun _ => by omega) (fun _ => by omega) (fun _ => by omega) (fun _ => by omega) (fun _ => by omega) (fun _ => by omega) (fun _ => by omega) (fun _ => by omega) (fun _ => by omega) (fun _ => by omega) (fun _ => by omega) (fun _ => by omega) ?_
    refine bX11_told_20 ?_
    refine h _ (fun b e d' kc' ks' Q' k => ref b e d' kc' ks' Q' ?_)
    rw [if_pos (show 0 ≤ x1 ∧ x1 < a.1 5 0 18 by omega)]; exact k
theorem mh_E_end {a b : am_W} {x : Int} (e : mh_E a b) (h : 0 ≤ x ∧ x ≤ 3000) : mh_E (am_up a.1 2 0 3 x, a.2) (am_up b.1 9 0 1 x, b.2) := by
  refine mh_E_T e (fun t q => by (show am_up _ _ _ _ _ t = _; rw [am_up_t (fun e => q (by rw [e]; decide))])) (fun k hk => by repeat (first | (rw [am_up_n hk (by decide)]) | (simp (disch := decide) only [am_up_t]))) rfl (mh_fm_f mh_fm_i (by decide)) ?_
  obtain ⟨-, -, ⟨e1, e2, e3⟩, -⟩ := e
  unfold mh_RT
  simp (disch := decide) only [am_up_t, am_up_k, am_up_s]
  exact ⟨⟨trivial, h⟩, e2, e3⟩
theorem qX_end {x : Int} : mh_q SC X 1 mX11_end [.inr (.inr (some (1, 0))), .inl x] 2 mX12_end [.inr (.inr (some (9, 0))), .inl x] := by
  intro a b0 E d kc ks Q h
  have t1 := E.2.2.1.1
  have no : ¬ (0 ≤ x ∧ x ≤ a.1 2 0 3) → Q (some (.inl 0)) a := by
    intro c
    refine h 0 a (fun _ _ => rfl) ?_
    intro b e d' kc' ks' Q' k
    have t2 := e.2.2.1.1.1
    refine am_M_of (by decide) (Nat.le_of_ble_eq_true rfl) ?_
    exact bX12_end_0 ⟨fun c2 => absurd c2 (by omega), fun _ => k b e (fun _ _ => rfl) rfl⟩
  refine am_M_of (by decide) (Nat.le_of_ble_eq_true rfl) ?_
  refine bX11_end_0 ⟨fun c => no (by omega), fun c => ⟨fun c2 => ?_, fun c2 => no (by omega)⟩⟩
  refine h 1 _ (fun t q => by (show am_up _ _ _ _ _ t = _; rw [am_up_t (fun e => q (by rw [e]; decide))])) ?_
  intro b e d' kc' ks' Q' k
  have t2 := e.2.2.1.1.1
  refine am_M_of (by decide) (Nat.le_of_ble_eq_true rfl) ?_
  exact bX12_end_0 ⟨fun _ => k _ (mh_E_end e (by omega)) (fun t q => by (show am_up _ _ _ _ _ t = _; rw [am_up_t (fun e => q (by rw [e]; decide))])) rfl, fun c3 => absurd ⟨c, by omega⟩ c3⟩
theorem mh_E_court {a b : am_W} {x1 x2 x3 : Int} (e : mh_E a b) (h1 : -36524 ≤ x1 ∧ x1 ≤ 73047) (h2 : 1 ≤ x2 ∧ x2 ≤ 400) (h3 : 1 ≤ x3 ∧ x3 ≤ 4) (h : a.1 4 0 6 < 10) :
    mh_E (am_up (am_up (am_up (am_up (am_up a.1 29 0 (a.1 4 0 6).toNat x1) 30 0 (a.1 4 0 6).toNat x2) 31 0 (a.1 4 0 6).toNat x3) 32 0 (a.1 4 0 6).toNat (a.1 1 0 12)) 4 0 6 (a.1 4 0 6 + 1), a.2)
      (am_up (am_up (am_up (am_up (am_up b.1 108 0 (a.1 4 0 6).toNat x1) 109 0 (a.1 4 0 6).toNat x2) 110 0 (a.1 4 0 6).toNat x3) 111 0 (a.1 4 0 6).toNat (a.1 1 0 12)) 9 0 52 (a.1 4 0 6 + 1), b.2) := by
  refine mh_E_O e (fun t q => by (show am_up _ _ _ _ _ t = _; rw [am_up_t (fun e => q (by rw [e]; decide)), am_up_t (fun e => q (by rw [e]; decide)), am_up_t (fun e => q (by rw [e]; decide)), am_up_t (fun e => q (by rw [e]; decide)), am_up_t (fun e => q (by rw [e]; decide))])) (fun k hk => by repeat (first | (rw [am_up_n hk (by decide)]) | (simp (disch := decide) only [am_up_t]))) rfl (mh_fm_f (mh_fm_v (mh_fm_v (mh_fm_v (mh_fm_v mh_fm_i (by decide) (by decide)) (by decide) (by decide)) (by decide) (by decide)) (by decide) (by decide)) (by decide)) ?_
  obtain ⟨-, -, -, -, -, ⟨e1, e2⟩, -⟩ := e
  unfold mh_RO
  simp (disch := decide) only [am_up_t, am_up_k, am_up_s]
  simp (disch := decide) only [am_up_t, am_up_a]
  refine ⟨⟨trivial, by omega⟩, fun k hk => ?_⟩
  by_cases c : k = (a.1 4 0 6).toNat
  · simp only [if_pos c]
    exact ⟨⟨trivial, h1⟩, ⟨trivial, h2⟩, ⟨trivial, h3⟩, trivial⟩
  · simp only [if_neg c]
    exact e2 k (by omega)
theorem qX_court {x1 x2 x3 : Int} : mh_q SC X 2 mX11_court [.inr (.inr (some (1, 0))), .inl x1, .inl x2, .inl x3] 3 mX12_court [.inr (.inr (some (9, 0))), .inl x1, .inl x2, .inl x3] := by
  intro a b0 E d kc ks Q h
  have o1 := E.2.2.2.2.2.1.1
  have no : ¬ ((-36524 ≤ x1 ∧ x1 ≤ 73047) ∧ (1 ≤ x2 ∧ x2 ≤ 400) ∧ (1 ≤ x3 ∧ x3 ≤ 4) ∧ a.1 4 0 6 < 10) → Q (some (.inl (-1))) a := by
    intro c
    refine h (-1) a (fun _ _ => rfl) ?_
    intro b e d' kc' ks' Q' k
    have K := k b e (fun _ _ => rfl) rfl
    have o2 := e.2.2.2.2.2.1.1.1
    refine am_M_of (by decide) (Nat.le_of_ble_eq_true rfl) ?_
    exact bX12_court_0 ⟨fun _ => K, fun c1 => ⟨fun _ => K, fun c2 => ⟨fun _ => K, fun c3 => ⟨fun c4 => absurd ⟨by omega, by omega, by omega, by omega⟩ c, fun _ => K⟩⟩⟩⟩
  refine am_M_of (by decide) (Nat.le_of_ble_eq_true rfl) ?_
  refine bX11_court_0 ⟨fun c => no (by omega), fun c => ⟨fun c2 => ⟨by omega, by omega, ?_⟩, fun c2 => no (by omega)⟩⟩
  simp only [am_up_s]
  rw [am_w_id (z := a.1 4 0 6 + 1) (by unfold am_rg; omega), am_w_id (by unfold am_rg; omega)]
  refine h _ _ (fun t q => by (show am_up _ _ _ _ _ t = _; rw [am_up_t (fun e => q (by rw [e]; decide)), am_up_t (fun e => q (by rw [e]; decide)), am_up_t (fun e => q (by rw [e]; decide)), am_up_t (fun e => q (by rw [e]; decide)), am_up_t (fun e => q (by rw [e]; decide))])) ?_
  intro b e d' kc' ks' Q' k
  have K := k _ (mh_E_court (x1 := x1) (x2 := x2) (x3 := x3) e (by omega) (by omega) (by omega) (by omega)) (fun t q => by (show am_up _ _ _ _ _ t = _; rw [am_up_t (fun e => q (by rw [e]; decide)), am_up_t (fun e => q (by rw [e]; decide)), am_up_t (fun e => q (by rw [e]; decide)), am_up_t (fun e => q (by rw [e]; decide)), am_up_t (fun e => q (by rw [e]; decide))])) rfl
  have o2 := e.2.2.2.2.2.1.1.1
  have n1 := e.2.1.1
  refine am_M_of (by decide) (Nat.le_of_ble_eq_true rfl) ?_
  refine bX12_court_0 ⟨fun c => absurd ⟨by omega, by omega⟩ c, fun c1 => ⟨fun c => absurd ⟨by omega, by omega⟩ c, fun c2 => ⟨fun c => absurd ⟨by omega, by omega⟩ c, fun c3 => ⟨fun c4 => ⟨by omega, by omega, ?_⟩, fun c4 => absurd c4 (by omega)⟩⟩⟩⟩
  simp only [am_up_s]
  rw [o2, n1, am_w_id (z := a.1 4 0 6 + 1) (by unfold am_rg; omega), am_w_id (by unfold am_rg; omega)]
  exact K
theorem mh_E_death {a b : am_W} {x1 x2 : Int} (e : mh_E a b) (h1 : 0 ≤ x1 ∧ x1 < a.1 5 0 18) (h2 : a.1 37 0 x1.toNat ≤ x2 ∧ x2 ≤ a.1 1 0 12) :
    mh_E (am_up (am_up a.1 39 0 x1.toNat x2) 40 0 x1.toNat (a.1 1 0 12), a.2) (am_up (am_up b.1 102 0 x1.toNat x2) 103 0 x1.toNat (a.1 1 0 12), b.2) := by
  have n1 := e.2.1.2
  refine mh_E_F e (fun t q => by (show am_up _ _ _ _ _ t = _; rw [am_up_t (fun e => q (by rw [e]; decide)), am_up_t (fun e => q (by rw [e]; decide))])) (fun k hk => by repeat (first | (rw [am_up_n hk (by decide)]) | (simp (disch := decide) only [am_up_t]))) (by simp (disch := decide) only [am_up_t]; exact Int.le_refl _) (mh_fm_v (mh_fm_v mh_fm_i (by decide) (by decide)) (by decide) (by decide)) ?_
  obtain ⟨-, -, -, -, ⟨e1, e2, e3, e4, e5⟩, -⟩ := e
  unfold mh_RK
  simp (disch := decide) only [am_up_t, am_up_k, am_up_s]
  simp (disch := decide) only [am_up_t, am_up_a]
  refine ⟨e1, e2, fun p hp => ?_, e4, e5⟩
  have := e3 p hp
  by_cases c : p = x1.toNat
  · subst c
    simp only [↓reduceIte, true_and]
    omega
  · simp only [if_neg c]
    exact this
theorem qX_death {x1 x2 : Int} : mh_q SC X 3 mX11_death [.inr (.inr (some (1, 0))), .inl x1, .inl x2] 3 mX12_death [.inr (.inr (some (9, 0))), .inl x1, .inl x2] := by
  intro a b0 E d kc ks Q h
  have n0 := E.2.1.2
  have o1 := E.2.2.2.2.1.1
  have ref : ∀ b, mh_E a b → ∀ (d' kc' ks' : Nat) (Q' : Option am_V → am_W → Prop),
      (¬ ((0 ≤ x1 ∧ x1 < a.1 5 0 18) ∧ a.1 40 0 x1.toNat = 2147483647 ∧ a.1 37 0 x1.toNat ≤ x2 ∧ x2 ≤ a.1 1 0 12) → Q' (some (.inl 0)) b) →
      (((0 ≤ x1 ∧ x1 < a.1 5 0 18) ∧ a.1 40 0 x1.toNat = 2147483647 ∧ a.1 37 0 x1.toNat ≤ x2 ∧ x2 ≤ a.1 1 0 12) → Q' (some (.inl 1)) (am_up (am_up b.1 102 0 x1.toNat x2) 103 0 x1.toNat (a.1 1 0 12), b.2)) →
      am_M (mh_G X) SC (d' + 3) kc' ks' mX12_death [.inr (.inr (some (9, 0))), .inl x1, .inl x2] b Q' := by
    intro b e d' kc' ks' Q' K0 K1
    have n1 := e.2.1
    unfold mh_RN at n1
    obtain ⟨⟨q1, q2⟩, -, q3, -⟩ := e.2.2.2.2.1
    refine am_M_of (by decide) (Nat.le_of_ble_eq_true rfl) ?_
    refine bX12_death_0 ?_
    rw [q1, am_w_id (by unfold am_rg; omega)]
    refine ⟨fun c => K0 (by omega), fun c => ⟨by omega, by omega, ?_⟩⟩
    have := q3 x1.toNat (by omega)
    exact ⟨fun c2 => K0 (by omega), fun c2 => ⟨fun c3 => K0 (by omega), fun c3 => ⟨fun c4 => K0 (by omega), fun c4 => ⟨fun c5 => by rw [n1.1]; exact K1 (by omega), fun c5 => K0 (by omega)⟩⟩⟩⟩
  have no : ¬ ((0 ≤ x1 ∧ x1 < a.1 5 0 18) ∧ a.1 40 0 x1.toNat = 2147483647 ∧ a.1 37 0 x1.toNat ≤ x2 ∧ x2 ≤ a.1 1 0 12) → Q (some (.inl 0)) a := fun c =>
    h 0 a (fun _ _ => rfl) (fun b e d' kc' ks' Q' k => ref b e d' kc' ks' Q' (fun _ => k b e (fun _ _ => rfl) rfl) (fun c2 => absurd c2 c))
  refine am_M_of (by decide) (Nat.le_of_ble_eq_true rfl) ?_
  refine bX11_death_0 ⟨fun c => no (fun c2 => ?_), fun c => ⟨fun c2 => no (by omega), fun c2 => ⟨by omega, by omega, fun c3 => no (by omega), fun c3 => ⟨fun c4 => ?_, fun c4 => no (by omega)⟩⟩⟩⟩
  · have := E.2.2.2.2.1.2.2.1 x1.toNat (by omega)
    omega
  refine h 1 _ (fun t q => by (show am_up _ _ _ _ _ t = _; rw [am_up_t (fun e => q (by rw [e]; decide)), am_up_t (fun e => q (by rw [e]; decide))])) (fun b e d' kc' ks' Q' k => ref b e d' kc' ks' Q' (fun c5 => absurd (by omega) c5) (fun c5 => k _ (mh_E_death e (by omega) (by omega)) (fun t q => by (show am_up _ _ _ _ _ t = _; rw [am_up_t (fun e => q (by rw [e]; decide)), am_up_t (fun e => q (by rw [e]; decide))])) rfl))
