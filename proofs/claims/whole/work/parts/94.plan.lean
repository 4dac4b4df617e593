-- plan and planned
variable {SC : Nat → Nat} {X : mh_X}
theorem mh_dpt_e {I I' : Nat → Nat → Nat → Int} (h : ∀ t, t ∈ mh_fu → I' t = I t) : mh_dpt I' = mh_dpt I := by
  funext a known day
  unfold mh_dpt
  rw [mh_ali_e (mh_fu_t h), mh_dep_e h]
theorem pX2_areAlive {d kc ks : Nat} {Q : Option am_V → am_W → Prop} {w : am_W} {x : Int} (hx : 0 < x ∧ x < 2147483648) (hp : 0 ≤ w.1 5 0 18 ∧ w.1 5 0 18 ≤ 40)
    (K1 : (∀ i, i < 31 → ab_in x.toNat i → (i : Int) < w.1 5 0 18 ∧ w.1 40 0 i = 2147483647) → Q (some (.inl 1)) w)
    (K0 : ¬ (∀ i, i < 31 → ab_in x.toNat i → (i : Int) < w.1 5 0 18 ∧ w.1 40 0 i = 2147483647) → Q (some (.inl 0)) w) : am_M (mh_G X) SC (d + 2) kc ks mX2_areAlive [.inr (.inr (some (5, 0))), .inl x] w Q := by
  obtain ⟨X0, rfl⟩ := mh_nat (z := x) (by omega)
  rw [Int.toNat_natCast] at K0 K1
  have L := fun j => ab_long (a := X0) (j := j) (by omega)
  have far := ab_far (k := w.1 5 0 18) (by omega) ((Int32.ofInt (X0 : Int)).toInt64)
  have hi31 : ∀ j, ab_in X0 j → j < 31 := fun j bj => Nat.lt_of_not_le (fun c => by unfold ab_in at bj; rw [ab_big (by omega) c] at bj; omega)
  have B : (∀ j : Nat, w.1 5 0 18 ≤ j → ¬ ab_in X0 j) → ∀ n k : Nat, ((n + k : Nat) : Int) = w.1 5 0 18 → (∀ j, j < k → ab_in X0 j → w.1 40 0 j = 2147483647) → am_A (mh_G X) SC (d + 2) mX2_areAlive Q 16 [(0, .inr (.inr (some (5, 0)))), (1, .inl (X0 : Int)), (2, .inl (k : Int))] [] w kc ks := by
    intro fr n
    induction n with
    | zero =>
      intro k hk al
      refine bX2_areAlive_16 ⟨fun _ => K1 (fun i hi bi => ?_), fun c => absurd (by omega) c⟩
      have : (i : Int) < w.1 5 0 18 := by
        refine Int.lt_of_not_ge (fun c => fr i (by omega) bi)
      exact ⟨this, al i (by omega) bi⟩
    | succ n ih =>
      intro k hk al
      have t := mh_bt_test (k := (k : Int)) (by omega) ((Int32.ofInt (X0 : Int)).toInt64)
      rw [Int.toNat_natCast, L] at t
      refine bX2_areAlive_16 ⟨fun c => absurd c (by omega), fun _ => ⟨fun c => bX2_areAlive_45 ?_, fun c => ⟨by omega, by omega, ?_⟩⟩⟩
      · rw [am_w_id (z := (k : Int) + 1) (by unfold am_rg; omega)]
        refine ih (k + 1) (by omega) (fun j hj bj => ?_)
        by_cases z : j = k
        · rw [z] at bj; exact absurd bj (t.mp c)
        · exact al j (by omega) bj
      · have bk : ab_in X0 k := Classical.byContradiction (fun z => c (t.mpr z))
        rw [Int.toNat_natCast]
        refine ⟨fun c2 => bX2_areAlive_45 ?_, fun c2 => K0 (fun z => c2 (z k (hi31 k bk) bk).2)⟩
        rw [am_w_id (z := (k : Int) + 1) (by unfold am_rg; omega)]
        refine ih (k + 1) (by omega) (fun j hj bj => ?_)
        by_cases z : j = k
        · rw [z]; omega
        · exact al j (by omega) bj
  refine am_M_of (by decide) (Nat.le_of_ble_eq_true rfl) ?_
  refine bX2_areAlive_0 ⟨fun c => ?_, fun c => K0 (fun z => c (far.mpr (fun j hj bj => ?_)))⟩
  · have f2 := far.mp c
    exact B (fun j hj bj => f2 j hj ((L j).mpr bj)) (w.1 5 0 18).toNat 0 (by omega) (fun j hj => absurd hj (Nat.not_lt_zero j))
  · have b2 := (L j).mp bj
    have := (z j (hi31 j b2) b2).1
    omega
theorem pX7_takeHands {d kc ks : Nat} {Q : Option am_V → am_W → Prop} {w : am_W} {T : Nat} {H : Int} {tl : Nat → Int} (hT : w.1 7 0 9 = (T : Int)) (hT2 : T ≤ 20) (hH : w.1 7 0 10 = H) (hH2 : 0 ≤ H ∧ H ≤ 4) (htl : ∀ k, k < T → w.1 57 0 k = tl k ∧ 0 ≤ tl k ∧ tl k ≤ 3)
    (K : ∀ w' : am_W, (∀ t, ¬ t = 65 → w'.1 t = w.1 t) → w'.2 = w.2 → (∀ h, h < 4 → w'.1 65 0 h = pl_F H tl T h) → Q none w') : am_M (mh_G X) SC (d + 2) kc ks mX7_takeHands [.inr (.inr (some (8, 0)))] w Q := by
  have Fb := fun k (hk : k ≤ T) => pl_F_b (H := H) (p := tl) (n := k) (fun j hj => (htl j (by omega)).2)
  have B : ∀ (n k : Nat) (w1 : am_W), n + k = T → (∀ t, ¬ t = 65 → w1.1 t = w.1 t) → w1.2 = w.2 → (∀ h, h < 4 → w1.1 65 0 h = pl_F H tl k h) → am_A (mh_G X) SC (d + 2) mX7_takeHands Q 22 [(0, .inr (.inr (some (8, 0)))), (1, .inl (k : Int))] [] w1 kc ks := by
    intro n
    induction n with
    | zero =>
      intro k w1 hk f1 f2 r
      obtain rfl : k = T := by omega
      have e7 : w1.1 7 = w.1 7 := f1 7 (by decide)
      exact bX7_takeHands_22 ⟨fun _ => K w1 f1 f2 r, fun c => absurd (by rw [e7]; omega) c⟩
    | succ n ih =>
      intro k w1 hk f1 f2 r
      have e7 : w1.1 7 = w.1 7 := f1 7 (by decide)
      have e57 : w1.1 57 = w.1 57 := f1 57 (by decide)
      have tk := htl k (by omega)
      have F1 := pl_F1 (H := H) (p := tl) (k := k)
      refine bX7_takeHands_22 ⟨fun c => absurd c (by rw [e7]; omega), fun _ => ⟨fun c => K w1 f1 f2 (fun h hh => ?_), fun c => ?_⟩⟩
      · have h0 : ¬ 0 < H := by rw [e7] at c; omega
        rw [r h hh]
        have : ∀ m, pl_F H tl m = fun _ => 0 := by
          intro m
          induction m with
          | zero => rfl
          | succ m ihm => rw [pl_F1, ihm]; unfold pl_add; rw [if_neg h0]
        rw [this, this]
      · have h0 : 0 < H := by rw [e7] at c; omega
        have fb := (pl_f_b (pl_F H tl k) h0).1
        have lb := Fb k (by omega) (pl_f H (pl_F H tl k))
        refine pX7_freeHand (r := 0) (l := pl_F H tl k) (by decide) (by rw [e7]; omega) (fun h hh => by rw [show 4 * 0 + h = h by omega]; exact r h hh) ?_
        rw [e7, hH, show 4 * 0 + pl_f H (pl_F H tl k) = pl_f H (pl_F H tl k) by omega]
        refine bX7_takeHands_52 ⟨by omega, by omega, by omega, by omega, ?_⟩
        rw [Int.toNat_natCast, Int.toNat_natCast, r _ (by omega), e57, tk.1, am_w_id (z := (k : Int) + 1) (by unfold am_rg; omega), am_w_id (z := pl_F H tl k (pl_f H (pl_F H tl k)) + tl k) (by unfold am_rg; omega)]
        refine ih (k + 1) _ (by omega) (fun t ht => (am_up_t ht).trans (f1 t ht)) f2 (fun h hh => ?_)
        show am_up w1.1 65 0 _ _ 65 0 h = _
        rw [F1, am_up_a]
        unfold pl_add pl_u
        rw [if_pos h0]
        by_cases e : h = pl_f H (pl_F H tl k)
        · rw [if_pos e, if_pos e]
        · rw [if_neg e, if_neg e]; exact r h hh
  have Z : ∀ (n k : Nat) (w1 : am_W), n + k = 4 → (∀ t, ¬ t = 65 → w1.1 t = w.1 t) → w1.2 = w.2 → (∀ h, h < k → w1.1 65 0 h = 0) → am_A (mh_G X) SC (d + 2) mX7_takeHands Q 2 [(0, .inr (.inr (some (8, 0)))), (1, .inl (k : Int))] [] w1 kc ks := by
    intro n
    induction n with
    | zero =>
      intro k w1 hk f1 f2 r
      obtain rfl : k = 4 := by omega
      exact bX7_takeHands_2 ⟨fun _ => B T 0 w1 rfl f1 f2 r, fun c => absurd (by decide) c⟩
    | succ n ih =>
      intro k w1 hk f1 f2 r
      refine bX7_takeHands_2 ⟨fun c => absurd c (by omega), fun _ => ⟨by omega, by omega, ?_⟩⟩
      rw [am_w_id (z := (k : Int) + 1) (by unfold am_rg; omega), Int.toNat_natCast]
      refine ih (k + 1) _ (by omega) (fun t ht => (am_up_t ht).trans (f1 t ht)) f2 (fun h hh => ?_)
      show am_up w1.1 65 0 k 0 65 0 h = 0
      rw [am_up_a]
      split
      · rfl
      · exact r h (by omega)
  refine am_M_of (by decide) (Nat.le_of_ble_eq_true rfl) ?_
  exact bX7_takeHands_0 (Z 4 0 w rfl (fun _ _ => rfl) rfl (fun h hh => absurd hh (Nat.not_lt_zero h)))
theorem pX7_solve {d kc ks : Nat} {Q : Option am_V → am_W → Prop} {a b w : am_W} {x f : Int} (e : mh_E a b) (c : pl_cond a.1 x f) (g : mh_fc mh_t1 mh_l1 a w) (r1 : w.1 8 0 9 = (ab_b x.toNat 31 : Int)) (r2 : w.1 8 0 10 = f - a.1 1 0 12)
    (r3 : ∀ j, j < ab_b x.toNat 31 → w.1 58 0 j = a.1 34 0 (pl_ix x.toNat 31 j) ∧ w.1 59 0 j = mh_dpt a.1 (pl_ix x.toNat 31 j) (a.1 1 0 12) f)
    (K : ∀ w', mh_fc mh_t1 mh_l1 a w' → w'.1 8 0 9 = (ab_b x.toNat 31 : Int) → (∀ j, j < ab_b x.toNat 31 → w'.1 62 0 j = (pl_TT a.1 x f).2.1 j ∧ w'.1 63 0 j = (pl_TT a.1 x f).2.2 j) → Q none w') : am_M (mh_G X) SC (d + 22) kc ks mX7_solve [.inr (.inr (some (8, 0)))] w Q := by
  have XM := pl_XX_ok e c
  have T := XM.2.1.1
  have we := XM.2.1.2
  have hands := we.2.1
  have tl8 := we.2.2.2.2.2.2.2.1
  have F : ∀ {u v : am_W}, mh_fc mh_t1 mh_l1 a u → pl_fr u v → mh_fc mh_t1 mh_l1 a v := fun {u v} h1 h2 => by
    refine ⟨fun t ht => (h2.1 t (fun z => ht ?_)).trans (h1.1 t ht), fun t ht => (h2.2 t (fun z => ht ?_)).trans (h1.2.1 t ht), ?_⟩
    · clear ht; revert z; revert t; decide
    · rw [z]; decide
    · rw [h2.2 5 (by decide)]; exact h1.2.2
  have G : ∀ {u : am_W}, pl_fr w u → ∀ t, t ∈ [7, 50, 51, 52, 53, 57] → u.1 t = a.1 t := fun {u} h t ht => by
    refine (h.1 t (by revert ht; revert t; decide)).trans (g.1 t (by revert ht; revert t; decide))
  have B : ∀ (n k : Nat) (w1 : am_W), n + k = 5 → pl_fr w w1 → w1.1 8 = w.1 8 → w1.1 58 = w.1 58 → w1.1 59 = w.1 59 → (∀ j, j < k → w1.1 64 0 j = 0) → am_A (mh_G X) SC (d + 22) mX7_solve Q 2 [(0, .inr (.inr (some (8, 0)))), (1, .inl (k : Int))] [] w1 kc ks := by
    intro n
    induction n with
    | zero =>
      intro k w1 hk f1 f8 f58 f59 r
      obtain rfl : k = 5 := by omega
      refine bX7_solve_2 ⟨fun _ => ?_, fun c => absurd (by decide) c⟩
      have f2 : pl_fr w (am_up w1.1 8 0 11 2147483647, am_up w1.2.1 8 0 12 0, w1.2.2) := pl_fr_l (W' := (_, _)) (pl_fr_u f1 (by decide))
      have e7 := G f2 7 (by decide)
      have e57 := G f2 57 (by decide)
      refine pX7_takeHands (T := (a.1 7 0 9).toNat) (H := a.1 7 0 10) (tl := fun k => a.1 57 0 k) (by rw [e7]; omega) (by omega) (by rw [e7]) hands (fun k hk => ⟨by rw [e57], ?_⟩) (fun w3 h1 h2 h3 => ?_)
      · have := (tl8 k (Or.inr ⟨by omega, hk⟩)).2.1
        have q : 1 ≤ a.1 57 0 k ∧ a.1 57 0 k ≤ 3 := this
        exact ⟨by omega, by omega⟩
      have f3 : pl_fr w w3 := ⟨fun t ht => (h1 t (fun z => ht (by rw [z]; decide))).trans (f2.1 t ht), fun t ht => by rw [h2]; exact f2.2 t ht⟩
      have CH := pX7_choose (SC := SC) (X := X) XM.1 (ab_b x.toNat 31) (d + 3 * (5 - ab_b x.toNat 31))
      have c5 := c.2.2.1
      rw [show d + 3 * (5 - ab_b x.toNat 31) + 3 * ab_b x.toNat 31 + 6 = d + 21 by omega] at CH
      refine bX7_solve_39 ?_
      refine CH 0 (fun _ => 0) (fun _ => 0) (fun _ => false) (fun _ => 0) pl_b0 w3 0 0 _ rfl ?_ (fun i hi => absurd hi (Nat.not_lt_zero i)) (fun W' f' P' => ?_)
      · refine ⟨fun t ht => ?_, ?_, fun j hj => ?_, fun j hj => absurd hj (Nat.not_lt_zero j), fun s hs => ?_, fun r hr h hh => ?_, fun j hj => ?_, ?_⟩
        · exact G f3 t (by revert ht; revert t; decide)
        · rw [h1 8 (by decide)]
          simp (disch := decide) only [am_up_k]
          rw [f8]
          exact ⟨r1, r2⟩
        · rw [h1 58 (by decide), h1 59 (by decide)]
          simp (disch := decide) only [am_up_t]
          rw [f58, f59]
          exact r3 j hj
        · rw [h1 64 (by decide)]
          simp (disch := decide) only [am_up_t]
          exact ⟨r s hs, by decide, by decide⟩
        · obtain rfl : r = 0 := by omega
          rw [show 4 * 0 + h = h by omega]
          exact h3 h hh
        · rw [h2]
          simp only [am_up_s]
          unfold mh_bt
          simp
        · rw [h1 8 (by decide)]
          simp only [am_up_s]
          exact ⟨rfl, fun z => absurd z (by decide)⟩
      · have P3 := (pl_P3 (X := pl_XX a.1 x f) (ab_b x.toNat 31) (k := 0) (w := fun _ => 0) (d := fun _ => 0) (tk := fun _ => false) (us := fun _ => 0) (b := pl_b0)).2 (fun i hi => absurd hi (Nat.not_lt_zero i))
        have c0 : pl_c (fun _ => 0) 0 = 0 := rfl
        refine bX7_solve_45 (K W' (F g (pl_fr_t f3 f')) P'.2.1.1 (P'.2.2.2.2.2.2.2.2 (by omega)))
    | succ n ih =>
      intro k w1 hk f1 f8 f58 f59 r
      refine bX7_solve_2 ⟨fun c => absurd c (by omega), fun _ => ⟨by omega, by omega, ?_⟩⟩
      rw [am_w_id (z := (k : Int) + 1) (by unfold am_rg; omega), Int.toNat_natCast]
      refine ih (k + 1) _ (by omega) (pl_fr_u f1 (by decide)) ?_ ?_ ?_ (fun j hj => ?_)
      · simp (disch := decide) only [am_up_t]; exact f8
      · simp (disch := decide) only [am_up_t]; exact f58
      · simp (disch := decide) only [am_up_t]; exact f59
      · simp only [am_up_a]
        split
        · rfl
        · exact r j (by omega)
  refine am_M_of (by decide) (Nat.le_of_ble_eq_true rfl) ?_
  exact bX7_solve_0 (B 5 0 w rfl pl_fr_r rfl rfl rfl (fun j hj => absurd hj (Nat.not_lt_zero j)))
theorem ab_none {x : Nat} {i : Nat} : ∀ m, (∀ j, i ≤ j → j < i + m → ¬ ab_in x j) → ab_b x (i + m) = ab_b x i
  | 0, _ => rfl
  | m + 1, h => by
    have ih := ab_none (x := x) (i := i) m (fun j h1 h2 => h j h1 (by omega))
    have b := h (i + m) (by omega) (by omega)
    unfold ab_in at b
    rw [show i + (m + 1) = i + m + 1 by omega, ab_b1]
    omega
theorem ab_32 {x : Nat} (h : x < 2147483648) : ab_b x 32 = ab_b x 31 := by
  rw [ab_b1, ab_big h (Nat.le_refl _)]; rfl
/-- the class's plan: worked out, or none -/
theorem pX11_isPlanned {d kc ks : Nat} {Q : Option am_V → am_W → Prop} {a b : am_W} {x f k : Int} (e : mh_E a b) (hx : x < 2147483648)
    (K0 : ¬ (pl_cond a.1 x f ∧ 0 ≤ k ∧ k < (ab_b x.toNat 31 : Int)) → Q (some (.inl 0)) a)
    (K1 : (pl_cond a.1 x f ∧ 0 ≤ k ∧ k < (ab_b x.toNat 31 : Int)) → ∀ w', mh_fc mh_t1 mh_l1 a w' → w'.1 8 0 9 = (ab_b x.toNat 31 : Int) → (∀ j, j < ab_b x.toNat 31 → w'.1 62 0 j = (pl_TT a.1 x f).2.1 j ∧ w'.1 63 0 j = (pl_TT a.1 x f).2.2 j) → Q (some (.inl 1)) w') :
    am_M (mh_G X) SC (d + 23) kc ks mX11_isPlanned [.inr (.inr (some (1, 0))), .inl x, .inl f, .inl k] a Q := by
  have n1 := e.2.1.2
  have p1 := e.2.2.2.2.1.1
  refine am_M_of (by decide) (Nat.le_of_ble_eq_true rfl) ?_
  refine bX11_isPlanned_0 ?_
  refine pX_bitCount hx (fun v hv => ?_)
  have B : (pl_cond a.1 x f ∧ 0 ≤ k ∧ k < (ab_b x.toNat 31 : Int)) → ∀ (n i : Nat) (w : am_W), n + i = (min (a.1 5 0 18) 31).toNat → mh_fc mh_t1 mh_l1 a w → w.1 8 0 9 = (ab_b x.toNat i : Int) → w.1 8 0 10 = f - a.1 1 0 12 →
      (∀ j, j < i → ab_in x.toNat j → w.1 58 0 (ab_b x.toNat j) = a.1 34 0 j ∧ w.1 59 0 (ab_b x.toNat j) = mh_dpt a.1 j (a.1 1 0 12) f) →
      am_A (mh_G X) SC (d + 23) mX11_isPlanned Q 83 [(0, .inr (.inr (some (1, 0)))), (1, .inl x), (2, .inl f), (5, .inl (i : Int))] [] w kc ks := by
    intro cc n
    obtain ⟨⟨c1, c2, c3, c4⟩, c5⟩ := id cc
    obtain ⟨X0, hX0⟩ := mh_nat (z := x) (by omega)
    induction n with
    | zero =>
      intro i w hi g r1 r2 r3
      have e5 : w.1 5 = a.1 5 := g.1 5 (by decide)
      have fin : am_A (mh_G X) SC (d + 23) mX11_isPlanned Q 155 [(0, .inr (.inr (some (1, 0))))] [] w kc ks := by
        refine bX11_isPlanned_155 ?_
        have be : ab_b x.toNat 31 = ab_b x.toNat i := by
          have := ab_none (x := x.toNat) (i := i) (31 - i) (fun j h1 h2 bj => by have := (c4 j (by omega) bj).1; omega)
          rw [show i + (31 - i) = 31 by omega] at this
          exact this
        refine pX7_solve e cc.1 g (by rw [be]; exact r1) r2 (fun j hj => ?_) (fun w' g' s1 s2 => bX11_isPlanned_162 (K1 cc w' g' s1 s2))
        obtain ⟨i1, i2, i3⟩ := pl_ix_is hj
        have q := (c4 _ i1 i2).1
        have := r3 (pl_ix x.toNat 31 j) (by omega) i2
        rw [i3] at this
        exact this
      by_cases c : w.1 5 0 18 ≤ (i : Int)
      · exact bX11_isPlanned_83 ⟨fun _ => fin, fun z => absurd c z⟩
      · exact bX11_isPlanned_83 ⟨fun _ => fin, fun _ => ⟨fun _ => fin, fun z => absurd (by rw [e5] at c; omega) z⟩⟩
    | succ n ih =>
      intro i w hi g r1 r2 r3
      have e5 : w.1 5 = a.1 5 := g.1 5 (by decide)
      have e1 : w.1 1 = a.1 1 := g.1 1 (by decide)
      have bt := ab_bit (a := X0) (k := i) (by omega) (by omega)
      rw [← hX0] at bt
      have Xe : X0 = x.toNat := by omega
      rw [Xe] at bt
      have b1 := ab_b1 (x := x.toNat) (n := i)
      have bl := ab_bl (x := x.toNat) i
      refine bX11_isPlanned_83 ⟨fun z => absurd z (by rw [e5]; omega), fun _ => ⟨fun z => absurd z (by omega), fun _ => ?_⟩⟩
      rw [bt, e1]
      refine ⟨fun z => bX11_isPlanned_149 ?_, fun z => ?_⟩
      · rw [am_w_id (z := (i : Int) + 1) (by unfold am_rg; omega)]
        refine ih (i + 1) w (by omega) g (by rw [r1]; omega) r2 (fun j hj bj => ?_)
        by_cases q : j = i
        · rw [q] at bj; unfold ab_in at bj; omega
        · exact r3 j (by omega) bj
      · have bi : ab_in x.toNat i := by unfold ab_in; omega
        have m := ab_bm (x := x.toNat) (n := i + 1) (31 - (i + 1))
        rw [show i + 1 + (31 - (i + 1)) = 31 by omega] at m
        have Ew := mh_E_s e g (mh_fm_r : mh_fm mh_t2 mh_f2 b b)
        refine pX4_study2 (mh_E_C Ew) (by omega) (by rw [e5]; omega) (fun w1 g1 m1 => ?_)
        obtain ⟨t, t0, t1, ml⟩ := m1
        have e34 : w1.1 34 0 i = a.1 34 0 i := by rw [g1.1 34 (by decide), g.1 34 (by decide)]
        refine bX11_isPlanned_124 ⟨by omega, by omega, ?_⟩
        rw [Int.toNat_natCast, e34]
        refine pX4_depthOn (mh_E_C Ew) (mh_E_Co Ew) (by omega) (by rw [e5]; omega) (by omega) (mh_sc_wL g1) ⟨t, t0, by omega, ml⟩ (fun w2 k1 k2 k3 => ?_)
        have dp : mh_dpt w.1 = mh_dpt a.1 := mh_dpt_e (fun t ht => g.1 t (by
          have : ∀ t, t ∈ mh_fu → t ∉ mh_t1 := by decide
          exact this t ht))
        rw [dp]
        have g2 : mh_fc mh_t1 mh_l1 a w2 := mh_fc_t g (mh_sc_fc (mh_sc_n g1 k1 k2))
        have T : ∀ t, t ∈ [8, 58, 59] → w2.1 t = w.1 t := fun t ht => (k2 t (by revert ht; revert t; decide)).trans (g1.1 t (by revert ht; revert t; decide))
        have s9 : w2.1 8 0 9 = (ab_b x.toNat i : Int) := by rw [T 8 (by decide)]; exact r1
        refine bX11_isPlanned_146 ?_
        refine am_M_of (by decide) (Nat.le_of_ble_eq_true rfl) ?_
        refine bX7_add_0 ⟨fun z => absurd z (by omega), fun _ => ⟨by omega, by omega, bX11_isPlanned_149 ?_⟩⟩
        rw [s9, Int.toNat_natCast, am_w_id (z := (i : Int) + 1) (by unfold am_rg; omega), am_w_id (z := (ab_b x.toNat i : Int) + 1) (by unfold am_rg; omega)]
        refine ih (i + 1) _ (by omega) (mh_fc_u (a' := (_, _)) (mh_fc_u (a' := (_, _)) (mh_fc_u g2 (by decide)) (by decide)) (by decide)) ?_ ?_ (fun j hj bj => ?_)
        · simp only [am_up_s]; omega
        · simp (disch := decide) only [am_up_t, am_up_k]
          rw [T 8 (by decide)]; exact r2
        · simp (disch := decide) only [am_up_t, am_up_a]
          rw [T 58 (by decide), T 59 (by decide)]
          by_cases q : j = i
          · rw [q, if_pos rfl, if_pos rfl]; exact ⟨rfl, rfl⟩
          · have mj := ab_bm (x := x.toNat) (n := j + 1) (i - (j + 1))
            rw [show j + 1 + (i - (j + 1)) = i by omega, ab_b1, show x.toNat / 2 ^ j % 2 = 1 from bj] at mj
            rw [if_neg (by omega), if_neg (by omega)]
            exact r3 j (by omega) bj
  by_cases xp : x ≤ 0
  · refine bX11_isPlanned_4 ⟨fun _ => K0 (fun z => by have := z.1.1; omega), fun z => absurd xp z⟩
  · have hv' := hv (by omega)
    rw [ab_32 (by omega)] at hv'
    refine bX11_isPlanned_4 ⟨fun z => absurd z xp, fun _ => ⟨fun z => K0 (fun y => by have := y.1.2.2.1; omega), fun z => ⟨fun z2 => K0 (fun y => by have := y.2; omega), fun z2 => ⟨fun z3 => K0 (fun y => by have := y.2; omega), fun z3 => ?_⟩⟩⟩⟩
    refine pX2_areAlive (by omega) p1.2 (fun al => ?_) (fun al => ?_)
    · refine bX11_isPlanned_34 ⟨fun _ => ⟨fun y => K0 (fun q => by have := q.1.2.1; omega), fun y => ?_⟩, fun c => absurd c (by decide)⟩
      rw [am_w_id (z := a.1 1 0 12 + 100) (by unfold am_rg; omega)]
      refine ⟨fun y2 => K0 (fun q => by have := q.1.2.1; omega), fun y2 => ⟨fun y3 => ?_, fun y3 => K0 (fun q => by have := q.1.2.1; omega)⟩⟩
      rw [am_w_id (z := f - a.1 1 0 12) (by unfold am_rg; omega)]
      have cc : pl_cond a.1 x f ∧ 0 ≤ k ∧ k < (ab_b x.toNat 31 : Int) := ⟨⟨by omega, ⟨by show a.1 1 0 12 ≤ f; omega, by omega, by show f - a.1 1 0 12 ≤ 100; omega⟩, by omega, al⟩, by omega, by omega⟩
      refine B cc _ 0 _ rfl (mh_fc_u (a' := (_, _)) (mh_fc_u mh_fc_r (by decide)) (by decide)) ?_ ?_ (fun j hj => absurd hj (Nat.not_lt_zero j))
      · simp (disch := decide) only [am_up_k, am_up_s]; rfl
      · simp only [am_up_s]
    · exact bX11_isPlanned_34 ⟨fun c => absurd rfl c, fun _ => K0 (fun q => al q.1.2.2.2)⟩
theorem qX_plan {x f k : Int} (hx : am_rg x) : mh_q SC X 24 mX11_plan [.inr (.inr (some (1, 0))), .inl x, .inl f, .inl k] 15 mX12_plan [.inr (.inr (some (9, 0))), .inl x, .inl f, .inl k] := by
  intro a b0 E d kc ks Q h
  have hx2 : x < 2147483648 := by unfold am_rg at hx; omega
  refine am_M_of (by decide) (Nat.le_of_ble_eq_true rfl) ?_
  refine bX11_plan_0 ?_
  refine pX11_isPlanned E hx2 (fun c => ?_) (fun c w' g s1 s2 => ?_)
  · refine bX11_plan_7 ⟨fun _ => h _ a (fun _ _ => rfl) ?_, fun z => absurd rfl z⟩
    intro b e d' kc' ks' Q' K
    refine am_M_of (by decide) (Nat.le_of_ble_eq_true rfl) ?_
    refine bX12_plan_0 ?_
    refine pX12_plans e hx2 (fun c2 b' f' => ?_) (fun c2 b' f' r1 r2 => ?_)
    · exact bX12_plan_6 ⟨fun _ => K b' (mh_E_s e mh_fc_r f') (mh_fm_w f' (by decide)).1 (mh_fm_w f' (by decide)).2, fun z => absurd rfl z⟩
    · refine bX12_plan_6 ⟨fun z => absurd z (by decide), fun _ => ?_⟩
      have bl := ab_bl (x := x.toNat) 31
      rw [r1, am_w_id (by unfold am_rg; omega)]
      exact ⟨fun _ => K b' (mh_E_s e mh_fc_r f') (mh_fm_w f' (by decide)).1 (mh_fm_w f' (by decide)).2, fun z => absurd ⟨c2, by omega⟩ c⟩
  · have c5 := c.1.2.2.1
    refine bX11_plan_7 ⟨fun z => absurd z (by decide), fun _ => ⟨fun _ _ => by omega, fun _ _ => by omega, h _ w' (mh_fc_w g.1 (by decide)) ?_⟩⟩
    intro b e d' kc' ks' Q' K
    rw [if_neg (by omega), if_neg (by omega), (s2 k.toNat (by omega)).1] at K
    refine am_M_of (by decide) (Nat.le_of_ble_eq_true rfl) ?_
    refine bX12_plan_0 ?_
    refine pX12_plans e hx2 (fun c2 b' f' => absurd c.1 c2) (fun c2 b' f' r1 r2 => ?_)
    refine bX12_plan_6 ⟨fun z => absurd z (by decide), fun _ => ?_⟩
    rw [r1, am_w_id (by unfold am_rg; omega)]
    refine ⟨fun z => absurd ⟨by omega, by omega⟩ z, fun _ => ⟨by omega, by omega, ?_⟩⟩
    rw [(r2 k.toNat (by omega)).1]
    exact K b' (mh_E_s e g f') (mh_fm_w f' (by decide)).1 (mh_fm_w f' (by decide)).2
theorem qX_planned {x f k : Int} (hx : am_rg x) : mh_q SC X 24 mX11_planned [.inr (.inr (some (1, 0))), .inl x, .inl f, .inl k] 15 mX12_planned [.inr (.inr (some (9, 0))), .inl x, .inl f, .inl k] := by
  intro a b0 E d kc ks Q h
  have hx2 : x < 2147483648 := by unfold am_rg at hx; omega
  refine am_M_of (by decide) (Nat.le_of_ble_eq_true rfl) ?_
  refine bX11_planned_0 ?_
  refine pX11_isPlanned E hx2 (fun c => ?_) (fun c w' g s1 s2 => ?_)
  · refine bX11_planned_7 ⟨fun _ => h _ a (fun _ _ => rfl) ?_, fun z => absurd rfl z⟩
    intro b e d' kc' ks' Q' K
    refine am_M_of (by decide) (Nat.le_of_ble_eq_true rfl) ?_
    refine bX12_planned_0 ?_
    refine pX12_plans e hx2 (fun c2 b' f' => ?_) (fun c2 b' f' r1 r2 => ?_)
    · exact bX12_planned_6 ⟨fun _ => K b' (mh_E_s e mh_fc_r f') (mh_fm_w f' (by decide)).1 (mh_fm_w f' (by decide)).2, fun z => absurd rfl z⟩
    · refine bX12_planned_6 ⟨fun z => absurd z (by decide), fun _ => ?_⟩
      have bl := ab_bl (x := x.toNat) 31
      rw [r1, am_w_id (by unfold am_rg; omega)]
      exact ⟨fun _ => K b' (mh_E_s e mh_fc_r f') (mh_fm_w f' (by decide)).1 (mh_fm_w f' (by decide)).2, fun z => absurd ⟨c2, by omega⟩ c⟩
  · have c5 := c.1.2.2.1
    refine bX11_planned_7 ⟨fun z => absurd z (by decide), fun _ => ⟨fun _ _ => by omega, fun _ _ => by omega, h _ w' (mh_fc_w g.1 (by decide)) ?_⟩⟩
    intro b e d' kc' ks' Q' K
    rw [if_neg (by omega), if_neg (by omega), (s2 k.toNat (by omega)).2] at K
    refine am_M_of (by decide) (Nat.le_of_ble_eq_true rfl) ?_
    refine bX12_planned_0 ?_
    refine pX12_plans e hx2 (fun c2 b' f' => absurd c.1 c2) (fun c2 b' f' r1 r2 => ?_)
    refine bX12_planned_6 ⟨fun z => absurd z (by decide), fun _ => ?_⟩
    rw [r1, am_w_id (by unfold am_rg; omega)]
    refine ⟨fun z => absurd ⟨by omega, by omega⟩ z, fun _ => ⟨by omega, by omega, ?_⟩⟩
    rw [(r2 k.toNat (by omega)).2]
    exact K b' (mh_E_s e g f') (mh_fm_w f' (by decide)).1 (mh_fm_w f' (by decide)).2
