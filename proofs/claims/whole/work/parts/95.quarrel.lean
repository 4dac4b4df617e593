-- quarrel
variable {SC : Nat → Nat} {X : mh_X}
def mh_one (I : Nat → Nat → Nat → Int) (l a b : Nat) : Prop := I 144 l a = I 144 l b ∧ ∀ i : Nat, (i : Int) < I 144 l a → I 145 l (a * 4 + i) = I 145 l (b * 4 + i)
def mh_lik (I : Nat → Nat → Nat → Int) (l a b : Nat) : Prop := (I 146 l a = I 146 l b ∧ I 150 l a = I 150 l b) ∧ ∀ i : Nat, (i : Int) < I 146 l a → I 147 l (a * 4 + i) = I 147 l (b * 4 + i) ∧ I 148 l (a * 4 + i) = I 148 l (b * 4 + i) ∧ I 149 l (a * 4 + i) = I 149 l (b * 4 + i)
noncomputable def qr_b (P : Nat → Nat → Prop) (a : Nat) : Nat → Nat → Int → Int × Int
  | 0, _, r => (-1, r)
  | m + 1, b, r => @ite (Int × Int) (P a b) (Classical.propDecidable _) (if r = 0 then (100 * a + b, r) else qr_b P a m (b + 1) (r - 1)) (qr_b P a m (b + 1) r)
theorem qr_b1 {P : Nat → Nat → Prop} {a m b : Nat} {r : Int} : qr_b P a (m + 1) b r = @ite (Int × Int) (P a b) (Classical.propDecidable _) (if r = 0 then (100 * a + b, r) else qr_b P a m (b + 1) (r - 1)) (qr_b P a m (b + 1) r) := rfl
noncomputable def qr_a (P : Nat → Nat → Prop) (R : Nat) : Nat → Nat → Int → Int
  | 0, _, _ => -1
  | m + 1, a, r => if (qr_b P a (R - (a + 1)) (a + 1) r).1 = -1 then qr_a P R m (a + 1) (qr_b P a (R - (a + 1)) (a + 1) r).2 else (qr_b P a (R - (a + 1)) (a + 1) r).1
theorem qr_a1 {P : Nat → Nat → Prop} {R m a : Nat} {r : Int} : qr_a P R (m + 1) a r = if (qr_b P a (R - (a + 1)) (a + 1) r).1 = -1 then qr_a P R m (a + 1) (qr_b P a (R - (a + 1)) (a + 1) r).2 else (qr_b P a (R - (a + 1)) (a + 1) r).1 := rfl
theorem qr_b_n {P : Nat → Nat → Prop} {a : Nat} : ∀ (m b : Nat) (r : Int), r < 0 → (qr_b P a m b r).1 = -1 ∧ (qr_b P a m b r).2 < 0
  | 0, _, r, h => ⟨rfl, h⟩
  | m + 1, b, r, h => by
    rw [qr_b1]
    split
    · rw [if_neg (by omega)]; exact qr_b_n m (b + 1) (r - 1) (by omega)
    · exact qr_b_n m (b + 1) r h
theorem qr_a_n {P : Nat → Nat → Prop} {R : Nat} : ∀ (m a : Nat) (r : Int), r < 0 → qr_a P R m a r = -1
  | 0, _, _, _ => rfl
  | m + 1, a, r, h => by
    have := qr_b_n (P := P) (a := a) (R - (a + 1)) (a + 1) r h
    rw [qr_a1, if_pos this.1]
    exact qr_a_n m (a + 1) _ this.2
theorem pX3_isSameKin {d kc ks : Nat} {Q : Option am_V → am_W → Prop} {w : am_W} {l a b : Nat} (ha : a < 30) (hb : b < 30) (hk : w.1 144 l a ≤ 4)
    (K : ∀ v : Int, (v = 0 ∨ v = 1) → (v = 1 ↔ mh_one w.1 l a b) → Q (some (.inl v)) w) : am_M (mh_G X) SC (d + 2) kc ks mX3_isSameKin [.inr (.inr (some (10, l))), .inl (a : Int), .inl (b : Int)] w Q := by
  have B : w.1 144 l a = w.1 144 l b → ∀ n i : Nat, (n + i : Nat) = (w.1 144 l a).toNat → (∀ j, j < i → w.1 145 l (a * 4 + j) = w.1 145 l (b * 4 + j)) →
      am_A (mh_G X) SC (d + 2) mX3_isSameKin Q 24 [(0, .inr (.inr (some (10, l)))), (1, .inl (a : Int)), (2, .inl (b : Int)), (3, .inl 1), (4, .inl (i : Int))] [] w kc ks := by
    intro e n
    induction n with
    | zero =>
      intro i hi h
      refine bX3_isSameKin_24 ⟨fun c => absurd c (by decide), fun _ => ⟨by omega, by omega, ?_⟩⟩
      rw [Int.toNat_natCast]
      exact ⟨fun _ => ⟨Or.inr rfl, K 1 (Or.inr rfl) ⟨fun _ => ⟨e, fun j hj => h j (by omega)⟩, fun _ => rfl⟩⟩, fun c => absurd (by omega) c⟩
    | succ n ih =>
      intro i hi h
      refine bX3_isSameKin_24 ⟨fun c => absurd c (by decide), fun _ => ⟨by omega, by omega, ?_⟩⟩
      rw [Int.toNat_natCast, am_w_id (z := (a : Int) * 4) (by unfold am_rg; omega), am_w_id (z := (a : Int) * 4 + (i : Int)) (by unfold am_rg; omega), am_w_id (z := (b : Int) * 4) (by unfold am_rg; omega), am_w_id (z := (b : Int) * 4 + (i : Int)) (by unfold am_rg; omega),
        show ((a : Int) * 4 + (i : Int)).toNat = a * 4 + i by omega, show ((b : Int) * 4 + (i : Int)).toNat = b * 4 + i by omega]
      refine ⟨fun c => absurd c (by omega), fun _ => ⟨by omega, by omega, by omega, by omega, fun c => bX3_isSameKin_61 ?_, fun c => bX3_isSameKin_61 ?_⟩⟩
      · exact bX3_isSameKin_24 ⟨fun _ => ⟨Or.inl rfl, K 0 (Or.inl rfl) ⟨fun z => absurd z (by decide), fun z => absurd (z.2 i (by omega)) c⟩⟩, fun z => absurd rfl z⟩
      · rw [am_w_id (z := (i : Int) + 1) (by unfold am_rg; omega)]
        refine ih (i + 1) (by omega) (fun j hj => ?_)
        by_cases z : j = i
        · rw [z]; exact c
        · exact h j (by omega)
  refine am_M_of (by decide) (Nat.le_of_ble_eq_true rfl) ?_
  refine bX3_isSameKin_0 ⟨by omega, by omega, by omega, by omega, ?_⟩
  rw [Int.toNat_natCast, Int.toNat_natCast]
  refine ⟨fun c => bX3_isSameKin_20 ?_, fun c => bX3_isSameKin_20 (B c _ 0 rfl (fun j hj => absurd hj (Nat.not_lt_zero j)))⟩
  exact bX3_isSameKin_24 ⟨fun _ => ⟨Or.inl rfl, K 0 (Or.inl rfl) ⟨fun z => absurd z (by decide), fun z => absurd z.1 c⟩⟩, fun z => absurd rfl z⟩
theorem pX3_isSameOtherwise {d kc ks : Nat} {Q : Option am_V → am_W → Prop} {w : am_W} {l a b : Nat} (ha : a < 30) (hb : b < 30) (hk : w.1 146 l a ≤ 4)
    (K : ∀ v : Int, (v = 0 ∨ v = 1) → (v = 1 ↔ mh_lik w.1 l a b) → Q (some (.inl v)) w) : am_M (mh_G X) SC (d + 1) kc ks mX3_isSameOtherwise [.inr (.inr (some (10, l))), .inl (a : Int), .inl (b : Int)] w Q := by
  have no : ¬ mh_lik w.1 l a b → ∀ i : Int, am_A (mh_G X) SC (d + 1) mX3_isSameOtherwise Q 39 [(0, .inr (.inr (some (10, l)))), (1, .inl (a : Int)), (2, .inl (b : Int)), (3, .inl 0), (4, .inl i)] [] w kc ks := fun c i =>
    bX3_isSameOtherwise_39 ⟨fun _ => ⟨Or.inl rfl, K 0 (Or.inl rfl) ⟨fun z => absurd z (by decide), fun z => absurd z c⟩⟩, fun z => absurd rfl z⟩
  have B : (w.1 146 l a = w.1 146 l b ∧ w.1 150 l a = w.1 150 l b) → ∀ n i : Nat, (n + i : Nat) = (w.1 146 l a).toNat →
      (∀ j, j < i → w.1 147 l (a * 4 + j) = w.1 147 l (b * 4 + j) ∧ w.1 148 l (a * 4 + j) = w.1 148 l (b * 4 + j) ∧ w.1 149 l (a * 4 + j) = w.1 149 l (b * 4 + j)) →
      am_A (mh_G X) SC (d + 1) mX3_isSameOtherwise Q 39 [(0, .inr (.inr (some (10, l)))), (1, .inl (a : Int)), (2, .inl (b : Int)), (3, .inl 1), (4, .inl (i : Int))] [] w kc ks := by
    intro e n
    induction n with
    | zero =>
      intro i hi h
      refine bX3_isSameOtherwise_39 ⟨fun c => absurd c (by decide), fun _ => ⟨by omega, by omega, ?_⟩⟩
      rw [Int.toNat_natCast]
      exact ⟨fun _ => ⟨Or.inr rfl, K 1 (Or.inr rfl) ⟨fun _ => ⟨e, fun j hj => h j (by omega)⟩, fun _ => rfl⟩⟩, fun c => absurd (by omega) c⟩
    | succ n ih =>
      intro i hi h
      refine bX3_isSameOtherwise_39 ⟨fun c => absurd c (by decide), fun _ => ⟨by omega, by omega, ?_⟩⟩
      rw [Int.toNat_natCast, am_w_id (z := (a : Int) * 4) (by unfold am_rg; omega), am_w_id (z := (a : Int) * 4 + (i : Int)) (by unfold am_rg; omega), am_w_id (z := (b : Int) * 4) (by unfold am_rg; omega), am_w_id (z := (b : Int) * 4 + (i : Int)) (by unfold am_rg; omega),
        show ((a : Int) * 4 + (i : Int)).toNat = a * 4 + i by omega, show ((b : Int) * 4 + (i : Int)).toNat = b * 4 + i by omega]
      have bad : ¬ (w.1 147 l (a * 4 + i) = w.1 147 l (b * 4 + i) ∧ w.1 148 l (a * 4 + i) = w.1 148 l (b * 4 + i) ∧ w.1 149 l (a * 4 + i) = w.1 149 l (b * 4 + i)) →
          am_A (mh_G X) SC (d + 1) mX3_isSameOtherwise Q 125 [(0, .inr (.inr (some (10, l)))), (1, .inl (a : Int)), (2, .inl (b : Int)), (4, .inl (i : Int))] [] w kc ks := fun c =>
        bX3_isSameOtherwise_125 (bX3_isSameOtherwise_126 (no (fun z => c (z.2 i (by omega))) _))
      refine ⟨fun c => absurd c (by omega), fun _ => ⟨by omega, by omega, by omega, by omega, fun c => bad (fun z => c z.1), fun c => ⟨fun c2 => bad (fun z => c2 z.2.1), fun c2 => ⟨fun c3 => bad (fun z => c3 z.2.2), fun c3 => bX3_isSameOtherwise_126 ?_⟩⟩⟩⟩
      rw [am_w_id (z := (i : Int) + 1) (by unfold am_rg; omega)]
      refine ih (i + 1) (by omega) (fun j hj => ?_)
      by_cases z : j = i
      · rw [z]; exact ⟨c, c2, c3⟩
      · exact h j (by omega)
  refine am_M_of (by decide) (Nat.le_of_ble_eq_true rfl) ?_
  refine bX3_isSameOtherwise_0 ⟨by omega, by omega, by omega, by omega, ?_⟩
  rw [Int.toNat_natCast, Int.toNat_natCast]
  exact ⟨fun c => bX3_isSameOtherwise_34 (bX3_isSameOtherwise_35 (no (fun z => c z.1.1) _)), fun c => ⟨fun c2 => bX3_isSameOtherwise_34 (bX3_isSameOtherwise_35 (no (fun z => c2 z.1.2) _)), fun c2 => bX3_isSameOtherwise_35 (B ⟨c, c2⟩ _ 0 rfl (fun j hj => absurd hj (Nat.not_lt_zero j)))⟩⟩
theorem pX12_areOne {d kc ks : Nat} {Q : Option am_V → am_W → Prop} {I : Nat → Nat → Nat → Int} {w : am_W} {l a b : Nat} (hl : l < 6) (La : mh_La I w.1 l l) (ha : (a : Int) < I 10 l 10) (hb : (b : Int) < I 10 l 10)
    (K : ∀ v : Int, (v = 0 ∨ v = 1) → (v = 1 ↔ mh_one I l a b) → Q (some (.inl v)) w) : am_M (mh_G X) SC (d + 1) kc ks mX12_areOne [.inr (.inr (some (9, 0))), .inl (l : Int), .inl (a : Int), .inl (b : Int)] w Q := by
  obtain ⟨r1, r2, -⟩ := La
  obtain ⟨⟨a1, a2, a3⟩, a4, -⟩ := r2 a ha
  obtain ⟨⟨b1, b2, b3⟩, b4, -⟩ := r2 b hb
  have B : I 144 l a = I 144 l b → ∀ n i : Nat, (n + i : Nat) = (I 144 l a).toNat → (∀ j, j < i → I 145 l (a * 4 + j) = I 145 l (b * 4 + j)) →
      am_A (mh_G X) SC (d + 1) mX12_areOne Q 29 [(0, .inr (.inr (some (9, 0)))), (1, .inl (l : Int)), (2, .inl (a : Int)), (3, .inl (b : Int)), (4, .inl 1), (5, .inl (i : Int))] [] w kc ks := by
    intro e n
    induction n with
    | zero =>
      intro i hi h
      refine bX12_areOne_29 ⟨by omega, by omega, by omega, by omega, ?_⟩
      rw [Int.toNat_natCast, Int.toNat_natCast, a1]
      exact ⟨fun _ => ⟨Or.inr rfl, K 1 (Or.inr rfl) ⟨fun _ => ⟨e, fun j hj => h j (by omega)⟩, fun _ => rfl⟩⟩, fun c => absurd (by omega) c⟩
    | succ n ih =>
      intro i hi h
      have wa := (a4 i (by omega)).1
      have wb := (b4 i (by omega)).1
      refine bX12_areOne_29 ⟨by omega, by omega, by omega, by omega, ?_⟩
      rw [Int.toNat_natCast, Int.toNat_natCast, Int.toNat_natCast, Int.toNat_natCast, a1, wa, wb]
      refine ⟨fun c => absurd c (by omega), fun _ => ⟨fun c => absurd c (by decide), fun _ => ⟨by omega, by omega, by omega, by omega, fun c => bX12_areOne_77 ?_, fun c => bX12_areOne_77 ?_⟩⟩⟩
      · refine bX12_areOne_29 ⟨by omega, by omega, by omega, by omega, ?_⟩
        have z0 : Q (some (.inl 0)) w := K 0 (Or.inl rfl) ⟨fun z => absurd z (by decide), fun z => absurd (z.2 i (by omega)) c⟩
        exact ⟨fun _ => ⟨Or.inl rfl, z0⟩, fun _ => ⟨fun _ => ⟨Or.inl rfl, z0⟩, fun z => absurd rfl z⟩⟩
      · rw [am_w_id (z := (i : Int) + 1) (by unfold am_rg; omega)]
        refine ih (i + 1) (by omega) (fun j hj => ?_)
        by_cases z : j = i
        · rw [z]; exact c
        · exact h j (by omega)
  refine am_M_of (by decide) (Nat.le_of_ble_eq_true rfl) ?_
  refine bX12_areOne_0 ⟨by omega, by omega, by omega, by omega, by omega, by omega, ?_⟩
  rw [Int.toNat_natCast, Int.toNat_natCast, Int.toNat_natCast, a1, b1]
  refine ⟨fun c => bX12_areOne_24 ?_, fun c => bX12_areOne_24 (B c _ 0 rfl (fun j hj => absurd hj (Nat.not_lt_zero j)))⟩
  have z0 : Q (some (.inl 0)) w := K 0 (Or.inl rfl) ⟨fun z => absurd z (by decide), fun z => absurd z.1 c⟩
  exact bX12_areOne_29 ⟨by omega, by omega, by omega, by omega, fun _ => ⟨Or.inl rfl, z0⟩, fun _ => ⟨fun _ => ⟨Or.inl rfl, z0⟩, fun z => absurd rfl z⟩⟩
theorem pX12_areAlike {d kc ks : Nat} {Q : Option am_V → am_W → Prop} {I : Nat → Nat → Nat → Int} {w : am_W} {l a b : Nat} (hl : l < 6) (La : mh_La I w.1 l l) (ha : (a : Int) < I 10 l 10) (hb : (b : Int) < I 10 l 10)
    (K : ∀ v : Int, (v = 0 ∨ v = 1) → (v = 1 ↔ mh_lik I l a b) → Q (some (.inl v)) w) : am_M (mh_G X) SC (d + 1) kc ks mX12_areAlike [.inr (.inr (some (9, 0))), .inl (l : Int), .inl (a : Int), .inl (b : Int)] w Q := by
  obtain ⟨r1, r2, -⟩ := La
  obtain ⟨-, -, ⟨a1, a2, a3⟩, a4, a5, a6⟩ := r2 a ha
  obtain ⟨-, -, ⟨b1, b2, b3⟩, b4, b5, b6⟩ := r2 b hb
  have no : ¬ mh_lik I l a b → ∀ i : Int, am_A (mh_G X) SC (d + 1) mX12_areAlike Q 48 [(0, .inr (.inr (some (9, 0)))), (1, .inl (l : Int)), (2, .inl (a : Int)), (3, .inl (b : Int)), (4, .inl 0), (5, .inl i)] [] w kc ks := fun c i => by
    have z0 : Q (some (.inl 0)) w := K 0 (Or.inl rfl) ⟨fun z => absurd z (by decide), fun z => absurd z c⟩
    exact bX12_areAlike_48 ⟨by omega, by omega, by omega, by omega, fun _ => ⟨Or.inl rfl, z0⟩, fun _ => ⟨fun _ => ⟨Or.inl rfl, z0⟩, fun z => absurd rfl z⟩⟩
  have B : (I 146 l a = I 146 l b ∧ I 150 l a = I 150 l b) → ∀ n i : Nat, (n + i : Nat) = 3 * (I 146 l a).toNat → (∀ j, j < i → w.1 81 (30 * l + a) j = w.1 81 (30 * l + b) j) →
      am_A (mh_G X) SC (d + 1) mX12_areAlike Q 48 [(0, .inr (.inr (some (9, 0)))), (1, .inl (l : Int)), (2, .inl (a : Int)), (3, .inl (b : Int)), (4, .inl 1), (5, .inl (i : Int))] [] w kc ks := by
    intro e n
    induction n with
    | zero =>
      intro i hi h
      refine bX12_areAlike_48 ⟨by omega, by omega, by omega, by omega, ?_⟩
      rw [Int.toNat_natCast, Int.toNat_natCast, a1, am_w_id (z := 3 * I 146 l a) (by unfold am_rg; omega)]
      refine ⟨fun _ => ⟨Or.inr rfl, K 1 (Or.inr rfl) ⟨fun _ => ⟨e, fun j hj => ?_⟩, fun _ => rfl⟩⟩, fun c => absurd (by omega) c⟩
      obtain ⟨⟨p1, -⟩, ⟨p2, -⟩, p3, -⟩ := a4 j hj
      obtain ⟨⟨q1, -⟩, ⟨q2, -⟩, q3, -⟩ := b4 j (by omega)
      have h1 := h (3 * j) (by omega)
      have h2 := h (3 * j + 1) (by omega)
      have h3 := h (3 * j + 2) (by omega)
      exact ⟨by omega, by omega, by omega⟩
    | succ n ih =>
      intro i hi h
      refine bX12_areAlike_48 ⟨by omega, by omega, by omega, by omega, ?_⟩
      rw [Int.toNat_natCast, Int.toNat_natCast, Int.toNat_natCast, Int.toNat_natCast, a1, am_w_id (z := 3 * I 146 l a) (by unfold am_rg; omega)]
      refine ⟨fun c => absurd c (by omega), fun _ => ⟨fun c => absurd c (by decide), fun _ => ⟨by omega, by omega, by omega, by omega, fun c => bX12_areAlike_98 ?_, fun c => bX12_areAlike_98 ?_⟩⟩⟩
      · refine no (fun z => c ?_) _
        obtain ⟨k, hk⟩ : ∃ k, i = 3 * k ∨ i = 3 * k + 1 ∨ i = 3 * k + 2 := ⟨i / 3, by omega⟩
        obtain ⟨⟨p1, -⟩, ⟨p2, -⟩, p3, -⟩ := a4 k (by omega)
        obtain ⟨⟨q1, -⟩, ⟨q2, -⟩, q3, -⟩ := b4 k (by omega)
        obtain ⟨z1, z2, z3⟩ := z.2 k (by omega)
        rcases hk with hk | hk | hk
        · rw [hk]; omega
        · rw [hk]; omega
        · rw [hk]; omega
      · rw [am_w_id (z := (i : Int) + 1) (by unfold am_rg; omega)]
        refine ih (i + 1) (by omega) (fun j hj => ?_)
        by_cases z : j = i
        · rw [z]; exact c
        · exact h j (by omega)
  refine am_M_of (by decide) (Nat.le_of_ble_eq_true rfl) ?_
  refine bX12_areAlike_0 ⟨by omega, by omega, by omega, by omega, by omega, by omega, ?_⟩
  rw [Int.toNat_natCast, Int.toNat_natCast, Int.toNat_natCast, a1, b1, a5, b5]
  exact ⟨fun c => bX12_areAlike_42 (bX12_areAlike_43 (no (fun z => c z.1.1) _)), fun c => ⟨fun c2 => bX12_areAlike_42 (bX12_areAlike_43 (no (fun z => c2 z.1.2) _)), fun c2 => bX12_areAlike_43 (B ⟨c, c2⟩ _ 0 rfl (fun j hj => absurd hj (Nat.not_lt_zero j)))⟩⟩
theorem qX_quarrel {x1 x2 : Int} (hx2 : am_rg x2) : mh_q SC X 4 mX11_quarrel [.inr (.inr (some (1, 0))), .inl x1, .inl x2] 2 mX12_quarrel [.inr (.inr (some (9, 0))), .inl x1, .inl x2] := by
  intro a b0 E d kc ks Q h
  unfold am_rg at hx2
  have RL := E.2.2.2.1
  have hl := RL.1.2
  have no : ¬ (0 ≤ x1 ∧ x1 < a.1 4 0 5) → Q (some (.inl (-1))) a := by
    intro c
    refine h _ a (fun _ _ => rfl) ?_
    intro b e d' kc' ks' Q' k
    have K := k b e (fun _ _ => rfl) rfl
    have RL2 := e.2.2.2.1.1.1
    refine am_M_of (by decide) (Nat.le_of_ble_eq_true rfl) ?_
    refine bX12_quarrel_0 ?_
    rw [RL2, am_w_id (by unfold am_rg; omega)]
    exact ⟨fun z => absurd ⟨by omega, by omega⟩ c, fun _ => K⟩
  refine am_M_of (by decide) (Nat.le_of_ble_eq_true rfl) ?_
  refine bX11_quarrel_0 ?_
  refine am_M_of (by decide) (Nat.le_of_ble_eq_true rfl) ?_
  refine bX1_lawNumbered_0 ⟨fun c => bX11_quarrel_8 (no (by omega)), fun c => ⟨fun c2 => bX11_quarrel_8 (no (by omega)), fun c2 => ⟨by omega, by omega, ?_⟩⟩⟩
  obtain ⟨l, rfl⟩ := mh_nat (z := x1) (by omega)
  rw [Int.toNat_natCast]
  have Fl := (RL.2 l (by omega)).1
  have Fr := Fl.1.2
  obtain ⟨R, hR⟩ := mh_nat (z := a.1 10 l 10) (by omega)
  obtain ⟨P, hP⟩ : ∃ P : Nat → Nat → Prop, P = fun u v => mh_one a.1 l u v ∧ ¬ mh_lik a.1 l u v := ⟨_, rfl⟩
  have fin : ∀ v : Int, v = qr_a P R R 0 x2 → Q (some (.inl v)) a := by
    intro v hv
    refine h v a (fun _ _ => rfl) ?_
    intro b e d' kc' ks' Q' k
    have K := k b e (fun _ _ => rfl) rfl
    have RL2 := e.2.2.2.1
    have La := (RL2.2 l (by omega)).1
    have r1 := La.1.1
    -- the reference
    have In : ∀ (u : Nat) (n0 : Int), u < R → 0 ≤ n0 → n0 ≤ 40 * u → ∀ (m t : Nat) (n : Int), m + t = R → n0 ≤ n → n ≤ n0 + t → 
        (∀ n' : Int, n0 ≤ n' → n' ≤ n0 + R → (qr_b P u m t (x2 - n)).1 = -1 → (qr_b P u m t (x2 - n)).2 = x2 - n' → am_A (mh_G X) SC (d' + 2) mX12_quarrel Q' 21 [(0, .inr (.inr (some (9, 0)))), (1, .inl (l : Int)), (2, .inl x2), (3, .inl n'), (4, .inl ((u : Int) + 1))] [] b kc' ks') →
        (¬ (qr_b P u m t (x2 - n)).1 = -1 → Q' (some (.inl (qr_b P u m t (x2 - n)).1)) b) →
        am_A (mh_G X) SC (d' + 2) mX12_quarrel Q' 38 [(0, .inr (.inr (some (9, 0)))), (1, .inl (l : Int)), (2, .inl x2), (3, .inl n), (4, .inl (u : Int)), (5, .inl (t : Int))] [] b kc' ks' := by
      intro u n0 hu h0 h40 m
      induction m with
      | zero =>
        intro t n ht h1 h2 k1 k2
        refine bX12_quarrel_38 ⟨by omega, by omega, ?_⟩
        rw [Int.toNat_natCast, r1, hR, am_w_id (z := (u : Int) + 1) (by unfold am_rg; omega)]
        exact ⟨fun _ => k1 n h1 (by omega) rfl rfl, fun c => absurd (by omega) c⟩
      | succ m ih =>
        intro t n ht h1 h2 k1 k2
        rw [qr_b1] at k1 k2
        refine bX12_quarrel_38 ⟨by omega, by omega, ?_⟩
        rw [Int.toNat_natCast, r1, hR]
        refine ⟨fun c => absurd c (by omega), fun _ => ?_⟩
        have nx : ∀ n', n0 ≤ n' → n' ≤ n0 + ((t + 1 : Nat) : Int) → (∀ n'' : Int, n0 ≤ n'' → n'' ≤ n0 + R → (qr_b P u m (t + 1) (x2 - n')).1 = -1 → (qr_b P u m (t + 1) (x2 - n')).2 = x2 - n'' → am_A (mh_G X) SC (d' + 2) mX12_quarrel Q' 21 [(0, .inr (.inr (some (9, 0)))), (1, .inl (l : Int)), (2, .inl x2), (3, .inl n''), (4, .inl ((u : Int) + 1))] [] b kc' ks') →
            (¬ (qr_b P u m (t + 1) (x2 - n')).1 = -1 → Q' (some (.inl (qr_b P u m (t + 1) (x2 - n')).1)) b) → am_A (mh_G X) SC (d' + 2) mX12_quarrel Q' 93 [(0, .inr (.inr (some (9, 0)))), (1, .inl (l : Int)), (2, .inl x2), (3, .inl n'), (4, .inl (u : Int)), (5, .inl (t : Int))] [] b kc' ks' := by
          intro n' q1 q2 q3 q4
          refine bX12_quarrel_93 ?_
          rw [am_w_id (z := (t : Int) + 1) (by unfold am_rg; omega)]
          exact ih (t + 1) n' (by omega) q1 q2 q3 q4
        refine pX12_areOne (by omega) La (by omega) (by omega) (fun v v1 v2 => ?_)
        rcases v1 with v1 | v1
        · have np : ¬ P u t := by rw [hP]; exact fun z => by have := v2.mpr z.1; omega
          rw [if_neg np] at k1 k2
          rw [v1]
          exact bX12_quarrel_58 ⟨fun _ => nx n h1 (by omega) k1 k2, fun z => absurd rfl z⟩
        · rw [v1]
          refine bX12_quarrel_58 ⟨fun z => absurd z (by decide), fun _ => ?_⟩
          refine pX12_areAlike (by omega) La (by omega) (by omega) (fun y y1 y2 => ?_)
          rcases y1 with y1 | y1
          · have yp : P u t := by rw [hP]; exact ⟨v2.mp v1, fun z => by have := y2.mpr z; omega⟩
            rw [if_pos yp] at k1 k2
            rw [y1]
            refine bX12_quarrel_70 ⟨fun _ => ⟨fun z => ?_, fun z => ?_⟩, fun z => absurd rfl z⟩
            · rw [if_neg (by omega)] at k1 k2
              rw [am_w_id (z := n + 1) (by unfold am_rg; omega)]
              rw [show x2 - n - 1 = x2 - (n + 1) by omega] at k1 k2
              exact nx (n + 1) (by omega) (by omega) k1 k2
            · rw [if_pos (by omega)] at k1 k2
              rw [am_w_id (z := 100 * (u : Int)) (by unfold am_rg; omega), am_w_id (z := 100 * (u : Int) + (t : Int)) (by unfold am_rg; omega)]
              exact k2 (by show ¬ (100 * (u : Int) + (t : Int)) = -1; omega)
          · have np : ¬ P u t := by rw [hP]; exact fun z => z.2 (y2.mp y1)
            rw [if_neg np] at k1 k2
            rw [y1]
            exact bX12_quarrel_70 ⟨fun z => absurd z (by decide), fun _ => nx n h1 (by omega) k1 k2⟩
    have Ou : ∀ (m u : Nat) (n : Int), m + u = R → 0 ≤ n → n ≤ 40 * u → v = qr_a P R m u (x2 - n) → am_A (mh_G X) SC (d' + 2) mX12_quarrel Q' 21 [(0, .inr (.inr (some (9, 0)))), (1, .inl (l : Int)), (2, .inl x2), (3, .inl n), (4, .inl (u : Int))] [] b kc' ks' := by
      intro m
      induction m with
      | zero =>
        intro u n hu h1 h2 e0
        refine bX12_quarrel_21 ⟨by omega, by omega, ?_⟩
        rw [Int.toNat_natCast, r1, hR]
        rw [e0] at K
        exact ⟨fun _ => K, fun c => absurd (by omega) c⟩
      | succ m ih =>
        intro u n hu h1 h2 e0
        refine bX12_quarrel_21 ⟨by omega, by omega, ?_⟩
        rw [Int.toNat_natCast, r1, hR]
        rw [qr_a1] at e0
        refine ⟨fun c => absurd c (by omega), fun _ => ?_⟩
        rw [am_w_id (z := (u : Int) + 1) (by unfold am_rg; omega)]
        refine In u n (by omega) h1 h2 (R - (u + 1)) (u + 1) n (by omega) (Int.le_refl _) (by omega) (fun n' q1 q2 q3 q4 => ?_) (fun q => ?_)
        · rw [if_pos q3, q4] at e0
          exact ih (u + 1) n' (by omega) (by omega) (by omega) e0
        · rw [if_neg q] at e0
          rw [← e0]
          exact K
    refine am_M_of (by decide) (Nat.le_of_ble_eq_true rfl) ?_
    refine bX12_quarrel_0 ?_
    rw [RL2.1.1, am_w_id (z := a.1 4 0 5 - 1) (by unfold am_rg; omega)]
    exact ⟨fun _ => Ou R 0 0 rfl (Int.le_refl _) (Int.le_refl _) (by rw [Int.sub_zero]; exact hv), fun z => absurd ⟨by omega, by omega⟩ z⟩
  -- the class
  refine bX11_quarrel_8a ⟨fun c3 => ?_, fun c3 => fin _ (qr_a_n _ _ _ (by omega)).symm⟩
  have In : ∀ (u : Nat), u < R → ∀ (m t : Nat) (r : Int), m + t = R → 0 ≤ r → r ≤ x2 → 
      (∀ r' : Int, 0 ≤ r' → r' ≤ x2 → (qr_b P u m t r).1 = -1 → (qr_b P u m t r).2 = r' → am_A (mh_G X) SC (d + 3) mX3_quarrelNumbered (fun r w1 => am_A (mh_G X) SC (d + 4) mX11_quarrel Q 24 [(3, .inr (.inr (some (10, l)))), (0, .inr (.inr (some (1, 0)))), (1, .inl (l : Int)), (2, .inl x2)] (r.toList ++ []) w1 kc ks) 4 [(0, .inr (.inr (some (10, l)))), (2, .inl r'), (3, .inl ((u : Int) + 1))] [] a 0 0) →
      (¬ (qr_b P u m t r).1 = -1 → Q (some (.inl (qr_b P u m t r).1)) a) →
      am_A (mh_G X) SC (d + 3) mX3_quarrelNumbered (fun r w1 => am_A (mh_G X) SC (d + 4) mX11_quarrel Q 24 [(3, .inr (.inr (some (10, l)))), (0, .inr (.inr (some (1, 0)))), (1, .inl (l : Int)), (2, .inl x2)] (r.toList ++ []) w1 kc ks) 17 [(0, .inr (.inr (some (10, l)))), (2, .inl r), (3, .inl (u : Int)), (4, .inl (t : Int))] [] a 0 0 := by
    intro u hu m
    induction m with
    | zero =>
      intro t r ht h1 h2 k1 k2
      refine bX3_quarrelNumbered_17 ?_
      rw [hR, am_w_id (z := (u : Int) + 1) (by unfold am_rg; omega)]
      exact ⟨fun _ => k1 r h1 h2 rfl rfl, fun c => absurd (by omega) c⟩
    | succ m ih =>
      intro t r ht h1 h2 k1 k2
      rw [qr_b1] at k1 k2
      refine bX3_quarrelNumbered_17 ?_
      rw [hR]
      refine ⟨fun c => absurd c (by omega), fun _ => ?_⟩
      have nx : ∀ r' : Int, 0 ≤ r' → r' ≤ x2 → (∀ r'' : Int, 0 ≤ r'' → r'' ≤ x2 → (qr_b P u m (t + 1) r').1 = -1 → (qr_b P u m (t + 1) r').2 = r'' → am_A (mh_G X) SC (d + 3) mX3_quarrelNumbered (fun r w1 => am_A (mh_G X) SC (d + 4) mX11_quarrel Q 24 [(3, .inr (.inr (some (10, l)))), (0, .inr (.inr (some (1, 0)))), (1, .inl (l : Int)), (2, .inl x2)] (r.toList ++ []) w1 kc ks) 4 [(0, .inr (.inr (some (10, l)))), (2, .inl r''), (3, .inl ((u : Int) + 1))] [] a 0 0) →
          (¬ (qr_b P u m (t + 1) r').1 = -1 → Q (some (.inl (qr_b P u m (t + 1) r').1)) a) →
          am_A (mh_G X) SC (d + 3) mX3_quarrelNumbered (fun r w1 => am_A (mh_G X) SC (d + 4) mX11_quarrel Q 24 [(3, .inr (.inr (some (10, l)))), (0, .inr (.inr (some (1, 0)))), (1, .inl (l : Int)), (2, .inl x2)] (r.toList ++ []) w1 kc ks) 61 [(0, .inr (.inr (some (10, l)))), (2, .inl r'), (3, .inl (u : Int)), (4, .inl (t : Int))] [] a 0 0 := by
        intro r' q1 q2 q3 q4
        refine bX3_quarrelNumbered_61 ?_
        rw [am_w_id (z := (t : Int) + 1) (by unfold am_rg; omega)]
        exact ih (t + 1) r' (by omega) q1 q2 q3 q4
      have Fu := Fl.2.1 u (by omega)
      refine pX3_isSameKin (by omega) (by omega) (by have := Fu.1; omega) (fun v v1 v2 => ?_)
      rcases v1 with v1 | v1
      · have np : ¬ P u t := by rw [hP]; exact fun z => by have := v2.mpr z.1; omega
        rw [if_neg np] at k1 k2
        rw [v1]
        exact bX3_quarrelNumbered_33 ⟨fun _ => nx r h1 h2 k1 k2, fun z => absurd rfl z⟩
      · rw [v1]
        refine bX3_quarrelNumbered_33 ⟨fun z => absurd z (by decide), fun _ => ?_⟩
        refine pX3_isSameOtherwise (by omega) (by omega) (by have := Fu.2.2.1; omega) (fun y y1 y2 => ?_)
        rcases y1 with y1 | y1
        · have yp : P u t := by rw [hP]; exact ⟨v2.mp v1, fun z => by have := y2.mpr z; omega⟩
          rw [if_pos yp] at k1 k2
          rw [y1]
          refine bX3_quarrelNumbered_43 ⟨fun z => absurd rfl z, fun _ => ⟨fun z => ?_, fun z => ?_⟩⟩
          · rw [if_neg z] at k1 k2
            rw [am_w_id (z := r + (-1)) (by unfold am_rg; omega), show r + (-1) = r - 1 by omega]
            exact nx (r - 1) (by omega) (by omega) k1 k2
          · rw [if_pos z] at k1 k2
            rw [am_w_id (z := (u : Int) * 100) (by unfold am_rg; omega), am_w_id (z := (u : Int) * 100 + (t : Int)) (by unfold am_rg; omega), show (u : Int) * 100 + (t : Int) = 100 * (u : Int) + (t : Int) by omega]
            exact bX11_quarrel_24 (k2 (by show ¬ (100 * (u : Int) + (t : Int)) = -1; omega))
        · have np : ¬ P u t := by rw [hP]; exact fun z => z.2 (y2.mp y1)
          rw [if_neg np] at k1 k2
          rw [y1]
          exact bX3_quarrelNumbered_43 ⟨fun _ => nx r h1 h2 k1 k2, fun z => absurd z (by decide)⟩
  have Ou : ∀ (m u : Nat) (r : Int), m + u = R → 0 ≤ r → r ≤ x2 → qr_a P R R 0 x2 = qr_a P R m u r → am_A (mh_G X) SC (d + 3) mX3_quarrelNumbered (fun r w1 => am_A (mh_G X) SC (d + 4) mX11_quarrel Q 24 [(3, .inr (.inr (some (10, l)))), (0, .inr (.inr (some (1, 0)))), (1, .inl (l : Int)), (2, .inl x2)] (r.toList ++ []) w1 kc ks) 4 [(0, .inr (.inr (some (10, l)))), (2, .inl r), (3, .inl (u : Int))] [] a 0 0 := by
    intro m
    induction m with
    | zero =>
      intro u r hu h1 h2 e0
      refine bX3_quarrelNumbered_4 ?_
      rw [hR]
      exact ⟨fun _ => bX11_quarrel_24 (fin _ e0.symm), fun c => absurd (by omega) c⟩
    | succ m ih =>
      intro u r hu h1 h2 e0
      refine bX3_quarrelNumbered_4 ?_
      rw [hR]
      rw [qr_a1] at e0
      refine ⟨fun c => absurd c (by omega), fun _ => ?_⟩
      rw [am_w_id (z := (u : Int) + 1) (by unfold am_rg; omega)]
      refine In u (by omega) (R - (u + 1)) (u + 1) r (by omega) h1 h2 (fun r' q1 q2 q3 q4 => ?_) (fun q => ?_)
      · rw [if_pos q3, q4] at e0
        exact ih (u + 1) r' (by omega) q1 q2 e0
      · rw [if_neg q] at e0
        exact fin _ e0.symm
  refine am_M_of (by decide) (Nat.le_of_ble_eq_true rfl) ?_
  exact bX3_quarrelNumbered_0 (Ou R 0 x2 rfl c3 (Int.le_refl _) rfl)
