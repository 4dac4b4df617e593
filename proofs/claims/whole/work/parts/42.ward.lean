-- THE WARDROBE
theorem mh_Wr_n {I : Nat → Nat → Nat → Int} (h : mh_Wr I) : mh_Wi I 0 0 (I 7 0 9).toNat (fun _ => 1) := h.2
theorem pX12_making0 {SC : Nat → Nat} {X : mh_X} {d bc bs : Nat} {Q : Option am_V → am_W → Prop} {w : am_W} (ht : 0 ≤ w.1 9 0 81 ∧ w.1 9 0 81 ≤ 20)
    (h : Q (some (.inl (mh_cn (w.1 129 0) (w.1 9 0 81).toNat))) w) : ∀ (n k : Nat), n + k = (w.1 9 0 81).toNat →
    am_A (mh_G X) SC (d + 1) mX12_making Q 4 [(0, .inr (.inr (some (9, 0)))), (1, .inl (mh_cn (w.1 129 0) k)), (2, .inl (k : Int))] [] w bc bs
  | 0, k, hk => by
    refine bX12_making_4 ⟨fun _ => ?_, fun c => absurd (show w.1 9 0 81 ≤ (k : Int) by omega) c⟩
    rw [show k = (w.1 9 0 81).toNat by omega]
    exact h
  | n + 1, k, hk => by
    have b := mh_cnb (w.1 129 0) k
    have e2 : am_w ((k : Int) + 1) = ((k + 1 : Nat) : Int) := by rw [am_w_id (by unfold am_rg; omega)]; omega
    refine bX12_making_4 ⟨fun c => absurd c (show ¬ w.1 9 0 81 ≤ (k : Int) by omega), fun c => ⟨by omega, by omega, fun c2 => ?_, fun c2 => ?_⟩⟩
    · refine bX12_making_28 ?_
      have e1 : am_w (mh_cn (w.1 129 0) k + 0) = mh_cn (w.1 129 0) (k + 1) := by
        rw [am_w_id (by unfold am_rg; omega)]
        show _ = mh_cn (w.1 129 0) k + (if w.1 129 0 k = -1 then 1 else 0)
        rw [if_neg (show ¬ w.1 129 0 k = -1 from c2)]
      rw [e1, e2]
      exact pX12_making0 ht h n (k + 1) (by omega)
    · refine bX12_making_28 ?_
      have e1 : am_w (mh_cn (w.1 129 0) k + 1) = mh_cn (w.1 129 0) (k + 1) := by
        rw [am_w_id (by unfold am_rg; omega)]
        show _ = mh_cn (w.1 129 0) k + (if w.1 129 0 k = -1 then 1 else 0)
        rw [if_pos (show w.1 129 0 k = -1 from c2)]
      rw [e1, e2]
      exact pX12_making0 ht h n (k + 1) (by omega)
theorem pX12_making {SC : Nat → Nat} {X : mh_X} {d kc ks : Nat} {Q : Option am_V → am_W → Prop} {w : am_W} (ht : 0 ≤ w.1 9 0 81 ∧ w.1 9 0 81 ≤ 20)
    (h : Q (some (.inl (mh_cn (w.1 129 0) (w.1 9 0 81).toNat))) w) : am_M (mh_G X) SC (d + 1) kc ks mX12_making [.inr (.inr (some (9, 0)))] w Q := by
  refine am_M_of (by decide) (Nat.le_of_ble_eq_true rfl) ?_
  exact bX12_making_0 (pX12_making0 ht h (w.1 9 0 81).toNat 0 (by omega))
theorem pX12_hasTask0 {SC : Nat → Nat} {X : mh_X} {d bc bs : Nat} {Q : Option am_V → am_W → Prop} {w : am_W} {x : Int} (ht : 0 ≤ w.1 9 0 81 ∧ w.1 9 0 81 ≤ 20)
    (h1 : ∀ k : Nat, (k : Int) < w.1 9 0 81 → w.1 129 0 k = x → Q (some (.inl 1)) w)
    (h0 : (∀ k : Nat, (k : Int) < w.1 9 0 81 → ¬ w.1 129 0 k = x) → Q (some (.inl 0)) w) : ∀ (n k : Nat), n + k = (w.1 9 0 81).toNat → (∀ i : Nat, i < k → ¬ w.1 129 0 i = x) →
    am_A (mh_G X) SC (d + 1) mX12_hasTask Q 2 [(0, .inr (.inr (some (9, 0)))), (1, .inl x), (2, .inl (k : Int))] [] w bc bs
  | 0, k, hk, hi => by
    refine bX12_hasTask_2 ⟨fun _ => h0 (fun i hi2 => hi i (by omega)), fun c => absurd (show w.1 9 0 81 ≤ (k : Int) by omega) c⟩
  | n + 1, k, hk, hi => by
    have e2 : am_w ((k : Int) + 1) = ((k + 1 : Nat) : Int) := by rw [am_w_id (by unfold am_rg; omega)]; omega
    refine bX12_hasTask_2 ⟨fun c => absurd c (show ¬ w.1 9 0 81 ≤ (k : Int) by omega), fun c => ⟨by omega, by omega, fun c2 => ?_, fun c2 => h1 k (by omega) c2⟩⟩
    rw [e2]
    refine pX12_hasTask0 ht h1 h0 n (k + 1) (by omega) (fun i hi2 => ?_)
    by_cases q : i = k
    · rw [q]; exact c2
    · exact hi i (by omega)
theorem pX12_hasTask {SC : Nat → Nat} {X : mh_X} {d kc ks : Nat} {Q : Option am_V → am_W → Prop} {w : am_W} {x : Int} (ht : 0 ≤ w.1 9 0 81 ∧ w.1 9 0 81 ≤ 20)
    (h1 : ∀ k : Nat, (k : Int) < w.1 9 0 81 → w.1 129 0 k = x → Q (some (.inl 1)) w)
    (h0 : (∀ k : Nat, (k : Int) < w.1 9 0 81 → ¬ w.1 129 0 k = x) → Q (some (.inl 0)) w) : am_M (mh_G X) SC (d + 1) kc ks mX12_hasTask [.inr (.inr (some (9, 0))), .inl x] w Q := by
  refine am_M_of (by decide) (Nat.le_of_ble_eq_true rfl) ?_
  exact bX12_hasTask_0 (pX12_hasTask0 ht h1 h0 (w.1 9 0 81).toNat 0 (by omega) (fun i q => absurd q (Nat.not_lt_zero i)))

variable {SC : Nat → Nat} {X : mh_X}
theorem mh_E_hands {a b : am_W} {x : Int} (E : mh_E a b) (hx : 0 ≤ x ∧ x ≤ 4) : mh_E (am_up a.1 7 0 10 x, a.2) (am_up b.1 9 0 76 x, b.2) := by
  refine mh_E_W E (fun t q => am_up_t (fun e => q (by rw [e]; decide))) rfl (mh_fm_f mh_fm_i (by decide)) ?_
  obtain ⟨⟨⟨h0, i1, i2, i3, i4, i5, i6, i7, i8, i9, i10⟩, ⟨e1, e2, e3⟩, e4⟩, -⟩ := E
  refine ⟨?_, ?_⟩
  · unfold mh_Wr mh_Wi
    show _ ∧ _
    simp (disch := decide) only [am_up_t, am_up_k, am_up_s]
    exact ⟨h0, i1, hx, i3, i4, i5, i6, i7, i8, i9, i10⟩
  · unfold mh_We
    show _ ∧ _
    simp (disch := decide) only [am_up_t, am_up_k, am_up_s]
    exact ⟨⟨e1, e2, trivial⟩, e4⟩
theorem qX_hands {x : Int} : mh_q SC X 1 mX11_hands [.inr (.inr (some (1, 0))), .inl x] 2 mX12_hands [.inr (.inr (some (9, 0))), .inl x] := by
  intro a b0 E d kc ks Q h
  have no : ¬ (0 ≤ x ∧ x ≤ 4) → Q (some (.inl 0)) a := by
    intro c
    refine h 0 a (fun _ _ => rfl) ?_
    intro b e d' kc' ks' Q' k
    refine am_M_of (by decide) (Nat.le_of_ble_eq_true rfl) ?_
    exact bX12_hands_0 ⟨fun c2 => absurd c2 (by omega), fun _ => k b e (fun _ _ => rfl) rfl⟩
  refine am_M_of (by decide) (Nat.le_of_ble_eq_true rfl) ?_
  refine bX11_hands_0 ⟨fun c => no (by omega), fun c => ⟨fun c2 => ?_, fun c2 => no (by omega)⟩⟩
  refine h 1 _ (fun t q => am_up_t (fun e => q (by rw [e]; decide))) ?_
  intro b e d' kc' ks' Q' k
  refine am_M_of (by decide) (Nat.le_of_ble_eq_true rfl) ?_
  refine bX12_hands_0 ⟨fun _ => k _ (mh_E_hands e ⟨by omega, by omega⟩) (fun t q => am_up_t (fun e => q (by rw [e]; decide))) rfl, fun c3 => absurd ⟨c, by omega⟩ c3⟩
theorem mh_toN {z : Int} (h : 0 ≤ z) : ((z.toNat : Nat) : Int) = z := by omega
theorem mh_tN1 {z : Int} (h : 0 ≤ z) : (z + 1).toNat = z.toNat + 1 := by omega
theorem mh_E_dress {a b : am_W} {x1 x2 : Int} (E : mh_E a b) (h1 : 0 ≤ x1 ∧ x1 ≤ 4) (h2 : 0 ≤ x2 ∧ x2 ≤ 4) (hd : a.1 7 0 8 + a.1 7 0 11 < 40) :
    mh_E (am_up (am_up (am_up (am_up a.1 50 0 (a.1 7 0 8).toNat x1) 51 0 (a.1 7 0 8).toNat x2) 52 0 (a.1 7 0 8).toNat 0) 7 0 8 (a.1 7 0 8 + 1), a.2)
      (am_up (am_up (am_up b.1 126 0 (a.1 7 0 8).toNat x1) 127 0 (a.1 7 0 8).toNat x2) 9 0 75 (a.1 7 0 8 + 1), b.2) := by
  refine mh_E_W E ?_ rfl (mh_fm_f (mh_fm_v (mh_fm_v mh_fm_i (by decide) (by decide)) (by decide) (by decide)) (by decide)) ?_
  · intro t q
    show am_up _ _ _ _ _ t = _
    rw [am_up_t (fun e => q (by rw [e]; decide)), am_up_t (fun e => q (by rw [e]; decide)), am_up_t (fun e => q (by rw [e]; decide)), am_up_t (fun e => q (by rw [e]; decide))]
  obtain ⟨⟨⟨h0, i1, i2, i3, i4, i5, i6, i7, i8, i9, i10⟩, ⟨e1, e2, e3⟩, e4, e5, e6⟩, -⟩ := E
  refine ⟨?_, ?_⟩
  · unfold mh_Wr mh_Wi
    show _ ∧ _
    simp (disch := decide) only [am_up_t, am_up_k, am_up_s]
    simp (disch := decide) only [am_up_t, am_up_a]
    refine ⟨h0, by omega, i2, i3, i4, i5, fun k => ?_, fun k => ?_, fun k hk => ?_, i9, fun j => ?_⟩
    · have := i6 k; split <;> omega
    · have := i7 k; split <;> omega
    · have := i8 k hk; dsimp only at this; omega
    · have q := i10 j
      by_cases c : j = (a.1 7 0 8).toNat
      · rw [if_pos c]
        refine ⟨Or.inl rfl, fun z => absurd z (by decide), ?_⟩
        rintro ⟨k, hk, z⟩
        have := (i8 k hk).1
        omega
      · rw [if_neg c]; exact q
  · unfold mh_We
    show _ ∧ _
    simp (disch := decide) only [am_up_t, am_up_k, am_up_s]
    simp (disch := decide) only [am_up_t, am_up_a]
    refine ⟨⟨trivial, e2, e3⟩, fun k => ?_, fun k => ?_, e6⟩
    · rw [e4 k]
    · rw [e5 k]
theorem pX12_dress {d kc ks : Nat} {Q : Option am_V → am_W → Prop} {a w : am_W} {x1 x2 : Int} (E : mh_E a w)
    (h1 : ((0 ≤ x1 ∧ x1 ≤ 4) ∧ (0 ≤ x2 ∧ x2 ≤ 4) ∧ a.1 7 0 8 + a.1 7 0 11 < 40) → Q (some (.inl (a.1 7 0 8))) (am_up (am_up (am_up w.1 126 0 (a.1 7 0 8).toNat x1) 127 0 (a.1 7 0 8).toNat x2) 9 0 75 (a.1 7 0 8 + 1), w.2))
    (h0 : ¬ ((0 ≤ x1 ∧ x1 ≤ 4) ∧ (0 ≤ x2 ∧ x2 ≤ 4) ∧ a.1 7 0 8 + a.1 7 0 11 < 40) → Q (some (.inl (-1))) w) : am_M (mh_G X) SC (d + 3) kc ks mX12_dress [.inr (.inr (some (9, 0))), .inl x1, .inl x2] w Q := by
  obtain ⟨⟨⟨i0, i1, i2, i3, i4, -⟩, ⟨e1, e2, e3⟩, -, -, -, e7, -⟩, -⟩ := E
  have ec : mh_cn (w.1 129 0) (w.1 9 0 81).toNat = a.1 7 0 11 := by
    rw [e2, mh_cnc (g := a.1 54 0) (fun k _ => e7 k), i4]
    show _ = (0 : Int) + (_ - 0)
    omega
  refine am_M_of (by decide) (Nat.le_of_ble_eq_true rfl) ?_
  refine bX12_dress_0 ⟨fun c => h0 (by omega), fun c => ⟨fun c2 => h0 (by omega), fun c2 => ?_⟩⟩
  refine pX12_making (by omega) ?_
  rw [ec, e1]
  refine bX12_dress_24 ?_
  rw [am_w_id (by unfold am_rg; omega), e1, am_up_s, am_w_id (z := a.1 7 0 8 + 1) (by unfold am_rg; omega), am_w_id (by unfold am_rg; omega)]
  refine ⟨fun c3 => ⟨by omega, by omega, ?_⟩, fun c3 => h0 (by omega)⟩
  have := h1 ⟨by omega, by omega, by omega⟩
  rw [show a.1 7 0 8 + 1 - 1 = a.1 7 0 8 by omega]
  exact this
theorem qX_dress {x1 x2 : Int} : mh_q SC X 3 mX11_dress [.inr (.inr (some (1, 0))), .inl x1, .inl x2] 3 mX12_dress [.inr (.inr (some (9, 0))), .inl x1, .inl x2] := by
  intro a b0 E d kc ks Q h
  have i1 := E.1.1.2.1
  refine am_M_of (by decide) (Nat.le_of_ble_eq_true rfl) ?_
  refine bX11_dress_0 ?_
  rw [am_w_id (by unfold am_rg; omega), am_up_s, am_w_id (z := a.1 7 0 8 + 1) (by unfold am_rg; omega), am_w_id (by unfold am_rg; omega), show a.1 7 0 8 + 1 - 1 = a.1 7 0 8 by omega]
  refine ⟨fun c => h (-1) a (fun _ _ => rfl) ?_, fun c => ⟨by omega, by omega, h (a.1 7 0 8) _ ?_ ?_⟩⟩
  · intro b e d' kc' ks' Q' k
    exact pX12_dress e (fun c2 => absurd ⟨by omega, by omega⟩ c) (fun _ => k b e (fun _ _ => rfl) rfl)
  · intro t q
    show am_up _ _ _ _ _ t = _
    rw [am_up_t (fun e => q (by rw [e]; decide)), am_up_t (fun e => q (by rw [e]; decide)), am_up_t (fun e => q (by rw [e]; decide)), am_up_t (fun e => q (by rw [e]; decide))]
  · intro b e d' kc' ks' Q' k
    refine pX12_dress e (fun c2 => k _ (mh_E_dress e c2.1 c2.2.1 c2.2.2) ?_ rfl) (fun c2 => absurd ⟨by omega, by omega, by omega⟩ c2)
    exact (mh_fm_w (ts := [126, 127]) (fs := [75]) (mh_fm_f (mh_fm_v (mh_fm_v mh_fm_i (by decide) (by decide)) (by decide) (by decide)) (by decide)) (by decide)).1
theorem mh_E_cloth {a b : am_W} {x1 z : Int} (E : mh_E a b) (hz : 0 ≤ z ∧ z ≤ 999) :
    mh_E (am_up a.1 53 0 x1.toNat z, a.2) (am_up b.1 128 0 x1.toNat z, b.2) := by
  refine mh_E_W E (fun t q => am_up_t (fun e => q (by rw [e]; decide))) rfl (mh_fm_v mh_fm_i (by decide) (by decide)) ?_
  obtain ⟨⟨⟨h0, i1, i2, i3, i4, i5, i6, i7, i8, i9, i10⟩, e0, e1, e2, e3, e4⟩, -⟩ := E
  refine ⟨?_, ?_⟩
  · unfold mh_Wr mh_Wi
    show _ ∧ _
    simp (disch := decide) only [am_up_t, am_up_k, am_up_s]
    simp (disch := decide) only [am_up_t, am_up_a]
    refine ⟨h0, i1, i2, i3, i4, fun k => ?_, i6, i7, i8, i9, i10⟩
    have := i5 k; split <;> omega
  · unfold mh_We
    show _ ∧ _
    simp (disch := decide) only [am_up_t, am_up_k, am_up_s]
    simp (disch := decide) only [am_up_t, am_up_a]
    refine ⟨e0, e1, e2, fun k => ?_, e4⟩
    rw [e3 k]
theorem qX_cloth {x1 x2 : Int} : mh_q SC X 3 mX11_cloth [.inr (.inr (some (1, 0))), .inl x1, .inl x2] 3 mX12_cloth [.inr (.inr (some (9, 0))), .inl x1, .inl x2] := by
  intro a b0 E d kc ks Q h
  have i5 := E.1.1.2.2.2.2.2.1 x1.toNat
  refine am_M_of (by decide) (Nat.le_of_ble_eq_true rfl) ?_
  refine bX11_cloth_0 ?_
  have no : ¬ ((0 ≤ x1 ∧ x1 ≤ 4) ∧ (1 ≤ x2 ∧ x2 ≤ 99) ∧ a.1 53 0 x1.toNat + x2 ≤ 999) → Q (some (.inl (-1))) a := by
    intro c
    refine h (-1) a (fun _ _ => rfl) ?_
    intro b e d' kc' ks' Q' k
    have e5 := e.1.2.2.2.2.1 x1.toNat
    refine am_M_of (by decide) (Nat.le_of_ble_eq_true rfl) ?_
    refine bX12_cloth_0 ⟨fun _ => k b e (fun _ _ => rfl) rfl, fun c1 => ⟨fun _ => k b e (fun _ _ => rfl) rfl, fun c2 => ⟨by omega, by omega, ?_⟩⟩⟩
    rw [am_w_id (by unfold am_rg; omega), e5]
    exact ⟨fun c3 => absurd ⟨by omega, by omega, c3⟩ c, fun _ => k b e (fun _ _ => rfl) rfl⟩
  refine ⟨fun _ _ _ => by omega, fun _ _ _ => by omega, fun c => no (fun c2 => c ⟨by omega, by omega, by omega, ?_⟩), fun c => ⟨by omega, by omega, ?_⟩⟩
  · rw [am_w_id (by unfold am_rg; omega)]; omega
  obtain ⟨c1, c2, c3, c4⟩ := c
  rw [am_w_id (by unfold am_rg; omega)] at c4
  rw [am_w_id (by unfold am_rg; omega), am_up_s]
  refine h _ _ (fun t q => am_up_t (fun e => q (by rw [e]; decide))) ?_
  intro b e d' kc' ks' Q' k
  have e5 := e.1.2.2.2.2.1 x1.toNat
  refine am_M_of (by decide) (Nat.le_of_ble_eq_true rfl) ?_
  refine bX12_cloth_0 ⟨fun c => absurd ⟨by omega, by omega⟩ c, fun c1 => ⟨fun c => absurd ⟨by omega, by omega⟩ c, fun _ => ⟨by omega, by omega, ?_⟩⟩⟩
  rw [am_w_id (by unfold am_rg; omega), e5, am_up_s]
  refine ⟨fun _ => k _ (mh_E_cloth e ⟨by omega, by omega⟩) (fun t q => am_up_t (fun e => q (by rw [e]; decide))) rfl, fun c => absurd (show _ by omega) c⟩
theorem mh_lvn {n k : Nat} : mh_lv 0 0 n k ↔ k < n := by unfold mh_lv; omega
/-- a task more -/
theorem mh_E_asks {a b : am_W} {u x y z g m : Int} {A : Nat → Nat → Nat → Int} (E : mh_E a b) (hx : 0 ≤ x ∧ x ≤ 4) (hy : 0 ≤ y ∧ y ≤ 4) (hz : 1 ≤ z ∧ z ≤ 3) (ht : a.1 7 0 9 < 20)
    (hu : (u = -1 ∧ m = a.1 7 0 11 + 1 ∧ a.1 7 0 8 + m ≤ 40 ∧ A = am_up a.1 53 0 y.toNat g ∧ 0 ≤ g ∧ g ≤ 999) ∨
      ((0 ≤ u ∧ u < a.1 7 0 8 ∧ a.1 52 0 u.toNat = 0) ∧ m = a.1 7 0 11 ∧ A = am_up a.1 52 0 u.toNat 1 ∧ g = a.1 53 0 y.toNat)) :
    mh_E (am_up (am_up (am_up (am_up (am_up (am_up A 7 0 11 m) 54 0 (a.1 7 0 9).toNat u) 55 0 (a.1 7 0 9).toNat x) 56 0 (a.1 7 0 9).toNat y) 57 0 (a.1 7 0 9).toNat z) 7 0 9 (a.1 7 0 9 + 1), a.2)
      (am_up (am_up (am_up (am_up (am_up (am_up b.1 128 0 y.toNat g) 129 0 (a.1 7 0 9).toNat u) 130 0 (a.1 7 0 9).toNat x) 131 0 (a.1 7 0 9).toNat y) 132 0 (a.1 7 0 9).toNat z) 9 0 81 (a.1 7 0 9 + 1), b.2) := by
  have hA : ∀ t, t ∉ [7, 50, 51, 52, 53, 54, 55, 56, 57] → A t = a.1 t := by
    intro t q
    rcases hu with ⟨-, -, -, c, -⟩ | ⟨-, -, c, -⟩ <;> rw [c] <;> exact am_up_t (fun e => q (by rw [e]; decide))
  have A7 : A 7 = a.1 7 := by rcases hu with ⟨-, -, -, c, -⟩ | ⟨-, -, c, -⟩ <;> rw [c] <;> exact am_up_t (by decide)
  have A50 : A 50 = a.1 50 := by rcases hu with ⟨-, -, -, c, -⟩ | ⟨-, -, c, -⟩ <;> rw [c] <;> exact am_up_t (by decide)
  have A51 : A 51 = a.1 51 := by rcases hu with ⟨-, -, -, c, -⟩ | ⟨-, -, c, -⟩ <;> rw [c] <;> exact am_up_t (by decide)
  have A54 : A 54 = a.1 54 := by rcases hu with ⟨-, -, -, c, -⟩ | ⟨-, -, c, -⟩ <;> rw [c] <;> exact am_up_t (by decide)
  have A55 : A 55 = a.1 55 := by rcases hu with ⟨-, -, -, c, -⟩ | ⟨-, -, c, -⟩ <;> rw [c] <;> exact am_up_t (by decide)
  have A56 : A 56 = a.1 56 := by rcases hu with ⟨-, -, -, c, -⟩ | ⟨-, -, c, -⟩ <;> rw [c] <;> exact am_up_t (by decide)
  have A57 : A 57 = a.1 57 := by rcases hu with ⟨-, -, -, c, -⟩ | ⟨-, -, c, -⟩ <;> rw [c] <;> exact am_up_t (by decide)
  have A53 : ∀ k, A 53 0 k = if k = y.toNat then g else a.1 53 0 k := by
    intro k
    rcases hu with ⟨-, -, -, c, -⟩ | ⟨-, -, c, c2⟩ <;> rw [c]
    · exact am_up_a
    · rw [am_up_t (by decide), c2]
      split
      · rename_i q; rw [q]
      · rfl
  refine mh_E_W E ?_ rfl (mh_fm_f (mh_fm_v (mh_fm_v (mh_fm_v (mh_fm_v (mh_fm_v mh_fm_i (by decide) (by decide)) (by decide) (by decide)) (by decide) (by decide)) (by decide) (by decide)) (by decide) (by decide)) (by decide)) ?_
  · intro t q
    show am_up _ _ _ _ _ t = _
    rw [am_up_t (fun e => q (by rw [e]; decide)), am_up_t (fun e => q (by rw [e]; decide)), am_up_t (fun e => q (by rw [e]; decide)), am_up_t (fun e => q (by rw [e]; decide)), am_up_t (fun e => q (by rw [e]; decide)), am_up_t (fun e => q (by rw [e]; decide)), hA t q]
  obtain ⟨⟨⟨h0, i1, i2, i3, i4, i5, i6, i7, i8, i9, i10⟩, ⟨e1, e2, e3⟩, e4, e5, e6, e7, e8, e9, e10⟩, -⟩ := E
  have hn : (a.1 7 0 9 + 1).toNat = (a.1 7 0 9).toNat + 1 := mh_tN1 h0.1
  refine ⟨?_, ?_⟩
  · unfold mh_Wr mh_Wi
    show _ ∧ _
    simp (disch := decide) only [am_up_t, am_up_k, am_up_s, A7, A50, A51, A54, A55, A56, A57, hn]
    simp (disch := decide) only [am_up_t, am_up_a, A7, A50, A51, A54, A55, A56, A57, A53, mh_lvn]
    simp only [mh_lvn] at i8 i9 i10
    refine ⟨⟨by omega, by omega⟩, by omega, i2, ⟨by omega, by omega, by omega⟩, ?_, fun k => ?_, i6, i7, fun k hk => ?_, fun k l hk hl => ?_, fun j => ?_⟩
    · show m = (0 : Int) + ((mh_cn _ _ + (if _ = -1 then 1 else 0)) - 0)
      rw [show mh_cn (am_up _ 54 0 _ _ 54 0) (a.1 7 0 9).toNat = mh_cn (a.1 54 0) (a.1 7 0 9).toNat from mh_cnc (fun k hk => by rw [am_up_a, if_neg (by omega), am_up_t (by decide), A54]), am_up_s]
      have i4' : a.1 7 0 11 = (0 : Int) + (mh_cn (a.1 54 0) (a.1 7 0 9).toNat - 0) := i4
      split <;> omega
    · have := i5 k
      have := i5 y.toNat
      split <;> omega
    · by_cases c : k = (a.1 7 0 9).toNat
      · simp only [if_pos c]; omega
      · simp only [if_neg c]; exact i8 k (by omega)
    · by_cases c : k = (a.1 7 0 9).toNat
      · by_cases c2 : l = (a.1 7 0 9).toNat
        · intro _; exact Or.inr (by omega)
        · simp only [if_pos c, if_neg c2]
          intro q
          rcases hu with ⟨q1, -⟩ | ⟨⟨q1, q2, q3⟩, -⟩
          · exact Or.inl q1
          · have := (i10 u.toNat).2.mpr ⟨l, by omega, by omega⟩
            omega
      · by_cases c2 : l = (a.1 7 0 9).toNat
        · simp only [if_neg c, if_pos c2]
          intro q
          rcases hu with ⟨q1, -⟩ | ⟨⟨q1, q2, q3⟩, -⟩
          · exact Or.inl (by omega)
          · have := (i10 u.toNat).2.mpr ⟨k, by omega, by omega⟩
            omega
        · simp only [if_neg c, if_neg c2]
          exact i9 k l (by omega) (by omega)
    · have q := i10 j
      have w1 : (∃ k, k < (a.1 7 0 9).toNat + 1 ∧ (if k = (a.1 7 0 9).toNat then u else a.1 54 0 k) = (j : Int)) ↔ ((∃ k, k < (a.1 7 0 9).toNat ∧ a.1 54 0 k = (j : Int)) ∨ u = (j : Int)) := by
        constructor
        · rintro ⟨k, hk, z⟩
          by_cases c : k = (a.1 7 0 9).toNat
          · rw [if_pos c] at z; exact Or.inr z
          · rw [if_neg c] at z; exact Or.inl ⟨k, by omega, z⟩
        · rintro (⟨k, hk, z⟩ | z)
          · exact ⟨k, by omega, by rw [if_neg (by omega)]; exact z⟩
          · exact ⟨(a.1 7 0 9).toNat, by omega, by rw [if_pos rfl]; exact z⟩
      rw [w1]
      rcases hu with ⟨q1, -, -, q2, -⟩ | ⟨⟨q1, q2, q3⟩, -, q4, -⟩
      · rw [q2, am_up_t (by decide)]
        refine ⟨q.1, fun z => Or.inl (q.2.mp z), ?_⟩
        rintro (z | z)
        · exact q.2.mpr z
        · omega
      · rw [q4, am_up_a]
        by_cases c : j = u.toNat
        · rw [if_pos c]
          exact ⟨Or.inr rfl, fun _ => Or.inr (by omega), fun _ => rfl⟩
        · rw [if_neg c]
          refine ⟨q.1, fun z => Or.inl (q.2.mp z), ?_⟩
          rintro (z | z)
          · exact q.2.mpr z
          · omega
  · unfold mh_We
    show _ ∧ _
    simp (disch := decide) only [am_up_t, am_up_k, am_up_s, A7, A50, A51, A54, A55, A56, A57]
    simp (disch := decide) only [am_up_t, am_up_a, A7, A50, A51, A54, A55, A56, A57, A53]
    refine ⟨⟨e1, trivial, e3⟩, e4, e5, fun k => ?_, fun k => ?_, fun k => ?_, fun k => ?_, fun k => ?_⟩
    · rw [e6 k]
    · rw [e7 k]
    · rw [e8 k]
    · rw [e9 k]
    · rw [e10 k]
