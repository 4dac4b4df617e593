-- dye, make, worn
variable {SC : Nat → Nat} {X : mh_X}
theorem pX12_dye {d kc ks : Nat} {Q : Option am_V → am_W → Prop} {a w : am_W} {x1 x2 : Int} (E : mh_E a w)
    (h1 : ((0 ≤ x1 ∧ x1 < a.1 7 0 8) ∧ a.1 52 0 x1.toNat = 0 ∧ (x2 ≤ 4 ∧ a.1 51 0 x1.toNat < x2) ∧ a.1 7 0 9 < 20) → Q (some (.inl (a.1 7 0 9 + 1))) (am_up (am_up (am_up (am_up (am_up w.1 129 0 (a.1 7 0 9).toNat x1) 130 0 (a.1 7 0 9).toNat (a.1 50 0 x1.toNat)) 131 0 (a.1 7 0 9).toNat x2) 132 0 (a.1 7 0 9).toNat 2) 9 0 81 (a.1 7 0 9 + 1), w.2))
    (h0 : ¬ ((0 ≤ x1 ∧ x1 < a.1 7 0 8) ∧ a.1 52 0 x1.toNat = 0 ∧ (x2 ≤ 4 ∧ a.1 51 0 x1.toNat < x2) ∧ a.1 7 0 9 < 20) → Q (some (.inl (-1))) w) : am_M (mh_G X) SC (d + 3) kc ks mX12_dye [.inr (.inr (some (9, 0))), .inl x1, .inl x2] w Q := by
  obtain ⟨⟨⟨i0, i1, i2, i3, i4, i5, i6, i7, i8, i9, i10⟩, ⟨e1, e2, e3⟩, e4, e5, e6, e7, -⟩, -⟩ := E
  have i10a := (i10 x1.toNat).1
  have i10m : ∀ k : Nat, k < (a.1 7 0 9).toNat → a.1 54 0 k = ((x1.toNat : Nat) : Int) → a.1 52 0 x1.toNat = 1 := fun k q1 q2 => (i10 x1.toNat).2.mpr ⟨k, mh_lvn.mpr q1, q2⟩
  have i10p : (∀ k : Nat, k < (a.1 7 0 9).toNat → ¬ a.1 54 0 k = ((x1.toNat : Nat) : Int)) → a.1 52 0 x1.toNat = 0 := fun q => i10a.resolve_right (fun q1 => by
    obtain ⟨k, q2, q3⟩ := (i10 x1.toNat).2.mp q1
    exact q k (mh_lvn.mp q2) q3)
  clear i10
  have i7 := i7 x1.toNat
  refine am_M_of (by decide) (Nat.le_of_ble_eq_true rfl) ?_
  refine bX12_dye_0 ?_
  rw [e1, am_w_id (by unfold am_rg; omega)]
  refine ⟨fun c => h0 (by omega), fun c => ?_⟩
  have nx : ((x1.toNat : Nat) : Int) = x1 := by omega
  refine pX12_hasTask (by omega) (fun k hk hx => ?_) (fun hx => ?_)
  · refine bX12_dye_19 ⟨fun _ => h0 ?_, fun c2 => absurd c2 (by decide)⟩
    have : a.1 52 0 x1.toNat = 1 := i10m k (by omega) (by rw [← e7 k, hx, nx])
    omega
  · have i52 : a.1 52 0 x1.toNat = 0 := i10p (fun k hk q2 => hx k (by omega) (by rw [e7 k, q2, nx]))
    refine bX12_dye_19 ⟨fun c2 => absurd rfl c2, fun _ => ⟨fun c2 => h0 (by omega), fun c2 => ⟨by omega, by omega, ?_⟩⟩⟩
    rw [e5, e2, e4, am_up_s, am_w_id (by unfold am_rg; omega)]
    refine ⟨fun c3 => h0 (by omega), fun c3 => ⟨fun c4 => ⟨by omega, by omega, h1 ⟨by omega, i52, by omega, by omega⟩⟩, fun c4 => h0 (by omega)⟩⟩
theorem qX_dye {x1 x2 : Int} : mh_q SC X 3 mX11_dye [.inr (.inr (some (1, 0))), .inl x1, .inl x2] 3 mX12_dye [.inr (.inr (some (9, 0))), .inl x1, .inl x2] := by
  intro a b0 E d kc ks Q h
  obtain ⟨⟨⟨i0, i1, i2, i3, i4, i5, i6, i7, i8, i9, i10⟩, -⟩, -⟩ := E
  have i6' := i6 x1.toNat
  have i7' := i7 x1.toNat
  refine am_M_of (by decide) (Nat.le_of_ble_eq_true rfl) ?_
  refine bX11_dye_0 ⟨fun _ => by omega, fun _ => by omega, fun c => h (-1) a (fun _ _ => rfl) ?_, fun c => ⟨by omega, by omega, by omega, by omega, ?_⟩⟩
  · intro b e d' kc' ks' Q' k
    exact pX12_dye e (fun c2 => absurd ⟨by omega, by omega⟩ c) (fun _ => k b e (fun _ _ => rfl) rfl)
  · rw [am_up_s, am_w_id (by unfold am_rg; omega)]
    refine h _ _ ?_ ?_
    · intro t q
      show am_up _ _ _ _ _ t = _
      rw [am_up_t (fun e => q (by rw [e]; decide)), am_up_t (fun e => q (by rw [e]; decide)), am_up_t (fun e => q (by rw [e]; decide)), am_up_t (fun e => q (by rw [e]; decide)), am_up_t (fun e => q (by rw [e]; decide)), am_up_t (fun e => q (by rw [e]; decide))]
    · intro b e d' kc' ks' Q' k
      refine pX12_dye e (fun c2 => ?_) (fun c2 => absurd ⟨by omega, by omega, by omega, by omega⟩ c2)
      have z := mh_E_asks (u := x1) (x := a.1 50 0 x1.toNat) (y := x2) (z := 2) (g := a.1 53 0 x2.toNat) (m := a.1 7 0 11) (A := am_up a.1 52 0 x1.toNat 1) e i6' (by omega) (by omega) (by omega) (Or.inr ⟨⟨by omega, by omega, by omega⟩, rfl, rfl, rfl⟩)
      have z1 : am_up (am_up a.1 52 0 x1.toNat 1) 7 0 11 (a.1 7 0 11) = am_up a.1 52 0 x1.toNat 1 := by
        have : a.1 7 0 11 = am_up a.1 52 0 x1.toNat 1 7 0 11 := by rw [am_up_t (by decide)]
        rw [this]; exact am_up_i
      have z2 : am_up b.1 128 0 x2.toNat (a.1 53 0 x2.toNat) = b.1 := by rw [← e.1.2.2.2.2.1]; exact am_up_i
      rw [z1, z2] at z
      refine k _ z ?_ rfl
      intro t q
      show am_up _ _ _ _ _ t = _
      rw [am_up_t (fun e => q (by rw [e]; decide)), am_up_t (fun e => q (by rw [e]; decide)), am_up_t (fun e => q (by rw [e]; decide)), am_up_t (fun e => q (by rw [e]; decide)), am_up_t (fun e => q (by rw [e]; decide))]
theorem pX12_make {d kc ks : Nat} {Q : Option am_V → am_W → Prop} {a w : am_W} {x1 x2 : Int} (E : mh_E a w)
    (h1 : ((0 ≤ x1 ∧ x1 ≤ 4) ∧ (0 ≤ x2 ∧ x2 ≤ 4) ∧ a.1 7 0 8 + a.1 7 0 11 < 40 ∧ 0 < a.1 53 0 x2.toNat ∧ a.1 7 0 9 < 20) → Q (some (.inl (a.1 7 0 9 + 1))) (am_up (am_up (am_up (am_up (am_up (am_up w.1 128 0 x2.toNat (a.1 53 0 x2.toNat - 1)) 129 0 (a.1 7 0 9).toNat (-1)) 130 0 (a.1 7 0 9).toNat x1) 131 0 (a.1 7 0 9).toNat x2) 132 0 (a.1 7 0 9).toNat 3) 9 0 81 (a.1 7 0 9 + 1), w.2))
    (h0 : ¬ ((0 ≤ x1 ∧ x1 ≤ 4) ∧ (0 ≤ x2 ∧ x2 ≤ 4) ∧ a.1 7 0 8 + a.1 7 0 11 < 40 ∧ 0 < a.1 53 0 x2.toNat ∧ a.1 7 0 9 < 20) → Q (some (.inl (-1))) w) : am_M (mh_G X) SC (d + 3) kc ks mX12_make [.inr (.inr (some (9, 0))), .inl x1, .inl x2] w Q := by
  obtain ⟨⟨⟨i0, i1, i2, i3, i4, i5, -⟩, ⟨e1, e2, e3⟩, e4, e5, e6, e7, -⟩, -⟩ := E
  have i5 := i5 x2.toNat
  have ec : mh_cn (w.1 129 0) (w.1 9 0 81).toNat = a.1 7 0 11 := by
    rw [e2, mh_cnc (g := a.1 54 0) (fun k _ => e7 k), i4]
    show _ = (0 : Int) + (_ - 0)
    omega
  refine am_M_of (by decide) (Nat.le_of_ble_eq_true rfl) ?_
  refine bX12_make_0 ⟨fun c => h0 (by omega), fun c => ⟨fun c2 => h0 (by omega), fun c2 => ⟨by omega, by omega, ?_⟩⟩⟩
  rw [e6, e2]
  refine ⟨fun c3 => h0 (by omega), fun c3 => ⟨fun c4 => h0 (by omega), fun c4 => ?_⟩⟩
  refine pX12_making (by omega) ?_
  rw [ec, e1]
  refine bX12_make_42 ?_
  rw [am_w_id (by unfold am_rg; omega), e2, am_up_s, am_w_id (z := a.1 7 0 9 + 1) (by unfold am_rg; omega), e6, am_w_id (by unfold am_rg; omega)]
  exact ⟨fun c3 => ⟨by omega, by omega, by omega, by omega, h1 ⟨by omega, by omega, by omega, by omega, by omega⟩⟩, fun c3 => h0 (by omega)⟩
theorem qX_make {x1 x2 : Int} : mh_q SC X 4 mX11_make [.inr (.inr (some (1, 0))), .inl x1, .inl x2] 3 mX12_make [.inr (.inr (some (9, 0))), .inl x1, .inl x2] := by
  intro a b0 E d kc ks Q h
  obtain ⟨⟨⟨i0, i1, i2, i3, i4, i5, i6, i7, i8, i9, i10⟩, -⟩, -⟩ := E
  have i5' := i5 x2.toNat
  refine am_M_of (by decide) (Nat.le_of_ble_eq_true rfl) ?_
  refine bX11_make_0 ?_
  rw [am_w_id (z := a.1 7 0 8 + a.1 7 0 11) (by unfold am_rg; omega)]
  refine ⟨fun _ => by omega, fun _ => by omega, fun c => h (-1) a (fun _ _ => rfl) ?_, fun c => ⟨by omega, by omega, ?_⟩⟩
  · intro b e d' kc' ks' Q' k
    exact pX12_make e (fun c2 => absurd ⟨by omega, by omega⟩ c) (fun _ => k b e (fun _ _ => rfl) rfl)
  · simp (disch := decide) only [am_up_t, am_up_k, am_up_s]
    rw [am_w_id (z := a.1 7 0 9 + 1) (by unfold am_rg; omega), am_w_id (z := a.1 7 0 11 + 1) (by unfold am_rg; omega), am_w_id (by unfold am_rg; omega)]
    refine ⟨by omega, by omega, h _ _ ?_ ?_⟩
    · intro t q
      show am_up _ _ _ _ _ t = _
      rw [am_up_t (fun e => q (by rw [e]; decide)), am_up_t (fun e => q (by rw [e]; decide)), am_up_t (fun e => q (by rw [e]; decide)), am_up_t (fun e => q (by rw [e]; decide)), am_up_t (fun e => q (by rw [e]; decide)), am_up_t (fun e => q (by rw [e]; decide)), am_up_t (fun e => q (by rw [e]; decide))]
    · intro b e d' kc' ks' Q' k
      refine pX12_make e (fun c2 => ?_) (fun c2 => absurd ⟨by omega, by omega, by omega, by omega⟩ c2)
      have z := mh_E_asks (u := -1) (x := x1) (y := x2) (z := 3) (g := a.1 53 0 x2.toNat - 1) (m := a.1 7 0 11 + 1) (A := am_up a.1 53 0 x2.toNat (a.1 53 0 x2.toNat - 1)) e (by omega) (by omega) (by omega) (by omega) (Or.inl ⟨rfl, rfl, by omega, rfl, by omega, by omega⟩)
      refine k _ z ?_ rfl
      intro t q
      show am_up _ _ _ _ _ t = _
      rw [am_up_t (fun e => q (by rw [e]; decide)), am_up_t (fun e => q (by rw [e]; decide)), am_up_t (fun e => q (by rw [e]; decide)), am_up_t (fun e => q (by rw [e]; decide)), am_up_t (fun e => q (by rw [e]; decide)), am_up_t (fun e => q (by rw [e]; decide))]
theorem qX_worn {x1 x2 : Int} : mh_q SC X 2 mX11_worn [.inr (.inr (some (1, 0))), .inl x1, .inl x2] 2 mX12_worn [.inr (.inr (some (9, 0))), .inl x1, .inl x2] := by
  intro a b0 E d kc ks Q h
  have i1 := E.1.1.2.1
  refine sX11_worn (fun _ _ => by omega) (fun _ _ => by omega) (fun _ _ => by omega) (fun _ _ => by omega) (fun _ _ => by omega) (fun _ _ => by omega) ?_
  refine h _ a (fun _ _ => rfl) ?_
  intro b e d' kc' ks' Q' k
  have K := fun v (q : v = _) => (show Q' (some (.inl v)) b from q ▸ k b e (fun _ _ => rfl) rfl)
  obtain ⟨⟨⟨i0, i1, i2, i3, i4, i5, i6, i7, i8, i9, i10⟩, ⟨e1, e2, e3⟩, e4, e5, e6, e7, -⟩, -⟩ := e
  have i10a := (i10 x1.toNat).1
  have i10m : ∀ k : Nat, k < (a.1 7 0 9).toNat → a.1 54 0 k = ((x1.toNat : Nat) : Int) → a.1 52 0 x1.toNat = 1 := fun k q1 q2 => (i10 x1.toNat).2.mpr ⟨k, mh_lvn.mpr q1, q2⟩
  have i10p : (∀ k : Nat, k < (a.1 7 0 9).toNat → ¬ a.1 54 0 k = ((x1.toNat : Nat) : Int)) → a.1 52 0 x1.toNat = 0 := fun q => i10a.resolve_right (fun q1 => by
    obtain ⟨k, q2, q3⟩ := (i10 x1.toNat).2.mp q1
    exact q k (mh_lvn.mp q2) q3)
  clear i10
  refine am_M_of (by decide) (Nat.le_of_ble_eq_true rfl) ?_
  refine bX12_worn_0 ?_
  rw [e1, am_w_id (by unfold am_rg; omega), e4, e5]
  refine ⟨fun c => ⟨fun c2 => ⟨fun c3 => ⟨fun c4 => K _ ?_, fun c4 => ?_⟩, fun c3 => ⟨by omega, by omega, K _ ?_⟩⟩, fun c2 => ⟨by omega, by omega, K _ ?_⟩⟩, fun c => K _ ?_⟩
  · rw [if_pos (by omega), if_neg c4, if_neg c3, if_neg c2]
  · have nx : ((x1.toNat : Nat) : Int) = x1 := by omega
    refine pX12_hasTask (by omega) (fun k hk hx => ?_) (fun hx => ?_)
    · refine bX12_worn_53 ⟨fun c5 => absurd c5 (by decide), fun _ => K _ ?_⟩
      have : a.1 52 0 x1.toNat = 1 := i10m k (by omega) (by rw [← e7 k, hx, nx])
      rw [if_pos (by omega), if_pos c4, if_neg (by omega)]
    · have i52 : a.1 52 0 x1.toNat = 0 := i10p (fun k hk q2 => hx k (by omega) (by rw [e7 k, q2, nx]))
      refine bX12_worn_53 ⟨fun _ => K _ ?_, fun c5 => absurd rfl c5⟩
      rw [if_pos (by omega), if_pos c4, if_pos i52]
  · rw [if_pos (by omega), if_neg (by omega), if_pos c3]
  · rw [if_pos (by omega), if_neg (by omega), if_neg (by omega), if_pos c2]
  · rw [if_neg (by omega)]
