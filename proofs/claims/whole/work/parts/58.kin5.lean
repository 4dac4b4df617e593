-- kin, mourns
variable {SC : Nat → Nat} {X : mh_X}
theorem mh_nat {z : Int} (h : 0 ≤ z) : ∃ n : Nat, z = (n : Int) := ⟨z.toNat, by omega⟩
theorem qX_kin {x1 x2 x3 x4 : Int} : mh_q SC X 4 mX11_kin [.inr (.inr (some (1, 0))), .inl x1, .inl x2, .inl x3, .inl x4] 4 mX12_kin [.inr (.inr (some (9, 0))), .inl x1, .inl x2, .inl x3, .inl x4] := by
  intro a b0 E d kc ks Q h
  have n1 := E.2.1.2
  have R := E.2.2.2.2.1
  have RL := E.2.2.2.1
  have hp := R.1.2
  have hm := R.2.1.2
  have hl := RL.1.2
  have no : ¬ (0 < a.1 4 0 5 ∧ (0 ≤ x1 ∧ x1 < a.1 10 (a.1 4 0 5 - 1).toNat 10) ∧ (0 ≤ x2 ∧ x2 < a.1 5 0 18) ∧ (0 ≤ x3 ∧ x3 < a.1 5 0 18) ∧ -36524 ≤ x4 ∧ x4 ≤ 73047) → Q (some (.inl 0)) a := by
    intro c
    refine h 0 a (fun _ _ => rfl) ?_
    intro b e d' kc' ks' Q' k
    have K := k b e (fun _ _ => rfl) rfl
    have RL2 := e.2.2.2.1
    have p2 := e.2.2.2.2.1.1.1
    refine am_M_of (by decide) (Nat.le_of_ble_eq_true rfl) ?_
    refine bX12_kin_0 ?_
    rw [RL2.1.1, p2, am_w_id (z := a.1 4 0 5 - 1) (by unfold am_rg; omega), am_w_id (z := a.1 5 0 18 - 1) (by unfold am_rg; omega)]
    refine ⟨fun _ => K, fun c1 => ⟨by omega, by omega, ?_⟩⟩
    have Fl := (RL2.2 (a.1 4 0 5 - 1).toNat (by omega)).1.1
    rw [Fl.1, am_w_id (z := a.1 10 (a.1 4 0 5 - 1).toNat 10 - 1) (by unfold am_rg; omega)]
    exact ⟨fun _ => K, fun c2 => ⟨fun _ => K, fun c3 => ⟨fun _ => K, fun c4 => ⟨fun _ => K, fun c5 => absurd ⟨by omega, by omega, by omega, by omega, by omega, by omega⟩ c⟩⟩⟩⟩
  refine am_M_of (by decide) (Nat.le_of_ble_eq_true rfl) ?_
  refine bX11_kin_0 ?_
  rw [am_w_id (z := a.1 4 0 5 - 1) (by unfold am_rg; omega)]
  refine am_M_of (by decide) (Nat.le_of_ble_eq_true rfl) ?_
  refine bX1_lawNumbered_0 ⟨fun c => bX11_kin_16 (no (by omega)), fun c => ⟨fun c2 => absurd c2 (by omega), fun c2 => ⟨by omega, by omega, ?_⟩⟩⟩
  refine bX11_kin_16a ⟨fun c3 => no (by omega), fun c3 => ⟨fun c4 => no (by omega), fun c4 => ⟨fun c5 => no (by omega), fun c5 => ⟨fun c6 => ?_, fun c6 => no (by omega)⟩⟩⟩⟩
  obtain ⟨l, hl2⟩ := mh_nat (z := a.1 4 0 5 - 1) (by omega)
  obtain ⟨r, rfl⟩ := mh_nat (z := x1) (by omega)
  obtain ⟨u, rfl⟩ := mh_nat (z := x2) (by omega)
  obtain ⟨v, rfl⟩ := mh_nat (z := x3) (by omega)
  rw [hl2] at c3 ⊢
  rw [Int.toNat_natCast] at c3 ⊢
  have Fl := RL.2 l (by omega)
  have Fk := Fl.1.2.1 r (by omega)
  have Fr := Fl.1.1
  refine pX2_gather hp hm (fun k hk => (R.2.2.2.2 k hk).1) (fun L' g => ?_)
  refine bX11_kin_77 ?_
  have fin : ∀ v0 : Int, (v0 = 0 ∨ v0 = 1) → (v0 = 1 ↔ mh_kk a.1 u v x4 (a.1 1 0 12) l r) → Q (some (.inl v0)) (a.1, L', a.2.2) := by
    intro v0 hv0 hv
    have fr : mh_fc mh_t1 mh_l1 a (a.1, L', a.2.2) := ⟨fun _ _ => rfl, fun t ht => g.1 t (fun c => ht (by revert c; revert ht; unfold mh_l1; simp; omega)), g.2.1⟩
    refine h v0 _ (fun _ _ => rfl) ?_
    intro b e d' kc' ks' Q' k
    have RL2 := e.2.2.2.1
    have R2 := e.2.2.2.2.1
    have p2 := R2.1.1
    have n2 := e.2.1.1
    refine am_M_of (by decide) (Nat.le_of_ble_eq_true rfl) ?_
    refine bX12_kin_0 ?_
    rw [RL2.1.1, p2, n2, am_w_id (z := a.1 4 0 5 - 1) (by unfold am_rg; omega), am_w_id (z := a.1 5 0 18 - 1) (by unfold am_rg; omega), hl2, Int.toNat_natCast]
    have Fl2 := RL2.2 l (by omega)
    have Fk2 := Fl2.1.2.1 r (by omega)
    rw [Fl2.1.1.1, am_w_id (z := a.1 10 l 10 - 1) (by unfold am_rg; omega)]
    refine ⟨fun c => absurd c (by omega), fun _ => ⟨by omega, by omega, fun c => absurd ⟨by omega, by omega⟩ c, fun _ => ⟨fun c => absurd ⟨by omega, by omega⟩ c, fun _ => ⟨fun c => absurd ⟨by omega, by omega⟩ c, fun _ => ⟨fun c => absurd ⟨by omega, by omega⟩ c, fun _ => ?_⟩⟩⟩⟩⟩
    have tr : ∀ b' : am_W, mh_fm [112, 113] [] b b' → mh_E (a.1, L', a.2.2) b' ∧ (∀ t, t ∉ mh_tr → b'.1 t = b.1 t) ∧ b'.2.1 = b.2.1 := fun b' gb =>
      ⟨mh_E_s e fr (mh_fm_m gb (by decide) (by decide)), mh_fm_w gb (by decide)⟩
    refine pX12_isKinBy (L := a.2.1) (l := l) ⟨R2, ⟨Fk2.1, Fk2.2.1⟩, by omega, by omega⟩ (by omega) (by omega) (fun b' gb hh => ?_) (fun b' gb hh => ?_)
    · obtain ⟨t1, t2, t3⟩ := tr b' gb
      refine bX12_kin_71 ⟨fun z => absurd z (by decide), fun _ => ?_⟩
      have : v0 = 1 := hv.mpr hh
      rw [this] at k
      exact k b' t1 t2 t3
    · obtain ⟨t1, t2, t3⟩ := tr b' gb
      refine bX12_kin_71 ⟨fun _ => ?_, fun z => absurd rfl z⟩
      have : v0 = 0 := hv0.resolve_right (fun z => hh (hv.mp z))
      rw [this] at k
      exact k b' t1 t2 t3
  have tu := R.2.2.1 u (by omega)
  refine pX2_isKin (by omega) (mh_fa_ga (mh_RK_fa R) g) (L0 := a.2.1) (day := x4) (known := a.1 1 0 12) g Fk.1.2 (fun i hi => (Fk.2.1 i hi).2) (by show (u : Int) < a.1 5 0 18; omega) (by show (v : Int) < a.1 5 0 18; omega) (by show a.1 38 0 u ≤ a.1 1 0 12; omega) (fun hh => ?_) (fun hh => ?_)
  · exact bX11_kin_89 ⟨Or.inr rfl, fin 1 (Or.inr rfl) ⟨fun _ => hh, fun _ => rfl⟩⟩
  · exact bX11_kin_89 ⟨Or.inl rfl, fin 0 (Or.inl rfl) ⟨fun z => absurd z (by decide), fun z => absurd z hh⟩⟩
theorem mh_fc_L {a : am_W} {L' : Nat → Nat → Nat → Int64} (g1 : ∀ t, t ∉ [5, 48] → L' t = a.2.1 t) (g2 : L' 5 0 16 = a.2.1 5 0 16) : mh_fc mh_t1 mh_l1 a (a.1, L', a.2.2) :=
  ⟨fun _ _ => rfl, fun t ht => g1 t (fun c => ht (by revert c; revert ht; unfold mh_l1; simp; omega)), g2⟩
theorem qX_mourns {x1 x2 x3 : Int} : mh_q SC X 5 mX11_mourns [.inr (.inr (some (1, 0))), .inl x1, .inl x2, .inl x3] 5 mX12_mourns [.inr (.inr (some (9, 0))), .inl x1, .inl x2, .inl x3] := by
  intro a b0 E d kc ks Q h
  have n1 := E.2.1.2
  have R := E.2.2.2.2.1
  have hp := R.1.2
  have no : ¬ ((0 ≤ x1 ∧ x1 < a.1 5 0 18) ∧ (0 ≤ x2 ∧ x2 < a.1 5 0 18) ∧ -36524 ≤ x3 ∧ x3 ≤ a.1 1 0 12) → Q (some (.inl (-1))) a := by
    intro c
    refine h (-1) a (fun _ _ => rfl) ?_
    intro b e d' kc' ks' Q' k
    have K := k b e (fun _ _ => rfl) rfl
    have p2 := e.2.2.2.2.1.1.1
    have n2 := e.2.1.1
    refine am_M_of (by decide) (Nat.le_of_ble_eq_true rfl) ?_
    refine bX12_mourns_0 ?_
    rw [p2, n2, am_w_id (by unfold am_rg; omega)]
    exact ⟨fun _ => K, fun c1 => ⟨fun _ => K, fun c2 => ⟨fun _ => K, fun c3 => absurd ⟨by omega, by omega, by omega, by omega⟩ c⟩⟩⟩
  refine am_M_of (by decide) (Nat.le_of_ble_eq_true rfl) ?_
  refine bX11_mourns_0 ⟨fun c => no (by omega), fun c => ⟨fun c2 => no (by omega), fun c2 => ⟨fun c3 => ?_, fun c3 => no (by omega)⟩⟩⟩
  obtain ⟨u, rfl⟩ := mh_nat (z := x1) (by omega)
  obtain ⟨v, rfl⟩ := mh_nat (z := x2) (by omega)
  refine pX4_ruleFor (mh_E_C E) (by omega) (by omega) (by omega) (fun L' g1 g2 => ?_)
  refine bX11_mourns_42 ?_
  refine h _ _ (fun _ _ => rfl) ?_
  intro b e d' kc' ks' Q' k
  have p2 := e.2.2.2.2.1.1.1
  have n2 := e.2.1.1
  refine am_M_of (by decide) (Nat.le_of_ble_eq_true rfl) ?_
  refine bX12_mourns_0 ?_
  rw [p2, n2, am_w_id (by unfold am_rg; omega)]
  refine ⟨fun c4 => absurd ⟨by omega, by omega⟩ c4, fun _ => ⟨fun c4 => absurd ⟨by omega, by omega⟩ c4, fun _ => ⟨fun c4 => absurd ⟨by omega, by omega⟩ c4, fun _ => ?_⟩⟩⟩
  refine pX12_ruleFor e.2.2.2.2.1 e.2.2.2.1 (by omega) (by omega) (by omega) (fun b' gb => ?_)
  refine bX12_mourns_31 ?_
  obtain ⟨t2, t3⟩ := mh_fm_w gb (by decide)
  exact k b' (mh_E_s e (mh_fc_L g1 g2) (mh_fm_m gb (by decide) (by decide))) t2 t3
