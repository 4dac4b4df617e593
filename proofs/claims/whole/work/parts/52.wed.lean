-- wed
variable {SC : Nat → Nat} {X : mh_X}
def mh_cw (a : am_W) (x1 x2 x3 : Int) : Prop :=
  a.1 5 0 19 < 40 ∧ (0 ≤ x1 ∧ x1 < a.1 5 0 18) ∧ (0 ≤ x2 ∧ x2 < a.1 5 0 18) ∧ (¬ a.1 33 0 x1.toNat = a.1 33 0 x2.toNat) ∧ (-36524 ≤ x3 ∧ x3 ≤ a.1 1 0 12) ∧ a.1 37 0 x1.toNat ≤ x3 ∧ a.1 37 0 x2.toNat ≤ x3
theorem mh_E_wed {a b : am_W} {x1 x2 x3 u v : Int} (e : mh_E a b) (h : mh_cw a x1 x2 x3) (huv : (u = x1 ∧ v = x2) ∨ (u = x2 ∧ v = x1)) :
    mh_E (am_up (am_up (am_up (am_up (am_up a.1 44 0 (a.1 5 0 19).toNat u) 45 0 (a.1 5 0 19).toNat v) 46 0 (a.1 5 0 19).toNat x3) 47 0 (a.1 5 0 19).toNat (a.1 1 0 12)) 5 0 19 (a.1 5 0 19 + 1), a.2)
      (am_up (am_up (am_up (am_up (am_up b.1 104 0 (a.1 5 0 19).toNat x1) 105 0 (a.1 5 0 19).toNat x2) 106 0 (a.1 5 0 19).toNat x3) 107 0 (a.1 5 0 19).toNat (a.1 1 0 12)) 9 0 47 (a.1 5 0 19 + 1), b.2) := by
  have n1 := e.2.1.2
  unfold mh_cw at h
  refine mh_E_F e (fun t q => by (show am_up _ _ _ _ _ t = _; rw [am_up_t (fun e => q (by rw [e]; decide)), am_up_t (fun e => q (by rw [e]; decide)), am_up_t (fun e => q (by rw [e]; decide)), am_up_t (fun e => q (by rw [e]; decide)), am_up_t (fun e => q (by rw [e]; decide))])) (fun k hk => by repeat (first | (rw [am_up_n hk (by decide)]) | (simp (disch := decide) only [am_up_t]))) (by simp (disch := decide) only [am_up_t, am_up_k]; exact Int.le_refl _) (mh_fm_f (mh_fm_v (mh_fm_v (mh_fm_v (mh_fm_v mh_fm_i (by decide) (by decide)) (by decide) (by decide)) (by decide) (by decide)) (by decide) (by decide)) (by decide)) ?_
  obtain ⟨-, -, -, -, ⟨e1, e2, e3, e4, e5⟩, -⟩ := e
  unfold mh_RK
  simp (disch := decide) only [am_up_t, am_up_k, am_up_s]
  simp (disch := decide) only [am_up_t, am_up_a]
  refine ⟨e1, ⟨trivial, by omega⟩, e3, e4, fun k hk => ?_⟩
  by_cases c : k = (a.1 5 0 19).toNat
  · simp only [if_pos c, true_and]
    omega
  · simp only [if_neg c]
    exact e5 k (by omega)
theorem pX12_wed {d kc ks : Nat} {Q : Option am_V → am_W → Prop} {a b : am_W} {x1 x2 x3 : Int} (e : mh_E a b)
    (K0 : ¬ mh_cw a x1 x2 x3 → Q (some (.inl (-1))) b) (K1 : mh_cw a x1 x2 x3 → Q (some (.inl (a.1 5 0 19))) (am_up (am_up (am_up (am_up (am_up b.1 104 0 (a.1 5 0 19).toNat x1) 105 0 (a.1 5 0 19).toNat x2) 106 0 (a.1 5 0 19).toNat x3) 107 0 (a.1 5 0 19).toNat (a.1 1 0 12)) 9 0 47 (a.1 5 0 19 + 1), b.2)) :
    am_M (mh_G X) SC (d + 3) kc ks mX12_wed [.inr (.inr (some (9, 0))), .inl x1, .inl x2, .inl x3] b Q := by
  unfold mh_cw at K0 K1
  have n1 := e.2.1
  unfold mh_RN at n1
  obtain ⟨⟨p1, p2⟩, ⟨w1, w2⟩, p3, -⟩ := e.2.2.2.2.1
  refine am_M_of (by decide) (Nat.le_of_ble_eq_true rfl) ?_
  refine bX12_wed_0 ?_
  rw [p1, n1.1, w1, am_w_id (by unfold am_rg; omega)]
  refine ⟨fun c => K0 (by omega), fun c => ⟨fun c2 => K0 (by omega), fun c2 => ⟨by omega, by omega, by omega, by omega, ?_⟩⟩⟩
  have q1 := p3 x1.toNat (by omega)
  have q2 := p3 x2.toNat (by omega)
  rw [q1.1.1, q2.1.1, q1.2.2.2.2.2.1.1, q2.2.2.2.2.2.1.1, am_up_s, am_w_id (z := a.1 5 0 19 + 1) (by unfold am_rg; omega), am_w_id (by unfold am_rg; omega), show a.1 5 0 19 + 1 - 1 = a.1 5 0 19 by omega]
  exact ⟨fun c3 => K0 (by omega), fun c3 => ⟨fun c4 => K0 (by omega), fun c4 => ⟨fun c5 => K0 (by omega), fun c5 => ⟨fun c6 => K0 (by omega), fun c6 => ⟨fun c7 => K0 (by omega), fun c7 => ⟨fun c8 => ⟨by omega, by omega, K1 ⟨by omega, by omega, by omega, c3, by omega, by omega, by omega⟩⟩, fun c8 => K0 (by omega)⟩⟩⟩⟩⟩⟩
theorem qX_wed {x1 x2 x3 : Int} : mh_q SC X 3 mX11_wed [.inr (.inr (some (1, 0))), .inl x1, .inl x2, .inl x3] 3 mX12_wed [.inr (.inr (some (9, 0))), .inl x1, .inl x2, .inl x3] := by
  intro a b0 E d kc ks Q h
  have n1 := E.2.1.2
  have p1 := E.2.2.2.2.1.1
  have w1 := E.2.2.2.2.1.2.1
  have no : ¬ mh_cw a x1 x2 x3 → Q (some (.inl (-1))) a := fun c => h (-1) a (fun _ _ => rfl) (fun b e d' kc' ks' Q' k => pX12_wed e (fun _ => k b e (fun _ _ => rfl) rfl) (fun c2 => absurd c2 c))
  have yes : ∀ u v, mh_cw a x1 x2 x3 → ((u = x1 ∧ v = x2) ∨ (u = x2 ∧ v = x1)) → Q (some (.inl (a.1 5 0 19))) (am_up (am_up (am_up (am_up (am_up a.1 44 0 (a.1 5 0 19).toNat u) 45 0 (a.1 5 0 19).toNat v) 46 0 (a.1 5 0 19).toNat x3) 47 0 (a.1 5 0 19).toNat (a.1 1 0 12)) 5 0 19 (a.1 5 0 19 + 1), a.2) := fun u v hc huv =>
    h _ _ (fun t q => by (show am_up _ _ _ _ _ t = _; rw [am_up_t (fun e => q (by rw [e]; decide)), am_up_t (fun e => q (by rw [e]; decide)), am_up_t (fun e => q (by rw [e]; decide)), am_up_t (fun e => q (by rw [e]; decide)), am_up_t (fun e => q (by rw [e]; decide))])) (fun b e d' kc' ks' Q' k => pX12_wed e (fun c2 => absurd hc c2) (fun _ => k _ (mh_E_wed e hc huv) (fun t q => by (show am_up _ _ _ _ _ t = _; rw [am_up_t (fun e => q (by rw [e]; decide)), am_up_t (fun e => q (by rw [e]; decide)), am_up_t (fun e => q (by rw [e]; decide)), am_up_t (fun e => q (by rw [e]; decide)), am_up_t (fun e => q (by rw [e]; decide))])) rfl))
  refine am_M_of (by decide) (Nat.le_of_ble_eq_true rfl) ?_
  refine bX11_wed_0 ⟨fun c => no (fun c2 => by unfold mh_cw at c2; omega), fun c => ⟨fun _ _ _ => by omega, fun _ _ _ => by omega, fun _ _ _ => by omega, fun _ _ _ => by omega, fun c2 => ?_, fun c2 => no (fun c3 => c2 ?_)⟩⟩
  · have hc : mh_cw a x1 x2 x3 := by
      unfold mh_cw
      exact ⟨by omega, by omega, by omega, c2.2.2.2.1, by omega, by omega, by omega⟩
    refine am_M_of (by decide) (Nat.le_of_ble_eq_true rfl) ?_
    refine bX2_marry_0 ⟨by omega, by omega, fun c3 => ?_, fun c3 => ?_⟩
    · refine bX2_marry_21 ⟨by omega, by omega, by omega, by omega, fun _ => ?_, fun c4 => absurd c4 c3⟩
      refine bX2_marry_43 ?_
      simp (disch := decide) only [am_up_t, am_up_s]
      rw [am_w_id (z := a.1 5 0 19 + 1) (by unfold am_rg; omega), am_w_id (by unfold am_rg; omega), show a.1 5 0 19 + 1 - 1 = a.1 5 0 19 by omega]
      refine ⟨by omega, by omega, by omega, by omega, ?_⟩
      exact bX11_wed_37 (yes x2 x1 hc (Or.inr ⟨rfl, rfl⟩))
    · refine bX2_marry_21 ⟨by omega, by omega, by omega, by omega, fun c4 => absurd c3 c4, fun _ => ?_⟩
      refine bX2_marry_43 ?_
      simp (disch := decide) only [am_up_t, am_up_s]
      rw [am_w_id (z := a.1 5 0 19 + 1) (by unfold am_rg; omega), am_w_id (by unfold am_rg; omega), show a.1 5 0 19 + 1 - 1 = a.1 5 0 19 by omega]
      refine ⟨by omega, by omega, by omega, by omega, ?_⟩
      exact bX11_wed_37 (yes x1 x2 hc (Or.inl ⟨rfl, rfl⟩))
  · unfold mh_cw at c3
    exact ⟨by omega, by omega, by omega, c3.2.2.2.1, by omega, by omega⟩
