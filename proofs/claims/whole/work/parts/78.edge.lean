-- edge, deed, last
variable {SC : Nat → Nat} {X : mh_X}
theorem mh_bb {I : Nat → Nat → Nat → Int} {L : Nat → Nat → Nat → Int64} {a e : Nat} {known : Int} (hC : mh_C I L) (hk : known < 2147483647) (ha : (a : Int) < I 5 0 18) (he : e < md_n (mh_P I a known)) : 0 ≤ md_b (mh_P I a known) e ∧ md_b (mh_P I a known) e ≤ 73047 := by
  have h := mh_D_m (I := I) (a := a) (known := known) he
  have dd := mh_dead hC hk ha (by omega) h.2
  show 0 ≤ mh_eb I a known (mh_D I a known e) ∧ mh_eb I a known (mh_D I a known e) ≤ _
  unfold mh_eb
  split <;> omega
theorem qX_edge {x1 x2 : Int} : mh_q SC X 7 mX11_edge [.inr (.inr (some (1, 0))), .inl x1, .inl x2] 12 mX12_edge [.inr (.inr (some (9, 0))), .inl x1, .inl x2] := by
  intro a b0 E d kc ks Q h
  have n1 := E.2.1.2
  have p1 := E.2.2.2.2.1.1
  have hC := mh_E_C E
  have hO := mh_E_Co E
  have no : ¬ ((0 ≤ x1 ∧ x1 < a.1 5 0 18) ∧ (-36524 ≤ x2 ∧ x2 ≤ 73047)) → Q (some (.inl (-1))) a := by
    intro c
    refine h (-1) a (fun _ _ => rfl) ?_
    intro b e d' kc' ks' Q' k
    have K := k b e (fun _ _ => rfl) rfl
    have p2 := e.2.2.2.2.1.1.1
    refine am_M_of (by decide) (Nat.le_of_ble_eq_true rfl) ?_
    refine bX12_edge_0 ?_
    rw [p2, am_w_id (by unfold am_rg; omega)]
    exact ⟨fun _ => K, fun c1 => ⟨fun c2 => absurd ⟨by omega, by omega⟩ c, fun _ => K⟩⟩
  refine am_M_of (by decide) (Nat.le_of_ble_eq_true rfl) ?_
  refine bX11_edge_0 ⟨fun c => no (by omega), fun c => ⟨fun c2 => ?_, fun c2 => no (by omega)⟩⟩
  obtain ⟨u, rfl⟩ := mh_nat (z := x1) (by omega)
  refine pX4_study2 hC (by omega) (by omega) (fun w1 g1 m1 => ?_)
  obtain ⟨t, t0, t1, ml⟩ := m1
  refine bX11_edge_32 ?_
  refine pX4_edgeOn hC hO (by omega) (by omega) (by omega) (mh_sc_wL g1) ⟨t, t0, by omega, ml⟩ (fun w2 k1 k2 => ?_)
  have g2 := mh_sc_n g1 k1 k2
  refine bX11_edge_40 (h _ w2 (mh_sc_tc g2) ?_)
  intro b e d' kc' ks' Q' k
  have p2 := e.2.2.2.2.1.1.1
  have n2 := e.2.1.1
  have n40 : md_n (mh_P a.1 u (a.1 1 0 12)) ≤ (a.1 5 0 18).toNat := mh_dl_n
  refine am_M_of (by decide) (Nat.le_of_ble_eq_true rfl) ?_
  refine bX12_edge_0 ?_
  rw [p2, n2, am_w_id (by unfold am_rg; omega)]
  refine ⟨fun c => absurd ⟨by omega, by omega⟩ c, fun _ => ⟨fun _ => ?_, fun c => absurd ⟨by omega, by omega⟩ c⟩⟩
  refine pX12_depthAt hC hO (by omega) (by omega) (mh_E_JR e) (by omega) (fun w3 j1 j2 => ?_)
  obtain ⟨-, j3, j4⟩ := mh_fm_rn j1
  have K := k w3 (mh_E_st e g2 j1) j3 j4
  have db := mh_dpt_b (a := u) (known := a.1 1 0 12) (day := x2) hC hO (by omega) (by omega)
  unfold mh_edg at K
  have B : ∀ n i : Nat, n + i = md_n (mh_P a.1 u (a.1 1 0 12)) → 0 < mh_dpt a.1 u (a.1 1 0 12) x2 → mh_RS a.1 u (a.1 1 0 12) x2 w3.1 → am_A (mh_G X) SC (d' + 12) mX12_edge Q' 40 [(0, .inr (.inr (some (9, 0)))), (2, .inl x2), (3, .inl (mh_dpt a.1 u (a.1 1 0 12) x2)), (4, .inl (if mh_new (mh_P a.1 u (a.1 1 0 12)) x2 i = 0 then 0 else 1)), (5, .inl (i : Int))] [] w3 kc' ks' := by
    intro n
    induction n with
    | zero =>
      intro i hn hp s
      have nb := mh_new_b (mh_P a.1 u (a.1 1 0 12)) x2 i
      refine bX12_edge_40 ⟨fun _ => ?_, fun c => absurd c (show ¬ ¬ w3.1 9 0 62 ≤ (i : Int) by rw [s.1.1]; omega)⟩
      rw [if_pos hp, show md_n (mh_P a.1 u (a.1 1 0 12)) = i by omega] at K
      rw [am_w_id (z := 2 * mh_dpt a.1 u (a.1 1 0 12) x2) (by unfold am_rg; omega), am_w_id (by unfold am_rg; omega), am_w_id (by unfold am_rg; omega)]
      refine ⟨fun z => ?_, fun z => ?_⟩
      · rw [show 2 * mh_dpt a.1 u (a.1 1 0 12) x2 + 0 = mh_dpt a.1 u (a.1 1 0 12) x2 * 2 + mh_new (mh_P a.1 u (a.1 1 0 12)) x2 i by split at z <;> omega]
        exact K
      · rw [show 2 * mh_dpt a.1 u (a.1 1 0 12) x2 + 2 = mh_dpt a.1 u (a.1 1 0 12) x2 * 2 + mh_new (mh_P a.1 u (a.1 1 0 12)) x2 i by split at z <;> omega]
        exact K
    | succ n ih =>
      intro i hn hp s
      have hi : i < md_n (mh_P a.1 u (a.1 1 0 12)) := by omega
      have bb := mh_bb hC (known := a.1 1 0 12) (by omega) (a := u) (by omega) hi
      have nb := mh_new_b (mh_P a.1 u (a.1 1 0 12)) x2 i
      have e1 : mh_new (mh_P a.1 u (a.1 1 0 12)) x2 (i + 1) = if md_b (mh_P a.1 u (a.1 1 0 12)) i ≤ x2 ∧ x2 < md_b (mh_P a.1 u (a.1 1 0 12)) i + 30 then 2 else mh_new (mh_P a.1 u (a.1 1 0 12)) x2 i := rfl
      have sb := (s.2.1 i hi).1.2.1
      have go : ∀ v : Int, v = (if mh_new (mh_P a.1 u (a.1 1 0 12)) x2 (i + 1) = 0 then 0 else 1) → am_A (mh_G X) SC (d' + 12) mX12_edge Q' 84 [(0, .inr (.inr (some (9, 0)))), (2, .inl x2), (3, .inl (mh_dpt a.1 u (a.1 1 0 12) x2)), (5, .inl (i : Int))] [.inl v] w3 kc' ks' := by
        intro v hv
        refine bX12_edge_84 ?_
        rw [am_w_id (z := (i : Int) + 1) (by unfold am_rg; omega), hv]
        exact ih (i + 1) (by omega) hp s
      refine bX12_edge_40 ⟨fun c => absurd c (show ¬ w3.1 9 0 62 ≤ (i : Int) by rw [s.1.1]; omega), fun _ => ⟨fun c => ?_, fun c => ⟨by omega, by omega, ?_⟩⟩⟩
      · refine bX12_edge_79 (go 1 ?_)
        have c' : ¬ mh_new (mh_P a.1 u (a.1 1 0 12)) x2 i = 0 := fun z => c (by rw [if_pos z])
        have q : ¬ mh_new (mh_P a.1 u (a.1 1 0 12)) x2 (i + 1) = 0 := by rw [e1]; split <;> omega
        rw [if_neg q]
      · have c' : mh_new (mh_P a.1 u (a.1 1 0 12)) x2 i = 0 := by split at c <;> omega
        rw [Int.toNat_natCast, sb, am_w_id (by unfold am_rg; omega)]
        refine ⟨fun c2 => bX12_edge_83 (go 0 ?_), fun c2 => ⟨fun c3 => bX12_edge_83 (go 0 ?_), fun c3 => bX12_edge_79 (go 1 ?_)⟩⟩
        · rw [if_neg (by omega)] at e1; rw [if_pos (by omega)]
        · rw [if_neg (by omega)] at e1; rw [if_pos (by omega)]
        · rw [if_pos (by omega)] at e1; rw [if_neg (by omega)]
  refine bX12_edge_27 ⟨fun c => ?_, fun c => ?_⟩
  · have al : mh_ali a.1 u (a.1 1 0 12) x2 := Classical.byContradiction (fun z => by unfold mh_dpt at c; rw [if_neg z] at c; omega)
    exact B _ 0 rfl c (j2 al)
  · rw [if_neg c] at K
    exact K
theorem qX_deed {x1 x2 : Int} : mh_q SC X 7 mX11_deed [.inr (.inr (some (1, 0))), .inl x1, .inl x2] 12 mX12_deed [.inr (.inr (some (9, 0))), .inl x1, .inl x2] := by
  intro a b0 E d kc ks Q h
  have n1 := E.2.1.2
  have p1 := E.2.2.2.2.1.1
  have d1 := E.2.2.2.2.2.2.1.1
  have hC := mh_E_C E
  have hO := mh_E_Co E
  have no : ¬ ((0 ≤ x1 ∧ x1 < a.1 5 0 18) ∧ (0 ≤ x2 ∧ x2 < 4) ∧ a.1 1 0 11 < 100) → Q (some (.inl (-1))) a := by
    intro c
    refine h (-1) a (fun _ _ => rfl) ?_
    intro b e d' kc' ks' Q' k
    have K := k b e (fun _ _ => rfl) rfl
    have p2 := e.2.2.2.2.1.1.1
    have d2 := e.2.2.2.2.2.2.1.1.1
    refine am_M_of (by decide) (Nat.le_of_ble_eq_true rfl) ?_
    refine bX12_deed_0 ?_
    rw [p2, d2, am_w_id (by unfold am_rg; omega)]
    exact ⟨fun _ => K, fun c1 => ⟨fun _ => K, fun c2 => ⟨fun c3 => K, fun c3 => absurd ⟨by omega, by omega, by omega⟩ c⟩⟩⟩
  refine am_M_of (by decide) (Nat.le_of_ble_eq_true rfl) ?_
  refine bX11_deed_0 ⟨fun c => no (by omega), fun c => ⟨fun c2 => no (by omega), fun c2 => ⟨fun c3 => ?_, fun c3 => no (by omega)⟩⟩⟩
  obtain ⟨u, rfl⟩ := mh_nat (z := x1) (by omega)
  refine pX4_study2 hC (by omega) (by omega) (fun w1 g1 m1 => ?_)
  refine bX11_deed_41 ?_
  obtain ⟨t, t0, t1, ml⟩ := m1
  rw [show w1.1 1 0 12 = a.1 1 0 12 from by rw [g1.1 1 (by decide)]]
  refine pX4_depthOn hC hO (by omega) (by omega) (by omega) (mh_sc_wL g1) ⟨t, t0, by omega, ml⟩ (fun w2 k1 k2 k3 => ?_)
  have g2 := mh_sc_n g1 k1 k2
  have R : ∀ (v : Int) (a' : am_W), (∀ t, t ∉ mh_tc → a'.1 t = a.1 t) →
      (∀ b, mh_E a b → ∀ w3, mh_E w2 w3 → (∀ t, t ∉ mh_tr → w3.1 t = b.1 t) → w3.2.1 = b.2.1 → ∀ (d' kc' ks' : Nat) (Q' : Option am_V → am_W → Prop), (∀ b', mh_E a' b' → (∀ t, t ∉ mh_tr → b'.1 t = b.1 t) → b'.2.1 = b.2.1 → Q' (some (.inl v)) b') →
        am_A (mh_G X) SC (d' + 12) mX12_deed Q' 37 [(0, .inr (.inr (some (9, 0)))), (1, .inl (u : Int)), (2, .inl x2)] [.inl (mh_dpt a.1 u (a.1 1 0 12) (a.1 1 0 12))] w3 kc' ks') → Q (some (.inl v)) a' := by
    intro v a' f r
    refine h v a' f ?_
    intro b e d' kc' ks' Q' k
    have p2 := e.2.2.2.2.1.1.1
    have d2 := e.2.2.2.2.2.2.1.1.1
    have n2 := e.2.1.1
    refine am_M_of (by decide) (Nat.le_of_ble_eq_true rfl) ?_
    refine bX12_deed_0 ?_
    rw [p2, d2, n2, am_w_id (by unfold am_rg; omega)]
    refine ⟨fun c => absurd ⟨by omega, by omega⟩ c, fun _ => ⟨fun c => absurd ⟨by omega, by omega⟩ c, fun _ => ⟨fun c => absurd c (by omega), fun _ => ?_⟩⟩⟩
    refine pX12_depthAt hC hO (by omega) (by omega) (mh_E_JR e) (by omega) (fun w3 j1 j2 => ?_)
    obtain ⟨-, j3, j4⟩ := mh_fm_rn j1
    exact r b e w3 (mh_E_st e g2 j1) j3 j4 d' kc' ks' Q' k
  have e11 : w2.1 1 0 11 = a.1 1 0 11 := by rw [g2.1 1 (by decide)]
  have e12 : w2.1 1 0 12 = a.1 1 0 12 := by rw [g2.1 1 (by decide)]
  have e5 : w2.1 5 0 18 = a.1 5 0 18 := by rw [g2.1 5 (by decide)]
  refine bX11_deed_52 ⟨fun c4 => ⟨by omega, by omega, ?_⟩, fun c4 => ?_⟩
  · have d1' := d1
    rw [← e11] at d1'
    rw [am_up_s, am_w_id (z := w2.1 1 0 11 + 1) (by unfold am_rg; omega), am_w_id (by unfold am_rg; omega)]
    refine R _ _ (fun t q => ((by (show am_up _ _ _ _ _ t = _; rw [am_up_t (fun e => q (by rw [e]; decide)), am_up_t (fun e => q (by rw [e]; decide)), am_up_t (fun e => q (by rw [e]; decide)), am_up_t (fun e => q (by rw [e]; decide))])) : _ = w2.1 t).trans (mh_sc_tc g2 t q)) ?_
    intro b e w3 e3 j3 j4 d' kc' ks' Q' k
    have n3 := e3.2.1
    have r3 := e3.2.2.2.2.2.2.1
    have r31 := r3.1.1
    refine bX12_deed_37 ⟨fun _ => ⟨by omega, by omega, ?_⟩, fun c => absurd c c4⟩
    rw [am_up_s, am_w_id (z := w3.1 9 0 70 + 1) (by unfold am_rg; omega), am_w_id (by unfold am_rg; omega), r31]
    refine k _ (mh_E_D e3 (fun t q => by (show am_up _ _ _ _ _ t = _; rw [am_up_t (fun e => q (by rw [e]; decide)), am_up_t (fun e => q (by rw [e]; decide)), am_up_t (fun e => q (by rw [e]; decide)), am_up_t (fun e => q (by rw [e]; decide))])) (fun k hk => by repeat (first | (rw [am_up_n hk (by decide)]) | (simp (disch := decide) only [am_up_t]))) rfl (mh_fm_f (mh_fm_v (mh_fm_v (mh_fm_v mh_fm_i (by decide) (by decide)) (by decide) (by decide)) (by decide) (by decide)) (by decide)) ?_) (fun t q => ((by (show am_up _ _ _ _ _ t = _; rw [am_up_t (fun e => q (by rw [e]; decide)), am_up_t (fun e => q (by rw [e]; decide)), am_up_t (fun e => q (by rw [e]; decide)), am_up_t (fun e => q (by rw [e]; decide))])) : _ = w3.1 t).trans (j3 t q)) j4
    obtain ⟨m, hm⟩ := mh_nat (z := w2.1 1 0 11) (by omega)
    unfold mh_RD
    simp (disch := decide) only [am_up_t, am_up_k, am_up_s]
    refine ⟨⟨trivial, by omega⟩, fun j hj => ?_⟩
    have rj := r3.2 j
    rw [hm] at rj hj ⊢
    rw [Int.toNat_natCast]
    simp (disch := decide) only [am_up_t, am_up_a]
    by_cases z : j = m
    · rw [if_pos z, if_pos z, if_pos z, if_pos z, if_pos z, if_pos z]
      have n31 := n3.1
      have n32 := n3.2
      exact ⟨⟨rfl, by omega, by omega⟩, ⟨rfl, by omega, by omega⟩, n31, n32.1, Int.le_refl _⟩
    · rw [if_neg z, if_neg z, if_neg z, if_neg z, if_neg z, if_neg z]
      exact rj (by omega)
  · refine R _ w2 (mh_sc_tc g2) ?_
    intro b e w3 e3 j3 j4 d' kc' ks' Q' k
    exact bX12_deed_37 ⟨fun c => absurd c4 c, fun _ => k w3 e3 j3 j4⟩
theorem mh_D_inj {I : Nat → Nat → Nat → Int} {a : Nat} {known : Int} {e e' : Nat} (h : e < md_n (mh_P I a known)) (h' : e' < md_n (mh_P I a known)) (c : mh_D I a known e = mh_D I a known e') : e = e' := by
  have nd : (mh_dl I a known (I 5 0 18).toNat).Nodup := List.Nodup.sublist List.filter_sublist List.nodup_range
  have h1 : e < (mh_dl I a known (I 5 0 18).toNat).length := h
  have h2 : e' < (mh_dl I a known (I 5 0 18).toNat).length := h'
  unfold mh_D at c
  rw [List.getD_eq_getElem?_getD, List.getElem?_eq_getElem h1, Option.getD_some, List.getD_eq_getElem?_getD, List.getElem?_eq_getElem h2, Option.getD_some] at c
  have pw := List.pairwise_iff_getElem.mp nd
  rcases Nat.lt_trichotomy e e' with q | q | q
  · exact absurd c (pw e e' h1 h2 q)
  · exact q
  · exact absurd c.symm (pw e' e h2 h1 q)
theorem qX_last {x1 x2 : Int} : mh_q SC X 7 mX11_last [.inr (.inr (some (1, 0))), .inl x1, .inl x2] 11 mX12_last [.inr (.inr (some (9, 0))), .inl x1, .inl x2] := by
  intro a b0 E d kc ks Q h
  have n1 := E.2.1.2
  have p1 := E.2.2.2.2.1.1
  have hC := mh_E_C E
  have hO := mh_E_Co E
  have no : ¬ ((0 ≤ x1 ∧ x1 < a.1 5 0 18) ∧ (0 ≤ x2 ∧ x2 < a.1 5 0 18)) → Q (some (.inl (-2147483648))) a := by
    intro c
    refine h _ a (fun _ _ => rfl) ?_
    intro b e d' kc' ks' Q' k
    have K := k b e (fun _ _ => rfl) rfl
    have p2 := e.2.2.2.2.1.1.1
    refine am_M_of (by decide) (Nat.le_of_ble_eq_true rfl) ?_
    refine bX12_last_0 ?_
    rw [p2, am_w_id (by unfold am_rg; omega)]
    exact ⟨fun _ => K, fun c1 => ⟨fun _ => K, fun c2 => absurd ⟨by omega, by omega⟩ c⟩⟩
  refine am_M_of (by decide) (Nat.le_of_ble_eq_true rfl) ?_
  refine bX11_last_0 ⟨fun c => no (by omega), fun c => ⟨fun c2 => ?_, fun c2 => no (by omega)⟩⟩
  obtain ⟨u, rfl⟩ := mh_nat (z := x1) (by omega)
  obtain ⟨v, rfl⟩ := mh_nat (z := x2) (by omega)
  refine pX4_study2 hC (by omega) (by omega) (fun w1 g1 m1 => ?_)
  refine bX11_last_37 ?_
  obtain ⟨t, t0, t1, ml⟩ := m1
  have ok := (mh_P_ok hC (known := a.1 1 0 12) (by omega) (a := u) (by omega)).1
  refine pX4_lastDayFor hC (by omega) (by omega) (by omega) ⟨t, t0, by omega, ml⟩ (fun w2 k1 k2 k3 => ?_) (fun y w2 i k1 k2 hi di lav => ?_)
  · have g2 := mh_sc_n g1 k1 k2
    refine bX11_last_45 (h _ w2 (mh_sc_tc g2) ?_)
    intro b e d' kc' ks' Q' k
    have p2 := e.2.2.2.2.1.1.1
    have n2 := e.2.1.1
    refine am_M_of (by decide) (Nat.le_of_ble_eq_true rfl) ?_
    refine bX12_last_0 ?_
    rw [p2, n2, am_w_id (by unfold am_rg; omega)]
    refine ⟨fun c => absurd ⟨by omega, by omega⟩ c, fun _ => ⟨fun c => absurd ⟨by omega, by omega⟩ c, fun _ => ?_⟩⟩
    have JR := mh_E_JR e
    refine pX12_ruleFor JR.1 JR.2.1 (by omega) (by omega) (by omega) (fun w3 j1 => ?_)
    obtain ⟨-, j3, j4⟩ := mh_fm_rn (mh_fm_kf j1)
    refine bX12_last_26 ⟨fun c => absurd k3 c, fun _ => k w3 (mh_E_st e g2 (mh_fm_kf j1)) j3 j4⟩
  · have g2 := mh_sc_n g1 k1 k2
    refine bX11_last_45 (h _ w2 (mh_sc_tc g2) ?_)
    intro b e d' kc' ks' Q' k
    have p2 := e.2.2.2.2.1.1.1
    have n2 := e.2.1.1
    have n40 : md_n (mh_P a.1 u (a.1 1 0 12)) ≤ (a.1 5 0 18).toNat := mh_dl_n
    refine am_M_of (by decide) (Nat.le_of_ble_eq_true rfl) ?_
    refine bX12_last_0 ?_
    rw [p2, n2, am_w_id (by unfold am_rg; omega)]
    refine ⟨fun c => absurd ⟨by omega, by omega⟩ c, fun _ => ⟨fun c => absurd ⟨by omega, by omega⟩ c, fun _ => ?_⟩⟩
    have JR := mh_E_JR e
    refine pX12_ruleFor JR.1 JR.2.1 (by omega) (by omega) (by omega) (fun w3 j1 => ?_)
    have r0 : ¬ mh_rule a.1 u v (a.1 1 0 12) = -1 := by
      have := (mh_D_m (I := a.1) (a := u) (known := a.1 1 0 12) hi).2
      rw [di] at this
      exact this
    refine bX12_last_26 ⟨fun _ => ?_, fun c => absurd c r0⟩
    rw [show w3.1 9 0 33 = a.1 1 0 12 from by rw [← n2]; exact j1.2.1 33 (by simp)]
    refine pX12_prepares hC (by omega) (by omega) (mh_JR_s JR (mh_fm_kf j1)) (fun w4 h4 s4 => ?_)
    have f4 := mh_fm_t (mh_fm_kf j1) h4
    have bb := mh_bb hC (known := a.1 1 0 12) (by omega) (a := u) (by omega) hi
    have D : ∀ (n : Nat) (c : Int) (w5 : am_W), c + n = 73049 → md_b (mh_P a.1 u (a.1 1 0 12)) i ≤ c → mh_fm mh_tn mh_fn b w5 → (∃ s, s ≤ c ∧ mh_RS a.1 u (a.1 1 0 12) s w5.1) → (∀ s, s < c → md_b (mh_P a.1 u (a.1 1 0 12)) i ≤ s → ¬ md_S (mh_P a.1 u (a.1 1 0 12)) s i = -1) →
        am_A (mh_G X) SC (d' + 11) mX12_last Q' 74 [(0, .inr (.inr (some (9, 0)))), (3, .inl (i : Int)), (4, .inl (if c = md_b (mh_P a.1 u (a.1 1 0 12)) i then -2147483648 else c - 1)), (5, .inl c)] [] w5 kc' ks' := by
      intro n
      induction n with
      | zero =>
        intro c w5 hn hb f5 s5 ns
        obtain ⟨-, j3, j4⟩ := mh_fm_rn f5
        have K := k w5 (mh_E_st e g2 f5) j3 j4
        refine bX12_last_74 ⟨fun _ => ?_, fun c => absurd (by omega) c⟩
        have y' : y = c - 1 := by
          rcases lav with ⟨l1, l2⟩ | ⟨la, l1, l2, l3, l4, l5⟩
          · omega
          · exact absurd l1 (ns (la + 1) (by omega) l2)
        rw [if_neg (by omega), ← y']
        exact K
      | succ n ih =>
        intro c w5 hn hb f5 s5 ns
        obtain ⟨s, sc, s5⟩ := s5
        refine bX12_last_74 ⟨fun c => absurd c (by omega), fun _ => ?_⟩
        refine pX12_goesTo hC (by omega) (by omega) (mh_JR_s JR f5) sc (by omega) s5 (fun w6 f6 s6 => ?_)
        have f7 := mh_fm_t f5 f6
        obtain ⟨-, j3, j4⟩ := mh_fm_rn f7
        have K := k w6 (mh_E_st e g2 f7) j3 j4
        refine bX12_last_88 ?_
        obtain ⟨s8, s9⟩ := s6.2.1 i hi
        refine pX12_depthOf hC (by omega) (by omega) (mh_JR_s JR f7) hi s8 s9 ?_
        have mi := md_in_S ok c i hi
        have dd : md_d (mh_P a.1 u (a.1 1 0 12)) c (md_S (mh_P a.1 u (a.1 1 0 12)) c) i = 0 ↔ md_S (mh_P a.1 u (a.1 1 0 12)) c i = -1 := by
          unfold md_d
          by_cases z : md_S (mh_P a.1 u (a.1 1 0 12)) c i = -1
          · rw [if_pos (Or.inl z)]; exact ⟨fun _ => z, fun _ => rfl⟩
          · rw [if_neg (by omega)]
            have := md_dpb ok hi (f := md_S (mh_P a.1 u (a.1 1 0 12)) c i) (by omega)
            exact ⟨fun q => by omega, fun q => absurd q z⟩
        refine bX12_last_95 ⟨fun c1 => ?_, fun c1 => ?_⟩
        · rw [am_w_id (z := c + 1) (by unfold am_rg; omega)]
          have z : ¬ md_S (mh_P a.1 u (a.1 1 0 12)) c i = -1 := fun q => c1 (dd.mpr q)
          have I1 := ih (c + 1) w6 (by omega) (by omega) f7 ⟨c, by omega, s6⟩ (fun s hs hb => by
            by_cases q : s = c
            · rw [q]; exact z
            · exact ns s (by omega) hb)
          rw [if_neg (by omega), show c + 1 - 1 = c by omega] at I1
          exact I1
        · have z := dd.mp c1
          have y' : y = (if c = md_b (mh_P a.1 u (a.1 1 0 12)) i then -2147483648 else c - 1) := by
            rcases lav with ⟨l1, l2⟩ | ⟨la, l1, l2, l3, l4, l5⟩
            · exact absurd z (md_S_le ok hi l1 (by omega))
            · have q1 : ¬ la + 1 < c := fun q => ns (la + 1) q l2 l1
              have q2 : ¬ c ≤ la := fun q => l3 c q z
              rw [l5]
              split <;> split <;> omega
          rw [← y']
          exact K
    have B : ∀ n j : Nat, n + j = i → am_A (mh_G X) SC (d' + 11) mX12_last Q' 45 [(0, .inr (.inr (some (9, 0)))), (2, .inl (v : Int)), (3, .inl (j : Int))] [] w4 kc' ks' := by
      intro n
      induction n with
      | zero =>
        intro j hj
        obtain rfl : j = i := by omega
        have fw := (s4.2.1 j hi).1
        refine bX12_last_45 ⟨by omega, by omega, ?_⟩
        rw [Int.toNat_natCast, fw.1, fw.2.1]
        refine ⟨fun _ => ?_, fun c => absurd (by rw [di]) c⟩
        have D0 := D (73049 - md_b (mh_P a.1 u (a.1 1 0 12)) j).toNat (md_b (mh_P a.1 u (a.1 1 0 12)) j) w4 (by omega) (Int.le_refl _) f4 ⟨_, by omega, s4⟩ (fun s h1 h2 => absurd h1 (by omega))
        rw [if_pos rfl] at D0
        exact D0
      | succ n ih =>
        intro j hj
        have fw := (s4.2.1 j (by omega)).1
        refine bX12_last_45 ⟨by omega, by omega, ?_⟩
        rw [Int.toNat_natCast, fw.1]
        refine ⟨fun c => ?_, fun _ => ?_⟩
        · have := mh_D_inj (I := a.1) (a := u) (known := a.1 1 0 12) (e := j) (e' := i) (by omega) hi (by omega)
          omega
        · rw [am_w_id (z := (j : Int) + 1) (by unfold am_rg; omega)]
          exact ih (j + 1) (by omega)
    exact bX12_last_43 (B i 0 rfl)
