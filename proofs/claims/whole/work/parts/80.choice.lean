-- stands, first, best
variable {SC : Nat → Nat} {X : mh_X}
theorem mh_sc_fu {a a' : am_W} (h : mh_sc a a') : ∀ t, t ∈ mh_fu → a'.1 t = a.1 t := fun t ht => h.1 t (by
  have : ∀ t, t ∈ mh_fu → t ∉ [6, 11, 154, 155] := by decide
  exact this t ht)
theorem mh_01 {p : Prop} {v v' : Int} (v1 : v = 0 ∨ v = 1) (v2 : v = 1 ↔ p) (v1' : v' = 0 ∨ v' = 1) (v2' : v' = 1 ↔ p) : v = v' := by
  rcases v1 with z | z <;> rcases v1' with z' | z'
  · omega
  · have := v2.mpr (v2'.mp z'); omega
  · have := v2'.mpr (v2.mp z); omega
  · omega
theorem qX_stands {x1 x2 : Int} : mh_q SC X 8 mX11_stands [.inr (.inr (some (1, 0))), .inl x1, .inl x2] 13 mX12_stands [.inr (.inr (some (9, 0))), .inl x1, .inl x2] := by
  intro a b0 E d kc ks Q h
  have n1 := E.2.1.2
  have p1 := E.2.2.2.2.1.1
  have d1 := E.2.2.2.2.2.2.1
  have d0 := d1.1
  have hC := mh_E_C E
  have hO := mh_E_Co E
  have no : ¬ ((0 ≤ x1 ∧ x1 < a.1 1 0 11) ∧ (0 ≤ x2 ∧ x2 ≤ 3)) → Q (some (.inl (-1))) a := by
    intro c
    refine h (-1) a (fun _ _ => rfl) ?_
    intro b e d' kc' ks' Q' k
    have K := k b e (fun _ _ => rfl) rfl
    have d2 := e.2.2.2.2.2.2.1.1.1
    refine am_M_of (by decide) (Nat.le_of_ble_eq_true rfl) ?_
    refine bX12_stands_0 ?_
    rw [d2, am_w_id (by unfold am_rg; omega)]
    exact ⟨fun c1 => ⟨fun _ => K, fun z => absurd ⟨by omega, by omega⟩ c, fun z => absurd ⟨by omega, by omega⟩ c, fun z => absurd ⟨by omega, by omega⟩ c, fun z => absurd ⟨by omega, by omega⟩ c⟩, fun _ => K⟩
  have rd : (0 ≤ x1 ∧ x1 < a.1 1 0 11) → (0 ≤ x2 ∧ x2 < 3) → Q (some (.inl (if x2 = 0 then a.1 20 0 x1.toNat else if x2 = 1 then a.1 21 0 x1.toNat else a.1 22 0 x1.toNat))) a := by
    intro c1 c2
    refine h _ a (fun _ _ => rfl) ?_
    intro b e d' kc' ks' Q' k
    have K := k b e (fun _ _ => rfl) rfl
    have d2 := e.2.2.2.2.2.2.1.1.1
    have d3 := e.2.2.2.2.2.2.1.2 x1.toNat (by omega)
    have d31 := d3.1.1
    have d32 := d3.2.1.1
    have d33 := d3.2.2.1
    refine am_M_of (by decide) (Nat.le_of_ble_eq_true rfl) ?_
    refine bX12_stands_0 ?_
    rw [d2, am_w_id (by unfold am_rg; omega), d31, d32, d33]
    refine ⟨fun _ => ⟨fun z => absurd z (by omega), fun z => ⟨by omega, by omega, ?_⟩, fun z => ⟨by omega, by omega, ?_⟩, fun z => ⟨by omega, by omega, ?_⟩, fun z => absurd z (by omega)⟩, fun z => absurd ⟨by omega, by omega⟩ z⟩
    · rw [if_pos z] at K; exact K
    · rw [if_neg (by omega), if_pos z] at K; exact K
    · rw [if_neg (by omega), if_neg (by omega)] at K; exact K
  refine am_M_of (by decide) (Nat.le_of_ble_eq_true rfl) ?_
  refine bX11_stands_0 ⟨fun c => no (by omega), fun c => ⟨fun c2 => ⟨fun z => no (by omega), fun z => ⟨by omega, by omega, ?_⟩, fun z => ⟨by omega, by omega, ?_⟩, fun z => ⟨by omega, by omega, ?_⟩, fun z => ?_⟩, fun c2 => no (by omega)⟩⟩
  · have := rd (by omega) (by omega); rw [if_pos z] at this; exact this
  · have := rd (by omega) (by omega); rw [if_neg (by omega), if_pos z] at this; exact this
  · have := rd (by omega) (by omega); rw [if_neg (by omega), if_neg (by omega)] at this; exact this
  obtain ⟨m, rfl⟩ := mh_nat (z := x1) (by omega)
  obtain ⟨⟨-, dw0, dw1⟩, ⟨-, da0, da1⟩, -, dd0, dd1⟩ := d1.2 m c2
  obtain ⟨u, hu⟩ := mh_nat dw0
  obtain ⟨act, hact⟩ := mh_nat da0
  refine am_M_of (by decide) (Nat.le_of_ble_eq_true rfl) ?_
  refine bX11_standing_0 ⟨by omega, by omega, ?_⟩
  rw [Int.toNat_natCast, hu]
  rw [hu] at dw1
  rw [hact] at da1
  refine pX4_study2 hC (by omega) dw1 (fun w1 g1 m1 => ?_)
  obtain ⟨t, t0, t1, ml⟩ := m1
  refine bX11_standing_21 ⟨by omega, by omega, ?_⟩
  rw [Int.toNat_natCast, show w1.1 21 0 m = (act : Int) by rw [g1.1 21 (by decide)]; exact hact]
  refine pX4_isAllowed hC hO (by omega) dw1 (by omega) (by omega) (mh_sc_wL g1) ⟨t, t0, by omega, ml⟩ (fun v w2 k1 k2 k3 v1 v2 => ?_)
  have g2 := mh_sc_n g1 k1 k2
  have E2 := mh_E_st E g2 (mh_fm_r : mh_fm mh_tn mh_fn b0 b0)
  have hC2 := mh_E_C E2
  have hO2 := mh_E_Co E2
  refine bX11_standing_35 ⟨by omega, by omega, ?_⟩
  rw [Int.toNat_natCast, show w2.1 20 0 m = (u : Int) by rw [g2.1 20 (by decide)]; exact hu, show w2.1 1 0 12 = a.1 1 0 12 by rw [g2.1 1 (by decide)]]
  have dw2 : (u : Int) < w2.1 5 0 18 := by rw [g2.1 5 (by decide)]; exact dw1
  refine pX4_study2 hC2 (by omega) dw2 (fun w3 g3 m3 => ?_)
  obtain ⟨t', t0', t1', ml'⟩ := m3
  have e22 : w2.1 22 0 m = a.1 22 0 m := by rw [g2.1 22 (by decide)]
  refine bX11_standing_53 ⟨by omega, by omega, ?_⟩
  rw [Int.toNat_natCast, show w3.1 21 0 m = (act : Int) by rw [g3.1 21 (by decide), g2.1 21 (by decide)]; exact hact]
  refine pX4_isAllowed hC2 hO2 (by omega) dw2 (by omega) (by omega) (mh_sc_wL g3) ⟨t', t0', by omega, ml'⟩ (fun v' w4 k1' k2' k3' v1' v2' => ?_)
  have g4 := mh_sc_n g3 k1' k2'
  have fin : ∀ y : Int, y = (if v = v' then (if v = 0 then 1 else 0) else (if v = 0 then 3 else 2)) → Q (some (.inl y)) w4 := by
    intro y hy
    refine h y w4 (fun t q => (mh_sc_tc g4 t q).trans (mh_sc_tc g2 t q)) ?_
    intro b e d' kc' ks' Q' k
    have d2 := e.2.2.2.2.2.2.1.1.1
    have n2 := e.2.1.1
    obtain ⟨⟨q1, -⟩, ⟨q2, -⟩, q3, -⟩ := e.2.2.2.2.2.2.1.2 m c2
    refine am_M_of (by decide) (Nat.le_of_ble_eq_true rfl) ?_
    refine bX12_stands_0 ?_
    rw [d2, am_w_id (by unfold am_rg; omega)]
    refine ⟨fun _ => ⟨fun z => absurd z (by omega), fun z => absurd z (by omega), fun z => absurd z (by omega), fun z => absurd z (by omega), fun _ => ⟨by omega, by omega, ?_⟩⟩, fun z => absurd ⟨by omega, by omega⟩ z⟩
    rw [Int.toNat_natCast, q1, q2, q3, hu, hact]
    refine pX12_mayAt hC hO (by omega) dw1 (mh_E_JR e) (by omega) (by omega) (fun y1 b1 j1 y1' y1'' => ?_)
    have e1 := mh_E_st e g2 j1
    obtain ⟨-, j3, j4⟩ := mh_fm_rn j1
    obtain ⟨⟨r1, -⟩, ⟨r2, -⟩, r3, -⟩ := e1.2.2.2.2.2.2.1.2 m (by rw [g2.1 1 (by decide)]; exact c2)
    refine bX12_stands_97 ⟨by omega, by omega, ?_⟩
    rw [Int.toNat_natCast, r1, r2, r3, show w2.1 20 0 m = (u : Int) by rw [g2.1 20 (by decide)]; exact hu, show w2.1 21 0 m = (act : Int) by rw [g2.1 21 (by decide)]; exact hact, e22,
      show b1.1 9 0 33 = a.1 1 0 12 by rw [e1.2.1.1, g2.1 1 (by decide)]]
    refine pX12_mayAt hC2 hO2 (by omega) dw2 (mh_E_JR e1) (by omega) (by omega) (fun y2 b2 j2 y2' y2'' => ?_)
    have e2 := mh_E_st e1 g4 j2
    obtain ⟨-, j5, j6⟩ := mh_fm_rn j2
    have K := k b2 e2 (fun t q => (j5 t q).trans (j3 t q)) (j6.trans j4)
    obtain rfl := mh_01 v1 v2 y1' y1''
    obtain rfl := mh_01 v1' v2' y2' y2''
    refine bX12_stands_124 ⟨fun z => ⟨fun z2 => ?_, fun z2 => ?_⟩, fun z => ⟨fun z2 => ?_, fun z2 => ?_⟩⟩
    · rw [if_pos (by omega), if_pos z] at hy; rw [← hy]; exact K
    · rw [if_neg (by omega), if_pos z] at hy; rw [← hy]; exact K
    · rw [if_neg (by omega), if_neg z] at hy; rw [← hy]; exact K
    · rw [if_pos (by omega), if_neg z] at hy; rw [← hy]; exact K
  refine bX11_standing_67 ⟨fun z => ⟨fun z2 => bX11_stands_70 (fin _ ?_), fun z2 => bX11_stands_70 (fin _ ?_)⟩, fun z => ⟨fun z2 => bX11_stands_70 (fin _ ?_), fun z2 => bX11_stands_70 (fin _ ?_)⟩⟩
  · rw [if_neg z, if_pos z2]
  · rw [if_neg z, if_neg z2]
  · rw [if_pos z, if_pos z2]
  · rw [if_pos z, if_neg z2]
/-- the first day on which it may be -/
noncomputable def mh_fst (A : Int → Prop) (x : Int) : Nat → Int
  | 0 => -2147483648
  | n + 1 => @ite Int (A x) (Classical.propDecidable _) x (mh_fst A (x + 1) n)
theorem mh_fst1 {A : Int → Prop} {x : Int} {n : Nat} : mh_fst A x (n + 1) = @ite Int (A x) (Classical.propDecidable _) x (mh_fst A (x + 1) n) := rfl
theorem qX_first {x1 x2 x3 : Int} : mh_q SC X 7 mX11_first [.inr (.inr (some (1, 0))), .inl x1, .inl x2, .inl x3] 11 mX12_first [.inr (.inr (some (9, 0))), .inl x1, .inl x2, .inl x3] := by
  intro a b0 E d kc ks Q h
  have n1 := E.2.1.2
  have p1 := E.2.2.2.2.1.1
  have hC := mh_E_C E
  have hO := mh_E_Co E
  have no : ¬ ((0 ≤ x1 ∧ x1 < a.1 5 0 18) ∧ (0 ≤ x2 ∧ x2 < 4) ∧ (-36524 ≤ x3 ∧ x3 ≤ 73047)) → Q (some (.inl (-2147483648))) a := by
    intro c
    refine h _ a (fun _ _ => rfl) ?_
    intro b e d' kc' ks' Q' k
    have K := k b e (fun _ _ => rfl) rfl
    have p2 := e.2.2.2.2.1.1.1
    refine am_M_of (by decide) (Nat.le_of_ble_eq_true rfl) ?_
    refine bX12_first_0 ?_
    rw [p2, am_w_id (by unfold am_rg; omega)]
    exact ⟨fun _ => K, fun c1 => ⟨fun _ => K, fun c2 => ⟨fun c3 => absurd ⟨by omega, by omega, by omega⟩ c, fun _ => K⟩⟩⟩
  refine am_M_of (by decide) (Nat.le_of_ble_eq_true rfl) ?_
  refine bX11_first_0 ⟨fun c => no (by omega), fun c => ⟨fun c2 => no (by omega), fun c2 => ⟨fun c3 => ?_, fun c3 => no (by omega)⟩⟩⟩
  obtain ⟨u, rfl⟩ := mh_nat (z := x1) (by omega)
  obtain ⟨act, rfl⟩ := mh_nat (z := x2) (by omega)
  refine pX4_study2 hC (by omega) (by omega) (fun w1 g1 m1 => ?_)
  obtain ⟨t, t0, t1, ml⟩ := m1
  refine bX11_first_40 ?_
  rw [am_w_id (z := x3 + 3000) (by unfold am_rg; omega)]
  have fin : ∀ w2, mh_sc a w2 → Q (some (.inl (mh_fst (mh_alw a.1 u (a.1 1 0 12) act) x3 (min (x3 + 3000) 73047 - x3 + 1).toNat))) w2 := by
    intro w2 g2
    refine h _ w2 (mh_sc_tc g2) ?_
    intro b e d' kc' ks' Q' k
    have p2 := e.2.2.2.2.1.1.1
    have n2 := e.2.1.1
    have JR := mh_E_JR e
    refine am_M_of (by decide) (Nat.le_of_ble_eq_true rfl) ?_
    refine bX12_first_0 ?_
    rw [p2, n2, am_w_id (by unfold am_rg; omega)]
    refine ⟨fun c => absurd ⟨by omega, by omega⟩ c, fun _ => ⟨fun c => absurd ⟨by omega, by omega⟩ c, fun _ => ⟨fun _ => ?_, fun c => absurd ⟨by omega, by omega⟩ c⟩⟩⟩
    refine pX12_prepares hC (by omega) (by omega) JR (fun w4 f4 s4 => ?_)
    have B : ∀ (n : Nat) (x : Int) (w5 : am_W), 0 ≤ x → x ≤ 3001 → x3 + x ≤ 73048 → (n : Int) = min 3001 (73048 - x3) - x → mh_fm mh_tn mh_fn b w5 → (∃ s, s ≤ x3 + x ∧ mh_RS a.1 u (a.1 1 0 12) s w5.1) →
        mh_fst (mh_alw a.1 u (a.1 1 0 12) act) x3 (min (x3 + 3000) 73047 - x3 + 1).toNat = mh_fst (mh_alw a.1 u (a.1 1 0 12) act) (x3 + x) n →
        am_A (mh_G X) SC (d' + 11) mX12_first Q' 38 [(0, .inr (.inr (some (9, 0)))), (1, .inl (u : Int)), (2, .inl (act : Int)), (3, .inl x3), (4, .inl x)] [] w5 kc' ks' := by
      intro n
      induction n with
      | zero =>
        intro x w5 h1 h2 h3 h4 f5 s5 eq
        obtain ⟨-, j3, j4⟩ := mh_fm_rn f5
        have K := k w5 (mh_E_st e g2 f5) j3 j4
        rw [eq] at K
        refine bX12_first_38 ⟨fun _ => K, fun c => ⟨fun _ => K, fun c => absurd c ?_⟩⟩
        rw [am_w_id (by unfold am_rg; omega)]; omega
      | succ n ih =>
        intro x w5 h1 h2 h3 h4 f5 s5 eq
        obtain ⟨s, sc, s5⟩ := s5
        refine bX12_first_38 ⟨fun c => absurd c (by omega), fun _ => ?_⟩
        rw [am_w_id (z := x3 + x) (by unfold am_rg; omega)]
        refine ⟨fun c => absurd c (by omega), fun _ => ?_⟩
        rw [show w5.1 9 0 33 = a.1 1 0 12 by rw [f5.2.1 33 (by decide)]; exact n2]
        rw [mh_fst1] at eq
        have nx : ∀ w6, mh_fm mh_tn mh_fn b w6 → (∃ s, s ≤ x3 + x ∧ mh_RS a.1 u (a.1 1 0 12) s w6.1) → ¬ mh_alw a.1 u (a.1 1 0 12) act (x3 + x) → am_A (mh_G X) SC (d' + 11) mX12_first Q' 98 [(0, .inr (.inr (some (9, 0)))), (1, .inl (u : Int)), (2, .inl (act : Int)), (3, .inl x3), (4, .inl x)] [] w6 kc' ks' := by
          intro w6 f6 s6 na
          refine bX12_first_98 ?_
          rw [am_w_id (z := x + 1) (by unfold am_rg; omega)]
          rw [if_neg na, show x3 + x + 1 = x3 + (x + 1) by omega] at eq
          obtain ⟨s', sc', s6⟩ := s6
          exact ih (x + 1) w6 (by omega) (by omega) (by omega) (by omega) f6 ⟨s', by omega, s6⟩ eq
        refine pX12_isAlive hC (by omega) (mh_JR_s JR f5) (by omega) (fun al => ?_) (fun al => ?_)
        · refine bX12_first_73 ⟨fun _ => ?_, fun c => absurd c (by decide)⟩
          refine pX12_goesTo hC (by omega) (by omega) (mh_JR_s JR f5) sc (by omega) s5 (fun w6 f6 s6 => ?_)
          have f7 := mh_fm_t f5 f6
          obtain ⟨-, j3, j4⟩ := mh_fm_rn f7
          have K := k w6 (mh_E_st e g2 f7) j3 j4
          refine bX12_first_85 ?_
          refine pX12_mayBe hC hO (by omega) (by omega) (mh_JR_s JR f7) (by omega) (by omega) s6 (fun y => ?_) (fun y => ?_)
          · rw [if_pos ⟨al, y⟩] at eq
            rw [eq] at K
            exact bX12_first_92 ⟨fun c => absurd c (by decide), fun _ => K⟩
          · exact bX12_first_92 ⟨fun _ => nx w6 f7 ⟨x3 + x, by omega, s6⟩ (fun z => y z.2), fun c => absurd rfl c⟩
        · exact bX12_first_73 ⟨fun c => absurd rfl c, fun _ => nx w5 f5 ⟨s, sc, s5⟩ (fun z => al z.1)⟩
    refine bX12_first_35 ?_
    exact B (min (x3 + 3000) 73047 - x3 + 1).toNat 0 w4 (by omega) (by omega) (by omega) (by omega) f4 ⟨_, by omega, s4⟩ (by rw [show x3 + 0 = x3 by omega])
  have B : ∀ (n : Nat) (x : Int) (w2 : am_W), x3 ≤ x → (n : Int) = min (x3 + 3000) 73047 - x + 1 → mh_sc a w2 → (∃ t, -36524 ≤ t ∧ t ≤ x ∧ mh_ML a.1 u (a.1 1 0 12) t w2) →
      mh_fst (mh_alw a.1 u (a.1 1 0 12) act) x3 (min (x3 + 3000) 73047 - x3 + 1).toNat = mh_fst (mh_alw a.1 u (a.1 1 0 12) act) x n →
      am_A (mh_G X) SC (d + 7) mX11_first Q 55 [(0, .inr (.inr (some (1, 0)))), (2, .inl (act : Int)), (4, .inl (min (x3 + 3000) 73047)), (5, .inl x)] [] w2 kc ks := by
    intro n
    induction n with
    | zero =>
      intro x w2 h1 h2 g2 m2 eq
      have F := fin w2 g2
      rw [eq] at F
      exact bX11_first_55 ⟨fun _ => F, fun c => absurd (by omega) c⟩
    | succ n ih =>
      intro x w2 h1 h2 g2 m2 eq
      rw [mh_fst1] at eq
      refine bX11_first_55 ⟨fun c => absurd c (by omega), fun _ => ?_⟩
      refine pX4_isAllowed hC hO (by omega) (by omega) (by omega) (by omega) (mh_sc_wL g2) m2 (fun v w3 k1 k2 k3 v1 v2 => ?_)
      have g3 := mh_sc_n g2 k1 k2
      refine bX11_first_72 ⟨fun c => ?_, fun c => ?_⟩
      · have na : ¬ mh_alw a.1 u (a.1 1 0 12) act x := fun z => by have := v2.mpr z; omega
        rw [if_neg na] at eq
        rw [am_w_id (z := x + 1) (by unfold am_rg; omega)]
        obtain ⟨t, t0, t1, ml⟩ := k3
        exact ih (x + 1) w3 (by omega) (by omega) g3 ⟨t, t0, by omega, ml⟩ eq
      · have ya := v2.mp (by omega)
        have F := fin w3 g3
        rw [eq, if_pos ya] at F
        exact F
  exact B (min (x3 + 3000) 73047 - x3 + 1).toNat x3 w1 (by omega) (by omega) g1 ⟨t, t0, by omega, ml⟩ rfl
