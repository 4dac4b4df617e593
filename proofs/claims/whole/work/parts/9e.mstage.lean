-- the reference's part and option
variable {SC : Nat → Nat} {X : mh_X} {r : Option am_I} {L : List (Nat × Nat)} {B : Nat → Int} {stop : Nat} {ln : Int}
theorem tk_w2 {j : Nat} : ((tk_ba 2 : Int) ≤ tk_cd L B j ∧ tk_cd L B j < (tk_ba 2 + tk_bn 2 : Nat)) ↔ (17 ≤ tk_cd L B j ∧ tk_cd L B j ≤ 20) := tk_wo_i.symm.trans tk_k2
theorem tk_w1' {j : Nat} : ((tk_ba 1 : Int) ≤ tk_cd L B j ∧ tk_cd L B j < (tk_ba 1 + tk_bn 1 : Nat)) ↔ (12 ≤ tk_cd L B j ∧ tk_cd L B j ≤ 16) := tk_wo_i.symm.trans tk_k1
theorem tk_w3 {j : Nat} : ((tk_ba 3 : Int) ≤ tk_cd L B j ∧ tk_cd L B j < (tk_ba 3 + tk_bn 3 : Nat)) ↔ (21 ≤ tk_cd L B j ∧ tk_cd L B j ≤ 24) := tk_wo_i.symm.trans tk_k3
theorem tk_w4 {j : Nat} : ((tk_ba 4 : Int) ≤ tk_cd L B j ∧ tk_cd L B j < (tk_ba 4 + tk_bn 4 : Nat)) ↔ (25 ≤ tk_cd L B j ∧ tk_cd L B j ≤ 28) := tk_wo_i.symm.trans tk_k4
/-- the parts so far -/
def tk_cp (L : List (Nat × Nat)) (B : Nat → Int) (r s m : Nat) (b : am_W) : Prop := b.1 73 6 r = (m : Int) ∧ ∀ i, i < m → b.1 81 (30 * 6 + r) (3 * i) = tk_cd L B (s + 4 * i) - 12 ∧ b.1 81 (30 * 6 + r) (3 * i + 1) = tk_vl L B (s + 4 * i + 1) ∧ b.1 81 (30 * 6 + r) (3 * i + 2) = tk_cd L B (s + 4 * i + 2) - 17
theorem pX12_stage {d kc ks : Nat} {Q : Option am_V → am_W → Prop} {b : am_W} {m s rr : Nat} (hX : mh_st X r) (hR : tk_R L B stop ln (s + 4 * m) 0 0 b) (hr : rr < 30) (hm : m ≤ 4) (hs : s ≤ 20) (hc : tk_cp L B rr s m b)
    (K : ∀ (b' : am_W) (q : Int × Int) (j' : Nat), j' ≤ 100 → tk_fr 73 81 rr b b' → tk_R L B stop ln j' q.1 q.2 b' → q = tk_pp1 (tk_cd L B) (tk_vl L B) s m → (q.2 = 0 → j' = s + 4 * m + 3 ∧ tk_cp L B rr s (m + 1) b') → Q none b') :
    am_M (mh_G X) SC (d + 9) kc ks mX12_stage [.inr (.inr (some (9, 0))), .inl (rr : Int)] b Q := by
  obtain ⟨h73, h81⟩ := hc
  obtain ⟨J, hJ⟩ : ∃ J, J = s + 4 * m := ⟨_, rfl⟩
  rw [← hJ] at hR
  have bad : ∀ (b1 : am_W) (q : Int × Int), mh_fm [] [2, 3, 4, 32] b b1 → tk_R L B stop ln J q.1 q.2 b1 → ¬ q.2 = 0 → q = tk_pp1 (tk_cd L B) (tk_vl L B) s m →
      am_A (mh_G X) SC (d + 9) mX12_stage Q 86 [(0, .inr (.inr (some (9, 0)))), (1, .inl (rr : Int)), (2, .inl (m : Int)), (3, .inl (tk_wo L B J 1))] [] b1 kc ks := by
    intro b1 q f1 R1 z e
    refine bX12_stage_86 ?_
    (try dsimp only); rw [am_up_k (by decide), tk_fk R1]
    refine ⟨fun y => absurd y z, fun _ => ?_⟩
    (try dsimp only); rw [tk_at R1, am_w_id (z := (J : Int) + 1) (by unfold am_rg; omega)]
    exact K _ q (J + 1) (by omega) (tk_fr_0 (mh_fmf f1 (by decide)) (by decide) (by decide)) (tk_R_at R1 (by omega)) e (fun y => absurd y z)
  have good : (13 ≤ tk_cd L B J ∧ tk_cd L B J ≤ 16) → ¬ m = 4 → ¬ (¬ m = 0 ∧ tk_cd L B (s + 4 * (m - 1)) ≤ tk_cd L B J) → tk_wo L B J 1 = tk_cd L B J - 12 → am_A (mh_G X) SC (d + 9) mX12_stage Q 86 [(0, .inr (.inr (some (9, 0)))), (1, .inl (rr : Int)), (2, .inl (m : Int)), (3, .inl (tk_wo L B J 1))] [] b kc ks := by
    intro g1 g2 g3 wv
    have E : tk_pp1 (tk_cd L B) (tk_vl L B) s m = if ¬ tk_cd L B (J + 1) = 41 then ((J : Int) + 2, 2) else if ¬ (1 ≤ tk_vl L B (J + 1) ∧ tk_vl L B (J + 1) ≤ 999) then ((J : Int) + 2, 3) else if ¬ (17 ≤ tk_cd L B (J + 2) ∧ tk_cd L B (J + 2) ≤ 20) then ((J : Int) + 3, 2) else (0, 0) := by
      unfold tk_pp1
      (try dsimp only); rw [← hJ, if_neg (fun z => z g1), if_neg g2, if_neg g3]
    refine bX12_stage_86 ?_
    (try dsimp only); rw [am_up_k (by decide), tk_fk hR]
    refine ⟨fun _ => ?_, fun y => absurd rfl y⟩
    (try dsimp only); rw [tk_at hR, am_w_id (z := (J : Int) + 1) (by unfold am_rg; omega)]
    have R1 : tk_R L B stop ln (J + 1) ((0, 0) : Int × Int).1 ((0, 0) : Int × Int).2 (am_up b.1 9 0 32 ((J : Int) + 1), b.2) := tk_R_at hR (by omega)
    refine pX12_number (d := d + 6) R1 (by omega) ⟨by decide, by decide, by decide⟩ (fun b2 q2 v e2 hv hvr f2 R2 => ?_)
    refine bX12_stage_112 (pX12_needs hX R2 (by omega) (by decide) (fun b3 q3 e3 f3 R3 => ?_))
    have F3 : mh_fm [] [2, 3, 4, 32] b b3 := mh_fm_t (mh_fm_t (mh_fmf mh_fm_r (by decide)) f2) f3
    refine bX12_stage_122 ?_
    (try dsimp only); rw [tk_fk R3]
    have z2 : ((0, 0) : Int × Int).2 = 0 := rfl
    have q3e : q3 = tk_pp1 (tk_cd L B) (tk_vl L B) s m := by
      (try dsimp only); rw [E, e3, e2]
      by_cases c1 : tk_cd L B (J + 1) = 41
      · (try dsimp only); rw [tk_ff_y (q := (0, 0)) c1, if_neg (fun z => z c1)]
        by_cases c2 : 1 ≤ tk_vl L B (J + 1) ∧ tk_vl L B (J + 1) ≤ 999
        · (try dsimp only); rw [tk_ff_y (q := (0, 0)) c2, if_neg (fun z => z c2)]
          by_cases c3 : 17 ≤ tk_cd L B (J + 2) ∧ tk_cd L B (J + 2) ≤ 20
          · (try dsimp only); rw [tk_ff_y (tk_w2.mpr c3), if_neg (fun z => z c3)]
          · (try dsimp only); rw [tk_ff_n (fun z => c3 (tk_w2.mp z)), if_pos c3, if_pos rfl, if_pos rfl]
            refine Prod.ext ?_ rfl
            show ((J + 1 + 1 : Nat) : Int) + 1 = (J : Int) + 3
            omega
        · (try dsimp only); rw [tk_ff_n (q := (0, 0)) c2, if_pos c2, if_pos rfl, if_pos rfl, tk_ff_k (by show ¬ (3 : Int) = 0; decide)]
          refine Prod.ext ?_ rfl
          show ((J + 1 : Nat) : Int) + 1 = (J : Int) + 2
          omega
      · (try dsimp only); rw [tk_ff_n (q := (0, 0)) c1, if_pos c1, if_pos rfl, if_pos rfl, tk_ff_k (q := (((J + 1 : Nat) : Int) + 1, 2)) (by show ¬ (2 : Int) = 0; decide), tk_ff_k (by show ¬ (2 : Int) = 0; decide)]
        refine Prod.ext ?_ rfl
        show ((J + 1 : Nat) : Int) + 1 = (J : Int) + 2
        omega
    refine ⟨fun y => ?_, fun y => ?_⟩
    · have pz := tk_pp1z (by rw [← q3e]; exact y)
      obtain ⟨⟨-, p2, p3⟩, -, -, p41, -⟩ := pz
      rw [← hJ] at p2 p3 p41
      have v1 := hv ⟨p41, p2⟩
      have u2 := tk_wv (tk_k2.mpr p3)
      rw [show tk_ba 2 = 17 from rfl] at u2
      have g73 : b3.1 73 6 rr = (m : Int) := by rw [F3.1 73 (by simp) (by decide)]; exact h73
      refine ⟨by omega, by omega, ?_⟩
      (try dsimp only); rw [am_w_id (z := 3 * (m : Int)) (by unfold am_rg; omega), am_w_id (z := 3 * (m : Int) + 1) (by unfold am_rg; omega), am_w_id (z := 3 * (m : Int) + 2) (by unfold am_rg; omega), Int.toNat_natCast, g73, am_w_id (z := (m : Int) + 1) (by unfold am_rg; omega),
        show (3 * (m : Int)).toNat = 3 * m by omega, show (3 * (m : Int) + 1).toNat = 3 * m + 1 by omega, show (3 * (m : Int) + 2).toNat = 3 * m + 2 by omega]
      refine ⟨by omega, by omega, by omega, by omega, by omega, by omega, K _ q3 (J + 3) (by omega) (tk_fr_v (b' := (_, _)) (tk_fr_u (b' := (_, _)) (tk_fr_u (b' := (_, _)) (tk_fr_u (tk_fr_0 F3 (by decide) (by decide)) (by decide) (by decide) (by decide)) (by decide) (by decide) (by decide)) (by decide) (by decide) (by decide)) (by decide) (by decide))
        (tk_R_r (tk_R_r (tk_R_r (tk_R_r R3 (by decide) rfl) (by decide) rfl) (by decide) rfl) (by decide) rfl) q3e (fun _ => ⟨by omega, ?_, fun i hi => ?_⟩)⟩
      · dsimp only
        (try dsimp only); rw [am_up_s]; omega
      · have g81 : b3.1 81 (30 * 6 + rr) = b.1 81 (30 * 6 + rr) := by rw [F3.1 81 (by simp) (by decide)]
        dsimp only
        simp (disch := decide) only [am_up_t, am_up_a]
        (try dsimp only); rw [g81]
        by_cases z : i = m
        · (try dsimp only); rw [if_neg (by omega), if_neg (by omega), if_pos (by omega), if_neg (by omega), if_pos (by omega), if_pos (by omega), wv, v1, u2, z, ← hJ]
          exact ⟨rfl, rfl, rfl⟩
        · (try dsimp only); rw [if_neg (by omega), if_neg (by omega), if_neg (by omega), if_neg (by omega), if_neg (by omega), if_neg (by omega), if_neg (by omega), if_neg (by omega), if_neg (by omega)]
          exact h81 i (by omega)
    · exact K b3 q3 (J + 1 + 1 + 1) (by omega) (tk_fr_0 F3 (by decide) (by decide)) R3 q3e (fun z => absurd z y)
  refine am_M_of (by decide) (Nat.le_of_ble_eq_true rfl) ?_
  refine bX12_stage_0 ⟨by omega, by omega, ?_⟩
  (try dsimp only); rw [Int.toNat_natCast, h73]
  refine pX12_wordOf hX hR (by decide) ?_
  refine bX12_stage_18 ⟨fun c => ?_, fun c => ?_⟩
  · have w1 : ¬ tk_wo L B J 1 = -1 := by omega
    have wv := tk_wv w1
    rw [show tk_ba 1 = 12 from rfl] at wv
    have k1 := tk_k1.mp w1
    have g1 : 13 ≤ tk_cd L B J ∧ tk_cd L B J ≤ 16 := by omega
    refine ⟨fun c2 => ⟨fun c3 => good g1 (by omega) (fun z => z.1 (by omega)) (by omega), fun c3 => ⟨by omega, by omega, ?_⟩⟩, fun c2 => ?_⟩
    · have h := h81 (m - 1) (by omega)
      (try dsimp only); rw [am_w_id (z := 3 * (m : Int)) (by unfold am_rg; omega), am_w_id (z := 3 * (m : Int) - 3) (by unfold am_rg; omega), Int.toNat_natCast, show (3 * (m : Int) - 3).toNat = 3 * (m - 1) by omega, h.1]
      refine ⟨by omega, by omega, fun c4 => good g1 (by omega) (fun z => by omega) (by omega), fun c4 => ?_⟩
      (try dsimp only); rw [tk_at hR]
      refine pX12_fault (d := d + 7) hR ⟨by omega, by omega⟩ (by decide) (fun b1 f1 R1 => ?_)
      rw [if_pos rfl, if_pos rfl] at R1
      refine am_sub [2, 3, 1, 0] rfl (bad b1 ((J : Int) + 1, 4) f1 R1 (by dsimp only; decide) ?_)
      unfold tk_pp1
      (try dsimp only); rw [← hJ, if_neg (fun z => z g1), if_neg (by omega), if_pos ⟨by omega, by omega⟩]
    · (try dsimp only); rw [tk_at hR]
      refine pX12_fault (d := d + 7) hR ⟨by omega, by omega⟩ (by decide) (fun b1 f1 R1 => ?_)
      rw [if_pos rfl, if_pos rfl] at R1
      refine bX12_stage_51 (bad b1 ((J : Int) + 1, 6) f1 R1 (by dsimp only; decide) ?_)
      unfold tk_pp1
      (try dsimp only); rw [← hJ, if_neg (fun z => z g1), if_pos (by omega)]
  · have g1 : ¬ (13 ≤ tk_cd L B J ∧ tk_cd L B J ≤ 16) := by
      intro z
      have w1 : ¬ tk_wo L B J 1 = -1 := tk_k1.mpr (by omega)
      have wv := tk_wv w1
      rw [show tk_ba 1 = 12 from rfl] at wv
      omega
    (try dsimp only); rw [tk_at hR]
    refine pX12_fault (d := d + 7) hR ⟨by omega, by omega⟩ (by decide) (fun b1 f1 R1 => ?_)
    rw [if_pos rfl, if_pos rfl] at R1
    refine bX12_stage_33 (bad b1 ((J : Int) + 1, 2) f1 R1 (by dsimp only; decide) ?_)
    unfold tk_pp1
    (try dsimp only); rw [← hJ, if_pos g1]
theorem pX12_option {d kc ks : Nat} {Q : Option am_V → am_W → Prop} {b : am_W} {j rr : Nat} {fl : Int} (hX : mh_st X r) (hR : tk_R L B stop ln j 0 0 b) (hr : rr < 30) (hj : j ≤ 100) (h75 : b.1 75 6 rr = fl)
    (K : ∀ (b' : am_W) (q : Int × Int) (j' : Nat), j' ≤ j + 2 → tk_fr 75 70 rr b b' → tk_R L B stop ln j' q.1 q.2 b' →
      ((¬ (25 ≤ tk_cd L B j ∧ tk_cd L B j ≤ 28) ∧ q = ((j : Int) + 1, 2)) ∨ ((25 ≤ tk_cd L B j ∧ tk_cd L B j ≤ 28) ∧ ((tk_bs fl (tk_cd L B j - 25) ∧ q = ((j : Int) + 1, 5)) ∨ (¬ tk_bs fl (tk_cd L B j - 25) ∧ b'.1 75 6 rr = am_or fl (am_shl 1 (tk_cd L B j - 25)) ∧
        ((¬ tk_cd L B j = 25 ∧ q = (0, 0) ∧ j' = j + 1) ∨ (tk_cd L B j = 25 ∧ tk_cd L B (j + 1) = 29 ∧ q = (0, 0) ∧ j' = j + 2) ∨ (tk_cd L B j = 25 ∧ ¬ tk_cd L B (j + 1) = 29 ∧ q = ((j : Int) + 2, 2))))))) → Q none b') :
    am_M (mh_G X) SC (d + 9) kc ks mX12_option [.inr (.inr (some (9, 0))), .inl (rr : Int)] b Q := by
  refine am_M_of (by decide) (Nat.le_of_ble_eq_true rfl) ?_
  refine bX12_option_0 ?_
  (try dsimp only); rw [tk_at hR]
  refine pX12_needs (q := (0, 0)) hX hR (by omega) (by decide) (fun b1 q1 e1 f1 R1 => ?_)
  refine bX12_option_13 ?_
  (try dsimp only); rw [tk_fk R1]
  by_cases c : 25 ≤ tk_cd L B j ∧ tk_cd L B j ≤ 28
  · rw [tk_ff_y (tk_w4.mpr c)] at e1
    subst e1
    have wv := tk_wv (tk_k4.mpr c)
    rw [show tk_ba 4 = 25 from rfl] at wv
    obtain ⟨o, ho⟩ : ∃ o, o = tk_cd L B j - 25 := ⟨_, rfl⟩
    (try dsimp only); rw [show tk_wo L B j 4 = o by omega]
    rw [← ho] at K
    have C : ∀ (b2 : am_W) (q2 : Int × Int), mh_fm [] [2, 3, 4, 32] b b2 → tk_R L B stop ln (j + 1) q2.1 q2.2 b2 → (∀ (b3 : am_W) (q3 : Int × Int) (j' : Nat), j' ≤ j + 2 → tk_fr 75 70 rr b b3 → tk_R L B stop ln j' q3.1 q3.2 b3 → b3.1 75 6 rr = am_or fl (am_shl 1 o) →
        ((¬ o = 0 ∧ q3 = q2 ∧ j' = j + 1) ∨ (o = 0 ∧ q3 = tk_ff q2 (tk_cd L B (j + 1) = 29) ((j + 1 : Nat) : Int) 2 ∧ j' = j + 2)) → Q none b3) → am_A (mh_G X) SC (d + 9) mX12_option Q 45 [(0, .inr (.inr (some (9, 0)))), (1, .inl (rr : Int)), (3, .inl o)] [] b2 kc ks := by
      intro b2 q2 f2 R2 KK
      have g75 : b2.1 75 6 rr = fl := by rw [f2.1 75 (by simp) (by decide)]; exact h75
      refine bX12_option_45 ⟨by omega, by omega, ?_⟩
      (try dsimp only); rw [Int.toNat_natCast, g75]
      have F := tk_fr_v (v1 := am_or fl (am_shl 1 o)) (tk_fr_0 (t := 75) (t2 := 70) (r := rr) f2 (by decide) (by decide)) (by decide) (by decide)
      have R3 : tk_R L B stop ln (j + 1) q2.1 q2.2 (am_up b2.1 75 6 rr (am_or fl (am_shl 1 o)), b2.2) := tk_R_r R2 (by decide) rfl
      refine ⟨fun z => KK _ q2 (j + 1) (by omega) F R3 (by (try dsimp only); rw [am_up_s]) (Or.inl ⟨z, rfl, rfl⟩), fun z => ?_⟩
      refine pX12_needsw (c := 29) hX R3 (by omega) (by decide) (by decide) (by decide +kernel) (fun b4 q4 e4 f4 R4 => ?_)
      refine bX12_option_71 (KK b4 q4 (j + 2) (by omega) (tk_fr_t F (tk_fr_0 f4 (by decide) (by decide))) R4 ?_ (Or.inr ⟨z, e4, rfl⟩))
      (try dsimp only); rw [f4.1 75 (by simp) (by decide)]; (try dsimp only); rw [am_up_s]
    have g75 : b1.1 75 6 rr = fl := by rw [f1.1 75 (by simp) (by decide)]; exact h75
    refine ⟨fun _ => ⟨by omega, by omega, ?_⟩, fun y => absurd rfl y⟩
    (try dsimp only); rw [Int.toNat_natCast, g75]
    refine ⟨fun z => ?_, fun z => ?_⟩
    · refine C b1 (0, 0) f1 R1 (fun b3 q3 j' l3 F3 R3 e3 al => K b3 q3 j' l3 F3 R3 (Or.inr ⟨c, Or.inr ⟨z, e3, ?_⟩⟩))
      rcases al with ⟨a1, a2, a3⟩ | ⟨a1, a2, a3⟩
      · exact Or.inl ⟨by omega, a2, a3⟩
      · by_cases h : tk_cd L B (j + 1) = 29
        · exact Or.inr (Or.inl ⟨by omega, h, by rw [a2, tk_ff_y h], a3⟩)
        · refine Or.inr (Or.inr ⟨by omega, h, ?_⟩)
          (try dsimp only); rw [a2, tk_ff_n h, if_pos rfl, if_pos rfl]
          refine Prod.ext ?_ rfl
          show ((j + 1 : Nat) : Int) + 1 = (j : Int) + 2
          omega
    · refine pX12_fault (d := d + 7) R1 ⟨by omega, by omega⟩ (by decide) (fun b2 f2 R2 => ?_)
      rw [if_pos rfl, if_pos rfl] at R2
      refine am_sub [2, 3, 0] rfl (C b2 ((j : Int) + 1, 5) (mh_fm_t f1 f2) R2 (fun b3 q3 j' l3 F3 R3 e3 al => K b3 q3 j' l3 F3 R3 (Or.inr ⟨c, Or.inl ⟨z, ?_⟩⟩)))
      rcases al with ⟨a1, a2, a3⟩ | ⟨a1, a2, a3⟩
      · exact a2
      · (try dsimp only); rw [a2, tk_ff_k (by show ¬ (5 : Int) = 0; decide)]
  · rw [tk_ff_n (fun z => c (tk_w4.mp z)), if_pos rfl, if_pos rfl] at e1
    subst e1
    exact ⟨fun y => absurd y (by show ¬ (2 : Int) = 0; decide), fun _ => K b1 _ (j + 1) (by omega) (tk_fr_0 f1 (by decide) (by decide)) R1 (Or.inl ⟨c, rfl⟩)⟩
