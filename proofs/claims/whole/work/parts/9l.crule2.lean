-- the class's parts, options, rule
variable {SC : Nat → Nat} {X : mh_X} {r : Option am_I} {L : List (Nat × Nat)} {B : Nat → Int} {ln : Int}
theorem pX8_readPart {d kc ks : Nat} {Q : Option am_V → am_W → Prop} {w : am_W} {l rr s m : Nat} (hr : rr < 30) (hs : s ≤ 20) (hm : m ≤ 4) (hK : tk_K L B ln (s + 4 * m) w) (h10 : w.1 10 l 10 = (rr : Int) + 1) (hd : tk_dp L B l rr s m w)
    (K : ∀ (v : Int) (w' : am_W), tk_CL [146, 147, 148, 149] l w w' → (∀ a, ¬ a = rr → w'.1 146 l a = w.1 146 l a) → (∀ k, k < rr * 4 → w'.1 147 l k = w.1 147 l k ∧ w'.1 148 l k = w.1 148 l k ∧ w'.1 149 l k = w.1 149 l k) →
      ((v = 1 ∧ (tk_pp1 (tk_cd L B) (tk_vl L B) s m).2 = 0 ∧ tk_K L B ln (s + 4 * m + 3) w' ∧ tk_dp L B l rr s (m + 1) w') ∨ (v = 0 ∧ ¬ (tk_pp1 (tk_cd L B) (tk_vl L B) s m).2 = 0 ∧ tk_G ln (tk_pp1 (tk_cd L B) (tk_vl L B) s m).1 (tk_pp1 (tk_cd L B) (tk_vl L B) s m).2 w')) → Q (some (.inl v)) w') :
    am_M (mh_G X) SC (d + 3) kc ks mX8_readPart [.inr (.inr (some (2, 0))), .inr (.inr (some (10, l)))] w Q := by
  obtain ⟨J, hJ⟩ : ∃ J, J = s + 4 * m := ⟨_, rfl⟩
  rw [← hJ] at hK K
  have h9 := hK.1
  have h8 := hK.2.1
  have hm146 := hd.1
  have noch : ∀ w' : am_W, (∀ t, ¬ t = 2 → w'.1 t = w.1 t) → (∀ a, ¬ a = rr → w'.1 146 l a = w.1 146 l a) ∧ (∀ k, k < rr * 4 → w'.1 147 l k = w.1 147 l k ∧ w'.1 148 l k = w.1 148 l k ∧ w'.1 149 l k = w.1 149 l k) := fun w' h =>
    ⟨fun a _ => by rw [h 146 (by decide)], fun k _ => by rw [h 147 (by decide), h 148 (by decide), h 149 (by decide)]; exact ⟨rfl, rfl, rfl⟩⟩
  have flt : ∀ (k : Int), ¬ k = 0 → tk_pp1 (tk_cd L B) (tk_vl L B) s m = ((J : Int) + 1, k) → Q (some (.inl 0)) (am_up (am_up (am_up w.1 2 0 4 (w.1 2 0 7)) 2 0 5 (am_w (((am_up w.1 2 0 4 (w.1 2 0 7)) 2 0 9) + 1))) 2 0 6 k, w.2) := by
    intro k hk e
    have G := tk_fl1 (k := k) hK (by omega) [146, 147, 148, 149] l (by decide)
    have N := noch (am_up (am_up (am_up w.1 2 0 4 (w.1 2 0 7)) 2 0 5 (am_w (((am_up w.1 2 0 4 (w.1 2 0 7)) 2 0 9) + 1))) 2 0 6 k, w.2) (fun t ht => by dsimp only; rw [am_up_t ht, am_up_t ht, am_up_t ht])
    exact K 0 _ G.1 N.1 N.2 (Or.inr ⟨rfl, by rw [e]; exact hk, by rw [e]; exact G.2⟩)
  have e1 : (rr : Int) + 1 - 1 = (rr : Int) := by omega
  refine am_M_of (by decide) (Nat.le_of_ble_eq_true rfl) ?_
  refine bX8_readPart_0 ?_
  have ec : (if w.1 2 0 9 < 0 then (46 : Int) else (if w.1 2 0 8 ≤ w.1 2 0 9 then 46 else (if 64 ≤ w.1 2 0 9 then 46 else w.1 25 0 (w.1 2 0 9).toNat))) = tk_cd L B J := by
    (try dsimp only); rw [h9, h8, Int.toNat_natCast]; exact tk_cy (p := J) (by omega) rfl (tk_Kc hK J (by omega))
  (try dsimp only); rw [ec, h10, e1, am_w_id (z := (rr : Int)) (by unfold am_rg; omega), Int.toNat_natCast, hm146]
  refine ⟨fun _ _ _ => by omega, fun _ _ _ => by omega, fun c1 => ?_, fun c1 => ?_⟩
  · have g1 : 13 ≤ tk_cd L B J ∧ tk_cd L B J ≤ 16 := by omega
    (try dsimp only); rw [am_w_id (z := (rr : Int) * 4) (by unfold am_rg; omega), am_w_id (z := (rr : Int) * 4 + (m : Int)) (by unfold am_rg; omega), am_w_id (z := (rr : Int) * 4 + (m : Int) - 1) (by unfold am_rg; omega), am_w_id (z := tk_cd L B J - 12) (by unfold am_rg; omega)]
    refine ⟨by omega, by omega, fun c2 => ⟨fun _ => by omega, fun _ => by omega, fun c3 => ?_, fun c3 => ?_⟩, fun c2 => ?_⟩
    · have g2 : ¬ m = 4 := by omega
      have g3 : ¬ (¬ m = 0 ∧ tk_cd L B (s + 4 * (m - 1)) ≤ tk_cd L B J) := by
        intro z
        have h := (hd.2 (m - 1) (by omega)).1
        rw [show ((rr : Int) * 4 + (m : Int) - 1).toNat = rr * 4 + (m - 1) by omega, h] at c3
        omega
      have E : tk_pp1 (tk_cd L B) (tk_vl L B) s m = if ¬ tk_cd L B (J + 1) = 41 then ((J : Int) + 2, 2) else if ¬ (1 ≤ tk_vl L B (J + 1) ∧ tk_vl L B (J + 1) ≤ 999) then ((J : Int) + 2, 3) else if ¬ (17 ≤ tk_cd L B (J + 2) ∧ tk_cd L B (J + 2) ≤ 20) then ((J : Int) + 3, 2) else (0, 0) := by
        unfold tk_pp1
        (try dsimp only); rw [← hJ, if_neg (fun z => z g1), if_neg g2, if_neg g3]
      (try dsimp only); rw [h9, am_w_id (z := (J : Int) + 1) (by unfold am_rg; omega)]
      have K1 : tk_K L B ln (J + 1) (am_up w.1 2 0 9 ((J : Int) + 1), w.2) := tk_K_9 hK (by omega)
      have F1 : tk_CL [146, 147, 148, 149] l w (am_up w.1 2 0 9 ((J : Int) + 1), w.2) := tk_CL_2 tk_CL_r (by decide) (by decide)
      refine pX8_expectNumber (d := d) K1 (by omega) (fun w2 f2 n1 n2 k2 => bX8_readPart_72 ⟨fun _ => ?_, fun z => absurd z (by decide)⟩) (fun w2 k f2 al g2' => bX8_readPart_72 ⟨fun z => absurd rfl z, fun _ => ?_⟩)
      · have T2 : ∀ t, ¬ t = 2 → w2.1 t = w.1 t := fun t ht => by rw [tk_CLx (ts := []) (l := 0) f2 t ht]; (try dsimp only); rw [am_up_t ht]
        have F2 := tk_CL_t F1 (f2 [146, 147, 148, 149] l (by decide))
        rw [if_neg (fun z => z n1), if_neg (fun z => z n2)] at E
        have ec2 : (if w2.1 2 0 9 < 0 then (46 : Int) else (if w2.1 2 0 8 ≤ w2.1 2 0 9 then 46 else (if 64 ≤ w2.1 2 0 9 then 46 else w2.1 25 0 (w2.1 2 0 9).toNat))) = tk_cd L B (J + 2) := by
          (try dsimp only); rw [k2.1, k2.2.1, Int.toNat_natCast]; exact tk_cy (p := J + 2) (by omega) rfl (tk_Kc k2 (J + 2) (by omega))
        (try dsimp only); rw [ec2, k2.1, k2.2.1]
        have hl : J + 1 < L.length := by
          apply Classical.byContradiction
          intro z
          have := (tk_cd46 (B := B)).mpr (by omega : L.length ≤ J + 1)
          omega
        refine ⟨fun _ _ _ => by omega, fun _ _ _ => by omega, fun c4 => ?_, fun c4 => ?_⟩
        · have g4 : 17 ≤ tk_cd L B (J + 2) ∧ tk_cd L B (J + 2) ≤ 20 := by omega
          rw [if_neg (fun z => z g4)] at E
          (try dsimp only); rw [T2 10 (by decide), h10, e1, am_w_id (z := (rr : Int)) (by unfold am_rg; omega), Int.toNat_natCast, T2 146 (by decide), hm146, am_w_id (z := (rr : Int) * 4) (by unfold am_rg; omega), am_w_id (z := (rr : Int) * 4 + (m : Int)) (by unfold am_rg; omega), am_w_id (z := (m : Int) + 1) (by unfold am_rg; omega), am_w_id (z := (J : Int) + 1) (by unfold am_rg; omega),
            show ((rr : Int) * 4 + (m : Int)).toNat = rr * 4 + m by omega, show ((J : Int) + 1).toNat = J + 1 by omega, tk_Kv k2 (J + 1) (by omega) hl]
          (try dsimp only); rw [show ((J : Int)).toNat = J from Int.toNat_natCast J, tk_cy (x := (J : Int)) (p := J) (by omega) rfl (tk_Kc k2 J (by omega)), am_w_id (z := tk_cd L B J - 12) (by unfold am_rg; omega), am_w_id (z := ((J + 1 + 1 : Nat) : Int) + 1) (by unfold am_rg; omega)]
          refine ⟨fun _ _ _ => by omega, fun _ _ _ => by omega, by omega, by omega, by omega, by omega, by omega, by omega, ?_⟩
          have F3 := tk_CL_2 (k := 9) (v := ((J + 1 + 1 : Nat) : Int) + 1) (tk_CL_u (t := 146) (k := rr) (v := (m : Int) + 1) (b := (_, _)) (tk_CL_u (t := 149) (k := rr * 4 + m) (v := tk_cd L B (J + 2)) (b := (_, _)) (tk_CL_u (t := 148) (k := rr * 4 + m) (v := tk_vl L B (J + 1)) (b := (_, _)) (tk_CL_u (t := 147) (k := rr * 4 + m) (v := tk_cd L B J - 12) F2 (by decide) (by decide)) (by decide) (by decide)) (by decide) (by decide)) (by decide) (by decide)) (by decide) (by decide)
          refine K 1 _ F3 (fun a ha => ?_) (fun k hk => ?_) (Or.inl ⟨rfl, by rw [E], tk_K_f hK F3 ⟨by decide, by decide⟩ ?_ (fun k q => by dsimp only; rw [am_up_k (fun e : k = 9 => by rw [e] at q; revert q; decide), am_up_t (by decide), am_up_t (by decide), am_up_t (by decide), am_up_t (by decide), k2.2.2.1.2 k q, hK.2.2.1.2 k q]), ?_, fun i hi => ?_⟩)
          · dsimp only
            (try dsimp only); rw [am_up_t (by decide), am_up_k ha, am_up_t (by decide), am_up_t (by decide), am_up_t (by decide), T2 146 (by decide)]
          · dsimp only
            simp (disch := decide) only [am_up_t, am_up_a]
            (try dsimp only); rw [if_neg (by omega), if_neg (by omega), if_neg (by omega), T2 147 (by decide), T2 148 (by decide), T2 149 (by decide)]
            exact ⟨rfl, rfl, rfl⟩
          · dsimp only
            (try dsimp only); rw [am_up_s]; omega
          · dsimp only
            (try dsimp only); rw [am_up_t (by decide), am_up_s]; omega
          · dsimp only
            simp (disch := decide) only [am_up_t, am_up_a]
            by_cases z : i = m
            · (try dsimp only); rw [if_pos (by omega), if_pos (by omega), if_pos (by omega), z, ← hJ]
              exact ⟨rfl, rfl, rfl⟩
            · (try dsimp only); rw [if_neg (by omega), if_neg (by omega), if_neg (by omega), T2 147 (by decide), T2 148 (by decide), T2 149 (by decide)]
              exact hd.2 i (by omega)
        · have g4 : ¬ (17 ≤ tk_cd L B (J + 2) ∧ tk_cd L B (J + 2) ≤ 20) := fun z => c4 (by omega)
          rw [if_pos g4] at E
          have G := tk_fl1 (k := 2) k2 (by omega) [146, 147, 148, 149] l (by decide)
          have N := noch _ (fun t ht => by
            show am_up (am_up (am_up w2.1 2 0 4 (w2.1 2 0 7)) 2 0 5 (am_w (((am_up w2.1 2 0 4 (w2.1 2 0 7)) 2 0 9) + 1))) 2 0 6 2 t = w.1 t
            (try dsimp only); rw [am_up_t ht, am_up_t ht, am_up_t ht, T2 t ht] : ∀ t, ¬ t = 2 → (am_up (am_up (am_up w2.1 2 0 4 (w2.1 2 0 7)) 2 0 5 (am_w (((am_up w2.1 2 0 4 (w2.1 2 0 7)) 2 0 9) + 1))) 2 0 6 2, w2.2).1 t = w.1 t)
          refine K 0 _ (tk_CL_t F2 G.1) N.1 N.2 (Or.inr ⟨rfl, by rw [E]; show ¬ (2 : Int) = 0; decide, ?_⟩)
          (try dsimp only); rw [E]
          have := G.2
          rw [show ((J + 1 + 1 : Nat) : Int) + 1 = (J : Int) + 3 by omega] at this
          exact this
      · have T2 : ∀ t, ¬ t = 2 → w2.1 t = w.1 t := fun t ht => by rw [tk_CLx (ts := []) (l := 0) f2 t ht]; (try dsimp only); rw [am_up_t ht]
        have N := noch w2 T2
        refine K 0 w2 (tk_CL_t F1 (f2 _ _ (by decide))) N.1 N.2 (Or.inr ⟨rfl, ?_⟩)
        rcases al with ⟨a1, a2⟩ | ⟨a1, a2, a3⟩
        · rw [if_pos a1] at E
          subst a2
          (try dsimp only); rw [E]
          refine ⟨by show ¬ (2 : Int) = 0; decide, ?_⟩
          have := g2'
          rw [show ((J + 1 : Nat) : Int) + 1 = (J : Int) + 2 by omega] at this
          exact this
        · rw [if_neg (fun z => z a1), if_pos a2] at E
          subst a3
          (try dsimp only); rw [E]
          refine ⟨by show ¬ (3 : Int) = 0; decide, ?_⟩
          have := g2'
          rw [show ((J + 1 : Nat) : Int) + 1 = (J : Int) + 2 by omega] at this
          exact this
    · refine flt 4 (by decide) ?_
      unfold tk_pp1
      have n0 : ¬ m = 0 := fun z => c3 (Or.inl (by omega))
      have h := (hd.2 (m - 1) (by omega)).1
      rw [show ((rr : Int) * 4 + (m : Int) - 1).toNat = rr * 4 + (m - 1) by omega, h] at c3
      (try dsimp only); rw [← hJ, if_neg (fun z => z g1), if_neg (by omega), if_pos ⟨n0, by omega⟩]
    · refine flt 6 (by decide) ?_
      unfold tk_pp1
      (try dsimp only); rw [← hJ, if_neg (fun z => z g1), if_pos (by omega)]
  · refine flt 2 (by decide) ?_
    unfold tk_pp1
    (try dsimp only); rw [← hJ, if_pos (fun z => c1 (by omega))]
theorem tk_cpl {d bc bs : Nat} {Q : Option am_V → am_W → Prop} {l rr s : Nat} (hr : rr < 30) (hs : s ≤ 20) : ∀ (f m : Nat) (w : am_W) (p : Nat), f + m = 5 → m ≤ 4 → p + 1 = s + 4 * m → tk_K L B ln p w → w.1 10 l 10 = (rr : Int) + 1 → tk_dp L B l rr s m w →
    (∀ (v : Int) (w' : am_W), tk_CL [146, 147, 148, 149] l w w' → (∀ a, ¬ a = rr → w'.1 146 l a = w.1 146 l a) → (∀ k, k < rr * 4 → w'.1 147 l k = w.1 147 l k ∧ w'.1 148 l k = w.1 148 l k ∧ w'.1 149 l k = w.1 149 l k) →
      ((v = 1 ∧ (tk_pp (tk_cd L B) (tk_vl L B) s f m).1.2 = 0 ∧ (∀ p', p' + 1 = s + 4 * (tk_pp (tk_cd L B) (tk_vl L B) s f m).2 → tk_K L B ln p' w') ∧ tk_dp L B l rr s (tk_pp (tk_cd L B) (tk_vl L B) s f m).2 w') ∨ (v = 0 ∧ ¬ (tk_pp (tk_cd L B) (tk_vl L B) s f m).1.2 = 0 ∧ tk_G ln (tk_pp (tk_cd L B) (tk_vl L B) s f m).1.1 (tk_pp (tk_cd L B) (tk_vl L B) s f m).1.2 w')) → Q (some (.inl v)) w') →
    am_A (mh_G X) SC (d + 4) mX8_readParts Q 0 [(0, .inr (.inr (some (2, 0)))), (1, .inr (.inr (some (10, l))))] [] w bc bs
  | 0, m, w, p, h1, h2, _, _, _, _, _ => by omega
  | f + 1, m, w, p, h1, h2, hp, hK, h10, hd, K => by
    refine bX8_readParts_0 ?_
    (try dsimp only); rw [hK.1, am_w_id (z := (p : Int) + 1) (by unfold am_rg; omega)]
    have K1 : tk_K L B ln (s + 4 * m) (am_up w.1 2 0 9 ((p : Int) + 1), w.2) := tk_K_9 hK (by omega)
    have F1 : tk_CL [146, 147, 148, 149] l w (am_up w.1 2 0 9 ((p : Int) + 1), w.2) := tk_CL_2 tk_CL_r (by decide) (by decide)
    have T1 : ∀ t, ¬ t = 2 → (am_up w.1 2 0 9 ((p : Int) + 1)) t = w.1 t := fun t ht => am_up_t ht
    have d1 : tk_dp L B l rr s m (am_up w.1 2 0 9 ((p : Int) + 1), w.2) := by
      unfold tk_dp at hd ⊢
      show (am_up w.1 2 0 9 ((p : Int) + 1)) 146 l rr = _ ∧ ∀ i, i < m → (am_up w.1 2 0 9 ((p : Int) + 1)) 147 l (rr * 4 + i) = _ ∧ (am_up w.1 2 0 9 ((p : Int) + 1)) 148 l (rr * 4 + i) = _ ∧ (am_up w.1 2 0 9 ((p : Int) + 1)) 149 l (rr * 4 + i) = _
      (try dsimp only); rw [T1 146 (by decide), T1 147 (by decide), T1 148 (by decide), T1 149 (by decide)]; exact hd
    refine pX8_readPart (d := d) hr hs h2 K1 (by show (am_up w.1 2 0 9 ((p : Int) + 1)) 10 l 10 = _; rw [T1 10 (by decide)]; exact h10) d1 (fun v w2 f2 a2 b2 al => bX8_readParts_15 ?_)
    have F2 := tk_CL_t F1 f2
    have A2 : ∀ a, ¬ a = rr → w2.1 146 l a = w.1 146 l a := fun a ha => by rw [a2 a ha]; show (am_up w.1 2 0 9 ((p : Int) + 1)) 146 l a = _; rw [T1 146 (by decide)]
    have B2 : ∀ k, k < rr * 4 → w2.1 147 l k = w.1 147 l k ∧ w2.1 148 l k = w.1 148 l k ∧ w2.1 149 l k = w.1 149 l k := fun k hk => by
      obtain ⟨b3, b4, b5⟩ := b2 k hk
      (try dsimp only); rw [b3, b4, b5]
      show (am_up w.1 2 0 9 ((p : Int) + 1)) 147 l k = _ ∧ (am_up w.1 2 0 9 ((p : Int) + 1)) 148 l k = _ ∧ (am_up w.1 2 0 9 ((p : Int) + 1)) 149 l k = _
      (try dsimp only); rw [T1 147 (by decide), T1 148 (by decide), T1 149 (by decide)]
      exact ⟨rfl, rfl, rfl⟩
    rcases al with ⟨v1, z, k2, d2⟩ | ⟨v0, z, g2⟩
    · subst v1
      obtain ⟨-, m4, -, -, -⟩ := tk_pp1z z
      have E := tk_pp2 (c := tk_cd L B) (v := tk_vl L B) (s := s) (f := f) (m := m)
      rw [if_pos z] at E
      have ec : (if w2.1 2 0 9 < 0 then (46 : Int) else (if w2.1 2 0 8 ≤ w2.1 2 0 9 then 46 else (if 64 ≤ w2.1 2 0 9 then 46 else w2.1 25 0 (w2.1 2 0 9).toNat))) = tk_cd L B (s + 4 * m + 3) := by
        (try dsimp only); rw [k2.1, k2.2.1, Int.toNat_natCast]; exact tk_cy (p := s + 4 * m + 3) (by omega) rfl (tk_Kc k2 (s + 4 * m + 3) (by omega))
      (try dsimp only); rw [ec, k2.1, k2.2.1]
      have fin : ¬ tk_cd L B (s + 4 * m + 3) = 43 → Q (some (.inl 1)) w2 := by
        intro no
        rw [if_neg no] at E
        rw [E] at K
        refine K 1 w2 F2 A2 B2 (Or.inl ⟨rfl, rfl, fun p' hp' => ?_, d2⟩)
        have : p' = s + 4 * m + 3 := by
          have : p' + 1 = s + 4 * (m + 1) := hp'
          omega
        (try dsimp only); rw [this]; exact k2
      refine ⟨fun _ => ⟨fun y => fin (fun x => ?_), fun y => ⟨fun _ _ _ => by omega, fun _ _ _ => by omega, fun x => ?_, fun x => fin x⟩⟩, fun y => absurd y (by decide)⟩
      · have := (tk_cd46 (B := B)).mpr (by omega : L.length ≤ s + 4 * m + 3)
        omega
      · rw [if_pos x] at E
        rw [E] at K
        have w10 : w2.1 10 l 10 = (rr : Int) + 1 := by
          (try dsimp only); rw [f2.1 10 (by decide) (by decide)]
          show (am_up w.1 2 0 9 ((p : Int) + 1)) 10 l 10 = _
          (try dsimp only); rw [T1 10 (by decide)]; exact h10
        exact tk_cpl hr hs f (m + 1) w2 (s + 4 * m + 3) (by omega) (by omega) (by omega) k2 w10 d2 (fun v w' F' a' b' o' => K v w' (tk_CL_t F2 F') (fun a ha => (a' a ha).trans (A2 a ha)) (fun k hk => by
          obtain ⟨x1, x2, x3⟩ := b' k hk
          obtain ⟨y1, y2, y3⟩ := B2 k hk
          exact ⟨x1.trans y1, x2.trans y2, x3.trans y3⟩) o')
    · subst v0
      have E := tk_pp2 (c := tk_cd L B) (v := tk_vl L B) (s := s) (f := f) (m := m)
      rw [if_neg z] at E
      rw [E] at K
      exact ⟨fun y => absurd rfl y, fun _ => K 0 w2 F2 A2 B2 (Or.inr ⟨rfl, z, g2⟩)⟩
theorem tk_col {d bc bs : Nat} {Q : Option am_V → am_W → Prop} {l rr : Nat} (hr : rr < 30) : ∀ (f : Nat) (fl : Int) (j : Nat) (w : am_W), f + tk_pc fl = 5 → (0 ≤ fl ∧ fl ≤ 15) → j ≤ 30 + 3 * tk_pc fl → tk_K L B ln j w → w.1 10 l 10 = (rr : Int) + 1 → w.1 150 l rr = fl →
    (∀ (v : Int) (w' : am_W), tk_CL [150] l w w' → (∀ a, ¬ a = rr → w'.1 150 l a = w.1 150 l a) →
      ((v = 1 ∧ (tk_po (tk_cd L B) f fl j).1.2 = 0 ∧ w'.1 150 l rr = (tk_po (tk_cd L B) f fl j).2 ∧ tk_Z w') ∨ (v = 0 ∧ ¬ (tk_po (tk_cd L B) f fl j).1.2 = 0 ∧ tk_G ln (tk_po (tk_cd L B) f fl j).1.1 (tk_po (tk_cd L B) f fl j).1.2 w')) → Q (some (.inl v)) w') →
    am_A (mh_G X) SC (d + 3) mX8_readOptions Q 0 [(0, .inr (.inr (some (2, 0)))), (1, .inr (.inr (some (10, l))))] [] w bc bs
  | 0, fl, j, w, h1, h2, _, _, _, _, _ => by
    have := (tk_fl (o := 0) h2 ⟨by decide, by decide⟩).2.2.2
    omega
  | f + 1, fl, j, w, h1, h2, h3, hK, h10, h150, K => by
    have pc4 := (tk_fl (o := 0) h2 ⟨by decide, by decide⟩).2.2.2
    have h9 := hK.1
    have h8 := hK.2.1
    have ec : (if w.1 2 0 9 < 0 then (46 : Int) else (if w.1 2 0 8 ≤ w.1 2 0 9 then 46 else (if 64 ≤ w.1 2 0 9 then 46 else w.1 25 0 (w.1 2 0 9).toNat))) = tk_cd L B j := by
      (try dsimp only); rw [h9, h8, Int.toNat_natCast]; exact tk_cy (p := j) (by omega) rfl (tk_Kc hK j (by omega))
    have E := tk_po1 (c := tk_cd L B) (f := f) (j := j) (fl := fl)
    have out : ¬ tk_cd L B j = 44 → am_A (mh_G X) SC (d + 3) mX8_readOptions Q 103 [(0, .inr (.inr (some (2, 0))))] [] w bc bs := by
      intro no
      rw [if_neg no] at E
      refine bX8_readOptions_103 (pX8_expect (d := d) hK (by omega) (fun w' f' c' k' => bX8_readOptions_109 ⟨Or.inr rfl, ?_⟩) (fun w' f' c' g' => bX8_readOptions_109 ⟨Or.inl rfl, ?_⟩))
      · rw [if_pos c'] at E
        rw [E] at K
        refine K 1 w' (f' _ _ (by decide)) (fun a _ => by rw [tk_CLx (ts := []) (l := 0) f' 150 (by decide)]) (Or.inl ⟨rfl, rfl, ?_, k'.2.2.1.2⟩)
        (try dsimp only); rw [tk_CLx (ts := []) (l := 0) f' 150 (by decide)]; exact h150
      · rw [if_neg c'] at E
        rw [E] at K
        exact K 0 w' (f' _ _ (by decide)) (fun a _ => by rw [tk_CLx (ts := []) (l := 0) f' 150 (by decide)]) (Or.inr ⟨rfl, by show ¬ (2 : Int) = 0; decide, g'⟩)
    obtain ⟨W, hW⟩ : ∃ W, W = am_up w.1 2 0 9 ((j : Int) + 1) := ⟨_, rfl⟩
    have KW : tk_K L B ln (j + 1) (W, w.2) := by rw [hW]; exact tk_K_9 hK (by omega)
    have FW : tk_CL [150] l w (W, w.2) := by rw [hW]; exact tk_CL_2 tk_CL_r (by decide) (by decide)
    have TW : ∀ t, ¬ t = 2 → W t = w.1 t := fun t ht => by rw [hW]; (try dsimp only); rw [am_up_t ht]
    have e9 : W 2 0 9 = ((j + 1 : Nat) : Int) := KW.1
    have e8 : W 2 0 8 = (L.length : Int) := KW.2.1
    refine bX8_readOptions_0 ?_
    (try dsimp only); rw [ec, h9, am_w_id (z := (j : Int) + 1) (by unfold am_rg; omega), ← hW, e9, e8, h8, Int.toNat_natCast]
    refine ⟨fun y => out (fun x => ?_), fun y => ⟨fun _ _ _ => by omega, fun _ _ _ => by omega, out, fun y44 => ⟨fun _ _ _ => by omega, fun _ _ _ => by omega, fun n7 hn7 => ?_⟩⟩⟩
    · have := (tk_cd46 (B := B)).mpr (by omega : L.length ≤ j)
      omega
    rw [tk_cy (p := j + 1) (by omega) rfl (tk_Kc hK (j + 1) (by omega))] at hn7
    subst hn7
    rw [if_pos y44] at E
    refine ⟨fun c => ?_, fun c => ?_⟩
    · have k : 25 ≤ tk_cd L B (j + 1) ∧ tk_cd L B (j + 1) ≤ 28 := by omega
      rw [if_neg (fun z => z k)] at E
      (try dsimp only); rw [am_w_id (z := tk_cd L B (j + 1) - 25) (by unfold am_rg; omega)]
      obtain ⟨q1, b15, pc1, -⟩ := tk_fl (o := tk_cd L B (j + 1) - 25) h2 (by omega)
      have w10 : W 10 l 10 = (rr : Int) + 1 := by rw [TW 10 (by decide)]; exact h10
      have w150 : W 150 l rr = fl := by rw [TW 150 (by decide)]; exact h150
      refine am_M_of (by decide) (Nat.le_of_ble_eq_true rfl) ?_
      refine bX3_addOption_0 ?_
      try dsimp only
      (try dsimp only); rw [w10, show (rr : Int) + 1 - 1 = (rr : Int) by omega, am_w_id (z := (rr : Int)) (by unfold am_rg; omega), Int.toNat_natCast, w150]
      refine ⟨by omega, by omega, fun z => ?_, fun z => ?_⟩
      · have s := q1.mp z
        rw [if_neg s] at E
        have pc2 := pc1 s
        obtain ⟨V, hV⟩ : ∃ V : am_W, V = (am_up W 150 l rr (am_or fl (am_shl 1 (tk_cd L B (j + 1) - 25))), w.2) := ⟨_, rfl⟩
        have eV : V.1 = am_up W 150 l rr (am_or fl (am_shl 1 (tk_cd L B (j + 1) - 25))) := by rw [hV]
        (try dsimp only); rw [← hV]
        have FV : tk_CL [150] l w V := by rw [hV]; exact tk_CL_u (b := (_, _)) FW (by decide) (by decide)
        have v9 : V.1 2 0 9 = ((j + 1 : Nat) : Int) := by rw [eV, am_up_t (by decide)]; exact e9
        have KV : tk_K L B ln (j + 1) V := tk_K_f hK FV ⟨by decide, by decide⟩ v9 (fun k q => by rw [eV, am_up_t (by decide), hW, am_up_k (fun e : k = 9 => by rw [e] at q; revert q; decide)])
        have V150 : ∀ a, ¬ a = rr → V.1 150 l a = w.1 150 l a := fun a ha => by rw [eV, am_up_k ha, TW 150 (by decide)]
        have V150r : V.1 150 l rr = am_or fl (am_shl 1 (tk_cd L B (j + 1) - 25)) := by rw [eV, am_up_s]
        have V10 : V.1 10 l 10 = (rr : Int) + 1 := by rw [eV, am_up_t (by decide)]; exact w10
        refine bX8_readOptions_64 ⟨fun _ => ?_, fun y => absurd y (by decide)⟩
        try dsimp only
        (try dsimp only); rw [v9, am_w_id (z := ((j + 1 : Nat) : Int) + 1) (by unfold am_rg; omega)]
        have KU : tk_K L B ln (j + 2) (am_up V.1 2 0 9 (((j + 1 : Nat) : Int) + 1), V.2) := tk_K_9 KV (by omega)
        have FU : tk_CL [150] l w (am_up V.1 2 0 9 (((j + 1 : Nat) : Int) + 1), V.2) := tk_CL_2 FV (by decide) (by decide)
        have TU : ∀ t, ¬ t = 2 → (am_up V.1 2 0 9 (((j + 1 : Nat) : Int) + 1)) t = V.1 t := fun t ht => am_up_t ht
        refine ⟨fun n25 => bX8_readOptions_100 ?_, fun y25 => ?_⟩
        · rw [if_neg n25] at E
          rw [E] at K
          refine tk_col hr f _ (j + 2) _ (by omega) b15 (by omega) KU (by dsimp only; rw [TU 10 (by decide)]; exact V10) (by dsimp only; rw [TU 150 (by decide)]; exact V150r) (fun v w' F' a' o' => K v w' (tk_CL_t FU F') (fun a ha => ?_) o')
          (try dsimp only); rw [a' a ha]
          dsimp only
          (try dsimp only); rw [TU 150 (by decide)]; exact V150 a ha
        · rw [if_pos y25] at E
          refine pX8_expect (d := d) KU (by omega) (fun w' f' c' k' => bX8_readOptions_95 ⟨fun _ => bX8_readOptions_100 ?_, fun z => absurd z (by decide)⟩) (fun w' f' c' g' => bX8_readOptions_95 ⟨fun z => absurd rfl z, fun _ => ?_⟩)
          · rw [if_pos c'] at E
            rw [E] at K
            have F' := tk_CL_t FU (f' [150] l (by decide))
            refine tk_col hr f _ (j + 3) w' (by omega) b15 (by omega) k' (by rw [tk_CLx (ts := []) (l := 0) f' 10 (by decide)]; dsimp only; rw [TU 10 (by decide)]; exact V10) (by rw [tk_CLx (ts := []) (l := 0) f' 150 (by decide)]; dsimp only; rw [TU 150 (by decide)]; exact V150r) (fun v w'' F'' a' o' => K v w'' (tk_CL_t F' F'') (fun a ha => ?_) o')
            (try dsimp only); rw [a' a ha, tk_CLx (ts := []) (l := 0) f' 150 (by decide)]
            dsimp only
            (try dsimp only); rw [TU 150 (by decide)]; exact V150 a ha
          · rw [if_neg c'] at E
            rw [E] at K
            refine K 0 w' (tk_CL_t FU (f' _ _ (by decide))) (fun a ha => ?_) (Or.inr ⟨rfl, by show ¬ (2 : Int) = 0; decide, ?_⟩)
            · (try dsimp only); rw [tk_CLx (ts := []) (l := 0) f' 150 (by decide)]
              dsimp only
              (try dsimp only); rw [TU 150 (by decide)]; exact V150 a ha
            · have := g'
              rw [show ((j + 2 : Nat) : Int) + 1 = (j : Int) + 3 by omega] at this
              exact this
      · have s : tk_bs fl (tk_cd L B (j + 1) - 25) := by
          apply Classical.byContradiction
          intro y
          exact z (q1.mpr y)
        rw [if_pos s] at E
        rw [E] at K
        have G := tk_fl1 (k := 5) KW (by omega) [150] l (by decide)
        refine bX8_readOptions_64 ⟨fun y => absurd rfl y, fun _ => K 0 _ (tk_CL_t FW G.1) (fun a ha => ?_) (Or.inr ⟨rfl, by show ¬ (5 : Int) = 0; decide, ?_⟩)⟩
        · dsimp only
          (try dsimp only); rw [am_up_t (by decide), am_up_t (by decide), am_up_t (by decide)]
          show W 150 l a = _
          (try dsimp only); rw [TW 150 (by decide)]
        · have := G.2
          rw [show ((j + 1 : Nat) : Int) + 1 = (j : Int) + 2 by omega] at this
          exact this
    · have k : ¬ (25 ≤ tk_cd L B (j + 1) ∧ tk_cd L B (j + 1) ≤ 28) := fun z => c (by omega)
      rw [if_pos k] at E
      rw [E] at K
      have G := tk_fl1 (k := 2) KW (by omega) [150] l (by decide)
      refine K 0 _ (tk_CL_t FW G.1) (fun a ha => ?_) (Or.inr ⟨rfl, by show ¬ (2 : Int) = 0; decide, ?_⟩)
      · dsimp only
        (try dsimp only); rw [am_up_t (by decide), am_up_t (by decide), am_up_t (by decide), TW 150 (by decide)]
      · have := G.2
        rw [show ((j + 1 : Nat) : Int) + 1 = (j : Int) + 2 by omega] at this
        exact this
