-- the class's rule, whole; what a line makes of the law
variable {SC : Nat → Nat} {X : mh_X} {r : Option am_I} {L : List (Nat × Nat)} {B : Nat → Int} {ln : Int}
theorem tk_po_b {c : Nat → Int} : ∀ {f : Nat} {fl : Int} {j : Nat}, (0 ≤ fl ∧ fl ≤ 15) → (tk_po c f fl j).1.2 = 0 → 0 ≤ (tk_po c f fl j).2 ∧ (tk_po c f fl j).2 ≤ 15
  | 0, fl, j, h, _ => h
  | f + 1, fl, j, h, hz => by
    rw [tk_po1] at hz ⊢
    by_cases c1 : c j = 44
    · rw [if_pos c1] at hz ⊢
      by_cases c2 : ¬ (25 ≤ c (j + 1) ∧ c (j + 1) ≤ 28)
      · rw [if_pos c2] at hz; exact absurd hz (by dsimp only; decide)
      rw [if_neg c2] at hz ⊢
      by_cases c3 : tk_bs fl (c (j + 1) - 25)
      · rw [if_pos c3] at hz; exact absurd hz (by dsimp only; decide)
      rw [if_neg c3] at hz ⊢
      have b15 := (tk_fl (o := c (j + 1) - 25) h (by omega)).2.1
      by_cases c4 : c (j + 1) = 25
      · rw [if_pos c4] at hz ⊢
        by_cases c5 : c (j + 2) = 29
        · rw [if_pos c5] at hz ⊢; exact tk_po_b b15 hz
        · rw [if_neg c5] at hz; exact absurd hz (by dsimp only; decide)
      · rw [if_neg c4] at hz ⊢; exact tk_po_b b15 hz
    · rw [if_neg c1] at hz ⊢
      by_cases c2 : c j = 46
      · rw [if_pos c2]; exact h
      · rw [if_neg c2] at hz; exact absurd hz (by dsimp only; decide)
/-- a rule without a fault: its bounds -/
theorem tk_ru_b {c v : Nat → Int} {rr : Nat} (h : (tk_ru c v rr).2 = 0) : ¬ rr = 30 ∧ ((1 ≤ tk_rn c ∧ tk_rn c ≤ 4) ∧ ∀ i, i < tk_rn c → 0 ≤ c (2 * i + 1) ∧ c (2 * i + 1) ≤ 11) ∧ ((1 ≤ tk_rm c v ∧ tk_rm c v ≤ 4) ∧ ∀ i, i < tk_rm c v → tk_pok c v (2 * tk_rn c + 1) i) ∧ 0 ≤ (tk_ro c v).2 ∧ (tk_ro c v).2 ≤ 15 := by
  rw [tk_ru1] at h
  by_cases c1 : rr = 30
  · rw [if_pos c1] at h; exact absurd h (by dsimp only; decide)
  rw [if_neg c1] at h
  by_cases c2 : ¬ (tk_pk c 5 0).1.2 = 0
  · rw [if_pos c2] at h; exact absurd h c2
  rw [if_neg c2] at h
  by_cases c3 : ¬ c (2 * tk_rn c) = 42
  · rw [if_pos c3] at h; exact absurd h (by dsimp only; decide)
  rw [if_neg c3] at h
  by_cases c4 : ¬ (tk_pp c v (2 * tk_rn c + 1) 5 0).1.2 = 0
  · rw [if_pos c4] at h; exact absurd h c4
  rw [if_neg c4] at h
  exact ⟨c1, tk_pk_b (f := 5) (n := 0) rfl (Classical.not_not.mp c2) (fun i hi => absurd hi (Nat.not_lt_zero i)) (by decide), tk_pp_b (f := 5) (m := 0) rfl (Classical.not_not.mp c4) (fun i hi => absurd hi (Nat.not_lt_zero i)) (by decide), tk_po_b ⟨by decide, by decide⟩ h⟩
def tk_rt : List Nat := [10, 144, 145, 146, 147, 148, 149, 150]
/-- what a rule's line keeps in the class -/
def tk_RF (l rr : Nat) (w w' : am_W) : Prop := tk_CL tk_rt l w w' ∧ (∀ k, ¬ k = 10 → w'.1 10 l k = w.1 10 l k) ∧ (∀ a, ¬ a = rr → w'.1 144 l a = w.1 144 l a ∧ w'.1 146 l a = w.1 146 l a ∧ w'.1 150 l a = w.1 150 l a) ∧ ∀ k, k < rr * 4 → w'.1 145 l k = w.1 145 l k ∧ w'.1 147 l k = w.1 147 l k ∧ w'.1 148 l k = w.1 148 l k ∧ w'.1 149 l k = w.1 149 l k
theorem tk_RF_t {l rr : Nat} {a b c : am_W} (h : tk_RF l rr a b) (g : tk_RF l rr b c) : tk_RF l rr a c := by
  refine ⟨tk_CL_t h.1 g.1, fun k q => (g.2.1 k q).trans (h.2.1 k q), fun k q => ?_, fun k q => ?_⟩
  · obtain ⟨a1, a2, a3⟩ := h.2.2.1 k q
    obtain ⟨b1, b2, b3⟩ := g.2.2.1 k q
    exact ⟨b1.trans a1, b2.trans a2, b3.trans a3⟩
  · obtain ⟨a1, a2, a3, a4⟩ := h.2.2.2 k q
    obtain ⟨b1, b2, b3, b4⟩ := g.2.2.2 k q
    exact ⟨b1.trans a1, b2.trans a2, b3.trans a3, b4.trans a4⟩
theorem pX8_readRule {d kc ks : Nat} {Q : Option am_V → am_W → Prop} {w : am_W} {l rr : Nat} (hK : tk_K L B ln 0 w) (hr : rr ≤ 30) (h10 : w.1 10 l 10 = (rr : Int))
    (K : ∀ (v : Int) (w' : am_W), tk_RF l rr w w' → ((v = 1 ∧ (tk_ru (tk_cd L B) (tk_vl L B) rr).2 = 0 ∧ w'.1 10 l 10 = (rr : Int) + 1 ∧ tk_dw L B l rr (tk_rn (tk_cd L B)) w' ∧ tk_dp L B l rr (2 * tk_rn (tk_cd L B) + 1) (tk_rm (tk_cd L B) (tk_vl L B)) w' ∧ w'.1 150 l rr = (tk_ro (tk_cd L B) (tk_vl L B)).2 ∧ tk_Z w') ∨
      (v = 0 ∧ ¬ (tk_ru (tk_cd L B) (tk_vl L B) rr).2 = 0 ∧ tk_G ln (tk_ru (tk_cd L B) (tk_vl L B) rr).1 (tk_ru (tk_cd L B) (tk_vl L B) rr).2 w')) → Q (some (.inl v)) w') :
    am_M (mh_G X) SC (d + 5) kc ks mX8_readRule [.inr (.inr (some (2, 0))), .inr (.inr (some (10, l)))] w Q := by
  have E := tk_ru1 (c := tk_cd L B) (v := tk_vl L B) (rr := rr)
  refine am_M_of (by decide) (Nat.le_of_ble_eq_true rfl) ?_
  refine bX8_readRule_0 ?_
  rw [h10, Int.toNat_natCast]
  refine ⟨fun c => ⟨by omega, by omega, ?_⟩, fun c => ?_⟩
  · have hr2 : rr < 30 := by omega
    rw [if_neg (by omega : ¬ rr = 30)] at E
    rw [am_w_id (z := (rr : Int) + 1) (by unfold am_rg; omega)]
    obtain ⟨w0, hw0⟩ : ∃ w0 : am_W, w0 = (am_up (am_up (am_up (am_up w.1 144 l rr 0) 146 l rr 0) 150 l rr 0) 10 l 10 ((rr : Int) + 1), w.2) := ⟨_, rfl⟩
    have e0 : w0.1 = am_up (am_up (am_up (am_up w.1 144 l rr 0) 146 l rr 0) 150 l rr 0) 10 l 10 ((rr : Int) + 1) := by rw [hw0]
    have F0 : tk_RF l rr w w0 := by
      refine ⟨?_, fun k hk => ?_, fun a ha => ?_, fun k hk => ?_⟩
      · rw [hw0]
        exact tk_CL_u (b := (_, _)) (tk_CL_u (b := (_, _)) (tk_CL_u (b := (_, _)) (tk_CL_u tk_CL_r (by decide) (by decide)) (by decide) (by decide)) (by decide) (by decide)) (by decide) (by decide)
      · rw [e0, am_up_k hk, am_up_t (by decide), am_up_t (by decide), am_up_t (by decide)]
      · rw [e0]
        simp (disch := decide) only [am_up_t, am_up_a, if_neg ha]
        exact ⟨trivial, trivial, trivial⟩
      · rw [e0]
        simp (disch := decide) only [am_up_t]
        exact ⟨trivial, trivial, trivial, trivial⟩
    have c10 : w0.1 10 l 10 = (rr : Int) + 1 := by rw [e0, am_up_s]
    have c144 : w0.1 144 l rr = ((0 : Nat) : Int) := by rw [e0, am_up_t (by decide), am_up_t (by decide), am_up_t (by decide), am_up_s]; rfl
    have c146 : w0.1 146 l rr = ((0 : Nat) : Int) := by rw [e0, am_up_t (by decide), am_up_t (by decide), am_up_s]; rfl
    have c150 : w0.1 150 l rr = 0 := by rw [e0, am_up_t (by decide), am_up_s]
    have K0 : tk_K L B ln (2 * 0) w0 := tk_K_f hK F0.1 ⟨by decide, by decide⟩ (by rw [e0, am_up_t (by decide), am_up_t (by decide), am_up_t (by decide), am_up_t (by decide)]; exact hK.1) (fun k q => by rw [e0, am_up_t (by decide), am_up_t (by decide), am_up_t (by decide), am_up_t (by decide)])
    rw [← hw0]
    refine am_M_of (by decide) (Nat.le_of_ble_eq_true rfl) ?_
    refine tk_ckl (d := d + 2) hr2 5 0 w0 rfl (by decide) K0 c10 ⟨c144, fun i hi => absurd hi (Nat.not_lt_zero i)⟩ (fun v1 w1 f1 a1 b1 o1 => bX8_readRule_23 ?_)
    have G1 : tk_RF l rr w0 w1 := by
      refine ⟨tk_CL_m f1 (by decide) (by decide), fun k _ => by rw [f1.1 10 (by decide) (by decide)], fun a ha => ⟨a1 a ha, by rw [f1.1 146 (by decide) (by decide)], by rw [f1.1 150 (by decide) (by decide)]⟩, fun k hk => ⟨b1 k hk, by rw [f1.1 147 (by decide) (by decide)], by rw [f1.1 148 (by decide) (by decide)], by rw [f1.1 149 (by decide) (by decide)]⟩⟩
    have H1 := tk_RF_t F0 G1
    rcases o1 with ⟨v1e, z1, z2, k1, d1⟩ | ⟨v1e, al⟩
    · subst v1e
      rw [if_neg (fun y => y z1)] at E
      have col : tk_cd L B (2 * tk_rn (tk_cd L B)) = 42 := z2
      rw [if_neg (fun y => y col)] at E
      have nb := (tk_pk_b (f := 5) (n := 0) rfl z1 (fun i hi => absurd hi (Nat.not_lt_zero i)) (by decide)).1
      have nle : tk_rn (tk_cd L B) ≤ 4 := nb.2
      have k1' : tk_K L B ln (2 * tk_rn (tk_cd L B)) w1 := k1
      have d1' : tk_dw L B l rr (tk_rn (tk_cd L B)) w1 := d1
      have e146 : w1.1 146 l rr = ((0 : Nat) : Int) := by rw [f1.1 146 (by decide) (by decide)]; exact c146
      have e150 : w1.1 150 l rr = 0 := by rw [f1.1 150 (by decide) (by decide)]; exact c150
      have e10 : w1.1 10 l 10 = (rr : Int) + 1 := by rw [f1.1 10 (by decide) (by decide)]; exact c10
      refine ⟨fun y => absurd y (by decide), fun _ => ?_⟩
      refine am_M_of (by decide) (Nat.le_of_ble_eq_true rfl) ?_
      refine tk_cpl (d := d) (s := 2 * tk_rn (tk_cd L B) + 1) hr2 (by omega) 5 0 w1 (2 * tk_rn (tk_cd L B)) rfl (by decide) (by omega) k1' e10 ⟨e146, fun i hi => absurd hi (Nat.not_lt_zero i)⟩ (fun v2 w2 f2 a2 b2 o2 => bX8_readRule_31 ?_)
      have G2 : tk_RF l rr w1 w2 := by
        refine ⟨tk_CL_m f2 (by decide) (by decide), fun k _ => by rw [f2.1 10 (by decide) (by decide)], fun a ha => ⟨by rw [f2.1 144 (by decide) (by decide)], a2 a ha, by rw [f2.1 150 (by decide) (by decide)]⟩, fun k hk => ⟨by rw [f2.1 145 (by decide) (by decide)], b2 k hk⟩⟩
      have H2 := tk_RF_t H1 G2
      rcases o2 with ⟨v2e, y1, k2, d2⟩ | ⟨v2e, y1, g2⟩
      · subst v2e
        rw [if_neg (fun y => y y1)] at E
        have mb := (tk_pp_b (f := 5) (m := 0) rfl y1 (fun i hi => absurd hi (Nat.not_lt_zero i)) (by decide)).1
        have mle : tk_rm (tk_cd L B) (tk_vl L B) ≤ 4 := mb.2
        have k2' : tk_K L B ln (2 * tk_rn (tk_cd L B) + 4 * tk_rm (tk_cd L B) (tk_vl L B)) w2 := k2 _ (by show 2 * tk_rn (tk_cd L B) + 4 * tk_rm (tk_cd L B) (tk_vl L B) + 1 = 2 * tk_rn (tk_cd L B) + 1 + 4 * tk_rm (tk_cd L B) (tk_vl L B); omega)
        have d2' : tk_dp L B l rr (2 * tk_rn (tk_cd L B) + 1) (tk_rm (tk_cd L B) (tk_vl L B)) w2 := d2
        have g150 : w2.1 150 l rr = 0 := by rw [f2.1 150 (by decide) (by decide)]; exact e150
        have g10 : w2.1 10 l 10 = (rr : Int) + 1 := by rw [f2.1 10 (by decide) (by decide)]; exact e10
        refine ⟨fun y => absurd y (by decide), fun _ => ?_⟩
        refine am_M_of (by decide) (Nat.le_of_ble_eq_true rfl) ?_
        refine tk_col (d := d + 1) hr2 5 0 _ w2 (by decide) ⟨by decide, by decide⟩ (by omega) k2' g10 g150 (fun v3 w3 f3 a3 o3 => bX8_readRule_39 ?_)
        have G3 : tk_RF l rr w2 w3 := by
          refine ⟨tk_CL_m f3 (by decide) (by decide), fun k _ => by rw [f3.1 10 (by decide) (by decide)], fun a ha => ⟨by rw [f3.1 144 (by decide) (by decide)], by rw [f3.1 146 (by decide) (by decide)], a3 a ha⟩, fun k hk => by rw [f3.1 145 (by decide) (by decide), f3.1 147 (by decide) (by decide), f3.1 148 (by decide) (by decide), f3.1 149 (by decide) (by decide)]; exact ⟨rfl, rfl, rfl, rfl⟩⟩
        have H3 := tk_RF_t H2 G3
        rcases o3 with ⟨v3e, x1, x2, x3⟩ | ⟨v3e, x1, g3⟩
        · subst v3e
          refine ⟨fun y => absurd y (by decide), fun _ => K 1 w3 H3 (Or.inl ⟨rfl, by rw [E]; exact x1, ?_, ?_, ?_, x2, x3⟩)⟩
          · rw [f3.1 10 (by decide) (by decide)]; exact g10
          · unfold tk_dw at d1' ⊢
            rw [f3.1 144 (by decide) (by decide), f3.1 145 (by decide) (by decide), f2.1 144 (by decide) (by decide), f2.1 145 (by decide) (by decide)]
            exact d1'
          · unfold tk_dp at d2' ⊢
            rw [f3.1 146 (by decide) (by decide), f3.1 147 (by decide) (by decide), f3.1 148 (by decide) (by decide), f3.1 149 (by decide) (by decide)]
            exact d2'
        · subst v3e
          refine ⟨fun _ => K 0 w3 H3 (Or.inr ⟨rfl, by rw [E]; exact x1, by rw [E]; exact g3⟩), fun y => absurd rfl y⟩
      · subst v2e
        rw [if_pos y1] at E
        refine ⟨fun _ => K 0 w2 H2 (Or.inr ⟨rfl, by rw [E]; exact y1, by rw [E]; exact g2⟩), fun y => absurd rfl y⟩
    · subst v1e
      refine ⟨fun _ => K 0 w1 H1 (Or.inr ⟨rfl, ?_⟩), fun y => absurd rfl y⟩
      rcases al with ⟨z1, g1⟩ | ⟨z1, z2, g1⟩
      · rw [if_pos z1] at E
        rw [E]
        exact ⟨z1, g1⟩
      · have z2' : ¬ tk_cd L B (2 * tk_rn (tk_cd L B)) = 42 := z2
        rw [if_neg (fun y => y z1), if_pos z2'] at E
        rw [E]
        exact ⟨by dsimp only; decide, g1⟩
  · rw [if_pos (by omega : rr = 30)] at E
    have G := tk_fl1 (k := 6) hK (by decide) tk_rt l (by decide)
    refine K 0 _ ⟨G.1, fun k _ => ?_, fun a _ => ?_, fun k _ => ?_⟩ (Or.inr ⟨rfl, by rw [E]; dsimp only; decide, by rw [E]; exact G.2⟩)
    · dsimp only; rw [am_up_t (by decide), am_up_t (by decide), am_up_t (by decide)]
    · dsimp only; rw [am_up_t (by decide), am_up_t (by decide), am_up_t (by decide), am_up_t (by decide), am_up_t (by decide), am_up_t (by decide), am_up_t (by decide), am_up_t (by decide), am_up_t (by decide)]; exact ⟨rfl, rfl, rfl⟩
    · dsimp only
      simp (disch := decide) only [am_up_t]
      exact ⟨trivial, trivial, trivial, trivial⟩
