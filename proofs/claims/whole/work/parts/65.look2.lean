-- lookAhead
variable {SC : Nat → Nat} {X : mh_X}
theorem mh_dyn_on {P : md_P} {t : Int} {W : Nat → Nat → Nat → Int} {e : Nat} (ok : md_ok P) (he : e < md_n P) (h : mh_dyn P t W e) : (W 11 e 7 = 0 ↔ ¬ md_S P t e = -1) ∧
    (¬ md_S P t e = -1 → W 11 e 9 = md_S P t e ∧ W 11 e 10 = (md_pt (md_cu P e) (md_S P t e) (md_np P e) : Int) ∧ md_pt (md_cu P e) (md_S P t e) (md_np P e) < md_np P e ∧ md_S P t e < md_cu P e (md_pt (md_cu P e) (md_S P t e) (md_np P e)) ∧ 0 ≤ md_S P t e) := by
  rcases h with ⟨a1, a2, a3, a4, a5⟩ | ⟨b1, b2, -⟩
  · have := md_pts ok t he a3
    exact ⟨⟨fun _ => a3, fun _ => a1⟩, fun _ => ⟨a2, a4, this.1, this.2.1, this.2.2⟩⟩
  · exact ⟨⟨fun z => by omega, fun z => absurd b2 z⟩, fun z => absurd b2 z⟩
theorem mh_ms_at {I : Nat → Nat → Nat → Int} {a e : Nat} {known t : Int} {W : Nat → Nat → Nat → Int} (ok : md_ok (mh_P I a known)) (he : e < md_n (mh_P I a known)) (h : mh_ms I a known W e) (hd : mh_dyn (mh_P I a known) t W e) (hs : ¬ md_S (mh_P I a known) t e = -1) :
    W 155 e (W 11 e 10).toNat = md_dp (mh_P I a known) e (md_S (mh_P I a known) t e) ∧ W 154 e (W 11 e 10).toNat = md_cu (mh_P I a known) e (md_pt (md_cu (mh_P I a known) e) (md_S (mh_P I a known) t e) (md_np (mh_P I a known) e)) ∧ 0 ≤ W 11 e 10 ∧ W 11 e 10 < 4 := by
  obtain ⟨q1, q2, q3, q4, q5⟩ := (mh_dyn_on ok he hd).2 hs
  have o := ok e he
  rw [q2, Int.toNat_natCast]
  have := h.2.2.2.2.2 _ q3
  exact ⟨this.2, this.1, by omega, by omega⟩
theorem pX4_lookAhead {d kc ks : Nat} {Q : Option am_V → am_W → Prop} {I : Nat → Nat → Nat → Int} {L : Nat → Nat → Nat → Int64} {a : Nat} {known t : Int} {w : am_W} (hC : mh_C I L) (hk : known < 2147483647) (ha : (a : Int) < I 5 0 18) (ht : -36524 ≤ t ∧ t ≤ 73048) (hM : mh_MS I a known t w)
    (K : ∀ w' : am_W, w'.2 = w.2 → (∀ t, ¬ t = 6 → w'.1 t = w.1 t) → mh_ML I a known t w' → Q none w') :
    am_M (mh_G X) SC (d + 2) kc ks mX4_lookAhead [.inr (.inr (some (6, 0)))] w Q := by
  obtain ⟨ok, -⟩ := mh_P_ok hC hk ha
  obtain ⟨J, R, RL, RN⟩ := hC
  have n40 : md_n (mh_P I a known) ≤ (I 5 0 18).toNat := mh_dl_n
  have p40 := R.1.2
  have m40 := R.2.1.2
  unfold mh_RN at RN
  have d0 := fun e (he : e < md_n (mh_P I a known)) => md_d0 ok t he
  have dm := mh_dmx (I := I) (a := a) (known := known) (t := t) (n := md_n (mh_P I a known)) (fun e he => (d0 e he).1)
  -- the last loop
  have C : ∀ (n e : Nat) (w2 : am_W), n + e = md_n (mh_P I a known) → w2.2 = w.2 → (∀ t, ¬ t = 6 → w2.1 t = w.1 t) → mh_MS I a known t w2 → w2.1 6 0 8 = md_mx (mh_df I a known t) (md_n (mh_P I a known)) → w2.1 6 0 9 = md_mx (mh_do2 I a known t) (md_n (mh_P I a known)) →
      (t < w2.1 6 0 7 ∧ w2.1 6 0 7 ≤ 73049 ∧ (∀ s, t < s → s < w2.1 6 0 7 → md_wd (mh_P I a known) s ≤ 0) ∧ ∀ e', e' < e → (t < md_b (mh_P I a known) e' → w2.1 6 0 7 ≤ md_b (mh_P I a known) e') ∧ (md_go (mh_P I a known) t e' → w2.1 6 0 7 ≤ t + (md_cu (mh_P I a known) e' (md_pt (md_cu (mh_P I a known) e') (md_S (mh_P I a known) t e') (md_np (mh_P I a known) e')) - md_S (mh_P I a known) t e'))) → (0 ≤ w2.1 6 0 7 ∨ mh_iw I a known (w2.1 6 0 7) (I 5 0 19).toNat = 1) →
      am_A (mh_G X) SC (d + 2) mX4_lookAhead Q 137 [(0, .inr (.inr (some (6, 0)))), (1, .inl (md_mx (md_d (mh_P I a known) t (md_S (mh_P I a known) t)) (md_n (mh_P I a known)))), (2, .inl (e : Int))] [] w2 kc ks := by
    intro n
    induction n with
    | zero =>
      intro e w2 hn g1 g2 g3 g4 g5 g6 g7
      refine bX4_lookAhead_137 ⟨fun _ => K w2 g1 g2 ⟨g3, ⟨g6.1, g6.2.2.1, fun e' he' => (g6.2.2.2 e' (by omega)).1, fun e' he' => (g6.2.2.2 e' (by omega)).2⟩, g6.2.1, g4, g5, g7⟩, fun c => absurd c (show ¬ ¬ w2.1 6 0 3 ≤ (e : Int) by rw [g3.2.1]; omega)⟩
    | succ n ih =>
      intro e w2 hn g1 g2 g3 g4 g5 g6 g7
      have he : e < md_n (mh_P I a known) := by omega
      obtain ⟨ms, dy⟩ := g3.2.2.2.2.2 e he
      have on := mh_dyn_on ok he dy
      have o := ok e he
      have keep : (∀ e', e' = e → (t < md_b (mh_P I a known) e' → w2.1 6 0 7 ≤ md_b (mh_P I a known) e') ∧ (md_go (mh_P I a known) t e' → w2.1 6 0 7 ≤ t + (md_cu (mh_P I a known) e' (md_pt (md_cu (mh_P I a known) e') (md_S (mh_P I a known) t e') (md_np (mh_P I a known) e')) - md_S (mh_P I a known) t e'))) →
          am_A (mh_G X) SC (d + 2) mX4_lookAhead Q 216 [(0, .inr (.inr (some (6, 0)))), (1, .inl (md_mx (md_d (mh_P I a known) t (md_S (mh_P I a known) t)) (md_n (mh_P I a known)))), (2, .inl (e : Int))] [] w2 kc ks := by
        intro h
        refine bX4_lookAhead_216 ?_
        rw [am_w_id (z := (e : Int) + 1) (by unfold am_rg; omega)]
        refine ih (e + 1) w2 (by omega) g1 g2 g3 g4 g5 ⟨g6.1, g6.2.1, g6.2.2.1, fun e' he' => ?_⟩ g7
        by_cases z : e' = e
        · exact h e' z
        · exact g6.2.2.2 e' (by omega)
      have less : ∀ v, t < v → 0 ≤ v → (∀ e', e' = e → (t < md_b (mh_P I a known) e' → v ≤ md_b (mh_P I a known) e') ∧ (md_go (mh_P I a known) t e' → v ≤ t + (md_cu (mh_P I a known) e' (md_pt (md_cu (mh_P I a known) e') (md_S (mh_P I a known) t e') (md_np (mh_P I a known) e')) - md_S (mh_P I a known) t e'))) →
          am_A (mh_G X) SC (d + 2) mX4_lookAhead Q 216 [(0, .inr (.inr (some (6, 0)))), (1, .inl (md_mx (md_d (mh_P I a known) t (md_S (mh_P I a known) t)) (md_n (mh_P I a known)))), (2, .inl (e : Int))] [] (am_up w2.1 6 0 7 (min (w2.1 6 0 7) v), w2.2) kc ks := by
        intro v hv hv0 h
        refine bX4_lookAhead_216 ?_
        rw [am_w_id (z := (e : Int) + 1) (by unfold am_rg; omega)]
        refine ih (e + 1) _ (by omega) g1 (fun t ht => ?_) (mh_MS_6 g3 (by decide)) ?_ ?_ ?_ ?_
        · show am_up _ _ _ _ _ t = _
          rw [am_up_t ht]; exact g2 t ht
        · simp (disch := decide) only [am_up_k]; exact g4
        · simp (disch := decide) only [am_up_k]; exact g5
        · simp only [am_up_s]
          refine ⟨by omega, by omega, fun s s1 s2 => g6.2.2.1 s s1 (by omega), fun e' he' => ?_⟩
          by_cases z : e' = e
          · have := h e' z
            exact ⟨fun y => by have := this.1 y; omega, fun y => by have := this.2 y; omega⟩
          · have := g6.2.2.2 e' (by omega)
            exact ⟨fun y => by have := this.1 y; omega, fun y => by have := this.2 y; omega⟩
        · simp only [am_up_s]
          by_cases z : 0 ≤ w2.1 6 0 7
          · exact Or.inl (by omega)
          · rw [Int.min_eq_left (by omega)]; exact g7
      refine bX4_lookAhead_137 ⟨fun c => absurd c (show ¬ w2.1 6 0 3 ≤ (e : Int) by rw [g3.2.1]; omega), fun _ => ⟨by omega, by omega, ?_⟩⟩
      rw [Int.toNat_natCast, g3.2.2.2.2.1, ms.2.2.1, ms.2.2.2.1]
      refine ⟨fun c => ⟨fun c2 => keep (fun e' ee => ?_), fun c2 => ?_⟩, fun c => less _ (by omega) o.1 (fun e' ee => ?_)⟩
      · subst ee
        exact ⟨fun y => by omega, fun y => absurd (on.1.mpr y.1) c2⟩
      · have hs := on.1.mp c2
        obtain ⟨a1, a2, a3, a4⟩ := mh_ms_at ok he ms dy hs
        obtain ⟨q1, q2, q3, q4, q5⟩ := on.2 hs
        rw [a1, a2, q1]
        refine ⟨fun _ => a3, fun _ => a4, fun c3 => keep (fun e' ee => ?_), fun c3 => ⟨a3, a4, ?_⟩⟩
        · subst ee
          exact ⟨fun y => by omega, fun y => absurd y.2.2 c3⟩
        · have cub := o.2.2.2.2.2 _ q3
          rw [am_w_id (z := md_cu (mh_P I a known) e (md_pt (md_cu (mh_P I a known) e) (md_S (mh_P I a known) t e) (md_np (mh_P I a known) e)) - md_S (mh_P I a known) t e) (by unfold am_rg; omega), am_w_id (by unfold am_rg; omega)]
          have ob := o.1
          refine less _ (by omega) (by omega) (fun e' ee => ?_)
          subst ee
          exact ⟨fun y => by omega, fun _ => Int.le_refl _⟩
      · subst ee
        exact ⟨fun _ => Int.le_refl _, fun y => by have := y.2.1; omega⟩
  -- the first loop
  have A : ∀ (n e : Nat) (w2 : am_W), n + e = md_n (mh_P I a known) → w2.2 = w.2 → (∀ t, ¬ t = 6 → w2.1 t = w.1 t) → mh_MS I a known t w2 → w2.1 6 0 8 = md_mx (mh_df I a known t) e → w2.1 6 0 9 = md_mx (mh_do2 I a known t) e →
      am_A (mh_G X) SC (d + 2) mX4_lookAhead Q 12 [(0, .inr (.inr (some (6, 0)))), (1, .inl (e : Int))] [] w2 kc ks := by
    intro n
    induction n with
    | zero =>
      intro e w2 hn g1 g2 g3 g4 g5
      obtain rfl : e = md_n (mh_P I a known) := by omega
      refine bX4_lookAhead_12 ⟨fun _ => ?_, fun c => absurd c (show ¬ ¬ w2.1 6 0 3 ≤ (md_n (mh_P I a known) : Int) by rw [g3.2.1]; omega)⟩
      rw [g3.2.2.1, g3.2.2.2.1, g3.2.2.2.2.1, g4, g5, dm.1]
      refine pX2_nextW (I := I) m40 (by omega) (fun k hk => by have := R.2.2.2.2 k hk; omega) (mh_wI_ft g3.1) (fun v v1 v2 v3 v4 => ?_)
      refine bX4_lookAhead_129 ?_
      refine C (md_n (mh_P I a known)) 0 _ rfl g1 (fun t ht => ?_) (mh_MS_6 g3 (by decide)) ?_ ?_ ?_ ?_
      · show am_up _ _ _ _ _ t = _
        rw [am_up_t ht]; exact g2 t ht
      · simp (disch := decide) only [am_up_k]; exact g4
      · simp (disch := decide) only [am_up_k]; exact g5
      · simp only [am_up_s]
        refine ⟨by omega, by omega, fun s s1 s2 => ?_, fun e' he' => absurd he' (Nat.not_lt_zero e')⟩
        show mh_wf I a known s ≤ 0
        unfold mh_wf
        rw [v3 s s1 (by omega), if_neg (fun z => absurd z.1 (by decide))]
        exact Int.le_refl _
      · simp only [am_up_s]
        rcases v4 with z | z
        · exact Or.inl (by omega)
        · by_cases y : v ≤ 73049
          · rw [Int.min_eq_right y]; exact Or.inr z
          · exact Or.inl (by omega)
    | succ n ih =>
      intro e w2 hn g1 g2 g3 g4 g5
      have he : e < md_n (mh_P I a known) := by omega
      obtain ⟨ms, dy⟩ := g3.2.2.2.2.2 e he
      have on := mh_dyn_on ok he dy
      have de := d0 e he
      have mx8 : md_mx (mh_df I a known t) (e + 1) = max (md_mx (mh_df I a known t) e) (mh_df I a known t e) := rfl
      have mx9 : md_mx (mh_do2 I a known t) (e + 1) = max (md_mx (mh_do2 I a known t) e) (mh_do2 I a known t e) := rfl
      have dme := mh_dmx (I := I) (a := a) (known := known) (t := t) (n := e) (fun e' he' => (d0 e' (by omega)).1)
      have off : ¬ (w2.1 11 e 7 = 0 ∧ ¬ t < md_b (mh_P I a known) e) → md_d (mh_P I a known) t (md_S (mh_P I a known) t) e = 0 := by
        intro z
        unfold md_d
        rw [if_pos (Classical.byContradiction (fun y => z ⟨on.1.mpr (fun u => y (Or.inl u)), fun u => y (Or.inr u)⟩))]
      have next : ∀ w3 : am_W, w3.2 = w.2 → (∀ t, ¬ t = 6 → w3.1 t = w.1 t) → mh_MS I a known t w3 → w3.1 6 0 8 = md_mx (mh_df I a known t) (e + 1) → w3.1 6 0 9 = md_mx (mh_do2 I a known t) (e + 1) →
          am_A (mh_G X) SC (d + 2) mX4_lookAhead Q 89 [(0, .inr (.inr (some (6, 0)))), (1, .inl (e : Int))] [] w3 kc ks := by
        intro w3 k1 k2 k3 k4 k5
        refine bX4_lookAhead_89 ?_
        rw [am_w_id (z := (e : Int) + 1) (by unfold am_rg; omega)]
        exact ih (e + 1) w3 (by omega) k1 k2 k3 k4 k5
      have oth : (w2.1 11 e 6 = 0 ∨ ¬ (w2.1 11 e 7 = 0 ∧ ¬ t < md_b (mh_P I a known) e)) → am_A (mh_G X) SC (d + 2) mX4_lookAhead Q 63 [(0, .inr (.inr (some (6, 0)))), (1, .inl (e : Int)), (2, .inr (.inr (some (11, e))))] [] w2 kc ks := by
        intro hf
        refine bX4_lookAhead_63 ?_
        rw [g3.2.2.2.2.1, ms.2.2.1]
        refine ⟨fun c => ?_, fun c => ?_⟩
        · have z := off c
          refine next w2 g1 g2 g3 ?_ ?_
          · rw [g4, mx8]
            have : mh_df I a known t e = 0 := by unfold mh_df; rw [z]; split <;> rfl
            omega
          · rw [g5, mx9]
            have : mh_do2 I a known t e = 0 := by unfold mh_do2; rw [z]; split <;> rfl
            omega
        · have hs := on.1.mp c.1
          obtain ⟨a1, a2, a3, a4⟩ := mh_ms_at ok he ms dy hs
          have f0 : mh_fi I a known e = 0 := by
            rw [← ms.2.2.2.2.1]
            exact hf.resolve_right (fun z => z c)
          have dd : md_d (mh_P I a known) t (md_S (mh_P I a known) t) e = md_dp (mh_P I a known) e (md_S (mh_P I a known) t e) := by
            unfold md_d
            rw [if_neg (fun z => z.elim hs c.2)]
          refine ⟨a3, a4, ?_⟩
          rw [a1]
          refine next _ g1 (fun t ht => ?_) (mh_MS_6 g3 (by decide)) ?_ ?_
          · show am_up _ _ _ _ _ t = _
            rw [am_up_t ht]; exact g2 t ht
          · simp (disch := decide) only [am_up_k]
            rw [g4, mx8]
            have : mh_df I a known t e = 0 := by unfold mh_df; rw [if_pos f0]
            omega
          · simp only [am_up_s]
            rw [g5, mx9]
            have : mh_do2 I a known t e = md_dp (mh_P I a known) e (md_S (mh_P I a known) t e) := by unfold mh_do2; rw [if_pos f0, dd]
            rw [this]
      refine bX4_lookAhead_12 ⟨fun c => absurd c (show ¬ w2.1 6 0 3 ≤ (e : Int) by rw [g3.2.1]; omega), fun _ => ⟨by omega, by omega, ?_⟩⟩
      rw [Int.toNat_natCast, g3.2.2.2.2.1, ms.2.2.1]
      refine ⟨fun c => oth (Or.inr c), fun c => ⟨fun c2 => oth (Or.inl c2), fun c2 => ?_⟩⟩
      have hs := on.1.mp c.1
      obtain ⟨a1, a2, a3, a4⟩ := mh_ms_at ok he ms dy hs
      rw [ms.2.2.2.2.1] at c2
      have dd : md_d (mh_P I a known) t (md_S (mh_P I a known) t) e = md_dp (mh_P I a known) e (md_S (mh_P I a known) t e) := by
        unfold md_d
        rw [if_neg (fun z => z.elim hs c.2)]
      refine ⟨a3, a4, ?_⟩
      rw [a1]
      refine next _ g1 (fun t ht => ?_) (mh_MS_6 g3 (by decide)) ?_ ?_
      · show am_up _ _ _ _ _ t = _
        rw [am_up_t ht]; exact g2 t ht
      · simp only [am_up_s]
        rw [g4, mx8]
        have : mh_df I a known t e = md_dp (mh_P I a known) e (md_S (mh_P I a known) t e) := by unfold mh_df; rw [if_neg c2, dd]
        rw [this]
      · simp (disch := decide) only [am_up_k]
        rw [g5, mx9]
        have : mh_do2 I a known t e = 0 := by unfold mh_do2; rw [if_neg c2]
        omega
  refine am_M_of (by decide) (Nat.le_of_ble_eq_true rfl) ?_
  refine bX4_lookAhead_0 ?_
  refine A (md_n (mh_P I a known)) 0 _ rfl rfl (fun t ht => ?_) (mh_MS_6 (w := (am_up w.1 6 0 8 0, w.2)) (mh_MS_6 hM (by decide)) (by decide)) ?_ ?_
  · show am_up _ _ _ _ _ t = _
    rw [am_up_t ht, am_up_t ht]
  · simp (disch := decide) only [am_up_k, am_up_s]; rfl
  · simp only [am_up_s]; rfl
