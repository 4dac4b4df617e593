-- the class's search is pl_T
variable {SC : Nat → Nat} {X : mh_X}
def pl_XS (I : Nat → Nat → Nat → Int) (cnt : Nat) (P : pl_X) : Prop :=
  (pl_H P = I 7 0 10 ∧ 0 ≤ pl_H P ∧ pl_H P ≤ 4) ∧ (0 ≤ pl_D P ∧ pl_D P ≤ 1000) ∧ (∀ h, 0 ≤ pl_l P h ∧ pl_l P h ≤ 60) ∧ (∀ j, j < cnt → 0 ≤ pl_nd P j ∧ pl_nd P j ≤ 4) ∧ (∀ s, pl_cl P s = I 53 0 s ∧ 0 ≤ I 53 0 s ∧ I 53 0 s ≤ 999) ∧ (pl_lst P = fun s st tk => mh_ls I s st tk) ∧ cnt ≤ 5 ∧ (0 ≤ I 7 0 8 ∧ I 7 0 8 ≤ 40)
/-- the class's planner on its way: the first i have their ways, b is the best so far -/
def pl_PC (I : Nat → Nat → Nat → Int) (cnt : Nat) (P : pl_X) (i : Nat) (w d : Nat → Int) (tk : Nat → Bool) (us : Nat → Int) (b : pl_B) (W : am_W) : Prop :=
  (∀ t, t ∈ [7, 50, 51, 52, 53] → W.1 t = I t) ∧ (W.1 8 0 9 = (cnt : Int) ∧ W.1 8 0 10 = pl_D P) ∧ (∀ j, j < cnt → W.1 58 0 j = pl_sz P j ∧ W.1 59 0 j = pl_nd P j) ∧
  (∀ j, j < i → W.1 60 0 j = w j ∧ W.1 61 0 j = d j) ∧ (∀ s, s < 5 → W.1 64 0 s = us s ∧ 0 ≤ us s ∧ us s ≤ 999) ∧
  (∀ r, r ≤ i → ∀ h, h < 4 → W.1 65 0 (4 * r + h) = pl_L (pl_H P) (pl_l P) w r h) ∧ (∀ j, j < 40 → (mh_bt (W.2.1 8 0 12) j ↔ tk j = true)) ∧
  (W.1 8 0 11 = b.1 ∧ (b.1 < 2147483647 → ∀ j, j < cnt → W.1 62 0 j = b.2.1 j ∧ W.1 63 0 j = b.2.2 j))
def pl_fr (W W' : am_W) : Prop := (∀ t, t ∉ [8, 60, 61, 62, 63, 64, 65] → W'.1 t = W.1 t) ∧ (∀ t, ¬ t = 8 → W'.2.1 t = W.2.1 t)
theorem pl_fr_r {W : am_W} : pl_fr W W := ⟨fun _ _ => rfl, fun _ _ => rfl⟩
theorem pl_fr_t {W W' W'' : am_W} (h : pl_fr W W') (g : pl_fr W' W'') : pl_fr W W'' := ⟨fun t ht => (g.1 t ht).trans (h.1 t ht), fun t ht => (g.2 t ht).trans (h.2 t ht)⟩
theorem pl_fr_u {W W' : am_W} {t j k : Nat} {v : Int} (h : pl_fr W W') (ht : t ∈ [8, 60, 61, 62, 63, 64, 65]) : pl_fr W (am_up W'.1 t j k v, W'.2) := ⟨fun t' q => (am_up_t (fun e => q (by rw [e]; exact ht))).trans (h.1 t' q), h.2⟩
theorem pl_fr_l {W W' : am_W} {j k : Nat} {v : Int64} (h : pl_fr W W') : pl_fr W (W'.1, am_up W'.2.1 8 j k v, W'.2.2) := ⟨h.1, fun t q => (am_up_t q).trans (h.2 t q)⟩
/-- choose does as pl_T -/
def pl_CS (SC : Nat → Nat) (X : mh_X) (I : Nat → Nat → Nat → Int) (cnt : Nat) (P : pl_X) (n D : Nat) : Prop :=
  ∀ (i : Nat) (w d : Nat → Int) (tk : Nat → Bool) (us : Nat → Int) (b : pl_B) (W : am_W) (kc ks : Nat) (Q : Option am_V → am_W → Prop), n + i = cnt → pl_PC I cnt P i w d tk us b W → pl_fs (pl_H P) (pl_D P) (pl_l P) w i →
    (∀ W', pl_fr W W' → pl_PC I cnt P i w d tk us (pl_T P n i w d tk us b) W' → Q none W') → am_M (mh_G X) SC D kc ks mX7_choose [.inr (.inr (some (8, 0))), .inl (i : Int), .inl (pl_c w i)] W Q
theorem pX7_keep {d kc ks : Nat} {Q : Option am_V → am_W → Prop} {W : am_W} {c : Int} {cnt : Nat} (hc : W.1 8 0 9 = (cnt : Int)) (h5 : cnt ≤ 5)
    (K : ∀ W', (∀ t, t ∉ [8, 62, 63] → W'.1 t = W.1 t) → W'.2 = W.2 → (∀ k, ¬ k = 11 → W'.1 8 0 k = W.1 8 0 k) → W'.1 8 0 11 = c → (∀ j, j < cnt → W'.1 62 0 j = W.1 60 0 j ∧ W'.1 63 0 j = W.1 61 0 j) → Q none W') :
    am_M (mh_G X) SC (d + 1) kc ks mX7_keep [.inr (.inr (some (8, 0))), .inl c] W Q := by
  have B : ∀ (n k : Nat) (W' : am_W), n + k = cnt → (∀ t, t ∉ [8, 62, 63] → W'.1 t = W.1 t) → W'.2 = W.2 → (∀ k, ¬ k = 11 → W'.1 8 0 k = W.1 8 0 k) → W'.1 8 0 11 = c → (∀ j, j < k → W'.1 62 0 j = W.1 60 0 j ∧ W'.1 63 0 j = W.1 61 0 j) →
      am_A (mh_G X) SC (d + 1) mX7_keep Q 7 [(0, .inr (.inr (some (8, 0)))), (2, .inl (k : Int))] [] W' kc ks := by
    intro n
    induction n with
    | zero =>
      intro k W' hk f1 f2 f3 f4 f5
      have e9 := f3 9 (by decide)
      exact bX7_keep_7 ⟨fun _ => K W' f1 f2 f3 f4 (fun j hj => f5 j (by omega)), fun c => absurd (by omega) c⟩
    | succ n ih =>
      intro k W' hk f1 f2 f3 f4 f5
      have e9 := f3 9 (by decide)
      refine bX7_keep_7 ⟨fun c => absurd c (by omega), fun _ => ⟨by omega, by omega, ?_⟩⟩
      rw [am_w_id (z := (k : Int) + 1) (by unfold am_rg; omega), Int.toNat_natCast]
      refine ih (k + 1) _ (by omega) (fun t ht => ?_) f2 (fun k' hk' => ?_) ?_ (fun j hj => ?_)
      · show am_up (am_up _ _ _ _ _) _ _ _ _ t = _
        rw [am_up_t (fun e => ht (by rw [e]; decide)), am_up_t (fun e => ht (by rw [e]; decide))]
        exact f1 t ht
      · simp (disch := decide) only [am_up_t]; exact f3 k' hk'
      · simp (disch := decide) only [am_up_t]; exact f4
      · simp (disch := decide) only [am_up_t, am_up_a]
        rw [f1 60 (by decide), f1 61 (by decide)]
        by_cases e : j = k
        · rw [if_pos e, if_pos e, e]; exact ⟨rfl, rfl⟩
        · rw [if_neg e, if_neg e]; exact f5 j (by omega)
  refine am_M_of (by decide) (Nat.le_of_ble_eq_true rfl) ?_
  refine bX7_keep_0 (B cnt 0 _ rfl (fun t ht => am_up_t (fun e => ht (by rw [e]; decide))) rfl (fun k hk => am_up_k hk) (by simp only [am_up_s]) (fun j hj => absurd hj (Nat.not_lt_zero j)))
/-- a way is tried -/
theorem pX7_pick {I : Nat → Nat → Nat → Int} {cnt : Nat} {P : pl_X} {n D : Nat} (hX : pl_XS I cnt P) (IH : pl_CS SC X I cnt P n (D + 3)) {i : Nat} {w d : Nat → Int} {tk : Nat → Bool} {us : Nat → Int} {b : pl_B} {W : am_W} {kc ks : Nat} {Q : Option am_V → am_W → Prop} {how dr : Int}
    (hn : n + 1 + i = cnt) (hP : pl_PC I cnt P i w d tk us b W) (hf : pl_fs (pl_H P) (pl_D P) (pl_l P) w i) (hdr : dr = -1 ∨ (0 ≤ dr ∧ dr < 40))
    (K : ∀ W', pl_fr W W' → pl_PC I cnt P i w d tk us (pl_go (pl_T P n) i w d tk us how dr b) W' → Q none W') :
    am_M (mh_G X) SC (D + 4) kc ks mX7_pick [.inr (.inr (some (8, 0))), .inl (i : Int), .inl how, .inl dr, .inl (pl_c w i + pl_cw how)] W Q := by
  obtain ⟨⟨x1, x2, x3⟩, xD, xl, xn, xc, xs, x5, xd⟩ := hX
  obtain ⟨p1, ⟨p2, p3⟩, p4, p5, p6, p7, p8, p9⟩ := hP
  refine am_M_of (by decide) (Nat.le_of_ble_eq_true rfl) ?_
  refine bX7_pick_0 ?_
  refine pX7_isInTime (H := pl_H P) (D := pl_D P) (l := pl_l P) (w := w) (by omega) ⟨by rw [p1 7 (by decide)]; exact x1.symm, x2, x3⟩ p3 xl (p7 i (Nat.le_refl _)) (fun v W1 f1 f2 f3 v01 vok rows => ?_)
  have fr1 : pl_fr W W1 := ⟨fun t ht => f1 t (fun e => ht (by rw [e]; decide)), fun t _ => by rw [f2]⟩
  have P1 : pl_PC I cnt P i w d tk us b W1 := by
    refine ⟨fun t ht => ?_, ?_, fun j hj => ?_, fun j hj => ?_, fun s hs => ?_, fun r hr h hh => ?_, fun j hj => ?_, ?_⟩
    · rw [f1 t (fun e => by rw [e] at ht; revert ht; decide)]; exact p1 t ht
    · rw [f1 8 (by decide)]; exact ⟨p2, p3⟩
    · rw [f1 58 (by decide), f1 59 (by decide)]; exact p4 j hj
    · rw [f1 60 (by decide), f1 61 (by decide)]; exact p5 j hj
    · rw [f1 64 (by decide)]; exact p6 s hs
    · rw [f3 _ (by omega)]; exact p7 r hr h hh
    · rw [f2]; exact p8 j hj
    · rw [f1 8 (by decide), f1 62 (by decide), f1 63 (by decide)]; exact p9
  have cu := pl_c_u (w := w) (k := i) (v := how)
  refine bX7_pick_6 ⟨fun c => ⟨by omega, by omega, ?_⟩, fun c => ?_⟩
  · have v1 : v = 1 := by omega
    have okk := vok.mp v1
    have row := rows v1
    have fs1 : pl_fs (pl_H P) (pl_D P) (pl_l P) (pl_u w i how) (i + 1) := by
      intro j hj
      by_cases e : j = i
      · rw [e]; exact okk
      · exact (pl_ok_c (fun k hk => pl_uo (by omega))).mpr (hf j (by omega))
    have S : ∀ (W2 : am_W), (∀ t, t ∉ [60, 61] → W2.1 t = W1.1 t) → (∀ j, W2.1 60 0 j = if j = i then how else W1.1 60 0 j) → (∀ j, W2.1 61 0 j = if j = i then dr else W1.1 61 0 j) → (∀ t, ¬ t = 8 → W2.2.1 t = W1.2.1 t) → (∀ j, j < 40 → (mh_bt (W2.2.1 8 0 12) j ↔ pl_tk tk dr j = true)) →
        am_A (mh_G X) SC (D + 4) mX7_pick Q 47 [(0, .inr (.inr (some (8, 0)))), (1, .inl (i : Int)), (4, .inl (pl_c w i + pl_cw how)), (5, .inr (.inl (W1.2.1 8 0 12)))] [] W2 kc ks := by
      intro W2 g1 g2 g3 g4 g5
      refine bX7_pick_47 ?_
      rw [am_w_id (z := (i : Int) + 1) (by unfold am_rg; omega), ← cu]
      have N : pl_PC I cnt P (i + 1) (pl_u w i how) (pl_u d i dr) (pl_tk tk dr) us b W2 := by
        obtain ⟨q1, q2, q3, q4, q5, q6, q7, q8⟩ := P1
        refine ⟨fun t ht => ?_, ?_, fun j hj => ?_, fun j hj => ?_, fun s hs => ?_, fun r hr h hh => ?_, g5, ?_⟩
        · rw [g1 t (fun e => by revert e; revert ht; revert t; decide)]; exact q1 t ht
        · rw [g1 8 (by decide)]; exact q2
        · rw [g1 58 (by decide), g1 59 (by decide)]; exact q3 j hj
        · rw [g2, g3]
          unfold pl_u
          by_cases e : j = i
          · rw [if_pos e, if_pos e, if_pos e, if_pos e]; exact ⟨rfl, rfl⟩
          · rw [if_neg e, if_neg e, if_neg e, if_neg e]; exact q4 j (by omega)
        · rw [g1 64 (by decide)]; exact q5 s hs
        · rw [g1 65 (by decide)]
          by_cases e : r = i + 1
          · rw [e]; exact row h hh
          · rw [q6 r (by omega) h hh, pl_L_c (w := pl_u w i how) (w' := w) (fun j hj => pl_uo (by omega))]
        · rw [g1 8 (by decide), g1 62 (by decide), g1 63 (by decide)]; exact q8
      refine IH (i + 1) _ _ _ _ _ W2 0 0 _ (by omega) N fs1 (fun W3 f3' N3 => ?_)
      have fr2 : pl_fr W1 W2 := ⟨fun t ht => g1 t (fun e => ht (by clear ht; revert e; revert t; decide)), g4⟩
      refine bX7_pick_56 (K _ (pl_fr_l (pl_fr_t fr1 (pl_fr_t fr2 f3'))) ?_)
      obtain ⟨q1, q2, q3, q4, q5, q6, q7, q8⟩ := N3
      refine ⟨q1, q2, q3, fun j hj => ?_, q5, fun r hr h hh => ?_, fun j hj => ?_, q8⟩
      · have := q4 j (by omega)
        rw [pl_uo (by omega), pl_uo (by omega)] at this
        exact this
      · show W3.1 65 0 _ = _
        rw [q6 r (by omega) h hh, pl_L_c (w := pl_u w i how) (w' := w) (fun j hj => pl_uo (by omega))]
      · show mh_bt (am_up W3.2.1 8 0 12 _ 8 0 12) j ↔ _
        rw [am_up_s]
        exact P1.2.2.2.2.2.2.1 j hj
    rw [Int.toNat_natCast]
    refine ⟨fun c2 => ?_, fun c2 => ?_⟩
    · refine S _ (fun t ht => ?_) (fun j => ?_) (fun j => ?_) (fun t ht => rfl) (fun j hj => ?_)
      · show am_up (am_up _ _ _ _ _) _ _ _ _ t = _
        rw [am_up_t (fun e => ht (by rw [e]; decide)), am_up_t (fun e => ht (by rw [e]; decide))]
      · simp (disch := decide) only [am_up_t, am_up_a]
      · simp (disch := decide) only [am_up_t, am_up_a]
      · unfold pl_tk; rw [if_pos c2]; exact P1.2.2.2.2.2.2.1 j hj
    · have d0 : 0 ≤ dr ∧ dr < 40 := by omega
      refine S _ (fun t ht => ?_) (fun j => ?_) (fun j => ?_) (fun t ht => am_up_t ht) (fun j hj => ?_)
      · show am_up (am_up _ _ _ _ _) _ _ _ _ t = _
        rw [am_up_t (fun e => ht (by rw [e]; decide)), am_up_t (fun e => ht (by rw [e]; decide))]
      · simp (disch := decide) only [am_up_t, am_up_a]
      · simp (disch := decide) only [am_up_t, am_up_a]
      · simp only [am_up_s]
        rw [mh_bt_or, mh_bt_one (by omega), P1.2.2.2.2.2.2.1 j hj]
        unfold pl_tk
        rw [if_neg c2]
        by_cases e : (j : Int) = dr
        · rw [show dr.toNat = j by omega, pl_us]; exact ⟨fun _ => rfl, fun _ => Or.inr e⟩
        · rw [pl_uo (by omega)]; exact ⟨fun z => z.resolve_right e, Or.inl⟩
  · have nok : ¬ pl_fs (pl_H P) (pl_D P) (pl_l P) (pl_u w i how) (i + 1) := fun f => by have := vok.mpr (f i (by omega)); omega
    have e : pl_go (pl_T P n) i w d tk us how dr b = b := pl_P2 n nok
    rw [e] at K
    exact K W1 fr1 P1
