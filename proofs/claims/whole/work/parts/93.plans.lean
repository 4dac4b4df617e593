-- plans of the reference
variable {SC : Nat → Nat} {X : mh_X}
/-- the k-th of the set -/
def pl_ix (x : Nat) : Nat → Nat → Nat
  | 0, _ => 0
  | n + 1, k => if x / 2 ^ n % 2 = 1 ∧ ab_b x n = k then n else pl_ix x n k
theorem pl_ix1 {x n k : Nat} : pl_ix x (n + 1) k = if x / 2 ^ n % 2 = 1 ∧ ab_b x n = k then n else pl_ix x n k := rfl
theorem ab_bm {x n : Nat} : ∀ m, ab_b x n ≤ ab_b x (n + m)
  | 0 => Nat.le_refl _
  | m + 1 => by have := ab_bm (x := x) (n := n) m; rw [show n + (m + 1) = n + m + 1 by omega, ab_b1]; omega
theorem pl_ix_of {x : Nat} : ∀ {n i : Nat}, i < n → ab_in x i → pl_ix x n (ab_b x i) = i
  | 0, _, h, _ => absurd h (Nat.not_lt_zero _)
  | n + 1, i, h, b => by
    rw [pl_ix1]
    by_cases e : i = n
    · subst e; rw [if_pos ⟨b, rfl⟩]
    · have m := ab_bm (x := x) (n := i + 1) (n - (i + 1))
      rw [show i + 1 + (n - (i + 1)) = n by omega, ab_b1, show x / 2 ^ i % 2 = 1 from b] at m
      rw [if_neg (fun z => by omega)]
      exact pl_ix_of (by omega) b
theorem pl_ix_is {x : Nat} : ∀ {n k : Nat}, k < ab_b x n → pl_ix x n k < n ∧ ab_in x (pl_ix x n k) ∧ ab_b x (pl_ix x n k) = k
  | 0, k, h => absurd h (Nat.not_lt_zero _)
  | n + 1, k, h => by
    rw [pl_ix1]
    split
    · rename_i c; exact ⟨by omega, c.1, c.2⟩
    · rename_i c
      rw [ab_b1] at h
      have : k < ab_b x n := by
        by_cases z : x / 2 ^ n % 2 = 1
        · have : ¬ ab_b x n = k := fun q => c ⟨z, q⟩
          omega
        · omega
      obtain ⟨a, b, d⟩ := pl_ix_is this
      exact ⟨by omega, b, d⟩
def pl_cond (I : Nat → Nat → Nat → Int) (x f : Int) : Prop :=
  0 < x ∧ (I 1 0 12 ≤ f ∧ f ≤ 73047 ∧ f - I 1 0 12 ≤ 100) ∧ ab_b x.toNat 31 ≤ 5 ∧ ∀ i, i < 31 → ab_in x.toNat i → (i : Int) < I 5 0 18 ∧ I 40 0 i = 2147483647
noncomputable def pl_XX (I : Nat → Nat → Nat → Int) (x f : Int) : pl_X :=
  (I 7 0 10, f - I 1 0 12, pl_F (I 7 0 10) (fun k => I 57 0 k) (I 7 0 9).toNat, fun k => mh_dpt I (pl_ix x.toNat 31 k) (I 1 0 12) f, fun k => I 34 0 (pl_ix x.toNat 31 k), I 53 0, fun s st tk => mh_ls I s st tk)
def pl_b0 : pl_B := (2147483647, fun _ => 0, fun _ => 0)
noncomputable def pl_TT (I : Nat → Nat → Nat → Int) (x f : Int) : pl_B := pl_T (pl_XX I x f) (ab_b x.toNat 31) 0 (fun _ => 0) (fun _ => 0) (fun _ => false) (fun _ => 0) pl_b0
theorem pl_F_b {H : Int} {p : Nat → Int} : ∀ {n : Nat}, (∀ k, k < n → 0 ≤ p k ∧ p k ≤ 3) → ∀ h, 0 ≤ pl_F H p n h ∧ pl_F H p n h ≤ 3 * n
  | 0, _, h => ⟨Int.le_refl _, Int.le_refl _⟩
  | n + 1, hp, h => by
    have ih := pl_F_b (H := H) (p := p) (n := n) (fun k hk => hp k (by omega))
    have pn := hp n (by omega)
    rw [pl_F1]
    unfold pl_add
    split
    · by_cases e : h = pl_f H (pl_F H p n)
      · rw [e, pl_us]; have := ih (pl_f H (pl_F H p n)); omega
      · rw [pl_uo e]; have := ih h; omega
    · have := ih h; omega
theorem pl_XX_ok {a b : am_W} {x f : Int} (e : mh_E a b) (c : pl_cond a.1 x f) : pl_XM a.1 (ab_b x.toNat 31) (pl_XX a.1 x f) := by
  obtain ⟨c1, c2, c3, c4⟩ := c
  have hC := mh_E_C e
  have hO := mh_E_Co e
  have n1 := e.2.1.2
  have xw := e.1.1
  have we := e.1.2
  obtain ⟨⟨hT0, hT1⟩, h1, h2, h3, -, hc, -, -, h8, h9, h10⟩ := id xw
  have tl : ∀ k, k < (a.1 7 0 9).toNat → 1 ≤ a.1 57 0 k ∧ a.1 57 0 k ≤ 3 := fun k hk => (h8 k (Or.inr ⟨by omega, hk⟩)).2.1
  refine ⟨⟨⟨rfl, h2.1, h2.2⟩, ⟨by show 0 ≤ f - _; omega, by show f - _ ≤ 1000; omega⟩, fun h => ?_, fun j hj => ?_, fun s => ⟨rfl, hc s⟩, rfl, c3, ⟨h1.1, by omega⟩⟩, xw, rfl⟩
  · have := pl_F_b (H := a.1 7 0 10) (p := fun k => a.1 57 0 k) (n := (a.1 7 0 9).toNat) (fun k hk => by have := tl k hk; exact ⟨by omega, this.2⟩) h
    show 0 ≤ pl_F _ _ _ h ∧ pl_F _ _ _ h ≤ 60
    omega
  · obtain ⟨i1, i2, i3⟩ := pl_ix_is hj
    obtain ⟨p1, p2⟩ := c4 _ i1 i2
    have db := mh_dep_b (a := pl_ix x.toNat 31 j) (known := a.1 1 0 12) (day := f) hC hO (by omega) p1
    have pp := e.2.2.2.2.1.2.2.1 _ p1
    have al : mh_ali a.1 (pl_ix x.toNat 31 j) (a.1 1 0 12) f := ⟨by omega, by omega, fun z => by omega⟩
    show 0 ≤ mh_dpt a.1 (pl_ix x.toNat 31 j) (a.1 1 0 12) f ∧ mh_dpt a.1 (pl_ix x.toNat 31 j) (a.1 1 0 12) f ≤ 4
    unfold mh_dpt
    rw [if_pos al]
    exact db
theorem mh_tn2 {u v : am_W} (g : mh_fm mh_tn mh_fn u v) : mh_fm mh_t2 mh_f2 u v := mh_fm_m g (by decide) (by decide)
theorem mh_fmf {ts fs : List Nat} {b b' : am_W} {k : Nat} {v : Int} (h : mh_fm ts fs b b') (hk : k ∈ fs) : mh_fm ts fs b (am_up b'.1 9 0 k v, b'.2) := by
  refine ⟨fun t' q q9 => ?_, fun k' q => ?_, h.2.2⟩
  · show am_up _ _ _ _ _ t' = _
    rw [am_up_t q9]
    exact h.1 t' q q9
  · show am_up b'.1 9 0 k v 9 0 k' = _
    rw [am_up_k (fun e => q (by rw [e]; exact hk))]
    exact h.2.1 k' q
theorem pX12_plans {d kc ks : Nat} {Q : Option am_V → am_W → Prop} {a b : am_W} {x f : Int} (e : mh_E a b) (hx : x < 2147483648)
    (K0 : ¬ pl_cond a.1 x f → ∀ b', mh_fm mh_t2 mh_f2 b b' → Q (some (.inl 0)) b')
    (K1 : pl_cond a.1 x f → ∀ b', mh_fm mh_t2 mh_f2 b b' → b'.1 9 0 91 = (ab_b x.toNat 31 : Int) → (∀ j, j < ab_b x.toNat 31 → b'.1 137 0 j = (pl_TT a.1 x f).2.1 j ∧ b'.1 138 0 j = (pl_TT a.1 x f).2.2 j) → Q (some (.inl 1)) b') :
    am_M (mh_G X) SC (d + 14) kc ks mX12_plans [.inr (.inr (some (9, 0))), .inl x, .inl f] b Q := by
  have n1 := e.2.1.2
  have n2 := e.2.1.1
  have p1 := e.2.2.2.2.1.1
  have hC := mh_E_C e
  have hO := mh_E_Co e
  have JR := mh_E_JR e
  -- the search
  have S : pl_cond a.1 x f → ∀ (w1 : am_W), mh_fm mh_t2 mh_f2 b w1 → w1.1 9 0 91 = (ab_b x.toNat 31 : Int) → (∀ j, j < ab_b x.toNat 31 → w1.1 133 0 j = (pl_ix x.toNat 31 j : Int)) → (∀ j, j < ab_b x.toNat 31 → w1.1 134 0 j = mh_dpt a.1 (pl_ix x.toNat 31 j) (a.1 1 0 12) f) →
      (∀ j, j < 40 → w1.1 139 0 j = 0) → (∀ j, j < 5 → w1.1 140 0 j = 0) → am_A (mh_G X) SC (d + 14) mX12_plans Q 180 [(0, .inr (.inr (some (9, 0)))), (2, .inl f), (3, .inl 5)] [] w1 kc ks := by
    intro c w1 f1 r1 r2 r3 r4 r5
    have XM := pl_XX_ok e c
    obtain ⟨c1, c2, c3, c4⟩ := id c
    have e33 : w1.1 9 0 33 = a.1 1 0 12 := by rw [f1.2.1 33 (by decide)]; exact n2
    refine bX12_plans_180 ⟨fun _ => ?_, fun z => absurd (by decide) z⟩
    rw [e33, am_w_id (z := f - a.1 1 0 12) (by unfold am_rg; omega)]
    have T := pX12_tries (SC := SC) (X := X) XM (ab_b x.toNat 31) (d + 2 * (5 - ab_b x.toNat 31))
    rw [show d + 2 * (5 - ab_b x.toNat 31) + 2 * ab_b x.toNat 31 + 3 = d + 13 by omega] at T
    refine T 0 (fun _ => 0) (fun _ => 0) (fun _ => false) (fun _ => 0) pl_b0 _ 0 0 _ rfl ?_ (fun W' f' P' => ?_)
    · have we := e.1.2
      have G : ∀ t, t ∈ [97, 126, 127, 128, 129, 130, 131, 132] → w1.1 t = b.1 t := fun t ht => f1.1 t (by revert ht; revert t; decide) (by revert ht; revert t; decide)
      have G9 : ∀ k, k ∈ [75, 81, 76] → w1.1 9 0 k = b.1 9 0 k := fun k hk => f1.2.1 k (by revert hk; revert k; decide)
      unfold pl_PM pl_bm mh_We at *
      simp (disch := decide) only [am_up_t, am_up_k, am_up_s]
      rw [G 97 (by decide), G 126 (by decide), G 127 (by decide), G 128 (by decide), G 129 (by decide), G 130 (by decide), G 131 (by decide), G 132 (by decide), G9 75 (by decide), G9 81 (by decide), G9 76 (by decide)]
      refine ⟨we, ⟨r1, rfl⟩, fun j hj => ?_, fun j hj => absurd hj (Nat.not_lt_zero j), fun s hs => ⟨r5 s hs, by decide, by decide⟩, fun j hj => r4 j hj, Or.inl ⟨rfl, trivial⟩⟩
      obtain ⟨i1, i2, i3⟩ := pl_ix_is hj
      obtain ⟨q1, q2⟩ := c4 _ i1 i2
      have pp := (e.2.2.2.2.1.2.2.1 _ q1).2.1.1
      rw [r2 j hj, Int.toNat_natCast, pp]
      exact ⟨⟨by omega, by omega⟩, rfl, r3 j hj⟩
    · have f2 : mh_fm mh_t2 mh_f2 b W' := mh_fm_t (mh_fmf (b' := (_, _)) (mh_fmf f1 (by decide)) (by decide)) (mh_fm_m f' (by decide) (by decide))
      have P3 := (pl_P3 (X := pl_XX a.1 x f) (ab_b x.toNat 31) (k := 0) (w := fun _ => 0) (d := fun _ => 0) (tk := fun _ => false) (us := fun _ => 0) (b := pl_b0)).2 (fun i hi => absurd hi (Nat.not_lt_zero i))
      have c0 : pl_c (fun _ => 0) 0 = 0 := rfl
      refine bX12_plans_219 (K1 c W' f2 P'.2.1.1 ?_)
      rcases P'.2.2.2.2.2.2 with h | h
      · have := h.1; omega
      · exact h.2.2.2.2
  -- used and taken are cleared
  have U : pl_cond a.1 x f → ∀ (n k : Nat) (w1 : am_W), n + k = 5 → mh_fm mh_t2 mh_f2 b w1 → w1.1 9 0 91 = (ab_b x.toNat 31 : Int) → (∀ j, j < ab_b x.toNat 31 → w1.1 133 0 j = (pl_ix x.toNat 31 j : Int)) → (∀ j, j < ab_b x.toNat 31 → w1.1 134 0 j = mh_dpt a.1 (pl_ix x.toNat 31 j) (a.1 1 0 12) f) →
      (∀ j, j < 40 → w1.1 139 0 j = 0) → (∀ j, j < k → w1.1 140 0 j = 0) → am_A (mh_G X) SC (d + 14) mX12_plans Q 180 [(0, .inr (.inr (some (9, 0)))), (2, .inl f), (3, .inl (k : Int))] [] w1 kc ks := by
    intro c n
    induction n with
    | zero =>
      intro k w1 hk f1 r1 r2 r3 r4 r5
      obtain rfl : k = 5 := by omega
      exact S c w1 f1 r1 r2 r3 r4 r5
    | succ n ih =>
      intro k w1 hk f1 r1 r2 r3 r4 r5
      refine bX12_plans_180 ⟨fun z => absurd z (by omega), fun _ => ⟨by omega, by omega, ?_⟩⟩
      rw [am_w_id (z := (k : Int) + 1) (by unfold am_rg; omega), Int.toNat_natCast]
      refine ih (k + 1) _ (by omega) (mh_fmu f1 (by decide) (by decide)) ?_ ?_ ?_ ?_ (fun j hj => ?_)
      · simp (disch := decide) only [am_up_t]; exact r1
      · simp (disch := decide) only [am_up_t]; exact r2
      · simp (disch := decide) only [am_up_t]; exact r3
      · simp (disch := decide) only [am_up_t]; exact r4
      · simp only [am_up_a]
        split
        · rfl
        · exact r5 j (by omega)
  have V : pl_cond a.1 x f → ∀ (n k : Nat) (w1 : am_W), n + k = 40 → mh_fm mh_t2 mh_f2 b w1 → w1.1 9 0 91 = (ab_b x.toNat 31 : Int) → (∀ j, j < ab_b x.toNat 31 → w1.1 133 0 j = (pl_ix x.toNat 31 j : Int)) → (∀ j, j < ab_b x.toNat 31 → w1.1 134 0 j = mh_dpt a.1 (pl_ix x.toNat 31 j) (a.1 1 0 12) f) →
      (∀ j, j < k → w1.1 139 0 j = 0) → am_A (mh_G X) SC (d + 14) mX12_plans Q 159 [(0, .inr (.inr (some (9, 0)))), (2, .inl f), (3, .inl (k : Int))] [] w1 kc ks := by
    intro c n
    induction n with
    | zero =>
      intro k w1 hk f1 r1 r2 r3 r4
      obtain rfl : k = 40 := by omega
      exact bX12_plans_159 ⟨fun _ => U c 5 0 w1 rfl f1 r1 r2 r3 r4 (fun j hj => absurd hj (Nat.not_lt_zero j)), fun z => absurd (by decide) z⟩
    | succ n ih =>
      intro k w1 hk f1 r1 r2 r3 r4
      refine bX12_plans_159 ⟨fun z => absurd z (by omega), fun _ => ⟨by omega, by omega, ?_⟩⟩
      rw [am_w_id (z := (k : Int) + 1) (by unfold am_rg; omega), Int.toNat_natCast]
      refine ih (k + 1) _ (by omega) (mh_fmu f1 (by decide) (by decide)) ?_ ?_ ?_ (fun j hj => ?_)
      · simp (disch := decide) only [am_up_t]; exact r1
      · simp (disch := decide) only [am_up_t]; exact r2
      · simp (disch := decide) only [am_up_t]; exact r3
      · simp only [am_up_a]
        split
        · rfl
        · exact r4 j (by omega)
  -- needs
  have N : pl_cond a.1 x f → ∀ (n k : Nat) (w1 : am_W), n + k = ab_b x.toNat 31 → mh_fm mh_t2 mh_f2 b w1 → w1.1 9 0 91 = (ab_b x.toNat 31 : Int) → (∀ j, j < ab_b x.toNat 31 → w1.1 133 0 j = (pl_ix x.toNat 31 j : Int)) → (∀ j, j < k → w1.1 134 0 j = mh_dpt a.1 (pl_ix x.toNat 31 j) (a.1 1 0 12) f) →
      am_A (mh_G X) SC (d + 14) mX12_plans Q 122 [(0, .inr (.inr (some (9, 0)))), (2, .inl f), (3, .inl (k : Int))] [] w1 kc ks := by
    intro c n
    obtain ⟨c1, c2, c3, c4⟩ := id c
    induction n with
    | zero =>
      intro k w1 hk f1 r1 r2 r3
      exact bX12_plans_122 ⟨fun _ => V c 40 0 w1 rfl f1 r1 r2 (fun j hj => r3 j (by omega)) (fun j hj => absurd hj (Nat.not_lt_zero j)), fun z => absurd (by omega) z⟩
    | succ n ih =>
      intro k w1 hk f1 r1 r2 r3
      have e33 : w1.1 9 0 33 = a.1 1 0 12 := by rw [f1.2.1 33 (by decide)]; exact n2
      obtain ⟨i1, i2, i3⟩ := pl_ix_is (x := x.toNat) (n := 31) (k := k) (by omega)
      obtain ⟨q1, q2⟩ := c4 _ i1 i2
      refine bX12_plans_122 ⟨fun z => absurd z (by omega), fun _ => ⟨by omega, by omega, ?_⟩⟩
      rw [e33, Int.toNat_natCast, r2 k (by omega)]
      refine pX12_depthAt hC hO (by omega) q1 (mh_JR_s2 JR f1) (by omega) (fun w2 j1 _ => ?_)
      refine bX12_plans_150 ⟨by omega, by omega, ?_⟩
      rw [am_w_id (z := (k : Int) + 1) (by unfold am_rg; omega), Int.toNat_natCast]
      refine ih (k + 1) _ (by omega) (mh_fmu (mh_fm_t f1 (mh_tn2 j1)) (by decide) (by decide)) ?_ (fun j hj => ?_) (fun j hj => ?_)
      · simp (disch := decide) only [am_up_t]; rw [j1.2.1 91 (by decide)]; exact r1
      · simp (disch := decide) only [am_up_t]; rw [j1.1 133 (by decide) (by decide)]; exact r2 j hj
      · simp only [am_up_a]
        rw [j1.1 134 (by decide) (by decide)]
        by_cases z : j = k
        · rw [if_pos z, z]
        · rw [if_neg z]; exact r3 j (by omega)
  -- who is asked
  have B : 0 ≤ x → (a.1 1 0 12 ≤ f ∧ f ≤ 73047 ∧ f - a.1 1 0 12 ≤ 100) → ∀ (n i : Nat) (w1 : am_W), n + i = 31 → mh_fm mh_t2 mh_f2 b w1 → w1.1 9 0 91 = (ab_b x.toNat i : Int) → ab_b x.toNat i ≤ 5 → (∀ j, j < i → ab_in x.toNat j → w1.1 133 0 (ab_b x.toNat j) = (j : Int) ∧ (j : Int) < a.1 5 0 18 ∧ a.1 40 0 j = 2147483647) →
      am_A (mh_G X) SC (d + 14) mX12_plans Q 38 [(0, .inr (.inr (some (9, 0)))), (1, .inl x), (2, .inl f), (3, .inl (i : Int))] [] w1 kc ks := by
    intro x0 fr n
    obtain ⟨X0, hX0⟩ := mh_nat x0
    induction n with
    | zero =>
      intro i w1 hi f1 r1 r2 r3
      obtain rfl : i = 31 := by omega
      refine bX12_plans_38 ⟨fun _ => ⟨fun c => ?_, fun c => K0 (fun z => ?_) w1 f1⟩, fun c => absurd (by decide) c⟩
      · have cc : pl_cond a.1 x f := by
          refine ⟨?_, fr, r2, fun j hj bj => (r3 j hj bj).2⟩
          rcases Int.lt_or_eq_of_le x0 with h | h
          · exact h
          · exfalso
            have z0 : ∀ m, ab_b 0 m = 0 := by
              intro m
              induction m with
              | zero => rfl
              | succ m ihm => rw [ab_b1, ihm, Nat.zero_div]
            rw [← h] at r1
            have := z0 31
            rw [show (0 : Int).toNat = 0 from rfl, this] at r1
            exact c r1
        refine N cc _ 0 w1 rfl f1 r1 (fun j hj => ?_) (fun j hj => absurd hj (Nat.not_lt_zero j))
        obtain ⟨i1, i2, i3⟩ := pl_ix_is hj
        have := (r3 _ i1 i2).1
        rw [i3] at this
        exact this
      · have := z.1
        obtain ⟨i, hi2⟩ : ∃ i, i < 31 ∧ ab_in x.toNat i := by
          refine Classical.byContradiction (fun c2 => ?_)
          have dg : ∀ m, m ≤ 31 → x.toNat / 2 ^ m = 0 → x.toNat / 2 ^ 0 = 0 := by
            intro m
            induction m with
            | zero => intro _ h; exact h
            | succ m ihm =>
              intro hm h
              refine ihm (by omega) ?_
              have nb : ¬ x.toNat / 2 ^ m % 2 = 1 := fun q => c2 ⟨m, by omega, q⟩
              have dd : x.toNat / 2 ^ (m + 1) = x.toNat / 2 ^ m / 2 := by rw [Nat.pow_succ, Nat.div_div_eq_div_mul]
              omega
          have := dg 31 (Nat.le_refl _) (ab_big (by omega) (Nat.le_refl _))
          rw [Nat.pow_zero, Nat.div_one] at this
          omega
        have m := ab_bm (x := x.toNat) (n := i + 1) (31 - (i + 1))
        rw [show i + 1 + (31 - (i + 1)) = 31 by omega, ab_b1, show x.toNat / 2 ^ i % 2 = 1 from hi2.2] at m
        omega
    | succ n ih =>
      intro i w1 hi f1 r1 r2 r3
      have bt := ab_bit (a := X0) (k := i) (by omega) (by omega)
      rw [← hX0] at bt
      have Xe : X0 = x.toNat := by omega
      rw [Xe] at bt
      have b1 := ab_b1 (x := x.toNat) (n := i)
      have e42 : w1.1 9 0 42 = a.1 5 0 18 := by rw [f1.2.1 42 (by decide)]; exact p1.1
      have e102 : w1.1 102 = b.1 102 := f1.1 102 (by decide) (by decide)
      refine bX12_plans_38 ⟨fun c => absurd c (by omega), fun _ => ?_⟩
      rw [bt]
      refine ⟨fun c => ⟨fun c2 => K0 (fun z => ?_) w1 f1, fun c2 => ?_⟩, fun c => bX12_plans_105 ?_⟩
      · have m := ab_bm (x := x.toNat) (n := i + 1) (31 - (i + 1))
        rw [show i + 1 + (31 - (i + 1)) = 31 by omega] at m
        have := z.2.2.1
        omega
      · have bi : ab_in x.toNat i := by unfold ab_in; omega
        rw [e42, am_w_id (by unfold am_rg; omega)]
        refine ⟨fun c3 => K0 (fun z => c3 ?_) w1 f1, fun c3 => ⟨by omega, by omega, ?_⟩⟩
        · have := (z.2.2.2 i (by omega) bi).1; omega
        · have pp := e.2.2.2.2.1.2.2.1 i (by omega)
          rw [Int.toNat_natCast, e102, r1]
          refine ⟨fun c4 => ⟨by omega, by omega, bX12_plans_105 ?_⟩, fun c4 => K0 (fun z => c4 ?_) w1 f1⟩
          · rw [am_w_id (z := (i : Int) + 1) (by unfold am_rg; omega), am_w_id (z := (ab_b x.toNat i : Int) + 1) (by unfold am_rg; omega), Int.toNat_natCast]
            refine ih (i + 1) _ (by omega) (mh_fmf (b' := (_, _)) (mh_fmu f1 (by decide) (by decide)) (by decide)) ?_ (by omega) (fun j hj bj => ?_)
            · simp only [am_up_s]; omega
            · simp (disch := decide) only [am_up_t, am_up_a]
              by_cases z : j = i
              · rw [if_pos (by rw [z]), z]
                exact ⟨rfl, by omega, by omega⟩
              · have m := ab_bm (x := x.toNat) (n := j + 1) (i - (j + 1))
                rw [show j + 1 + (i - (j + 1)) = i by omega, ab_b1, show x.toNat / 2 ^ j % 2 = 1 from bj] at m
                rw [if_neg (by omega)]
                exact r3 j (by omega) bj
          · have := (z.2.2.2 i (by omega) bi).2; omega
      · rw [am_w_id (z := (i : Int) + 1) (by unfold am_rg; omega)]
        refine ih (i + 1) w1 (by omega) f1 (by omega) (by omega) (fun j hj bj => ?_)
        by_cases z : j = i
        · rw [z] at bj; unfold ab_in at bj; omega
        · exact r3 j (by omega) bj
  refine am_M_of (by decide) (Nat.le_of_ble_eq_true rfl) ?_
  refine bX12_plans_0 ⟨fun c => K0 (fun z => by have := z.1; omega) b mh_fm_r, fun c => ?_⟩
  rw [n2]
  refine ⟨fun c2 => K0 (fun z => by have := z.2.1; omega) b mh_fm_r, fun c2 => ?_⟩
  rw [am_w_id (by unfold am_rg; omega)]
  refine ⟨fun c3 => B (by omega) (by omega) 31 0 _ rfl (mh_fmf mh_fm_r (by decide)) (by simp only [am_up_s]; rfl) (Nat.zero_le _) (fun j hj => absurd hj (Nat.not_lt_zero j)), fun c3 => K0 (fun z => by have := z.2.1; omega) b mh_fm_r⟩
