-- the reference copies the new law
variable {SC : Nat → Nat} {X : mh_X} {r : Option am_I}
def tk_CT : List Nat := [68, 69, 71, 73, 75, 78, 81, 83, 85, 87, 88, 89, 90, 91, 92]
def tk_CJ (l : Nat) (b b' : am_W) : Prop := (∀ t, t ∉ tk_CT → b'.1 t = b.1 t) ∧ b'.2 = b.2 ∧ (∀ t m, t ∈ [68, 69, 88, 89, 90, 91, 92] → ¬ m = l → b'.1 t 0 m = b.1 t 0 m) ∧ (∀ t m, t ∈ [71, 73, 75, 83, 85, 87] → ¬ m = l → b'.1 t m = b.1 t m) ∧ ∀ t a, t ∈ [78, 81] → (a < 30 * l ∨ 30 * l + 30 ≤ a) → b'.1 t a = b.1 t a
theorem tk_CJ_r {l : Nat} {b : am_W} : tk_CJ l b b := ⟨fun _ _ => rfl, rfl, fun _ _ _ _ => rfl, fun _ _ _ _ => rfl, fun _ _ _ _ => rfl⟩
theorem tk_CJ_0 {l t : Nat} {b w : am_W} {v : Int} (h : tk_CJ l b w) (ht : t ∈ [68, 69, 88, 89, 90, 91, 92]) : tk_CJ l b (am_up w.1 t 0 l v, w.2) := by
  have s : ∀ t, t ∈ [68, 69, 88, 89, 90, 91, 92] → t ∈ tk_CT ∧ t ∉ [71, 73, 75, 83, 85, 87] ∧ t ∉ [78, 81] := by decide
  obtain ⟨s1, s2, s3⟩ := s t ht
  refine ⟨fun t' q => ?_, h.2.1, fun t' m q hm => ?_, fun t' m q hm => ?_, fun t' m q hm => ?_⟩
  · dsimp only; rw [am_up_t (fun e : t' = t => q (e ▸ s1))]; exact h.1 t' q
  · dsimp only
    by_cases z : t' = t
    · subst z
      rw [am_up_k hm]; exact h.2.2.1 t' m q hm
    · rw [am_up_t z]; exact h.2.2.1 t' m q hm
  · dsimp only; rw [am_up_t (fun e : t' = t => s2 (e ▸ q))]; exact h.2.2.2.1 t' m q hm
  · dsimp only; rw [am_up_t (fun e : t' = t => s3 (e ▸ q))]; exact h.2.2.2.2 t' m q hm
theorem tk_CJ_1 {l t k : Nat} {b w : am_W} {v : Int} (h : tk_CJ l b w) (ht : t ∈ [71, 73, 75, 83, 85, 87]) : tk_CJ l b (am_up w.1 t l k v, w.2) := by
  have s : ∀ t, t ∈ [71, 73, 75, 83, 85, 87] → t ∈ tk_CT ∧ t ∉ [68, 69, 88, 89, 90, 91, 92] ∧ t ∉ [78, 81] := by decide
  obtain ⟨s1, s2, s3⟩ := s t ht
  refine ⟨fun t' q => ?_, h.2.1, fun t' m q hm => ?_, fun t' m q hm => ?_, fun t' m q hm => ?_⟩
  · dsimp only; rw [am_up_t (fun e : t' = t => q (e ▸ s1))]; exact h.1 t' q
  · dsimp only; rw [am_up_t (fun e : t' = t => s2 (e ▸ q))]; exact h.2.2.1 t' m q hm
  · dsimp only
    by_cases z : t' = t
    · subst z
      rw [am_up_j hm]; exact h.2.2.2.1 t' m q hm
    · rw [am_up_t z]; exact h.2.2.2.1 t' m q hm
  · dsimp only; rw [am_up_t (fun e : t' = t => s3 (e ▸ q))]; exact h.2.2.2.2 t' m q hm
theorem tk_CJ_2 {l t k q0 : Nat} {b w : am_W} {v : Int} (h : tk_CJ l b w) (ht : t ∈ [78, 81]) (hq : q0 < 30) : tk_CJ l b (am_up w.1 t (30 * l + q0) k v, w.2) := by
  have s : ∀ t, t ∈ [78, 81] → t ∈ tk_CT ∧ t ∉ [68, 69, 88, 89, 90, 91, 92] ∧ t ∉ [71, 73, 75, 83, 85, 87] := by decide
  obtain ⟨s1, s2, s3⟩ := s t ht
  refine ⟨fun t' q => ?_, h.2.1, fun t' m q hm => ?_, fun t' m q hm => ?_, fun t' m q hm => ?_⟩
  · dsimp only; rw [am_up_t (fun e : t' = t => q (e ▸ s1))]; exact h.1 t' q
  · dsimp only; rw [am_up_t (fun e : t' = t => s2 (e ▸ q))]; exact h.2.2.1 t' m q hm
  · dsimp only; rw [am_up_t (fun e : t' = t => s3 (e ▸ q))]; exact h.2.2.2.1 t' m q hm
  · dsimp only
    by_cases z : t' = t
    · subst z
      rw [am_up_j (by omega)]; exact h.2.2.2.2 t' m q hm
    · rw [am_up_t z]; exact h.2.2.2.2 t' m q hm
def tk_ci (l : Nat) (b w : am_W) (A R2 k2 R3 k3 : Nat) : Prop := tk_CJ l b w ∧ (w.1 68 0 l = b.1 68 0 6 ∧ w.1 69 0 l = b.1 69 0 6) ∧ (∀ q, q < A → w.1 71 l q = b.1 71 6 q ∧ w.1 73 l q = b.1 73 6 q ∧ w.1 75 l q = b.1 75 6 q) ∧
  (∀ q j, q < 30 → j < 4 → (q < R2 ∨ (q = R2 ∧ j < k2)) → w.1 78 (30 * l + q) j = b.1 78 (30 * 6 + q) j) ∧ ∀ q j, q < 30 → j < 12 → (q < R3 ∨ (q = R3 ∧ j < k3)) → w.1 81 (30 * l + q) j = b.1 81 (30 * 6 + q) j
/-- all is copied -/
def tk_cd2 (l : Nat) (b w : am_W) : Prop := tk_ci l b w 30 30 0 30 0 ∧ (∀ k, k < 4 → w.1 83 l k = b.1 83 6 k) ∧ (∀ k, k < 8 → w.1 85 l k = b.1 85 6 k ∧ w.1 87 l k = b.1 87 6 k) ∧ ∀ t, t ∈ [88, 89, 90, 91, 92] → w.1 t 0 l = b.1 t 0 6
theorem tk_ci_f {l A R2 k2 R3 k3 : Nat} {b w w' : am_W} (h : tk_ci l b w A R2 k2 R3 k3) (hc : tk_CJ l b w') (e : ∀ t, t ∈ [68, 69, 71, 73, 75, 78, 81] → w'.1 t = w.1 t) : tk_ci l b w' A R2 k2 R3 k3 := by
  obtain ⟨-, h2⟩ := h
  refine ⟨hc, ?_⟩
  rw [e 68 (by decide), e 69 (by decide), e 71 (by decide), e 73 (by decide), e 75 (by decide), e 78 (by decide), e 81 (by decide)]
  exact h2
theorem pX12_copies {d kc ks : Nat} {Q : Option am_V → am_W → Prop} {b : am_W} {l : Nat} (hl : l < 6) (K : ∀ w : am_W, tk_cd2 l b w → Q none w) : am_M (mh_G X) SC (d + 1) kc ks mX12_copies [.inr (.inr (some (9, 0))), .inl (l : Int)] b Q := by
  have L192 : ∀ (n k : Nat) (w : am_W), n + k = 8 → tk_ci l b w 30 30 0 30 0 → (∀ k, k < 4 → w.1 83 l k = b.1 83 6 k) → (∀ q, q < k → w.1 85 l q = b.1 85 6 q ∧ w.1 87 l q = b.1 87 6 q) → am_A (mh_G X) SC (d + 1) mX12_copies Q 192 [(0, .inr (.inr (some (9, 0)))), (1, .inl (l : Int)), (2, .inl (k : Int))] [] w kc ks := by
    intro n
    induction n with
    | zero =>
      intro k w hk h h83 h85
      refine bX12_copies_192 ⟨fun _ => ⟨by omega, by omega, ?_⟩, fun c => absurd (by omega) c⟩
      rw [Int.toNat_natCast]
      have n6 : ¬ 6 = l := by omega
      have C5 := tk_CJ_0 (t := 92) (v := w.1 92 0 6) (w := (_, _)) (tk_CJ_0 (t := 91) (v := w.1 91 0 6) (w := (_, _)) (tk_CJ_0 (t := 90) (v := w.1 90 0 6) (w := (_, _)) (tk_CJ_0 (t := 89) (v := w.1 89 0 6) (w := (_, _)) (tk_CJ_0 (t := 88) (v := w.1 88 0 6) h.1 (by decide)) (by decide)) (by decide)) (by decide)) (by decide)
      have s6 : ∀ t, t ∈ [88, 89, 90, 91, 92] → w.1 t 0 6 = b.1 t 0 6 := fun t ht => h.1.2.2.1 t 6 (by revert ht; revert t; decide) n6
      refine K _ ⟨tk_ci_f h C5 (fun t ht => ?_), fun q hq => ?_, fun q hq => ?_, fun t ht => ?_⟩
      · have : ∀ t, t ∈ [68, 69, 71, 73, 75, 78, 81] → ¬ t = 88 ∧ ¬ t = 89 ∧ ¬ t = 90 ∧ ¬ t = 91 ∧ ¬ t = 92 := by decide
        obtain ⟨x1, x2, x3, x4, x5⟩ := this t ht
        dsimp only; rw [am_up_t x5, am_up_t x4, am_up_t x3, am_up_t x2, am_up_t x1]
      · dsimp only
        simp (disch := decide) only [am_up_t]
        exact h83 q hq
      · dsimp only
        simp (disch := decide) only [am_up_t]
        exact h85 q (by omega)
      · rw [← s6 t ht]
        dsimp only
        rcases (show t = 88 ∨ t = 89 ∨ t = 90 ∨ t = 91 ∨ t = 92 by revert ht; revert t; decide) with e | e | e | e | e <;> subst e <;> simp (disch := decide) only [am_up_t, am_up_s]
    | succ n ih =>
      intro k w hk h h83 h85
      refine bX12_copies_192 ⟨fun c => absurd c (by omega), fun _ => ⟨by omega, by omega, by omega, by omega, ?_⟩⟩
      rw [Int.toNat_natCast, Int.toNat_natCast, am_w_id (z := (k : Int) + 1) (by unfold am_rg; omega)]
      have s6 : w.1 85 6 k = b.1 85 6 k ∧ w.1 87 6 k = b.1 87 6 k := by rw [h.1.2.2.2.1 85 6 (by decide) (by omega), h.1.2.2.2.1 87 6 (by decide) (by omega)]; exact ⟨rfl, rfl⟩
      refine ih (k + 1) _ (by omega) (tk_ci_f h (tk_CJ_1 (w := (_, _)) (tk_CJ_1 h.1 (by decide)) (by decide)) (fun t ht => ?_)) (fun q hq => ?_) (fun q hq => ?_)
      · have : ∀ t, t ∈ [68, 69, 71, 73, 75, 78, 81] → ¬ t = 85 ∧ ¬ t = 87 := by decide
        dsimp only; rw [am_up_t (this t ht).2, am_up_t (this t ht).1]
      · dsimp only
        simp (disch := decide) only [am_up_t]
        exact h83 q hq
      · dsimp only
        simp (disch := decide) only [am_up_t, am_up_a]
        by_cases z : q = k
        · rw [if_pos z, if_pos z, z]; exact s6
        · rw [if_neg z, if_neg z]; exact h85 q (by omega)
  have L162 : ∀ (n k : Nat) (w : am_W), n + k = 4 → tk_ci l b w 30 30 0 30 0 → (∀ q, q < k → w.1 83 l q = b.1 83 6 q) → am_A (mh_G X) SC (d + 1) mX12_copies Q 162 [(0, .inr (.inr (some (9, 0)))), (1, .inl (l : Int)), (2, .inl (k : Int))] [] w kc ks := by
    intro n
    induction n with
    | zero =>
      intro k w hk h h83
      exact bX12_copies_162 ⟨fun _ => L192 8 0 w rfl h (fun q hq => h83 q (by omega)) (fun q hq => absurd hq (Nat.not_lt_zero q)), fun c => absurd (by omega) c⟩
    | succ n ih =>
      intro k w hk h h83
      refine bX12_copies_162 ⟨fun c => absurd c (by omega), fun _ => ⟨by omega, by omega, by omega, by omega, ?_⟩⟩
      rw [Int.toNat_natCast, Int.toNat_natCast, am_w_id (z := (k : Int) + 1) (by unfold am_rg; omega)]
      refine ih (k + 1) _ (by omega) (tk_ci_f h (tk_CJ_1 h.1 (by decide)) (fun t ht => ?_)) (fun q hq => ?_)
      · have : ∀ t, t ∈ [68, 69, 71, 73, 75, 78, 81] → ¬ t = 83 := by decide
        dsimp only; rw [am_up_t (this t ht)]
      · dsimp only
        rw [am_up_a]
        by_cases z : q = k
        · rw [if_pos z, z, h.1.2.2.2.1 83 6 (by decide) (by omega)]
        · rw [if_neg z]; exact h83 q (by omega)
  have L28 : ∀ (n R : Nat) (w : am_W), n + R = 30 → tk_ci l b w R R 0 R 0 → am_A (mh_G X) SC (d + 1) mX12_copies Q 28 [(0, .inr (.inr (some (9, 0)))), (1, .inl (l : Int)), (2, .inl (R : Int))] [] w kc ks := by
    intro n
    induction n with
    | zero =>
      intro R w hR h
      have : R = 30 := by omega
      subst this
      exact bX12_copies_28 ⟨fun _ => L162 4 0 w rfl h (fun q hq => absurd hq (Nat.not_lt_zero q)), fun c => absurd (by omega) c⟩
    | succ n ih =>
      intro R w hR h
      have L121 : ∀ (m k : Nat) (w : am_W), m + k = 12 → tk_ci l b w (R + 1) (R + 1) 0 R k → am_A (mh_G X) SC (d + 1) mX12_copies Q 121 [(0, .inr (.inr (some (9, 0)))), (1, .inl (l : Int)), (2, .inl (R : Int)), (3, .inl (k : Int))] [] w kc ks := by
        intro m
        induction m with
        | zero =>
          intro k w hk h
          refine bX12_copies_121 ⟨fun _ => ?_, fun c => absurd (by omega) c⟩
          rw [am_w_id (z := (R : Int) + 1) (by unfold am_rg; omega)]
          refine ih (R + 1) w (by omega) ⟨h.1, h.2.1, h.2.2.1, h.2.2.2.1, fun q j hq hj al => h.2.2.2.2 q j hq hj ?_⟩
          rcases al with z | z
          · by_cases y : q = R
            · exact Or.inr ⟨y, by omega⟩
            · exact Or.inl (by omega)
          · omega
        | succ m ih2 =>
          intro k w hk h
          refine bX12_copies_121 ⟨fun c => absurd c (by omega), fun _ => ⟨by omega, by omega, by omega, by omega, by omega, by omega, ?_⟩⟩
          rw [Int.toNat_natCast, Int.toNat_natCast, Int.toNat_natCast, am_w_id (z := (k : Int) + 1) (by unfold am_rg; omega)]
          have s6 : w.1 81 (30 * 6 + R) k = b.1 81 (30 * 6 + R) k := by rw [h.1.2.2.2.2 81 (30 * 6 + R) (by decide) (by omega)]
          refine ih2 (k + 1) _ (by omega) ⟨tk_CJ_2 h.1 (by decide) (by omega), ?_, fun q hq => ?_, fun q j hq hj al => ?_, fun q j hq hj al => ?_⟩
          · dsimp only; simp (disch := decide) only [am_up_t]; exact h.2.1
          · dsimp only; simp (disch := decide) only [am_up_t]; exact h.2.2.1 q hq
          · dsimp only; simp (disch := decide) only [am_up_t]; exact h.2.2.2.1 q j hq hj al
          · dsimp only
            by_cases y : q = R
            · subst y
              rw [am_up_a]
              by_cases z : j = k
              · rw [if_pos z, z]; exact s6
              · rw [if_neg z]; exact h.2.2.2.2 q j hq hj (by omega)
            · rw [am_up_j (by omega)]; exact h.2.2.2.2 q j hq hj (by omega)
      have L87 : ∀ (m k : Nat) (w : am_W), m + k = 4 → tk_ci l b w (R + 1) R k R 0 → am_A (mh_G X) SC (d + 1) mX12_copies Q 87 [(0, .inr (.inr (some (9, 0)))), (1, .inl (l : Int)), (2, .inl (R : Int)), (3, .inl (k : Int))] [] w kc ks := by
        intro m
        induction m with
        | zero =>
          intro k w hk h
          refine bX12_copies_87 ⟨fun _ => L121 12 0 w rfl ⟨h.1, h.2.1, h.2.2.1, fun q j hq hj al => h.2.2.2.1 q j hq hj ?_, h.2.2.2.2⟩, fun c => absurd (by omega) c⟩
          rcases al with z | z
          · by_cases y : q = R
            · exact Or.inr ⟨y, by omega⟩
            · exact Or.inl (by omega)
          · omega
        | succ m ih2 =>
          intro k w hk h
          refine bX12_copies_87 ⟨fun c => absurd c (by omega), fun _ => ⟨by omega, by omega, by omega, by omega, by omega, by omega, ?_⟩⟩
          rw [Int.toNat_natCast, Int.toNat_natCast, Int.toNat_natCast, am_w_id (z := (k : Int) + 1) (by unfold am_rg; omega)]
          have s6 : w.1 78 (30 * 6 + R) k = b.1 78 (30 * 6 + R) k := by rw [h.1.2.2.2.2 78 (30 * 6 + R) (by decide) (by omega)]
          refine ih2 (k + 1) _ (by omega) ⟨tk_CJ_2 h.1 (by decide) (by omega), ?_, fun q hq => ?_, fun q j hq hj al => ?_, fun q j hq hj al => ?_⟩
          · dsimp only; simp (disch := decide) only [am_up_t]; exact h.2.1
          · dsimp only; simp (disch := decide) only [am_up_t]; exact h.2.2.1 q hq
          · dsimp only
            by_cases y : q = R
            · subst y
              rw [am_up_a]
              by_cases z : j = k
              · rw [if_pos z, z]; exact s6
              · rw [if_neg z]; exact h.2.2.2.1 q j hq hj (by omega)
            · rw [am_up_j (by omega)]; exact h.2.2.2.1 q j hq hj (by omega)
          · dsimp only; simp (disch := decide) only [am_up_t]; exact h.2.2.2.2 q j hq hj al
      refine bX12_copies_28 ⟨fun c => absurd c (by omega), fun _ => ⟨by omega, by omega, by omega, by omega, ?_⟩⟩
      rw [Int.toNat_natCast, Int.toNat_natCast]
      have s6 : w.1 71 6 R = b.1 71 6 R ∧ w.1 73 6 R = b.1 73 6 R ∧ w.1 75 6 R = b.1 75 6 R := by
        rw [h.1.2.2.2.1 71 6 (by decide) (by omega), h.1.2.2.2.1 73 6 (by decide) (by omega), h.1.2.2.2.1 75 6 (by decide) (by omega)]; exact ⟨rfl, rfl, rfl⟩
      refine L87 4 0 _ rfl ⟨tk_CJ_1 (w := (_, _)) (tk_CJ_1 (w := (_, _)) (tk_CJ_1 h.1 (by decide)) (by decide)) (by decide), ?_, fun q hq => ?_, fun q j hq hj al => ?_, fun q j hq hj al => ?_⟩
      · dsimp only; simp (disch := decide) only [am_up_t]; exact h.2.1
      · dsimp only
        simp (disch := decide) only [am_up_t, am_up_a]
        by_cases z : q = R
        · rw [if_pos z, if_pos z, if_pos z, z]; exact s6
        · rw [if_neg z, if_neg z, if_neg z]; exact h.2.2.1 q (by omega)
      · dsimp only; simp (disch := decide) only [am_up_t]; exact h.2.2.2.1 q j hq hj (by omega)
      · dsimp only; simp (disch := decide) only [am_up_t]; exact h.2.2.2.2 q j hq hj (by omega)
  refine am_M_of (by decide) (Nat.le_of_ble_eq_true rfl) ?_
  refine bX12_copies_0 ⟨by omega, by omega, ?_⟩
  rw [Int.toNat_natCast]
  refine L28 30 0 _ rfl ⟨tk_CJ_0 (w := (_, _)) (tk_CJ_0 tk_CJ_r (by decide)) (by decide), ⟨?_, ?_⟩, fun q hq => absurd hq (Nat.not_lt_zero q), fun q j _ _ al => ?_, fun q j _ _ al => ?_⟩
  · dsimp only; rw [am_up_t (by decide), am_up_s]
  · dsimp only; rw [am_up_s]
  · exact absurd al (fun z => by omega)
  · exact absurd al (fun z => by omega)
/-- a copied law -/
theorem La_copy {I : Nat → Nat → Nat → Int} {b w : am_W} {l k : Nat} (h : mh_La I b.1 k 6) (c : tk_cd2 l b w) : mh_La I w.1 k l := by
  obtain ⟨⟨-, ⟨c68, c69⟩, c7, c78, c81⟩, c83, c85, c88⟩ := c
  obtain ⟨h1, h2, ⟨h3, h3'⟩, h4, h5⟩ := h
  unfold mh_La
  rw [c68, c69, c88 88 (by decide), c88 89 (by decide), c88 90 (by decide), c88 91 (by decide), c88 92 (by decide)]
  refine ⟨h1, fun q hq => ?_, ⟨h3, fun i hi => ?_⟩, fun i hi => ?_, h5⟩
  · obtain ⟨x1, x2, x3⟩ := c7 q (by omega)
    obtain ⟨y1, y2, y3, y4, y5⟩ := h2 q hq
    rw [x1, x2, x3]
    refine ⟨y1, fun i hi => ?_, y3, fun i hi => ?_, y5⟩
    · rw [c78 q i (by omega) (by omega) (Or.inl (by omega))]; exact y2 i hi
    · rw [c81 q (3 * i) (by omega) (by omega) (Or.inl (by omega)), c81 q (3 * i + 1) (by omega) (by omega) (Or.inl (by omega)), c81 q (3 * i + 2) (by omega) (by omega) (Or.inl (by omega))]; exact y4 i hi
  · obtain ⟨x1, x2⟩ := c85 i (by omega)
    rw [x1, x2]; exact h3' i hi
  · rw [c83 i hi]; exact h4 i hi
