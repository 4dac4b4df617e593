-- the text's lines, class and reference
variable {SC : Nat → Nat} {X : mh_X} {r : Option am_I}
theorem pX8_readLine0 {d kc ks : Nat} {Q : Option am_V → am_W → Prop} {a : am_W} {l start : Nat} (hX : mh_st X r) (hs : start ≤ 3000)
    (K : ∀ a' : am_W, tk_IF l a a' → (∀ t, t ∈ tk_IT → a'.1 t = a.1 t) → (∀ k, k ∈ [4, 5, 6] → a'.1 2 0 k = a.1 2 0 k) → Q (some (.inl 1)) a') : am_M (mh_G X) SC (d + 10) kc ks mX8_readLine [.inr (.inr (some (2, 0))), .inr (.inr (some (10, l))), .inl (start : Int), .inl (start : Int)] a Q := by
  obtain ⟨a0, ha0⟩ : ∃ a0 : am_W, a0 = (am_up a.1 2 0 9 0, a.2) := ⟨_, rfl⟩
  have e0 : ∀ t, ¬ t = 2 → a0.1 t = a.1 t := fun t ht => by rw [ha0]; dsimp only; rw [am_up_t ht]
  refine am_M_of (by decide) (Nat.le_of_ble_eq_true rfl) ?_
  refine bX8_readLine_0 ?_
  rw [← ha0]
  refine pX8_findTokens (d := d) hX ⟨Nat.le_refl _, hs⟩ (fun v w1 f1 c1 v01 vF => ?_)
  rw [Nat.sub_self] at c1 vF
  have v1 : v = 1 := v01.resolve_left (fun z => vF.mp z)
  subst v1
  have c8 : w1.1 2 0 8 = 0 := c1.1
  have nt : ∀ t, t ∈ tk_IT → ¬ t = 2 ∧ t ∉ [2, 25, 26] := by decide
  have fin : Q (some (.inl 1)) w1 := by
    refine K w1 (tk_IF_c (ts := []) ha0 f1 tk_CL_r (by simp)) (fun t ht => ?_) (fun k hk => ?_)
    · rw [f1.1 t (nt t ht).2, e0 t (nt t ht).1]
    · rw [f1.2.2 k (fun e => by rw [e] at hk; revert hk; decide), ha0]; dsimp only; rw [am_up_k (fun e : k = 9 => by rw [e] at hk; revert hk; decide)]
  refine bX8_readLine_11 ⟨fun _ => ?_, fun y => absurd y (by decide)⟩
  rw [c8]
  have e46 : (if (0 : Int) < 0 then (46 : Int) else (if (0 : Int) ≤ 0 then 46 else (if (64 : Int) ≤ 0 then 46 else w1.1 25 0 0))) = 46 := by
    rw [if_neg (by decide), if_pos (by decide)]
  rw [e46]
  exact ⟨fun _ _ _ => by decide, fun _ _ _ => by decide, fun c => absurd c (by decide), fun c => absurd c (by decide), fun c => absurd c (by decide), fun c => absurd c (by decide), fun c => absurd c (by decide), fun c => absurd c (by decide), fun c => absurd c (by decide), fun c => absurd c (by decide), fun c => absurd c (by decide), fun c => absurd c (by decide), fun c => absurd c (by decide), fun c => absurd c (by decide), fun c => absurd c (by decide), fun c => absurd c (by decide), fun c => absurd c (by decide), fun c => absurd c (by decide), fun c => absurd c (by decide), fun _ => fin⟩
theorem pX3_clear {d kc ks : Nat} {Q : Option am_V → am_W → Prop} {a : am_W} {l : Nat}
    (K : ∀ a' : am_W, (∀ t, ¬ t = 10 → ¬ t = 153 → a'.1 t = a.1 t) → a'.2 = a.2 → (∀ t j, ¬ j = l → a'.1 t j = a.1 t j) → (∀ k, 10 ≤ k → k ≤ 16 → a'.1 10 l k = 0) → (∀ i, i < 4 → a'.1 153 l i = 0) → Q none a') : am_M (mh_G X) SC (d + 1) kc ks mX3_clear [.inr (.inr (some (10, l)))] a Q := by
  have B : ∀ (n i : Nat) (w : am_W), n + i = 4 → (∀ t, ¬ t = 10 → ¬ t = 153 → w.1 t = a.1 t) → w.2 = a.2 → (∀ t j, ¬ j = l → w.1 t j = a.1 t j) → w.1 10 l 10 = 0 → w.1 10 l 11 = 0 → (∀ q, q < i → w.1 153 l q = 0) → am_A (mh_G X) SC (d + 1) mX3_clear Q 12 [(0, .inr (.inr (some (10, l)))), (1, .inl (i : Int))] [] w kc ks := by
    intro n
    induction n with
    | zero =>
      intro i w hi h1 h2 h3 h4 h5 h6
      refine bX3_clear_12 ⟨fun _ => K _ (fun t t1 t2 => ?_) h2 (fun t j hj => ?_) (fun k k1 k2 => ?_) (fun q hq => ?_), fun c => absurd (by omega) c⟩
      · dsimp only; rw [am_up_t t1, am_up_t t1, am_up_t t1, am_up_t t1, am_up_t t1]; exact h1 t t1 t2
      · dsimp only
        by_cases z : t = 10
        · subst z
          rw [am_up_j hj, am_up_j hj, am_up_j hj, am_up_j hj, am_up_j hj]; exact h3 10 j hj
        · rw [am_up_t z, am_up_t z, am_up_t z, am_up_t z, am_up_t z]; exact h3 t j hj
      · dsimp only
        simp only [am_up_a]
        rcases (show k = 10 ∨ k = 11 ∨ k = 12 ∨ k = 13 ∨ k = 14 ∨ k = 15 ∨ k = 16 by omega) with e | e | e | e | e | e | e <;> subst e <;> simp [h4, h5]
      · dsimp only
        simp (disch := decide) only [am_up_t]
        exact h6 q (by omega)
    | succ n ih =>
      intro i w hi h1 h2 h3 h4 h5 h6
      refine bX3_clear_12 ⟨fun c => absurd c (by omega), fun _ => ⟨by omega, by omega, ?_⟩⟩
      rw [Int.toNat_natCast, am_w_id (z := (i : Int) + 1) (by unfold am_rg; omega)]
      refine ih (i + 1) _ (by omega) (fun t t1 t2 => ?_) h2 (fun t j hj => ?_) ?_ ?_ (fun q hq => ?_)
      · dsimp only; rw [am_up_t t2]; exact h1 t t1 t2
      · dsimp only
        by_cases z : t = 153
        · subst z
          rw [am_up_j hj]; exact h3 153 j hj
        · rw [am_up_t z]; exact h3 t j hj
      · dsimp only; rw [am_up_t (by decide)]; exact h4
      · dsimp only; rw [am_up_t (by decide)]; exact h5
      · dsimp only
        rw [am_up_a]
        by_cases z : q = i
        · rw [if_pos z]
        · rw [if_neg z]; exact h6 q (by omega)
  refine am_M_of (by decide) (Nat.le_of_ble_eq_true rfl) ?_
  refine bX3_clear_0 (B 4 0 _ rfl (fun t t1 _ => ?_) rfl (fun t j hj => ?_) ?_ ?_ (fun q hq => absurd hq (Nat.not_lt_zero q)))
  · dsimp only; rw [am_up_t t1, am_up_t t1]
  · dsimp only
    by_cases z : t = 10
    · subst z
      rw [am_up_j hj, am_up_j hj]
    · rw [am_up_t z, am_up_t z]
  · dsimp only; rw [am_up_k (by decide), am_up_s]
  · dsimp only; rw [am_up_s]
/-- frames of the text's reading -/
def tk_IL (l : Nat) (a a' : am_W) : Prop := (∀ t, t ∉ 2 :: 25 :: 26 :: tk_IT → a'.1 t = a.1 t) ∧ a'.2 = a.2 ∧ (∀ k, k ∉ [4, 5, 6, 7, 8, 9] → a'.1 2 0 k = a.1 2 0 k) ∧ ∀ t, t ∈ tk_IT → ∀ j, ¬ j = l → a'.1 t j = a.1 t j
theorem tk_IL_t {l : Nat} {a b c : am_W} (h : tk_IL l a b) (g : tk_IL l b c) : tk_IL l a c :=
  ⟨fun t q => (g.1 t q).trans (h.1 t q), g.2.1.trans h.2.1, fun k q => (g.2.2.1 k q).trans (h.2.2.1 k q), fun t q j s => (g.2.2.2 t q j s).trans (h.2.2.2 t q j s)⟩
theorem tk_IL_F {l : Nat} {a b : am_W} (h : tk_IF l a b) : tk_IL l a b := by
  have s : ∀ k, k ∈ [4, 5, 6, 8, 9] → k ∈ [4, 5, 6, 7, 8, 9] := by decide
  exact ⟨h.1, h.2.1, fun k q => h.2.2.1 k (fun z => q (s k z)), h.2.2.2⟩
theorem tk_IL_2 {l k : Nat} {a : am_W} {v : Int} (hk : k ∈ [4, 5, 6, 7, 8, 9]) : tk_IL l a (am_up a.1 2 0 k v, a.2) := by
  have n2 : ∀ t, t ∈ tk_IT → ¬ t = 2 := by decide
  refine ⟨fun t ht => ?_, rfl, fun k' q => ?_, fun t ht j _ => ?_⟩
  · simp only [List.mem_cons, not_or] at ht
    dsimp only; rw [am_up_t ht.1]
  · dsimp only; rw [am_up_k (fun e : k' = k => q (e ▸ hk))]
  · dsimp only; rw [am_up_t (n2 t ht)]
def tk_JL (b b' : am_W) : Prop := mh_fm tk_JT [2, 3, 4, 30, 31, 32] b b' ∧ (∀ t m, t ∈ [68, 69, 88, 89, 90, 91, 92] → m < 6 → b'.1 t 0 m = b.1 t 0 m) ∧ (∀ t m, t ∈ [71, 73, 75, 83, 85, 87] → m < 6 → b'.1 t m = b.1 t m) ∧ ∀ t a, t ∈ [78, 81] → a < 180 → b'.1 t a = b.1 t a
theorem tk_JL_t {a b c : am_W} (h : tk_JL a b) (g : tk_JL b c) : tk_JL a c :=
  ⟨mh_fm_t h.1 g.1, fun t m q s => (g.2.1 t m q s).trans (h.2.1 t m q s), fun t m q s => (g.2.2.1 t m q s).trans (h.2.2.1 t m q s), fun t m q s => (g.2.2.2 t m q s).trans (h.2.2.2 t m q s)⟩
theorem tk_JL_F {b b' : am_W} (h : tk_JF b b') : tk_JL b b' := ⟨mh_fm_m h.1 (fun t ht => ht) (by decide), h.2⟩
theorem tk_JL_r {b : am_W} : tk_JL b b := ⟨mh_fm_r, fun _ _ _ _ => rfl, fun _ _ _ _ => rfl, fun _ _ _ _ => rfl⟩
theorem tk_JL_9 {b : am_W} {k : Nat} {v : Int} (hk : k ∈ [2, 3, 4, 30, 31, 32]) : tk_JL b (am_up b.1 9 0 k v, b.2) := by
  have n1 : ∀ t, t ∈ [68, 69, 88, 89, 90, 91, 92] → ¬ t = 9 := by decide
  have n2 : ∀ t, t ∈ [71, 73, 75, 83, 85, 87] → ¬ t = 9 := by decide
  have n3 : ∀ t, t ∈ [78, 81] → ¬ t = 9 := by decide
  refine ⟨mh_fmf mh_fm_r hk, fun t m ht _ => ?_, fun t m ht _ => ?_, fun t m ht _ => ?_⟩
  · dsimp only; rw [am_up_t (n1 t ht)]
  · dsimp only; rw [am_up_t (n2 t ht)]
  · dsimp only; rw [am_up_t (n3 t ht)]
/-- where the line that begins at i ends -/
theorem tk_le (B : Nat → Int) (n : Nat) : ∀ m i : Nat, m + i = n → ∃ e : Nat, (i ≤ e ∧ e ≤ n) ∧ (∀ k, i ≤ k → k < e → ¬ B k = 10) ∧ (e = n ∨ B e = 10)
  | 0, i, h => ⟨n, ⟨by omega, Nat.le_refl _⟩, fun k h1 h2 => by omega, Or.inl rfl⟩
  | m + 1, i, h => by
    by_cases c : B i = 10
    · exact ⟨i, ⟨Nat.le_refl _, by omega⟩, fun k h1 h2 => by omega, Or.inr c⟩
    · obtain ⟨e, h1, h2, h3⟩ := tk_le B n m (i + 1) (by omega)
      refine ⟨e, by omega, fun k k1 k2 => ?_, h3⟩
      by_cases z : k = i
      · rw [z]; exact c
      · exact h2 k (by omega) k2
theorem tk_scan {d bc bs : Nat} {Q : Option am_V → am_W → Prop} {a : am_W} {l n st e : Nat} (h3 : a.1 2 0 3 = (n : Int)) (hn : n ≤ 3000) (he : e ≤ n) (h10 : e = n ∨ a.1 24 0 e = 10)
    (K : am_A (mh_G X) SC (d + 11) mX8_readInto Q 55 [(0, .inr (.inr (some (2, 0)))), (1, .inr (.inr (some (10, l)))), (2, .inl (st : Int)), (3, .inl (e : Int))] [] a bc bs) : ∀ m i : Nat, m + i = e → (∀ k, i ≤ k → k < e → ¬ a.1 24 0 k = 10) → am_A (mh_G X) SC (d + 11) mX8_readInto Q 28 [(0, .inr (.inr (some (2, 0)))), (1, .inr (.inr (some (10, l)))), (2, .inl (st : Int)), (3, .inl (i : Int))] [] a bc bs
  | 0, i, hi, hb => by
    have : i = e := by omega
    subst this
    refine bX8_readInto_28 ?_
    rw [h3]
    refine ⟨fun c => absurd c (by omega), fun _ => ⟨fun _ => K, fun c => ⟨by omega, by omega, ?_⟩⟩⟩
    rw [Int.toNat_natCast]
    exact ⟨fun c2 => absurd (h10.resolve_left (fun z => c (by rw [z]))) c2, fun _ => K⟩
  | m + 1, i, hi, hb => by
    refine bX8_readInto_28 ?_
    rw [h3]
    refine ⟨fun c => absurd c (by omega), fun _ => ⟨fun c => absurd c (by omega), fun _ => ⟨by omega, by omega, ?_⟩⟩⟩
    rw [Int.toNat_natCast]
    refine ⟨fun _ => bX8_readInto_81 ?_, fun c => absurd c (hb i (Nat.le_refl _) (by omega))⟩
    rw [am_w_id (z := (i : Int) + 1) (by unfold am_rg; omega)]
    exact tk_scan h3 hn he h10 K m (i + 1) (by omega) (fun k k1 k2 => hb k (by omega) k2)
theorem tk_rscan {d bc bs : Nat} {Q : Option am_V → am_W → Prop} {b : am_W} {B : Nat → Int} {n st e : Nat} (hB : ∀ i, (0 ≤ B i ∧ B i < 256) ∧ b.1 66 0 i = tk_sb (B i)) (h1 : b.1 9 0 1 = (n : Int)) (hn : n ≤ 3000) (he : e ≤ n) (h10 : e = n ∨ B e = 10)
    (K : am_A (mh_G X) SC (d + 12) mX12_take Q 138 [(0, .inr (.inr (some (9, 0)))), (1, .inl (st : Int)), (2, .inl (e : Int))] [] b bc bs) : ∀ m i : Nat, m + i = e → (∀ k, i ≤ k → k < e → ¬ B k = 10) → am_A (mh_G X) SC (d + 12) mX12_take Q 113 [(0, .inr (.inr (some (9, 0)))), (1, .inl (st : Int)), (2, .inl (i : Int))] [] b bc bs
  | 0, i, hi, hb => by
    have : i = e := by omega
    subst this
    refine bX12_take_113 ?_
    rw [h1]
    refine ⟨fun _ => K, fun c => ⟨by omega, by omega, ?_⟩⟩
    rw [Int.toNat_natCast, (hB i).2]
    exact ⟨fun _ => K, fun c2 => absurd ((tk_sbe (hB i).1 (by omega)).mpr (h10.resolve_left (fun z => c (by rw [z]; exact Int.le_refl _)))) c2⟩
  | m + 1, i, hi, hb => by
    refine bX12_take_113 ?_
    rw [h1]
    refine ⟨fun c => absurd c (by omega), fun _ => ⟨by omega, by omega, ?_⟩⟩
    rw [Int.toNat_natCast, (hB i).2]
    refine ⟨fun c => absurd ((tk_sbe (hB i).1 (by omega)).mp c) (hb i (Nat.le_refl _) (by omega)), fun _ => ?_⟩
    rw [am_w_id (z := (i : Int) + 1) (by unfold am_rg; omega)]
    exact tk_rscan hB h1 hn he h10 K m (i + 1) (by omega) (fun k k1 k2 => hb k (by omega) k2)
def tk_RL (l n : Nat) (a b : am_W) : Prop := mh_La a.1 b.1 l 6 ∧ (∀ i, b.1 66 0 i = tk_sb (a.1 24 0 i)) ∧ b.1 9 0 31 = a.1 2 0 7 ∧ (b.1 9 0 4 = 0 ∧ b.1 9 0 3 = 0 ∧ b.1 9 0 2 = 0) ∧ b.1 9 0 1 = (n : Int)
/-- what is wanted of the reading of all lines from 'fr' on -/
def tk_lp (SC : Nat → Nat) (X : mh_X) (l n fr : Nat) (a a' : am_W) (v : Int) : Prop :=
  tk_IL l a a' ∧ (v = 0 ∨ v = 1) ∧ (v = 1 → tk_Z a') ∧
  ∀ b : am_W, tk_RL l n a b → ∀ (d' kc' ks' : Nat) (Q' : Option am_V → am_W → Prop), (∀ b' : am_W, tk_JL b b' → (v = 0 → ∃ ln t k, ¬ k = 0 ∧ tk_F ln t k b'.1 ∧ tk_G ln t k a') → (v = 1 → (b'.1 9 0 4 = 0 ∧ b'.1 9 0 3 = 0 ∧ b'.1 9 0 2 = 0) ∧ mh_La a'.1 b'.1 l 6) → am_A (mh_G X) SC (d' + 12) mX12_take Q' 161 [(0, .inr (.inr (some (9, 0))))] [] b' kc' ks') →
    am_A (mh_G X) SC (d' + 12) mX12_take Q' 96 [(0, .inr (.inr (some (9, 0)))), (1, .inl (fr : Int))] [] b kc' ks'
theorem tk_loop {d bc bs : Nat} {Q : Option am_V → am_W → Prop} {l n : Nat} (hX : mh_st X r) (hn : n ≤ 3000) : ∀ (m fr : Nat) (a : am_W) (ln rr fe : Nat), n ≤ m + fr → fr ≤ n → (∀ i, 0 ≤ a.1 24 0 i ∧ a.1 24 0 i < 256) → tk_Z a → a.1 2 0 3 = (n : Int) → a.1 2 0 7 = (ln : Int) → ln ≤ fr → (a.1 10 l 10 = (rr : Int) ∧ rr ≤ 30) → (a.1 10 l 11 = (fe : Int) ∧ fe ≤ 8) →
    (∀ (v : Int) (a' : am_W), tk_lp SC X l n fr a a' v → Q (some (.inl v)) a') → am_A (mh_G X) SC (d + 11) mX8_readInto Q 28 [(0, .inr (.inr (some (2, 0)))), (1, .inr (.inr (some (10, l)))), (2, .inl (fr : Int)), (3, .inl (fr : Int))] [] a bc bs := by
  intro m
  induction m with
  | zero =>
    intro fr a ln rr fe hm hf hB hZ h3 h7 hl h10 h11 K
    have : fr = n := by omega
    subst this
    refine tk_scan h3 hn (Nat.le_refl _) (Or.inl rfl) (bX8_readInto_55 ?_) 0 fr (by omega) (fun k k1 k2 => by omega)
    rw [h7, am_w_id (z := (ln : Int) + 1) (by unfold am_rg; omega)]
    refine pX8_readLine0 (d := d) hX hn (fun a' f1 f2 f3 => bX8_readInto_72 ⟨fun _ => bX8_readInto_81 ?_, fun z => absurd z (by decide)⟩)
    have F := tk_IL_t (tk_IL_2 (l := l) (k := 7) (a := a) (v := (ln : Int) + 1) (by decide)) (tk_IL_F f1)
    rw [am_w_id (z := (fr : Int) + 1) (by unfold am_rg; omega)]
    refine bX8_readInto_28 ?_
    rw [F.2.2.1 3 (by decide), h3]
    have n2 : ∀ t, t ∈ tk_IT → ¬ t = 2 := by decide
    refine ⟨fun _ => K 1 a' ⟨F, Or.inr rfl, fun _ k q => ?_, fun b Rb d' kc' ks' Q' KQ => ?_⟩, fun c => absurd (by omega) c⟩
    · rw [f3 k q]; dsimp only; rw [am_up_k (fun e : k = 7 => by rw [e] at q; revert q; decide)]; exact hZ k q
    · obtain ⟨r1, r2, r3, r4, r5⟩ := Rb
      refine bX12_take_96 ?_
      rw [r5]
      refine ⟨fun _ => KQ b tk_JL_r (fun h => absurd h (by decide)) (fun _ => ⟨r4, mh_La_s (l' := l) (m' := 6) r1 (fun t ht => ?_) (fun _ _ => rfl)⟩), fun c => absurd (Int.le_refl _) c⟩
      rw [f2 t ht]; dsimp only; rw [am_up_t (n2 t ht)]
  | succ m ih =>
    intro fr a ln rr fe hm hf hB hZ h3 h7 hl h10 h11 K
    by_cases hfn : fr = n
    · subst hfn
      refine tk_scan h3 hn (Nat.le_refl _) (Or.inl rfl) (bX8_readInto_55 ?_) 0 fr (by omega) (fun k k1 k2 => by omega)
      rw [h7, am_w_id (z := (ln : Int) + 1) (by unfold am_rg; omega)]
      refine pX8_readLine0 (d := d) hX hn (fun a' f1 f2 f3 => bX8_readInto_72 ⟨fun _ => bX8_readInto_81 ?_, fun z => absurd z (by decide)⟩)
      have F := tk_IL_t (tk_IL_2 (l := l) (k := 7) (a := a) (v := (ln : Int) + 1) (by decide)) (tk_IL_F f1)
      rw [am_w_id (z := (fr : Int) + 1) (by unfold am_rg; omega)]
      refine bX8_readInto_28 ?_
      rw [F.2.2.1 3 (by decide), h3]
      have n2 : ∀ t, t ∈ tk_IT → ¬ t = 2 := by decide
      refine ⟨fun _ => K 1 a' ⟨F, Or.inr rfl, fun _ k q => ?_, fun b Rb d' kc' ks' Q' KQ => ?_⟩, fun c => absurd (by omega) c⟩
      · rw [f3 k q]; dsimp only; rw [am_up_k (fun e : k = 7 => by rw [e] at q; revert q; decide)]; exact hZ k q
      · obtain ⟨r1, r2, r3, r4, r5⟩ := Rb
        refine bX12_take_96 ?_
        rw [r5]
        refine ⟨fun _ => KQ b tk_JL_r (fun h => absurd h (by decide)) (fun _ => ⟨r4, mh_La_s (l' := l) (m' := 6) r1 (fun t ht => ?_) (fun _ _ => rfl)⟩), fun c => absurd (Int.le_refl _) c⟩
        rw [f2 t ht]; dsimp only; rw [am_up_t (n2 t ht)]
    · obtain ⟨e, e1, e2, e3⟩ := tk_le (a.1 24 0) n (n - fr) fr (by omega)
      refine tk_scan h3 hn e1.2 e3 (bX8_readInto_55 ?_) (e - fr) fr (by omega) e2
      rw [h7, am_w_id (z := (ln : Int) + 1) (by unfold am_rg; omega)]
      obtain ⟨a1, ha1⟩ : ∃ a1 : am_W, a1 = (am_up a.1 2 0 7 ((ln : Int) + 1), a.2) := ⟨_, rfl⟩
      have F1 : tk_IL l a a1 := by rw [ha1]; exact tk_IL_2 (by decide)
      have T1 : ∀ t, ¬ t = 2 → a1.1 t = a.1 t := fun t ht => by rw [ha1]; dsimp only; rw [am_up_t ht]
      have L1 : a1.1 2 0 7 = (ln : Int) + 1 := by rw [ha1]; dsimp only; rw [am_up_s]
      have n2 : ∀ t, t ∈ tk_IT → ¬ t = 2 := by decide
      rw [← ha1]
      refine pX8_readLine (d := d) (rr := rr) (fe := fe) hX ⟨e1.1, by omega⟩ (by rw [T1 24 (by decide)]; exact hB) (fun k q => by rw [ha1]; dsimp only; rw [am_up_k (fun z : k = 7 => by rw [z] at q; revert q; decide)]; exact hZ k q) L1 (by rw [T1 10 (by decide)]; exact h10.1) h10.2 (by rw [T1 10 (by decide)]; exact h11.1) h11.2 (fun v a' hl1 => bX8_readInto_72 ?_)
      obtain ⟨g1, g2, g3, g4⟩ := hl1
      have F2 := tk_IL_t F1 (tk_IL_F g1)
      -- the reference goes to the line's end, and reads it
      have RD : ∀ b : am_W, tk_RL l n a b → ∀ (d' kc' ks' : Nat) (Q' : Option am_V → am_W → Prop), (∀ b' : am_W, tk_JL b b' → (v = 0 → ∃ t k, ¬ k = 0 ∧ tk_F ((ln : Int) + 1) t k b'.1 ∧ tk_G ((ln : Int) + 1) t k a') → (v = 1 → tk_F ((ln : Int) + 1) 0 0 b'.1 ∧ mh_La a'.1 b'.1 l 6) → am_A (mh_G X) SC (d' + 12) mX12_take Q' 96 [(0, .inr (.inr (some (9, 0)))), (1, .inl ((e + 1 : Nat) : Int))] [] b' kc' ks') →
          am_A (mh_G X) SC (d' + 12) mX12_take Q' 96 [(0, .inr (.inr (some (9, 0)))), (1, .inl (fr : Int))] [] b kc' ks' := by
        intro b Rb d' kc' ks' Q' KQ
        obtain ⟨r1, r2, r3, r4, r5⟩ := Rb
        refine bX12_take_96 ?_
        rw [r5, r4.1]
        refine ⟨fun c => absurd c (by omega), fun _ => ⟨fun c => absurd rfl c, fun _ => tk_rscan (B := a.1 24 0) (fun i => ⟨hB i, r2 i⟩) r5 hn e1.2 e3 (bX12_take_138 ?_) (e - fr) fr (by omega) e2⟩⟩
        rw [r3, h7, am_w_id (z := (ln : Int) + 1) (by unfold am_rg; omega)]
        refine g4 _ (mh_La_s (l' := l) (m' := 6) r1 (fun t ht => T1 t (n2 t ht)) (fun t ht => ?_)) (fun i => ?_) ⟨?_, ?_, fun z => absurd rfl z, fun _ => ?_⟩ d' 0 0 _ (fun b' j1 j2 j3 => bX12_take_154 ?_)
        · dsimp only
          have : ∀ t, t ∈ [68, 69, 71, 73, 75, 78, 81, 83, 85, 87, 88, 89, 90, 91, 92] → ¬ t = 9 := by decide
          rw [am_up_t (this t ht)]
        · dsimp only; rw [am_up_t (by decide), T1 24 (by decide)]; exact r2 i
        · dsimp only; rw [am_up_s]
        · dsimp only; rw [am_up_k (by decide)]; exact r4.1
        · dsimp only; rw [am_up_k (by decide), am_up_k (by decide)]; exact r4.2
        · rw [am_w_id (z := (e : Int) + 1) (by unfold am_rg; omega)]
          exact KQ b' (tk_JL_t (tk_JL_9 (by decide)) (tk_JL_F j1)) j2 j3
      have h3' : a'.1 2 0 3 = (n : Int) := by rw [F2.2.2.1 3 (by decide)]; exact h3
      refine ⟨fun z => ?_, fun z => ?_⟩
      · have v1 : v = 1 := g2.resolve_left z
        subst v1
        obtain ⟨z1, rr', fe', k1, k2⟩ := g3 rfl
        rw [am_w_id (z := (e : Int) + 1) (by unfold am_rg; omega)]
        refine bX8_readInto_81 ?_
        rw [am_w_id (z := (e : Int) + 1) (by unfold am_rg; omega)]
        by_cases en : e = n
        · refine bX8_readInto_28 ?_
          rw [h3']
          refine ⟨fun _ => K 1 a' ⟨F2, Or.inr rfl, fun _ => z1, fun b Rb d' kc' ks' Q' KQ => RD b Rb d' kc' ks' Q' (fun b' j1 j2 j3 => bX12_take_96 ?_)⟩, fun c => absurd (by omega) c⟩
          have t1 : b'.1 9 0 1 = (n : Int) := by rw [j1.1.2.1 1 (by decide)]; exact Rb.2.2.2.2
          obtain ⟨q1, q2⟩ := j3 rfl
          rw [t1]
          exact ⟨fun _ => KQ b' j1 (fun h => absurd h (by decide)) (fun _ => ⟨⟨q1.2.1, q1.2.2.2 rfl⟩, q2⟩), fun c => absurd (by omega) c⟩
        · have l7 : a'.1 2 0 7 = ((ln + 1 : Nat) : Int) := by rw [g1.2.2.1 7 (by decide), L1]; omega
          have b24 : a'.1 24 = a.1 24 := by rw [F2.1 24 (by decide)]
          refine ih (e + 1) a' (ln + 1) rr' fe' (by omega) (by omega) (by rw [b24]; exact hB) z1 h3' l7 (by omega) k1 k2 (fun v a2 hp => K v a2 ?_)
          obtain ⟨p1, p2, p3, p4⟩ := hp
          refine ⟨tk_IL_t F2 p1, p2, p3, fun b Rb d' kc' ks' Q' KQ => RD b Rb d' kc' ks' Q' (fun b' j1 j2 j3 => ?_)⟩
          obtain ⟨q1, q2⟩ := j3 rfl
          refine p4 b' ⟨q2, fun i => ?_, ?_, ⟨q1.2.1, q1.2.2.2 rfl⟩, ?_⟩ d' kc' ks' Q' (fun b2 j4 j5 j6 => KQ b2 (tk_JL_t j1 j4) j5 j6)
          · rw [j1.1.1 66 (by decide) (by decide), b24]; exact Rb.2.1 i
          · rw [q1.1, l7]; omega
          · rw [j1.1.2.1 1 (by decide)]; exact Rb.2.2.2.2
      · subst z
        refine K 0 a' ⟨F2, Or.inl rfl, fun h => absurd h (by decide), fun b Rb d' kc' ks' Q' KQ => RD b Rb d' kc' ks' Q' (fun b' j1 j2 j3 => bX12_take_96 ?_)⟩
        obtain ⟨t, k, k1, k2, k3⟩ := j2 rfl
        have fin : am_A (mh_G X) SC (d' + 12) mX12_take Q' 161 [(0, .inr (.inr (some (9, 0))))] [] b' kc' ks' := KQ b' j1 (fun _ => ⟨_, t, k, k1, k2, k3⟩) (fun h => absurd h (by decide))
        rw [k2.2.1]
        exact ⟨fun _ => fin, fun _ => ⟨fun _ => fin, fun c => absurd c k1⟩⟩
