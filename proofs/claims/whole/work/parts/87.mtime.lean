-- the reference's hands: day by day
variable {SC : Nat → Nat} {X : mh_X}
def pl_o (w : Nat → Int) : Nat → Nat
  | 0 => 0
  | i + 1 => pl_o w i + if w i = 2 ∨ w i = 3 then 1 else 0
theorem pl_o1 {w : Nat → Int} {i : Nat} : pl_o w (i + 1) = pl_o w i + if w i = 2 ∨ w i = 3 then 1 else 0 := rfl
theorem pl_o_b (w : Nat → Int) : ∀ n, pl_o w n ≤ n
  | 0 => Nat.le_refl _
  | n + 1 => by have := pl_o_b w n; rw [pl_o1]; split <;> omega
theorem pl_F_c {H : Int} {p q : Nat → Int} : ∀ {k : Nat}, (∀ i, i < k → p i = q i) → pl_F H p k = pl_F H q k
  | 0, _ => rfl
  | k + 1, h => by rw [pl_F1, pl_F1, pl_F_c (fun i hi => h i (by omega)), h k (by omega)]
theorem pl_F_L {H : Int} {q w l : Nat → Int} {T : Nat} (hl : pl_F H q T = l) : ∀ {i : Nat}, (∀ j, j < i → (w j = 2 ∨ w j = 3) → q (T + pl_o w j) = w j) → pl_F H q (T + pl_o w i) = pl_L H l w i
  | 0, _ => hl
  | i + 1, h => by
    have ih := pl_F_L hl (i := i) (fun j hj => h j (by omega))
    rw [pl_o1, pl_L1]
    by_cases c : w i = 2 ∨ w i = 3
    · have qi := h i (by omega) c
      rw [if_pos c, show T + (pl_o w i + 1) = T + pl_o w i + 1 by omega, pl_F1, ih, qi]
      rcases c with c | c
      · rw [if_pos c, c]
      · rw [if_neg (by omega), if_pos c, c]
    · rw [if_neg c, Nat.add_zero, ih, if_neg (fun z => c (Or.inl z)), if_neg (fun z => c (Or.inr z))]
theorem pl_fs1 {H D : Int} {l w : Nat → Int} {n : Nat} : pl_fs H D l w (n + 1) ↔ pl_fs H D l w n ∧ pl_ok H D l w n :=
  ⟨fun f => ⟨fun i hi => f i (by omega), f n (by omega)⟩, fun f i hi => by
    by_cases e : i = n
    · rw [e]; exact f.2
    · exact f.1 i (by omega)⟩
theorem pl_fs_r {H D : Int} {q w l : Nat → Int} {T : Nat} (hD : 0 ≤ D) (hl : pl_F H q T = l) : ∀ {i : Nat}, (∀ j, j < i → (w j = 2 ∨ w j = 3) → q (T + pl_o w j) = w j) → ((∀ j, j < pl_o w i → pl_r H q D (T + j) = 0) ↔ pl_fs H D l w i)
  | 0, _ => ⟨fun _ i hi => absurd hi (Nat.not_lt_zero i), fun _ j hj => absurd hj (Nat.not_lt_zero j)⟩
  | i + 1, h => by
    have ih := pl_fs_r hD hl (i := i) (fun j hj => h j (by omega))
    have fl := pl_F_L hl (i := i) (fun j hj => h j (by omega))
    rw [pl_fs1, ← ih, pl_o1]
    by_cases c : w i = 2 ∨ w i = 3
    · have qi := h i (by omega) c
      have e : pl_r H q D (T + pl_o w i) = 0 ↔ pl_ok H D l w i := by
        unfold pl_r pl_ok pl_S
        rw [fl, qi]
        by_cases h0 : 0 < H
        · rw [if_pos h0]
          rcases c with c | c
          · rw [c]; exact ⟨fun z => ⟨fun _ => ⟨h0, by omega⟩, fun z => by omega⟩, fun z => by have := (z.1 rfl).2; omega⟩
          · rw [c]; exact ⟨fun z => ⟨fun z => by omega, fun _ => ⟨h0, by omega⟩⟩, fun z => by have := (z.2 rfl).2; omega⟩
        · rw [if_neg h0]
          exact ⟨fun z => by omega, fun z => by
            rcases c with c | c
            · have := (z.1 c).1; omega
            · have := (z.2 c).1; omega⟩
      rw [if_pos c, ← e]
      exact ⟨fun f => ⟨fun j hj => f j (by omega), f _ (by omega)⟩, fun f j hj => by
        by_cases q : j = pl_o w i
        · rw [q]; exact f.2
        · exact f.1 j (by omega)⟩
    · rw [if_neg c, Nat.add_zero]
      exact ⟨fun f => ⟨f, fun z => absurd (Or.inl z) c, fun z => absurd (Or.inr z) c⟩, fun f => f.1⟩
theorem pl_r_b {H : Int} {q : Nat → Int} {t : Int} {k : Nat} (h : 1 ≤ q k) : 0 ≤ pl_r H q t k ∧ pl_r H q t k ≤ q k := by
  unfold pl_r
  split <;> omega
/-- the sum from T on -/
def pl_sm (r : Nat → Int) (T : Nat) : Nat → Int
  | 0 => 0
  | n + 1 => pl_sm r T n + r (T + n)
theorem pl_sm1 {r : Nat → Int} {T n : Nat} : pl_sm r T (n + 1) = pl_sm r T n + r (T + n) := rfl
theorem pl_sm_b {r : Nat → Int} {T : Nat} : ∀ {n : Nat}, (∀ j, j < n → 0 ≤ r (T + j) ∧ r (T + j) ≤ 3) → (0 ≤ pl_sm r T n ∧ pl_sm r T n ≤ 3 * n) ∧ (pl_sm r T n = 0 ↔ ∀ j, j < n → r (T + j) = 0)
  | 0, _ => ⟨⟨Int.le_refl _, Int.le_refl _⟩, fun _ j hj => absurd hj (Nat.not_lt_zero j), fun _ => rfl⟩
  | n + 1, h => by
    obtain ⟨a, b⟩ := pl_sm_b (r := r) (T := T) (n := n) (fun j hj => h j (by omega))
    have hn := h n (by omega)
    rw [pl_sm1]
    refine ⟨by omega, fun z j hj => ?_, fun z => ?_⟩
    · by_cases e : j = n
      · rw [e]; omega
      · exact b.mp (by omega) j (by omega)
    · have := b.mpr (fun j hj => z j (by omega))
      have := z n (by omega)
      omega
theorem pX12_isInTime {d kc ks : Nat} {Q : Option am_V → am_W → Prop} {W : am_W} {T cnt : Nat} {H D : Int} {tl w l : Nat → Int} (hT : W.1 9 0 81 = (T : Int)) (hT2 : T ≤ 20) (hc : W.1 9 0 91 = (cnt : Int)) (hc5 : cnt ≤ 5) (hH : W.1 9 0 76 = H) (hH2 : 0 ≤ H ∧ H ≤ 4)
    (hD : W.1 9 0 95 = D) (hD2 : 0 ≤ D ∧ D ≤ 1000) (htl : ∀ k, k < T → W.1 132 0 k = tl k ∧ 1 ≤ tl k ∧ tl k ≤ 3) (hl : pl_F H tl T = l) (hw : ∀ j, j < cnt → W.1 135 0 j = w j)
    (K : ∀ (v : Int) (W' : am_W), mh_fm [141] [] W W' → (v = 0 ∨ v = 1) → (v = 1 ↔ pl_fs H D l w cnt) → Q (some (.inl v)) W') :
    am_M (mh_G X) SC (d + 1) kc ks mX12_isInTime [.inr (.inr (some (9, 0)))] W Q := by
  have ob := pl_o_b w
  -- the sum
  have S : ∀ (q : Nat → Int), pl_F H q T = l → (∀ j, j < cnt → (w j = 2 ∨ w j = 3) → q (T + pl_o w j) = w j) → (∀ k, k < T + pl_o w cnt → 1 ≤ q k ∧ q k ≤ 3) → ∀ (n k : Nat) (W1 : am_W), n + k = pl_o w cnt → mh_fm [141] [] W W1 → (∀ k, k < T + pl_o w cnt → W1.1 141 0 k = pl_r H q D k) →
      am_A (mh_G X) SC (d + 1) mX12_isInTime Q 176 [(0, .inr (.inr (some (9, 0)))), (1, .inl ((T + pl_o w cnt : Nat) : Int)), (3, .inl (pl_sm (pl_r H q D) T k)), (4, .inl ((T + k : Nat) : Int))] [] W1 kc ks := by
    intro q q1 q2 q3 n
    have rb : ∀ k, k < T + pl_o w cnt → 0 ≤ pl_r H q D k ∧ pl_r H q D k ≤ 3 := fun k hk => by
      have a := q3 k hk
      have b := pl_r_b (H := H) (t := D) a.1
      omega
    induction n with
    | zero =>
      intro k W1 hk f r
      have e := pl_sm_b (r := pl_r H q D) (T := T) (n := k) (fun j hj => rb _ (by omega))
      have fsr := pl_fs_r hD2.1 q1 (i := cnt) q2
      rw [show pl_o w cnt = k by omega] at fsr
      refine bX12_isInTime_176 ⟨fun _ => ⟨fun c => K 0 W1 f (Or.inl rfl) ⟨fun z => absurd z (by decide), fun z => absurd (e.2.mpr (fsr.mpr z)) c⟩, fun c => K 1 W1 f (Or.inr rfl) ⟨fun _ => fsr.mp (e.2.mp c), fun _ => rfl⟩⟩, fun c => absurd (by omega) c⟩
    | succ n ih =>
      intro k W1 hk f r
      have e := pl_sm_b (r := pl_r H q D) (T := T) (n := k) (fun j hj => rb _ (by omega))
      have b2 := rb (T + k) (by omega)
      have obc := ob cnt
      refine bX12_isInTime_176 ⟨fun c => absurd c (by omega), fun _ => ⟨by omega, by omega, ?_⟩⟩
      rw [Int.toNat_natCast, r _ (by omega), am_w_id (z := pl_sm (pl_r H q D) T k + pl_r H q D (T + k)) (by unfold am_rg; omega), am_w_id (z := ((T + k : Nat) : Int) + 1) (by unfold am_rg; omega)]
      exact ih (k + 1) W1 (by omega) f r
  -- the days
  have Dd : ∀ (q : Nat → Int), pl_F H q T = l → (∀ j, j < cnt → (w j = 2 ∨ w j = 3) → q (T + pl_o w j) = w j) → (∀ k, k < T + pl_o w cnt → 1 ≤ q k ∧ q k ≤ 3) → ∀ (n t : Nat) (W1 : am_W), ((n + t : Nat) : Int) = D → mh_fm [141] [] W W1 → (∀ k, k < T + pl_o w cnt → W1.1 141 0 k = pl_r H q t k) →
      am_A (mh_G X) SC (d + 1) mX12_isInTime Q 102 [(0, .inr (.inr (some (9, 0)))), (1, .inl ((T + pl_o w cnt : Nat) : Int)), (2, .inl ((pl_o w cnt : Nat) : Int)), (3, .inl (t : Int))] [] W1 kc ks := by
    intro q q1 q2 q3 n
    have obc := ob cnt
    induction n with
    | zero =>
      intro t W1 ht f r
      have e95 : W1.1 9 0 95 = D := by rw [f.2.1 95 (by decide)]; exact hD
      refine bX12_isInTime_102 ⟨fun _ => ?_, fun c => absurd (by omega) c⟩
      rw [am_w_id (by unfold am_rg; omega), show ((T + pl_o w cnt : Nat) : Int) - (pl_o w cnt : Int) = ((T + 0 : Nat) : Int) by omega]
      exact S q q1 q2 q3 (pl_o w cnt) 0 W1 rfl f (fun k hk => by rw [r k hk, show (t : Int) = D by omega])
    | succ n ih =>
      intro t W1 ht f r
      have e95 : W1.1 9 0 95 = D := by rw [f.2.1 95 (by decide)]; exact hD
      have e76 : W1.1 9 0 76 = H := by rw [f.2.1 76 (by decide)]; exact hH
      have nx : ∀ W2, mh_fm [141] [] W W2 → (∀ k, k < T + pl_o w cnt → W2.1 141 0 k = pl_r H q ((t + 1 : Nat) : Int) k) → am_A (mh_G X) SC (d + 1) mX12_isInTime Q 163 [(0, .inr (.inr (some (9, 0)))), (1, .inl ((T + pl_o w cnt : Nat) : Int)), (2, .inl ((pl_o w cnt : Nat) : Int)), (3, .inl (t : Int))] [] W2 kc ks := by
        intro W2 f2 r2
        refine bX12_isInTime_163 ?_
        rw [am_w_id (z := (t : Int) + 1) (by unfold am_rg; omega)]
        exact ih (t + 1) W2 (by omega) f2 r2
      have N : ∀ (m k : Nat) (W2 : am_W), m + k = T + pl_o w cnt → mh_fm [141] [] W W2 → pl_n H q t k ≤ H → (∀ i, i < k → W2.1 141 0 i = pl_r H q ((t + 1 : Nat) : Int) i) → (∀ i, k ≤ i → i < T + pl_o w cnt → W2.1 141 0 i = pl_r H q t i) →
          am_A (mh_G X) SC (d + 1) mX12_isInTime Q 119 [(0, .inr (.inr (some (9, 0)))), (1, .inl ((T + pl_o w cnt : Nat) : Int)), (2, .inl ((pl_o w cnt : Nat) : Int)), (3, .inl (t : Int)), (4, .inl (H - pl_n H q t k)), (5, .inl (k : Int))] [] W2 kc ks := by
        intro m
        induction m with
        | zero =>
          intro k W2 hk f2 nl r1 r2
          exact bX12_isInTime_119 ⟨fun _ => nx W2 f2 (fun i hi => r1 i (by omega)), fun c => absurd (by omega) c⟩
        | succ m ihm =>
          intro k W2 hk f2 nl r1 r2
          have nn := pl_nn (H := H) (p := q) (t := (t : Int)) k
          refine bX12_isInTime_119 ⟨fun c => absurd c (by omega), fun _ => ⟨fun c => nx W2 f2 (fun i hi => ?_), fun c => ⟨by omega, by omega, ?_⟩⟩⟩
          · by_cases a : i < k
            · exact r1 i a
            · rw [r2 i (by omega) hi]
              by_cases h0 : 0 < H
              · have r1' := pl_r_1 (t := (t : Int)) h0 (by omega) (k := i) (fun j hj => (q3 j (by omega)).1)
                have nm := pl_nm (H := H) (p := q) (t := (t : Int)) (k := k) (i - k)
                rw [show k + (i - k) = i by omega] at nm
                rw [show ((t + 1 : Nat) : Int) = (t : Int) + 1 by omega, r1']
                split
                · assumption
                · rw [if_neg (by omega)]
              · unfold pl_r; rw [if_neg h0, if_neg h0]
          · have h0 : 0 < H := by omega
            have r1' := pl_r_1 (t := (t : Int)) h0 (by omega) (k := k) (fun j hj => (q3 j (by omega)).1)
            have nk := pl_n1 (H := H) (p := q) (t := (t : Int)) (k := k)
            have a := q3 k (by omega)
            have b := pl_r_b (H := H) (t := (t : Int)) a.1
            rw [Int.toNat_natCast, r2 k (Nat.le_refl _) (by omega)]
            refine ⟨fun c2 => bX12_isInTime_157 ?_, fun c2 => bX12_isInTime_157 ?_⟩
            · rw [am_w_id (z := (k : Int) + 1) (by unfold am_rg; omega), am_w_id (z := H - pl_n H q t k + (-1)) (by unfold am_rg; omega), am_w_id (z := pl_r H q t k - 1) (by unfold am_rg; omega)]
              rw [if_neg c2] at nk
              rw [if_neg c2, if_pos (by omega)] at r1'
              have := ihm (k + 1) (am_up W2.1 141 0 k (pl_r H q t k - 1), W2.2) (by omega) (mh_fmu f2 (by decide) (by decide)) (by omega) (fun i hi => ?_) (fun i h1 h2 => ?_)
              · rw [nk, show H - (pl_n H q t k + 1) = H - pl_n H q t k + (-1) by omega] at this
                exact this
              · show am_up W2.1 141 0 k _ 141 0 i = _
                rw [am_up_a]
                by_cases e : i = k
                · rw [if_pos e, e, ← r1']; rfl
                · rw [if_neg e]; exact r1 i (by omega)
              · show am_up W2.1 141 0 k _ 141 0 i = _
                rw [am_up_k (by omega)]; exact r2 i (by omega) h2
            · rw [am_w_id (z := (k : Int) + 1) (by unfold am_rg; omega)]
              rw [if_pos c2] at nk
              rw [if_pos c2] at r1'
              have := ihm (k + 1) W2 (by omega) f2 (by omega) (fun i hi => ?_) (fun i h1 h2 => r2 i (by omega) h2)
              · rw [nk, Int.add_zero] at this
                exact this
              · by_cases e : i = k
                · rw [e, r2 k (Nat.le_refl _) (by omega), c2, ← r1']; rfl
                · exact r1 i (by omega)
      refine bX12_isInTime_102 ⟨fun c => absurd c (by omega), fun _ => ?_⟩
      rw [e76]
      have := N (T + pl_o w cnt) 0 W1 rfl f hH2.1 (fun i hi => absurd hi (Nat.not_lt_zero i)) (fun i _ hi => r i hi)
      rw [show H - pl_n H q t 0 = H from Int.sub_zero _] at this
      exact this
  -- the plan's own tasks
  have O : ∀ (n i : Nat) (W1 : am_W), n + i = cnt → mh_fm [141] [] W W1 → (∀ k, k < T → W1.1 141 0 k = tl k) → (∀ j, j < i → (w j = 2 ∨ w j = 3) → W1.1 141 0 (T + pl_o w j) = w j) → (∀ k, k < T + pl_o w i → 1 ≤ W1.1 141 0 k ∧ W1.1 141 0 k ≤ 3) →
      am_A (mh_G X) SC (d + 1) mX12_isInTime Q 35 [(0, .inr (.inr (some (9, 0)))), (1, .inl ((T + pl_o w i : Nat) : Int)), (2, .inl (i : Int))] [] W1 kc ks := by
    intro n
    induction n with
    | zero =>
      intro i W1 hi f a b c
      obtain rfl : i = cnt := by omega
      have obc := ob i
      have e91 : W1.1 9 0 91 = (i : Int) := by rw [f.2.1 91 (by decide)]; exact hc
      have e81 : W1.1 9 0 81 = (T : Int) := by rw [f.2.1 81 (by decide)]; exact hT
      have fl : pl_F H (W1.1 141 0) T = l := by rw [← hl]; exact pl_F_c a
      refine bX12_isInTime_35 ⟨fun _ => ?_, fun c => absurd (by omega) c⟩
      rw [e81, am_w_id (by unfold am_rg; omega), show ((T + pl_o w i : Nat) : Int) - (T : Int) = (pl_o w i : Int) by omega]
      refine Dd (W1.1 141 0) fl b c D.toNat 0 W1 (by omega) f (fun k hk => ?_)
      exact (pl_r_0 (c k hk).1 (pl_F_0 (fun j hj => (c j (by omega)).1))).symm
    | succ n ih =>
      intro i W1 hi f a b c
      have obi := ob i
      have e91 : W1.1 9 0 91 = (cnt : Int) := by rw [f.2.1 91 (by decide)]; exact hc
      have wi : W1.1 135 0 i = w i := by rw [f.1 135 (by decide) (by decide)]; exact hw i (by omega)
      have o1 := pl_o1 (w := w) (i := i)
      have go : ∀ p : Int, p = w i → (w i = 2 ∨ w i = 3) → am_A (mh_G X) SC (d + 1) mX12_isInTime Q 86 [(0, .inr (.inr (some (9, 0)))), (1, .inl (am_w (((T + pl_o w i : Nat) : Int) + 1))), (2, .inl (i : Int))] [.inl p, .inl ((T + pl_o w i : Nat) : Int), .inr (.inr (some (141, 0)))] W1 kc ks := by
        intro p hp wc
        rw [if_pos wc] at o1
        refine bX12_isInTime_86 ⟨by omega, by omega, bX12_isInTime_87 ?_⟩
        rw [am_w_id (z := ((T + pl_o w i : Nat) : Int) + 1) (by unfold am_rg; omega), am_w_id (z := (i : Int) + 1) (by unfold am_rg; omega), Int.toNat_natCast, show ((T + pl_o w i : Nat) : Int) + 1 = ((T + pl_o w (i + 1) : Nat) : Int) by omega]
        refine ih (i + 1) _ (by omega) (mh_fmu f (by decide) (by decide)) (fun k hk => ?_) (fun j hj wj => ?_) (fun k hk => ?_)
        · show am_up W1.1 141 0 _ _ 141 0 k = _
          rw [am_up_k (by omega)]; exact a k hk
        · show am_up W1.1 141 0 _ _ 141 0 _ = _
          by_cases e : j = i
          · rw [e, am_up_s]; exact hp
          · have mono : pl_o w j < pl_o w i := by
              have : ∀ m, pl_o w (j + 1) ≤ pl_o w (j + 1 + m) := by
                intro m
                induction m with
                | zero => exact Nat.le_refl _
                | succ m ihm => rw [show j + 1 + (m + 1) = j + 1 + m + 1 by omega, pl_o1 (i := j + 1 + m)]; omega
              have t := this (i - (j + 1))
              rw [show j + 1 + (i - (j + 1)) = i by omega, pl_o1, if_pos wj] at t
              omega
            rw [am_up_k (by omega)]; exact b j (by omega) wj
        · show 1 ≤ am_up W1.1 141 0 _ _ 141 0 k ∧ am_up W1.1 141 0 _ _ 141 0 k ≤ 3
          rw [am_up_a]
          split
          · omega
          · exact c k (by omega)
      refine bX12_isInTime_35 ⟨fun c => absurd c (by omega), fun _ => ⟨by omega, by omega, ?_⟩⟩
      rw [Int.toNat_natCast, wi]
      have g63 : (w i = 2 ∨ w i = 3) → am_A (mh_G X) SC (d + 1) mX12_isInTime Q 63 [(0, .inr (.inr (some (9, 0)))), (1, .inl ((T + pl_o w i : Nat) : Int)), (2, .inl (i : Int))] [] W1 kc ks := by
        intro wc
        refine bX12_isInTime_63 ⟨by omega, by omega, ?_⟩
        rw [Int.toNat_natCast, wi]
        exact ⟨fun z => go 3 (by omega) wc, fun z => go 2 (by omega) wc⟩
      refine ⟨fun z => g63 (Or.inl z), fun z => ⟨fun z2 => bX12_isInTime_87 ?_, fun z2 => g63 (Or.inr z2)⟩⟩
      rw [if_neg (by omega)] at o1
      have o1 : pl_o w (i + 1) = pl_o w i := o1
      rw [am_w_id (z := (i : Int) + 1) (by unfold am_rg; omega), ← o1]
      refine ih (i + 1) W1 (by omega) f a (fun j hj wj => ?_) (by rw [o1]; exact c)
      by_cases e : j = i
      · rw [e] at wj; omega
      · exact b j (by omega) wj
  -- the wardrobe's tasks
  have B : ∀ (n k : Nat) (W1 : am_W), n + k = T → mh_fm [141] [] W W1 → (∀ i, i < k → W1.1 141 0 i = tl i) → am_A (mh_G X) SC (d + 1) mX12_isInTime Q 4 [(0, .inr (.inr (some (9, 0)))), (1, .inl (k : Int)), (2, .inl (k : Int))] [] W1 kc ks := by
    intro n
    induction n with
    | zero =>
      intro k W1 hk f a
      obtain rfl : k = T := by omega
      have e81 : W1.1 9 0 81 = (k : Int) := by rw [f.2.1 81 (by decide)]; exact hT
      refine bX12_isInTime_4 ⟨fun _ => ?_, fun c => absurd (by omega) c⟩
      exact O cnt 0 W1 rfl f a (fun j hj => absurd hj (Nat.not_lt_zero j)) (fun i hi => by rw [a i hi]; exact (htl i hi).2)
    | succ n ih =>
      intro k W1 hk f a
      have e81 : W1.1 9 0 81 = (T : Int) := by rw [f.2.1 81 (by decide)]; exact hT
      refine bX12_isInTime_4 ⟨fun c => absurd c (by omega), fun _ => ⟨by omega, by omega, by omega, by omega, ?_⟩⟩
      rw [am_w_id (z := (k : Int) + 1) (by unfold am_rg; omega), Int.toNat_natCast]
      refine ih (k + 1) _ (by omega) (mh_fmu f (by decide) (by decide)) (fun i hi => ?_)
      show am_up W1.1 141 0 _ _ 141 0 i = _
      rw [am_up_a, f.1 132 (by decide) (by decide)]
      by_cases e : i = k
      · rw [if_pos e, e]; exact (htl k (by omega)).1
      · rw [if_neg e]; exact a i (by omega)
  refine am_M_of (by decide) (Nat.le_of_ble_eq_true rfl) ?_
  exact bX12_isInTime_0 (B T 0 W rfl mh_fm_r (fun i hi => absurd hi (Nat.not_lt_zero i)))
