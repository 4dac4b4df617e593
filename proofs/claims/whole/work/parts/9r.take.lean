-- take
variable {SC : Nat → Nat} {X : mh_X} {r : Option am_I}
theorem La_rows {I I' J J' : Nat → Nat → Nat → Int} {k : Nat} (h : mh_La I J k k) (hI : ∀ t, t ∈ tk_IT → I' t k = I t k) (h0 : ∀ t, t ∈ [68, 69, 88, 89, 90, 91, 92] → J' t 0 k = J t 0 k) (h1 : ∀ t, t ∈ [71, 73, 75, 83, 85, 87] → J' t k = J t k) (h2 : ∀ t q, t ∈ [78, 81] → q < 30 → J' t (30 * k + q) = J t (30 * k + q)) : mh_La I' J' k k := by
  obtain ⟨a1, a2, a3, a4, a5⟩ := h
  unfold mh_La
  rw [hI 10 (by decide), hI 151 (by decide), hI 152 (by decide), hI 153 (by decide), h0 68 (by decide), h0 69 (by decide), h0 88 (by decide), h0 89 (by decide), h0 90 (by decide), h0 91 (by decide), h0 92 (by decide), h1 83 (by decide), h1 85 (by decide), h1 87 (by decide)]
  refine ⟨a1, fun q hq => ?_, a3, a4, a5⟩
  have := a2 q hq
  rw [hI 144 (by decide), hI 145 (by decide), hI 146 (by decide), hI 147 (by decide), hI 148 (by decide), hI 149 (by decide), hI 150 (by decide), h1 71 (by decide), h1 73 (by decide), h1 75 (by decide), h2 78 q (by decide) (by omega), h2 81 q (by decide) (by omega)]
  exact this
theorem am_up_f {f g : Nat → Nat → Nat → Int} {t j k : Nat} {v : Int} (h : f t = g t) : am_up f t j k v t = am_up g t j k v t := by
  funext a b
  unfold am_up
  rw [h]
theorem La_17 {I J : Nat → Nat → Nat → Int} {l m : Nat} {x : Int} (h : mh_La I J l m) : mh_La (am_up I 10 l 17 x) J l m := by
  unfold mh_La at *
  simp (disch := decide) only [am_up_t, am_up_k]
  exact h
theorem mh_E_take {a b a' b' : am_W} (h : mh_E a b) (f : ∀ t, t ∉ [2, 4, 25, 26] ++ tk_IT → a'.1 t = a.1 t) (fl : a'.2 = a.2) (f4 : ∀ k, ¬ k = 5 → a'.1 4 0 k = a.1 4 0 k)
    (g : ∀ t, t ∉ 9 :: 67 :: tk_JT → b'.1 t = b.1 t) (g9 : ∀ k, k ∉ [1, 2, 3, 4, 21, 30, 31, 32] → b'.1 9 0 k = b.1 9 0 k) (rt : mh_RT a'.1 b'.1) (rl : mh_RL a'.1 b'.1) : mh_E a' b' := by
  obtain ⟨⟨h1, h2⟩, h3, h4, h5, h6, h7, h8, h9⟩ := h
  have F : ∀ (l : List Nat), (∀ t, t ∈ l → t ∉ [2, 4, 25, 26] ++ tk_IT) → ∀ t, t ∈ l → a'.1 t = a.1 t := fun l q t ht => f t (q t ht)
  have G : ∀ (l : List Nat), (∀ t, t ∈ l → t ∉ 9 :: 67 :: tk_JT) → ∀ t, t ∈ l → b'.1 t = b.1 t := fun l q t ht => g t (q t ht)
  have G9 : ∀ (l : List Nat), (∀ t, t ∈ l → t ∉ [1, 2, 3, 4, 21, 30, 31, 32]) → ∀ t, t ∈ l → b'.1 9 0 t = b.1 9 0 t := fun l q t ht => g9 t (q t ht)
  have e1 : a'.1 1 = a.1 1 := f 1 (by decide)
  have e3 : a'.1 3 = a.1 3 := f 3 (by decide)
  have e5 : a'.1 5 = a.1 5 := f 5 (by decide)
  have hn : a.1 1 0 12 ≤ a'.1 1 0 12 := by rw [e1]; exact Int.le_refl _
  refine ⟨⟨mh_Wr_s h1 (F _ (by decide)), mh_We_s h2 (F _ (by decide)) (G _ (by decide)) (G9 _ (by decide))⟩, ?_, rt, rl, ?_, ?_, ?_, ?_⟩
  · unfold mh_RN at *
    rw [g9 33 (by decide), e1]; exact h3
  · exact mh_RK_s h6 hn (fun k _ => by rw [e5]) (F _ (by decide)) (fun t ht => by rw [fl]) (by rw [fl]) (G _ (by decide)) (G9 _ (by decide))
  · exact mh_RO_s h7 (f4 6 (by decide)) (F _ (by decide)) (G _ (by decide)) (g9 52 (by decide))
  · exact mh_RD_s h8 hn (by rw [e5]; exact Int.le_refl _) (by rw [e1]) (F _ (by decide)) (G _ (by decide)) (g9 70 (by decide))
  · exact mh_RP_s h9 (by rw [e3]) (f 27 (by decide)) (g 143 (by decide)) (g9 99 (by decide))
/-- what the reference's take does first -/
def tk_t0 (b w : am_W) : Prop := (∀ t, t ∉ [9, 68, 69, 83, 88, 90, 92] → w.1 t = b.1 t) ∧ w.2 = b.2 ∧ (∀ k, k ∉ [2, 3, 4, 31] → w.1 9 0 k = b.1 9 0 k) ∧ (∀ t m, t ∈ [68, 69, 88, 90, 92] → ¬ m = 6 → w.1 t 0 m = b.1 t 0 m) ∧ (∀ m, ¬ m = 6 → w.1 83 m = b.1 83 m) ∧ (w.1 68 0 6 = 0 ∧ w.1 69 0 6 = 0 ∧ w.1 88 0 6 = 0 ∧ w.1 90 0 6 = 0 ∧ w.1 92 0 6 = -1) ∧ (w.1 9 0 2 = 0 ∧ w.1 9 0 3 = 0 ∧ w.1 9 0 4 = 0)
theorem pX12_take0 {d kc ks : Nat} {Q : Option am_V → am_W → Prop} {b : am_W} (h21 : ¬ b.1 9 0 21 = 6) (K : ∀ w : am_W, tk_t0 b w → w.1 9 0 31 = 0 → (∀ i, i < 4 → w.1 83 6 i = 0) → am_A (mh_G X) SC (d + 12) mX12_take Q 96 [(0, .inr (.inr (some (9, 0)))), (1, .inl ((0 : Nat) : Int))] [] w kc ks) : am_M (mh_G X) SC (d + 12) kc ks mX12_take [.inr (.inr (some (9, 0)))] b Q := by
  have B : ∀ (n i : Nat) (w : am_W), n + i = 4 → tk_t0 b w → (∀ q, q < i → w.1 83 6 q = 0) → am_A (mh_G X) SC (d + 12) mX12_take Q 68 [(0, .inr (.inr (some (9, 0)))), (1, .inl (i : Int))] [] w kc ks := by
    intro n
    induction n with
    | zero =>
      intro i w hi h h83
      obtain ⟨t1, t2, t3, t4, t5, t6, t7⟩ := h
      refine bX12_take_68 ⟨fun _ => K _ ⟨fun t ht => ?_, t2, fun k hk => ?_, fun t m ht hm => ?_, fun m hm => ?_, ?_, ?_⟩ ?_ (fun q hq => ?_), fun c => absurd (by omega) c⟩
      · dsimp only; rw [am_up_t (fun e : t = 9 => ht (by rw [e]; decide))]; exact t1 t ht
      · dsimp only; rw [am_up_k (fun e : k = 31 => hk (by rw [e]; decide))]; exact t3 k hk
      · have : ∀ t, t ∈ [68, 69, 88, 90, 92] → ¬ t = 9 := by decide
        dsimp only; rw [am_up_t (this t ht)]; exact t4 t m ht hm
      · dsimp only; rw [am_up_t (by decide)]; exact t5 m hm
      · dsimp only; simp (disch := decide) only [am_up_t]; exact t6
      · dsimp only; rw [am_up_k (by decide), am_up_k (by decide), am_up_k (by decide)]; exact t7
      · dsimp only; rw [am_up_s]
      · dsimp only; rw [am_up_t (by decide)]; exact h83 q (by omega)
    | succ n ih =>
      intro i w hi h h83
      obtain ⟨t1, t2, t3, t4, t5, t6, t7⟩ := h
      refine bX12_take_68 ⟨fun c => absurd c (by omega), fun _ => ⟨by omega, by omega, ?_⟩⟩
      rw [Int.toNat_natCast, am_w_id (z := (i : Int) + 1) (by unfold am_rg; omega)]
      refine ih (i + 1) _ (by omega) ⟨fun t ht => ?_, t2, fun k hk => ?_, fun t m ht hm => ?_, fun m hm => ?_, ?_, ?_⟩ (fun q hq => ?_)
      · dsimp only; rw [am_up_t (fun e : t = 83 => ht (by rw [e]; decide))]; exact t1 t ht
      · dsimp only; rw [am_up_t (by decide)]; exact t3 k hk
      · have : ∀ t, t ∈ [68, 69, 88, 90, 92] → ¬ t = 83 := by decide
        dsimp only; rw [am_up_t (this t ht)]; exact t4 t m ht hm
      · dsimp only; rw [am_up_j hm]; exact t5 m hm
      · dsimp only; simp (disch := decide) only [am_up_t]; exact t6
      · dsimp only; simp (disch := decide) only [am_up_t]; exact t7
      · dsimp only
        rw [am_up_a]
        by_cases z : q = i
        · rw [if_pos z]
        · rw [if_neg z]; exact h83 q (by omega)
  refine am_M_of (by decide) (Nat.le_of_ble_eq_true rfl) ?_
  refine bX12_take_0 ⟨fun _ => B 4 0 _ rfl ⟨fun t ht => ?_, rfl, fun k hk => ?_, fun t m ht hm => ?_, fun m hm => ?_, ?_, ?_⟩ (fun q hq => absurd hq (Nat.not_lt_zero q)), fun c => absurd c h21⟩
  · simp only [List.mem_cons, not_or] at ht
    obtain ⟨n1, n2, n3, n4, n5, n6, n7, -⟩ := ht
    dsimp only; rw [am_up_t n7, am_up_t n6, am_up_t n5, am_up_t n3, am_up_t n2, am_up_t n1, am_up_t n1, am_up_t n1]
  · simp only [List.mem_cons, not_or] at hk
    obtain ⟨n1, n2, n3, -⟩ := hk
    dsimp only
    simp (disch := decide) only [am_up_t]
    rw [am_up_k n3, am_up_k n2, am_up_k n1]
  · dsimp only
    rcases (show t = 68 ∨ t = 69 ∨ t = 88 ∨ t = 90 ∨ t = 92 by revert ht; revert t; decide) with e | e | e | e | e <;> subst e <;> simp (disch := decide) only [am_up_t, am_up_k hm]
  · dsimp only; simp (disch := decide) only [am_up_t]
  · dsimp only; simp (disch := decide) only [am_up_t, am_up_s]; exact ⟨trivial, trivial, trivial, trivial, trivial⟩
  · dsimp only; simp (disch := decide) only [am_up_t, am_up_k, am_up_s]; exact ⟨trivial, trivial, trivial⟩
theorem qX_take (hX : mh_st X r) : mh_q SC X 12 mX11_take [.inr (.inr (some (1, 0)))] 12 mX12_take [.inr (.inr (some (9, 0)))] := by
  intro a b0 E0 d kc ks Q K
  obtain ⟨ll, hll⟩ := mh_nat (E0.2.2.2.1.1.2.1)
  have l6 : ll ≤ 6 := by have := E0.2.2.2.1.1.2.2; omega
  obtain ⟨n, hn⟩ := mh_nat (E0.2.2.1.1.2.1)
  have n3 : n ≤ 3000 := by have := E0.2.2.1.1.2.2; omega
  have hB : ∀ i, 0 ≤ a.1 24 0 i ∧ a.1 24 0 i < 256 := fun i => (E0.2.2.1.2.2 i).1
  refine am_M_of (by decide) (Nat.le_of_ble_eq_true rfl) ?_
  refine bX11_take_0 ?_
  refine am_M_of (by decide) (Nat.le_of_ble_eq_true rfl) ?_
  refine bX1_blankLaw_0 ?_
  rw [hll, Int.toNat_natCast]
  refine ⟨fun c => ?_, fun c => ⟨by omega, by omega, ?_⟩⟩
  · refine bX11_take_7 (K (-1) a (fun _ _ => rfl) (fun b Eb d' kc' ks' Q' KQ => ?_))
    have b21 : b.1 9 0 21 = (ll : Int) := Eb.2.2.2.1.1.1.trans hll
    refine am_M_of (by decide) (Nat.le_of_ble_eq_true rfl) ?_
    exact bX12_take_0 ⟨fun z => absurd (by rw [b21]; omega) z, fun _ => KQ b Eb (fun _ _ => rfl) rfl⟩
  refine bX11_take_7a ?_
  refine am_M_of (by decide) (Nat.le_of_ble_eq_true rfl) ?_
  refine bX8_readInto_0 (pX3_clear (d := d + 9) (fun a2 c1 c2 c3 c4 c5 => bX8_readInto_19 ?_))
  obtain ⟨a3, ha3⟩ : ∃ a3 : am_W, a3 = (am_up a2.1 2 0 7 0, a2.2) := ⟨_, rfl⟩
  rw [← ha3]
  have n2 : ∀ t, t ∈ tk_IT → ¬ t = 2 := by decide
  have T3 : ∀ t, ¬ t = 2 → ¬ t = 10 → ¬ t = 153 → a3.1 t = a.1 t := fun t t1 t2 t3 => by
    rw [ha3]; dsimp only; rw [am_up_t t1, c1 t t2 t3]; dsimp only; rw [am_up_t t1, am_up_t t1, am_up_t t1]
  have R3 : ∀ t, t ∈ tk_IT → ∀ j, ¬ j = ll → a3.1 t j = a.1 t j := fun t ht j hj => by
    rw [ha3]; dsimp only; rw [am_up_t (n2 t ht), c3 t j hj]; dsimp only; rw [am_up_t (n2 t ht), am_up_t (n2 t ht), am_up_t (n2 t ht)]
  have Z2 : ∀ k, ¬ k = 7 → a3.1 2 0 k = a2.1 2 0 k := fun k hk => by rw [ha3]; dsimp only; rw [am_up_k hk]
  have S2 : ∀ k, k ∉ [4, 5, 6, 7] → a3.1 2 0 k = a.1 2 0 k := fun k hk => by
    simp only [List.mem_cons, not_or] at hk
    obtain ⟨m1, m2, m3, m4, -⟩ := hk
    rw [Z2 k m4, c1 2 (by decide) (by decide)]; dsimp only; rw [am_up_k m3, am_up_k m2, am_up_k m1]
  have Z3 : tk_Z a3 := fun k hk => by
    rw [Z2 k (fun e => by rw [e] at hk; revert hk; decide), c1 2 (by decide) (by decide)]
    dsimp only
    rcases (show k = 4 ∨ k = 5 ∨ k = 6 by revert hk; revert k; decide) with e | e | e <;> subst e <;> simp (disch := decide) only [am_up_k, am_up_s]
  have e7 : a3.1 2 0 7 = 0 := by rw [ha3]; dsimp only; rw [am_up_s]
  have q10 : ∀ k, 10 ≤ k → k ≤ 16 → a3.1 10 ll k = 0 := fun k k1 k2 => by rw [ha3]; dsimp only; rw [am_up_t (by decide)]; exact c4 k k1 k2
  have q153 : ∀ i, i < 4 → a3.1 153 ll i = 0 := fun i hi => by rw [ha3]; dsimp only; rw [am_up_t (by decide)]; exact c5 i hi
  refine tk_loop (d := d) (n := n) hX n3 n 0 a3 0 0 0 (by omega) (by omega) (by rw [T3 24 (by decide) (by decide) (by decide)]; exact hB) Z3 (by rw [S2 3 (by decide)]; exact hn) e7 (Nat.le_refl _) ⟨q10 10 (by decide) (by decide), by decide⟩ ⟨q10 11 (by decide) (by decide), by decide⟩ (fun v a' hp => ?_)
  obtain ⟨f1, f2, f3, f4⟩ := hp
  -- class: what is kept
  have TA : ∀ t, t ∉ [2, 25, 26] ++ tk_IT → a'.1 t = a.1 t := fun t ht => by
    rw [f1.1 t (by simpa using ht), T3 t (fun e => ht (by rw [e]; decide)) (fun e => ht (by rw [e]; decide)) (fun e => ht (by rw [e]; decide))]
  have RA : ∀ t, t ∈ tk_IT → ∀ j, ¬ j = ll → a'.1 t j = a.1 t j := fun t ht j hj => (f1.2.2.2 t ht j hj).trans (R3 t ht j hj)
  have LA : a'.2 = a.2 := by rw [f1.2.1, ha3]; dsimp only; rw [c2]
  have S3 : a'.1 2 0 3 = (n : Int) := by rw [f1.2.2.1 3 (by decide), S2 3 (by decide)]; exact hn
  have l4 : a'.1 4 0 5 = (ll : Int) := by rw [TA 4 (by decide)]; exact hll
  -- the reference up to the end of its reading
  have REF : ∀ b : am_W, mh_E a b → ∀ (d' kc' ks' : Nat) (Q' : Option am_V → am_W → Prop), (∀ b' : am_W, (∀ t, t ∉ 9 :: tk_JT → b'.1 t = b.1 t) → b'.2.1 = b.2.1 → (∀ k, k ∉ [2, 3, 4, 30, 31, 32] → b'.1 9 0 k = b.1 9 0 k) → (∀ t m, t ∈ [68, 69, 88, 89, 90, 91, 92] → m < 6 → b'.1 t 0 m = b.1 t 0 m) → (∀ t m, t ∈ [71, 73, 75, 83, 85, 87] → m < 6 → b'.1 t m = b.1 t m) → (∀ t q, t ∈ [78, 81] → q < 180 → b'.1 t q = b.1 t q) →
      (v = 0 → ∃ ln t k, ¬ k = 0 ∧ tk_F ln t k b'.1 ∧ tk_G ln t k a') → (v = 1 → (b'.1 9 0 4 = 0 ∧ b'.1 9 0 3 = 0 ∧ b'.1 9 0 2 = 0) ∧ mh_La a'.1 b'.1 ll 6) → am_A (mh_G X) SC (d' + 12) mX12_take Q' 161 [(0, .inr (.inr (some (9, 0))))] [] b' kc' ks') → am_M (mh_G X) SC (d' + 12) kc' ks' mX12_take [.inr (.inr (some (9, 0)))] b Q' := by
    intro b Eb d' kc' ks' Q' KQ
    have b21 : b.1 9 0 21 = (ll : Int) := Eb.2.2.2.1.1.1.trans hll
    have b1 : b.1 9 0 1 = (n : Int) := Eb.2.2.1.1.1.trans hn
    refine pX12_take0 (d := d') (by rw [b21]; omega) (fun w t0 w31 w83 => ?_)
    obtain ⟨t1, t2, t3, t4, t5, ⟨s1, s2, s3, s4, s5⟩, u1, u2, u3⟩ := t0
    have La0 : mh_La a3.1 w.1 ll 6 := by
      unfold mh_La
      rw [q10 10 (by decide) (by decide), q10 11 (by decide) (by decide), q10 12 (by decide) (by decide), q10 13 (by decide) (by decide), q10 14 (by decide) (by decide), q10 15 (by decide) (by decide), q10 16 (by decide) (by decide), s1, s2, s3, s4, s5]
      exact ⟨⟨rfl, by decide, by decide⟩, fun q hq => absurd hq (by omega), ⟨⟨rfl, by decide, by decide⟩, fun i hi => absurd hi (by omega)⟩, fun i hi => by rw [q153 i hi, w83 i hi]; exact ⟨rfl, by decide, by decide⟩, ⟨rfl, by decide, by decide⟩, fun h => absurd h (by decide), ⟨by decide, by decide⟩, ⟨rfl, by decide, by decide⟩, fun h => absurd h (by decide), ⟨by decide, by decide⟩, Or.inr ⟨rfl, rfl⟩, by decide, by decide⟩
    have e66 : ∀ i, w.1 66 0 i = tk_sb (a3.1 24 0 i) := fun i => by
      rw [t1 66 (by decide), T3 24 (by decide) (by decide) (by decide)]; exact (Eb.2.2.1.2.2 i).2
    refine f4 w ⟨La0, e66, by rw [w31, e7], ⟨u3, u2, u1⟩, by rw [t3 1 (by decide)]; exact b1⟩ d' kc' ks' Q' (fun b' j1 j2 j3 => ?_)
    obtain ⟨⟨g1, g2, g3⟩, j4, j5, j6⟩ := j1
    refine KQ b' (fun t ht => ?_) (by rw [g3, t2]) (fun k hk => ?_) (fun t m ht hm => ?_) (fun t m ht hm => ?_) (fun t m ht hm => ?_) j2 j3
    · have s9 : ∀ t, t ∈ [9, 68, 69, 83, 88, 90, 92] → t ∈ 9 :: tk_JT := by decide
      rw [g1 t (fun z => ht (List.mem_cons_of_mem _ z)) (fun e => ht (by rw [e]; decide)), t1 t (fun z => ht (s9 t z))]
    · have s9 : ∀ k, k ∈ [2, 3, 4, 31] → k ∈ [2, 3, 4, 30, 31, 32] := by decide
      rw [g2 k (by
        have s8 : ∀ k, k ∈ [2, 3, 4, 30, 31, 32] → k ∈ [2, 3, 4, 30, 31, 32] := fun _ h => h
        exact fun z => hk (s8 k z)), t3 k (fun z => hk (s9 k z))]
    · rw [j4 t m ht hm]
      by_cases z : t ∈ [68, 69, 88, 90, 92]
      · exact t4 t m z (by omega)
      · have : ∀ t, t ∈ [68, 69, 88, 89, 90, 91, 92] → ¬ t ∈ [68, 69, 88, 90, 92] → t ∉ [9, 68, 69, 83, 88, 90, 92] := by decide
        rw [t1 t (this t ht z)]
    · rw [j5 t m ht hm]
      by_cases z : t = 83
      · rw [z]; exact t5 m (by omega)
      · have : ∀ t, t ∈ [71, 73, 75, 83, 85, 87] → ¬ t = 83 → t ∉ [9, 68, 69, 83, 88, 90, 92] := by decide
        rw [t1 t (this t ht z)]
    · have : ∀ t, t ∈ [78, 81] → t ∉ [9, 68, 69, 83, 88, 90, 92] := by decide
      rw [j6 t m ht hm, t1 t (this t ht)]
  have nJ : ∀ t, t ∉ 9 :: 67 :: tk_JT → t ∉ 9 :: tk_JT ∧ ¬ t = 9 ∧ ¬ t = 67 := fun t ht => by
    simp only [List.mem_cons, not_or] at ht ⊢
    exact ⟨⟨ht.1, ht.2.2⟩, ht.1, ht.2.1⟩
  have tcm : ∀ t, t ∉ mh_tc → t ∉ [2, 25, 26] ++ tk_IT ∧ ¬ t = 2 ∧ ¬ t = 4 ∧ ¬ t = 10 := fun t ht => by
    have s : ∀ t, t ∈ 4 :: ([2, 25, 26] ++ tk_IT) → t ∈ mh_tc := by decide
    exact ⟨fun z => ht (s t (List.mem_cons_of_mem _ z)), fun e => ht (s t (by rw [e]; decide)), fun e => ht (s t (by rw [e]; decide)), fun e => ht (s t (by rw [e]; decide))⟩
  have trm : ∀ t, t ∈ 9 :: tk_JT → t ∈ mh_tr := by decide
  refine bX11_take_22 ⟨fun z => ?_, fun z => ?_⟩
  · have v1 : v = 1 := f2.resolve_left z
    subst v1
    have Z1 := f3 rfl
    rw [l4, am_w_id (z := (ll : Int) + 1) (by unfold am_rg; omega)]
    have n1 : a'.1 1 0 12 = a.1 1 0 12 := by rw [TA 1 (by decide)]
    have e10 : (am_up a'.1 10 ll 17 (a'.1 1 0 12)) 10 ll 10 = a'.1 10 ll 10 := am_up_k (by decide)
    rw [e10]
    refine K _ _ (fun t ht => ?_) (fun b Eb d' kc' ks' Q' KQ => REF b Eb d' kc' ks' Q' (fun b' g1 g2 g3 g4 g5 g6 j2 j3 => ?_))
    · obtain ⟨x1, x2, x3, x4⟩ := tcm t ht
      dsimp only; rw [am_up_t x3, am_up_t x4, am_up_t x2]; exact TA t x1
    obtain ⟨⟨k4, k3, k2⟩, La⟩ := j3 rfl
    have b21 : b.1 9 0 21 = (ll : Int) := Eb.2.2.2.1.1.1.trans hll
    have b'21 : b'.1 9 0 21 = (ll : Int) := by rw [g3 21 (by decide)]; exact b21
    refine bX12_take_161 ⟨fun _ => ?_, fun y => absurd (by rw [am_up_k (by decide)]; exact k4) y⟩
    rw [am_up_k (by decide), b'21]
    refine pX12_copies (d := d' + 10) (l := ll) (by omega) (fun w cp => bX12_take_183 ?_)
    have La6 : mh_La a'.1 (am_up b'.1 9 0 1 0, b'.2).1 ll 6 := mh_La_s (l' := ll) (m' := 6) La (fun _ _ => rfl) (fun t ht => by
      have : ∀ t, t ∈ [68, 69, 71, 73, 75, 78, 81, 83, 85, 87, 88, 89, 90, 91, 92] → ¬ t = 9 := by decide
      dsimp only; rw [am_up_t (this t ht)])
    have Lw := La_copy La6 cp
    obtain ⟨⟨⟨y1, y2, y3, y4, y5⟩, -⟩, -⟩ := cp
    have w9 : w.1 9 = am_up b'.1 9 0 1 0 9 := y1 9 (by decide)
    have w21 : w.1 9 0 21 = (ll : Int) := by rw [w9, am_up_k (by decide)]; exact b'21
    have wk : ∀ k, ¬ k = 1 → w.1 9 0 k = b'.1 9 0 k := fun k hk => by rw [w9, am_up_k hk]
    have w1 : w.1 9 0 1 = 0 := by rw [w9, am_up_s]
    have w33 : w.1 9 0 33 = a.1 1 0 12 := by rw [wk 33 (by decide), g3 33 (by decide)]; exact Eb.2.1.1
    rw [w21, am_w_id (z := (ll : Int) + 1) (by unfold am_rg; omega), am_up_s, show (ll : Int) + 1 - 1 = (ll : Int) by omega, am_w_id (z := (ll : Int)) (by unfold am_rg; omega), Int.toNat_natCast, w33, show w.1 68 0 ll = a'.1 10 ll 10 from Lw.1.1]
    refine ⟨by omega, by omega, by omega, by omega, KQ _ (mh_E_take Eb (fun t ht => ?_) LA (fun k hk => ?_) (fun t ht => ?_) (fun k hk => ?_) ?_ ⟨?_, fun l' hl' => ?_⟩) (fun t ht => ?_) ?_⟩
    · have x : t ∉ [2, 25, 26] ++ tk_IT ∧ ¬ t = 2 ∧ ¬ t = 4 ∧ ¬ t = 10 := by
        refine ⟨fun y => ht ?_, fun e => ht (by rw [e]; decide), fun e => ht (by rw [e]; decide), fun e => ht (by rw [e]; decide)⟩
        have s : ∀ t, t ∈ [2, 25, 26] ++ tk_IT → t ∈ [2, 4, 25, 26] ++ tk_IT := by decide
        exact s t y
      obtain ⟨x1, x2, x3, x4⟩ := x
      dsimp only; rw [am_up_t x3, am_up_t x4, am_up_t x2]; exact TA t x1
    · dsimp only; rw [am_up_k hk, am_up_t (by decide), am_up_t (by decide), TA 4 (by decide)]
    · obtain ⟨x1, x2, x3⟩ := nJ t ht
      have xc : t ∉ tk_CT := fun y => x1 (by
        have s : ∀ t, t ∈ tk_CT → t ∈ 9 :: tk_JT := by decide
        exact s t y)
      dsimp only; rw [am_up_t x2, am_up_t x3, y1 t xc]; dsimp only; rw [am_up_t x2]; exact g1 t x1
    · simp only [List.mem_cons, not_or] at hk
      obtain ⟨h1, h2, h3, h4, h5, h6, h7, h8, -⟩ := hk
      dsimp only; rw [am_up_k h5, am_up_t (by decide), wk k h1, g3 k (by simp only [List.mem_cons, not_or]; exact ⟨h2, h3, h4, h6, h7, h8, by simp⟩)]
    · obtain ⟨m1, m2, m3⟩ := Eb.2.2.1
      unfold mh_RT
      dsimp only
      have x4 := Z1 4 (by decide)
      have x5 := Z1 5 (by decide)
      have x6 := Z1 6 (by decide)
      simp (disch := decide) only [am_up_t, am_up_k, am_up_s]
      rw [w1, wk 2 (by decide), wk 3 (by decide), wk 4 (by decide), k2, k3, k4, x4, x5, x6, y1 66 (by decide), TA 24 (by decide)]
      refine ⟨⟨rfl, by decide, by decide⟩, ⟨rfl, rfl, rfl⟩, fun k => ?_⟩
      dsimp only
      rw [am_up_t (by decide), g1 66 (by decide)]
      exact m3 k
    · dsimp only
      rw [am_up_s, am_up_s]
      exact ⟨rfl, by omega, by omega⟩
    · dsimp only at hl'
      rw [am_up_s] at hl'
      dsimp only
      by_cases q : l' = ll
      · subst q
        refine ⟨mh_La_s (l' := l') (m' := l') (La_17 (x := a'.1 1 0 12) Lw) (fun t ht => ?_) (fun t ht => ?_), ?_⟩
        · have : ∀ t, t ∈ [10, 144, 145, 146, 147, 148, 149, 150, 151, 152, 153] → ¬ t = 4 ∧ ¬ t = 2 := by decide
          obtain ⟨x1, x2⟩ := this t ht
          rw [am_up_t x1]
          by_cases z : t = 10
          · subst z; exact am_up_f (am_up_t (by decide))
          · rw [am_up_t z, am_up_t z, am_up_t x2]
        · have : ∀ t, t ∈ [68, 69, 71, 73, 75, 78, 81, 83, 85, 87, 88, 89, 90, 91, 92] → ¬ t = 9 ∧ ¬ t = 67 := by decide
          obtain ⟨x1, x2⟩ := this t ht
          rw [am_up_t x1, am_up_t x2]
        · simp (disch := decide) only [am_up_t, am_up_s]
          rw [n1]
          exact ⟨rfl, Eb.2.1.2.1, Int.le_refl _⟩
      · obtain ⟨z1, z2, z3, z4⟩ := Eb.2.2.2.1.2 l' (by rw [hll]; omega)
        have e10 : ∀ t, t ∈ tk_IT → ∀ k, am_up (am_up (am_up a'.1 2 0 3 0) 10 ll 17 (a'.1 1 0 12)) 4 0 5 (↑ll + 1) t l' k = a.1 t l' k := fun t ht k => by
          have x1 : ∀ t, t ∈ tk_IT → ¬ t = 4 ∧ ¬ t = 2 := by decide
          rw [am_up_t (x1 t ht).1, ← RA t ht l' (fun e => q e), ← am_up_t (f := a'.1) (j := 0) (k := 3) (v := 0) (x1 t ht).2]
          by_cases y : t = 10
          · subst y; rw [am_up_j (fun e => q e)]
          · rw [am_up_t y]
        have e9 : ∀ t, ¬ t = 9 → ¬ t = 67 → am_up (am_up w.1 67 0 ll (a.1 1 0 12)) 9 0 21 (↑ll + 1) t = w.1 t := fun t t1 t2 => by rw [am_up_t t1, am_up_t t2]
        refine ⟨La_rows z1 (fun t ht => funext (e10 t ht)) (fun t ht => ?_) (fun t ht => ?_) (fun t m ht hm => ?_), ?_, ?_⟩
        · have x1 : ∀ t, t ∈ [68, 69, 88, 89, 90, 91, 92] → ¬ t = 9 ∧ ¬ t = 67 := by decide
          rw [e9 t (x1 t ht).1 (x1 t ht).2, y3 t l' ht q]
          dsimp only
          rw [am_up_t (x1 t ht).1]
          exact g4 t l' ht (by omega)
        · have x1 : ∀ t, t ∈ [71, 73, 75, 83, 85, 87] → ¬ t = 9 ∧ ¬ t = 67 := by decide
          rw [e9 t (x1 t ht).1 (x1 t ht).2, y4 t l' ht q]
          dsimp only
          rw [am_up_t (x1 t ht).1]
          exact g5 t l' ht (by omega)
        · have x1 : ∀ t, t ∈ [78, 81] → ¬ t = 9 ∧ ¬ t = 67 := by decide
          rw [e9 t (x1 t ht).1 (x1 t ht).2, y5 t (30 * l' + m) ht (by omega)]
          dsimp only
          rw [am_up_t (x1 t ht).1]
          exact g6 t (30 * l' + m) ht (by omega)
        · rw [e10 10 (by decide), am_up_t (by decide), am_up_k q, y1 67 (by decide)]
          dsimp only
          rw [am_up_t (by decide), g1 67 (by decide)]
          exact z2
        · rw [e10 10 (by decide), am_up_t (by decide), am_up_t (by decide), am_up_t (by decide), TA 1 (by decide)]
          exact ⟨z3, z4⟩
    · have xc : t ∉ 9 :: tk_JT := fun y => ht (trm t y)
      have xk : t ∉ tk_CT := fun y => xc (by
        have s : ∀ t, t ∈ tk_CT → t ∈ 9 :: tk_JT := by decide
        exact s t y)
      have x9 : ¬ t = 9 := fun e => ht (by rw [e]; decide)
      have x67 : ¬ t = 67 := fun e => ht (by rw [e]; decide)
      dsimp only
      rw [am_up_t x9, am_up_t x67, y1 t xk]
      dsimp only
      rw [am_up_t x9]
      exact g1 t xc
    · dsimp only
      rw [y2]
      exact g2
  · subst z
    refine K _ _ (fun t ht => ?_) (fun b Eb d' kc' ks' Q' KQ => REF b Eb d' kc' ks' Q' (fun b' g1 g2 g3 g4 g5 g6 j2 j3 => ?_))
    · obtain ⟨x1, x2, x3, x4⟩ := tcm t ht
      dsimp only; rw [am_up_t x2]; exact TA t x1
    obtain ⟨ln, tt, k, k0, jF, jG⟩ := j2 rfl
    have b21 : b.1 9 0 21 = (ll : Int) := Eb.2.2.2.1.1.1.trans hll
    refine bX12_take_161 ⟨fun y => absurd (by rw [am_up_k (by decide)] at y; exact y) (fun e => k0 (jF.2.1.symm.trans e)), fun _ => KQ _ (mh_E_take Eb (fun t ht => ?_) LA (fun k hk => ?_) (fun t ht => ?_) (fun k hk => ?_) ?_ ⟨?_, fun l' hl' => ?_⟩) (fun t ht => ?_) g2⟩
    · have x : t ∉ [2, 25, 26] ++ tk_IT ∧ ¬ t = 2 := by
        refine ⟨fun y => ht ?_, fun e => ht (by rw [e]; decide)⟩
        have s : ∀ t, t ∈ [2, 25, 26] ++ tk_IT → t ∈ [2, 4, 25, 26] ++ tk_IT := by decide
        exact s t y
      dsimp only; rw [am_up_t x.2]; exact TA t x.1
    · dsimp only; rw [am_up_t (by decide), TA 4 (by decide)]
    · obtain ⟨x1, x2, x3⟩ := nJ t ht
      dsimp only; rw [am_up_t x2]; exact g1 t x1
    · simp only [List.mem_cons, not_or] at hk
      obtain ⟨h1, h2, h3, h4, h5, h6, h7, h8, -⟩ := hk
      dsimp only; rw [am_up_k h1, g3 k (by simp only [List.mem_cons, not_or]; exact ⟨h2, h3, h4, h6, h7, h8, by simp⟩)]
    · obtain ⟨m1, m2, m3⟩ := Eb.2.2.1
      obtain ⟨y4, y5, y6⟩ := jG
      obtain ⟨-, x4, x5, -⟩ := jF
      obtain ⟨x3, x2⟩ := x5 k0
      unfold mh_RT
      dsimp only
      simp (disch := decide) only [am_up_t, am_up_k, am_up_s]
      rw [x2, x3, x4, y4, y5, y6, TA 24 (by decide), g1 66 (by decide)]
      exact ⟨⟨trivial, by decide, by decide⟩, ⟨rfl, rfl, rfl⟩, m3⟩
    · dsimp only
      rw [am_up_k (by decide), am_up_t (by decide), g3 21 (by decide), TA 4 (by decide)]
      exact Eb.2.2.2.1.1
    · dsimp only at hl'
      rw [am_up_t (by decide), TA 4 (by decide)] at hl'
      obtain ⟨z1, z2, z3, z4⟩ := Eb.2.2.2.1.2 l' hl'
      rw [hll] at hl'
      have q : ¬ l' = ll := by omega
      have e10 : ∀ t, t ∈ tk_IT → ∀ k, am_up a'.1 2 0 3 0 t l' k = a.1 t l' k := fun t ht k => by
        have x1 : ∀ t, t ∈ tk_IT → ¬ t = 2 := by decide
        rw [am_up_t (x1 t ht), RA t ht l' q]
      dsimp only
      refine ⟨La_rows z1 (fun t ht => funext (e10 t ht)) (fun t ht => ?_) (fun t ht => ?_) (fun t m ht hm => ?_), ?_, ?_⟩
      · have x1 : ∀ t, t ∈ [68, 69, 88, 89, 90, 91, 92] → ¬ t = 9 := by decide
        rw [am_up_t (x1 t ht)]
        exact g4 t l' ht (by omega)
      · have x1 : ∀ t, t ∈ [71, 73, 75, 83, 85, 87] → ¬ t = 9 := by decide
        rw [am_up_t (x1 t ht)]
        exact g5 t l' ht (by omega)
      · have x1 : ∀ t, t ∈ [78, 81] → ¬ t = 9 := by decide
        rw [am_up_t (x1 t ht)]
        exact g6 t (30 * l' + m) ht (by omega)
      · rw [e10 10 (by decide), am_up_t (by decide), g1 67 (by decide)]
        exact z2
      · rw [e10 10 (by decide), am_up_t (by decide), TA 1 (by decide)]
        exact ⟨z3, z4⟩
    · dsimp only
      rw [am_up_t (fun e => ht (by rw [e]; decide))]
      exact g1 t (fun y => ht (trm t y))
