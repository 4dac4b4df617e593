-- the class finds the tokens
variable {SC : Nat → Nat} {X : mh_X} {r : Option am_I}
theorem mh_tx_b : ∀ k, k < 91 → ∀ c ∈ mh_tx.getD k [], 0 ≤ c ∧ c < 128 := by decide +kernel
theorem mh_tx_c {k i : Nat} (hk : k < 91) (hi : i < (mh_tx.getD k []).length) : 0 ≤ (mh_tx.getD k []).getD i 0 ∧ (mh_tx.getD k []).getD i 0 < 128 := by
  rw [List.getD_eq_getElem?_getD, List.getElem?_eq_getElem hi, Option.getD_some]
  exact mh_tx_b k hk _ (List.getElem_mem hi)
/-- charAt and length of a constant -/
theorem pJ0_len {d kc ks : Nat} {Q : Option am_V → am_W → Prop} {w : am_W} {k : Nat} (hX : mh_st X r) (hk : k < 91) (K : Q (some (.inl ((mh_tx.getD k []).length : Int))) w) : am_M (mh_G X) SC (d + 5) kc ks mJ0_length_8abf5 [.inr (.inr (some (1000, k)))] w Q :=
  pJ0_length (d := d + 3) hX (mh_S_k hk) K
theorem pJ0_chr {d kc ks : Nat} {Q : Option am_V → am_W → Prop} {w : am_W} {k i : Nat} (hX : mh_st X r) (hk : k < 91) (hi : i < (mh_tx.getD k []).length) (K : Q (some (.inl ((mh_tx.getD k []).getD i 0))) w) : am_M (mh_G X) SC (d + 5) kc ks mJ0_charAt_5068e [.inr (.inr (some (1000, k))), .inl (i : Int)] w Q :=
  pJ0_charAt (d := d + 1) hX (mh_S_k hk) (by omega) (by omega) rfl (mh_tx_c hk hi) K
theorem pX10_nameOf {d kc ks : Nat} {Q : Option am_V → am_W → Prop} {w : am_W} {k : Nat} (hk : k < 40) (K : Q (some (.inr (.inr (some (1000, k))))) w) : am_M (mh_G X) SC (d + 2) kc ks mX10_nameOf [.inl (k : Int)] w Q := by
  refine am_M_of (by decide) (Nat.le_of_ble_eq_true rfl) ?_
  have fin : ∀ j : Nat, (k : Int) = (j : Int) → Q (some (.inr (.inr (some (1000, j))))) w := fun j hj => by
    obtain rfl : k = j := by omega
    exact K
  refine bX10_nameOf_0 ⟨fun c => ⟨fun c2 => ?_, fun c2 => ?_⟩, fun c => ?_⟩
  · refine am_M_of (by decide) (Nat.le_of_ble_eq_true rfl) ?_
    refine bX10_lineWord_0 ⟨fun c => bX10_nameOf_30 (fin 39 (by omega)), fun c => bX10_nameOf_30 (fin 29 c), fun c => bX10_nameOf_30 (fin 30 c), fun c => bX10_nameOf_30 (fin 31 c), fun c => bX10_nameOf_30 (fin 32 c), fun c => bX10_nameOf_30 (fin 33 c), fun c => bX10_nameOf_30 (fin 34 c), fun c => bX10_nameOf_30 (fin 35 c), fun c => bX10_nameOf_30 (fin 36 c), fun c => bX10_nameOf_30 (fin 37 c), fun c => bX10_nameOf_30 (fin 38 c)⟩
  · refine am_M_of (by decide) (Nat.le_of_ble_eq_true rfl) ?_
    refine bX10_termOrOption_0 ⟨fun c => bX10_nameOf_23 (fin 28 (by omega)), fun c => bX10_nameOf_23 (fin 17 c), fun c => bX10_nameOf_23 (fin 18 c), fun c => bX10_nameOf_23 (fin 19 c), fun c => bX10_nameOf_23 (fin 20 c), fun c => bX10_nameOf_23 (fin 21 c), fun c => bX10_nameOf_23 (fin 22 c), fun c => bX10_nameOf_23 (fin 23 c), fun c => bX10_nameOf_23 (fin 24 c), fun c => bX10_nameOf_23 (fin 25 c), fun c => bX10_nameOf_23 (fin 26 c), fun c => bX10_nameOf_23 (fin 27 c)⟩
  · refine am_M_of (by decide) (Nat.le_of_ble_eq_true rfl) ?_
    refine bX10_kinOrColour_0 ⟨fun c => bX10_nameOf_10 (fin 16 (by omega)), fun c => bX10_nameOf_10 (fin 0 c), fun c => bX10_nameOf_10 (fin 1 c), fun c => bX10_nameOf_10 (fin 2 c), fun c => bX10_nameOf_10 (fin 3 c), fun c => bX10_nameOf_10 (fin 4 c), fun c => bX10_nameOf_10 (fin 5 c), fun c => bX10_nameOf_10 (fin 6 c), fun c => bX10_nameOf_10 (fin 7 c), fun c => bX10_nameOf_10 (fin 8 c), fun c => bX10_nameOf_10 (fin 9 c), fun c => bX10_nameOf_10 (fin 10 c), fun c => bX10_nameOf_10 (fin 11 c), fun c => bX10_nameOf_10 (fin 12 c), fun c => bX10_nameOf_10 (fin 13 c), fun c => bX10_nameOf_10 (fin 14 c), fun c => bX10_nameOf_10 (fin 15 c)⟩
theorem pX10_isAt {d kc ks : Nat} {Q : Option am_V → am_W → Prop} {w : am_W} {k b e : Nat} (hX : mh_st X r) (hk : k < 91) (he : b ≤ e ∧ e ≤ 3000) (K : ∀ v : Int, (v = 0 ∨ v = 1) → (v = 1 ↔ tk_m (w.1 24 0) k b e) → Q (some (.inl v)) w) :
    am_M (mh_G X) SC (d + 6) kc ks mX10_isAt [.inr (.inr (some (1000, k))), .inr (.inr (some (24, 0))), .inl (b : Int), .inl (e : Int)] w Q := by
  have B : (e : Int) - b = ((mh_tx.getD k []).length : Int) → ∀ n i : Nat, n + i = (mh_tx.getD k []).length → (∀ j, j < i → w.1 24 0 (b + j) = (mh_tx.getD k []).getD j 0) →
      am_A (mh_G X) SC (d + 6) mX10_isAt Q 15 [(0, .inr (.inr (some (1000, k)))), (1, .inr (.inr (some (24, 0)))), (2, .inl (b : Int)), (4, .inl (i : Int))] [] w kc ks := by
    intro le n
    induction n with
    | zero =>
      intro i hi h
      refine bX10_isAt_15 ⟨by decide, rfl, pJ0_len hX hk ?_⟩
      refine bX10_isAt_21 ⟨fun _ => K 1 (Or.inr rfl) ⟨fun _ => ⟨le, fun j hj => h j (by omega)⟩, fun _ => rfl⟩, fun c => absurd (by omega) c⟩
    | succ n ih =>
      intro i hi h
      refine bX10_isAt_15 ⟨by decide, rfl, pJ0_len hX hk ?_⟩
      refine bX10_isAt_21 ⟨fun c => absurd c (by omega), fun _ => ⟨by decide, rfl, pJ0_chr hX hk (by omega) ?_⟩⟩
      refine bX10_isAt_30 ?_
      rw [am_w_id (z := (b : Int) + (i : Int)) (by unfold am_rg; omega), show ((b : Int) + (i : Int)).toNat = b + i by omega]
      refine ⟨by omega, by omega, fun c => ?_, fun c => K 0 (Or.inl rfl) ⟨fun z => absurd z (by decide), fun z => absurd (z.2 i (by omega)).symm c⟩⟩
      rw [am_w_id (z := (i : Int) + 1) (by unfold am_rg; omega)]
      refine ih (i + 1) (by omega) (fun j hj => ?_)
      by_cases z : j = i
      · rw [z]; exact c.symm
      · exact h j (by omega)
  refine am_M_of (by decide) (Nat.le_of_ble_eq_true rfl) ?_
  refine bX10_isAt_0 ⟨by decide, rfl, pJ0_len hX hk ?_⟩
  refine bX10_isAt_4 ?_
  rw [am_w_id (z := (e : Int) - (b : Int)) (by unfold am_rg; omega)]
  exact ⟨fun c => B c.symm _ 0 rfl (fun j hj => absurd hj (Nat.not_lt_zero j)), fun c => K 0 (Or.inl rfl) ⟨fun z => absurd z (by decide), fun z => absurd z.1.symm c⟩⟩
theorem pX10_codeOf {d kc ks : Nat} {Q : Option am_V → am_W → Prop} {w : am_W} {b e : Nat} (hX : mh_st X r) (he : b ≤ e ∧ e ≤ 3000) (K : Q (some (.inl (tk_w (w.1 24 0) b e 40 0 : Int))) w) : am_M (mh_G X) SC (d + 7) kc ks mX10_codeOf [.inr (.inr (some (24, 0))), .inl (b : Int), .inl (e : Int)] w Q := by
  have B : ∀ n k : Nat, n + k = 40 → tk_w (w.1 24 0) b e 40 0 = tk_w (w.1 24 0) b e n k → am_A (mh_G X) SC (d + 7) mX10_codeOf Q 2 [(0, .inr (.inr (some (24, 0)))), (1, .inl (b : Int)), (2, .inl (e : Int)), (3, .inl (k : Int))] [] w kc ks := by
    intro n
    induction n with
    | zero =>
      intro k hk eq
      rw [eq] at K
      exact bX10_codeOf_2 ⟨fun _ => K, fun c => absurd (by omega) c⟩
    | succ n ih =>
      intro k hk eq
      rw [tk_w1 (n := n) (k := k)] at eq
      refine bX10_codeOf_2 ⟨fun c => absurd c (by omega), fun _ => pX10_nameOf (d := d + 4) (by omega) ?_⟩
      refine bX10_codeOf_12 (pX10_isAt (k := k) hX (by omega) he (fun v v1 v2 => ?_))
      refine bX10_codeOf_18 ⟨fun c => ?_, fun c => ?_⟩
      · rw [if_neg (fun z => by have := v2.mpr z; omega)] at eq
        rw [am_w_id (z := (k : Int) + 1) (by unfold am_rg; omega)]
        exact ih (k + 1) (by omega) eq
      · rw [if_pos (v2.mp (by omega))] at eq
        rw [eq] at K
        exact K
  refine am_M_of (by decide) (Nat.le_of_ble_eq_true rfl) ?_
  exact bX10_codeOf_0 (B 40 0 rfl rfl)
theorem pX8_endOfToken {d kc ks : Nat} {Q : Option am_V → am_W → Prop} {w : am_W} {i stop : Nat} (hi : i < stop) (hs : stop ≤ 3000) (K : Q (some (.inl (tk_e (w.1 24 0) stop i : Int))) w) : am_M (mh_G X) SC (d + 2) kc ks mX8_endOfToken [.inr (.inr (some (2, 0))), .inl (i : Int), .inl (stop : Int)] w Q := by
  have L : ∀ n k : Nat, n + k = stop → (tk_e (w.1 24 0) stop i = tk_rl (w.1 24 0) stop n k) → am_A (mh_G X) SC (d + 2) mX8_endOfToken Q 16 [(0, .inr (.inr (some (2, 0)))), (2, .inl (stop : Int)), (3, .inl (k : Int))] [] w kc ks := by
    intro n
    induction n with
    | zero =>
      intro k hk eq
      rw [eq] at K
      exact bX8_endOfToken_16 ⟨fun _ => K, fun c => absurd (by omega) c⟩
    | succ n ih =>
      intro k hk eq
      rw [tk_rl1] at eq
      refine bX8_endOfToken_16 ⟨fun c => absurd c (by omega), fun _ => ⟨by omega, by omega, ?_⟩⟩
      rw [Int.toNat_natCast]
      refine ⟨fun c => ?_, fun c => ?_⟩
      · rw [if_neg (by omega)] at eq; rw [eq] at K; exact K
      · rw [if_pos (by omega)] at eq
        rw [am_w_id (z := (k : Int) + 1) (by unfold am_rg; omega)]
        exact ih (k + 1) (by omega) eq
  have D : ∀ n k : Nat, n + k = stop → (tk_e (w.1 24 0) stop i = tk_rd (w.1 24 0) stop n k) → am_A (mh_G X) SC (d + 2) mX8_endOfToken Q 51 [(0, .inr (.inr (some (2, 0)))), (2, .inl (stop : Int)), (3, .inl (k : Int))] [] w kc ks := by
    intro n
    induction n with
    | zero =>
      intro k hk eq
      rw [eq] at K
      exact bX8_endOfToken_51 ⟨fun _ => K, fun c => absurd (by omega) c⟩
    | succ n ih =>
      intro k hk eq
      rw [tk_rd1] at eq
      refine bX8_endOfToken_51 ⟨fun c => absurd c (by omega), fun _ => ⟨by omega, by omega, ?_⟩⟩
      rw [Int.toNat_natCast]
      refine ⟨fun c => ?_, fun c => ?_⟩
      · rw [if_neg (by omega)] at eq; rw [eq] at K; exact K
      · rw [if_pos (by omega)] at eq
        rw [am_w_id (z := (k : Int) + 1) (by unfold am_rg; omega)]
        exact ih (k + 1) (by omega) eq
  refine am_M_of (by decide) (Nat.le_of_ble_eq_true rfl) ?_
  refine bX8_endOfToken_0 ⟨by omega, by omega, ?_⟩
  rw [Int.toNat_natCast, am_w_id (z := (i : Int) + 1) (by unfold am_rg; omega)]
  refine ⟨fun c => ⟨fun c2 => ?_, fun c2 => ?_⟩, fun c => ?_⟩
  · unfold tk_e at K
    rw [if_neg (by omega), if_neg (by omega)] at K
    exact K
  · refine D (stop - (i + 1)) (i + 1) (by omega) ?_
    unfold tk_e
    rw [if_neg (by omega), if_pos (by omega)]
  · refine L (stop - (i + 1)) (i + 1) (by omega) ?_
    unfold tk_e
    rw [if_pos (by omega)]
theorem pX8_kindOf {d kc ks : Nat} {Q : Option am_V → am_W → Prop} {w : am_W} {b e : Nat} (hX : mh_st X r) (he : b < e ∧ e ≤ 3000) (K : Q (some (.inl (tk_c (w.1 24 0) b e))) w) : am_M (mh_G X) SC (d + 8) kc ks mX8_kindOf [.inr (.inr (some (2, 0))), .inl (b : Int), .inl (e : Int)] w Q := by
  refine am_M_of (by decide) (Nat.le_of_ble_eq_true rfl) ?_
  refine bX8_kindOf_0 ⟨by omega, by omega, ?_⟩
  rw [Int.toNat_natCast]
  unfold tk_c at K
  refine ⟨fun c => ⟨fun c2 => ?_, fun c2 => ?_⟩, fun c => ?_⟩
  · rw [if_neg (by omega), if_neg (by omega)] at K
    exact K
  · rw [if_neg (by omega), if_pos (by omega)] at K
    exact K
  · rw [if_pos (by omega)] at K
    refine pX10_codeOf hX ⟨by omega, he.2⟩ ?_
    exact bX8_kindOf_23 K
/-- the value that the class keeps -/
noncomputable def tk_v (B : Nat → Int) (q : Nat × Nat) : Int := if tk_dg (B q.1) then min (tk_n B q.1 (q.2 - q.1)) 100000 else 0
theorem pX8_valueOf {d kc ks : Nat} {Q : Option am_V → am_W → Prop} {w : am_W} {b e : Nat} (he : b ≤ e ∧ e ≤ 3000) (hd : ∀ k, b ≤ k → k < e → tk_dg (w.1 24 0 k)) (K : Q (some (.inl (min (tk_n (w.1 24 0) b (e - b)) 100000))) w) : am_M (mh_G X) SC (d + 2) kc ks mX8_valueOf [.inr (.inr (some (2, 0))), .inl (b : Int), .inl (e : Int)] w Q := by
  have B : ∀ n k : Nat, n + (b + k) = e → am_A (mh_G X) SC (d + 2) mX8_valueOf Q 5 [(0, .inr (.inr (some (2, 0)))), (2, .inl (e : Int)), (3, .inl (min (tk_n (w.1 24 0) b k) 100000)), (4, .inl ((b + k : Nat) : Int))] [] w kc ks := by
    intro n
    induction n with
    | zero =>
      intro k hk
      refine bX8_valueOf_5 ⟨fun _ => ?_, fun c => absurd (by omega) c⟩
      rw [show e - b = k by omega] at K
      exact K
    | succ n ih =>
      intro k hk
      have nb := tk_n_b (B := w.1 24 0) (b := b) (n := k) (fun j h1 h2 => hd j h1 (by omega))
      have dk := hd (b + k) (by omega) (by omega)
      have n1 := tk_n1 (B := w.1 24 0) (b := b) (n := k)
      refine bX8_valueOf_5 ⟨fun c => absurd c (by omega), fun _ => ⟨by omega, by omega, fun n4 h4 => ?_⟩⟩
      rw [Int.toNat_natCast] at h4
      rw [am_w_id (z := min (tk_n (w.1 24 0) b k) 100000 * 10) (by unfold am_rg; omega), am_w_id (z := min (tk_n (w.1 24 0) b k) 100000 * 10 + w.1 24 0 (b + k)) (by unfold am_rg; omega), am_w_id (by unfold am_rg; omega)] at h4
      rw [am_w_id (z := ((b + k : Nat) : Int) + 1) (by unfold am_rg; omega)]
      have := ih (k + 1) (by omega)
      rw [show n4 = min (tk_n (w.1 24 0) b (k + 1)) 100000 by omega]
      exact this
  refine am_M_of (by decide) (Nat.le_of_ble_eq_true rfl) ?_
  exact bX8_valueOf_0 (B (e - b) 0 (by omega))
theorem tk_c41 {B : Nat → Int} {b e : Nat} : tk_c B b e = 41 ↔ tk_dg (B b) := by
  have := tk_w_b (B := B) (b := b) (e := e) (n := 40) (k := 0) rfl
  unfold tk_c
  split
  · omega
  split
  · omega
  split
  · omega
  split
  · omega
  split
  · omega
  split <;> omega
/-- the tokens stand in the class -/
def tk_C (L : List (Nat × Nat)) (B : Nat → Int) (m : Nat) (W : Nat → Nat → Nat → Int) : Prop := W 2 0 8 = (m : Int) ∧ ∀ j, j < m → j < 64 → W 25 0 j = tk_c B (L.getD j (0, 0)).1 (L.getD j (0, 0)).2 ∧ W 26 0 j = tk_v B (L.getD j (0, 0))
def tk_Cf (w w' : am_W) : Prop := (∀ t, t ∉ [2, 25, 26] → w'.1 t = w.1 t) ∧ w'.2 = w.2 ∧ ∀ k, ¬ k = 8 → w'.1 2 0 k = w.1 2 0 k
theorem pX8_findTokens {d kc ks : Nat} {Q : Option am_V → am_W → Prop} {w : am_W} {start stop : Nat} (hX : mh_st X r) (hs : start ≤ stop ∧ stop ≤ 3000)
    (K : ∀ (v : Int) (w' : am_W), tk_Cf w w' → tk_C (tk_l (w.1 24 0) stop (stop - start) start) (w.1 24 0) (tk_l (w.1 24 0) stop (stop - start) start).length w'.1 → (v = 0 ∨ v = 1) → (v = 0 ↔ tk_f (w.1 24 0) stop (stop - start) start) → Q (some (.inl v)) w') :
    am_M (mh_G X) SC (d + 9) kc ks mX8_findTokens [.inr (.inr (some (2, 0))), .inl (start : Int), .inl (stop : Int)] w Q := by
  obtain ⟨L, hL⟩ : ∃ L, L = tk_l (w.1 24 0) stop (stop - start) start := ⟨_, rfl⟩
  obtain ⟨F, hF⟩ : ∃ F, F = tk_f (w.1 24 0) stop (stop - start) start := ⟨_, rfl⟩
  rw [← hL, ← hF] at K
  have Lk := tk_l_ok (B := w.1 24 0) (stop := stop) (n := stop - start) (i := start)
  rw [← hL] at Lk
  have Bl : ∀ (n i m : Nat) (w1 : am_W) (x3 : Int), stop ≤ n + i → i ≤ stop → x3 ≤ i → m ≤ L.length → tk_Cf w w1 → tk_C L (w.1 24 0) m w1.1 → tk_l (w.1 24 0) stop n i = L.drop m → tk_f (w.1 24 0) stop n i = F →
      am_A (mh_G X) SC (d + 9) mX8_findTokens Q 10 [(0, .inr (.inr (some (2, 0)))), (2, .inl (stop : Int)), (3, .inl x3), (4, .inl (i : Int))] [] w1 kc ks := by
    intro n
    induction n with
    | zero =>
      intro i m w1 x3 h1 h2 h3 hm f c eL eF
      have e1 : m = L.length := by
        have : ([] : List (Nat × Nat)) = L.drop m := eL
        have := congrArg List.length this
        rw [List.length_drop] at this
        have : 0 = L.length - m := this
        omega
      have nF : ¬ F := by rw [← eF]; exact fun z => z
      exact bX8_findTokens_10 ⟨fun _ => K 1 w1 f (by rw [← e1]; exact c) (Or.inr rfl) ⟨fun z => absurd z (by decide), fun z => absurd z nF⟩, fun c => absurd (by omega) c⟩
    | succ n ih =>
      intro i m w1 x3 h1 h2 h3 hm f c eL eF
      rw [tk_l1] at eL
      rw [tk_f1] at eF
      have e24 : w1.1 24 = w.1 24 := f.1 24 (by decide)
      have fin : ¬ (i < stop ∧ ¬ w.1 24 0 i = 35) → Q (some (.inl 1)) w1 := by
        intro z
        rw [if_neg z] at eL eF
        have e1 : m = L.length := by
          have := congrArg List.length eL
          rw [List.length_drop] at this
          have : 0 = L.length - m := this
          omega
        have nF : ¬ F := by rw [← eF]; exact fun z => z
        exact K 1 w1 f (by rw [← e1]; exact c) (Or.inr rfl) ⟨fun z => absurd z (by decide), fun z => absurd z nF⟩
      refine bX8_findTokens_10 ⟨fun c1 => fin (by omega), fun c1 => ⟨by omega, by omega, ?_⟩⟩
      rw [Int.toNat_natCast, e24]
      refine ⟨fun c2 => fin (by omega), fun c2 => ⟨fun c3 => ?_, fun c3 => ?_⟩⟩
      · rw [if_pos ⟨by omega, c2⟩, if_neg c3] at eL eF
        refine pX8_endOfToken (d := d + 6) (by omega) hs.2 ?_
        rw [e24]
        obtain ⟨t1, t2, t3, t4⟩ := tk_e_b (B := w.1 24 0) (stop := stop) (i := i) (by omega)
        refine bX8_findTokens_50 (pX8_kindOf hX ⟨by omega, by omega⟩ ?_)
        rw [e24]
        have c47 := tk_c47 (B := w.1 24 0) (b := i) (e := tk_e (w.1 24 0) stop i)
        refine bX8_findTokens_58 ⟨fun c4 => ?_, fun c4 => ?_⟩
        · rw [if_neg (fun z => c4 (c47.mpr z))] at eL eF
          have ml : m < L.length := by
            have := congrArg List.length eL
            rw [List.length_drop, List.length_cons] at this
            omega
          have Lm : L.getD m (0, 0) = (i, tk_e (w.1 24 0) stop i) := by
            have := congrArg (fun l => l.getD 0 (0, 0)) eL
            rw [List.getD_eq_getElem?_getD, List.getD_eq_getElem?_getD, List.getElem?_drop, Nat.add_zero] at this
            rw [List.getD_eq_getElem?_getD, ← this]
            rfl
          have Ld : tk_l (w.1 24 0) stop n (tk_e (w.1 24 0) stop i) = L.drop (m + 1) := by
            have := congrArg List.tail eL
            rw [List.tail_drop] at this
            exact this
          have nx : ∀ w2 : am_W, tk_Cf w w2 → tk_C L (w.1 24 0) (m + 1) w2.1 → ∀ x5 : Int, am_A (mh_G X) SC (d + 9) mX8_findTokens Q 78 [(5, .inl x5), (3, .inl (tk_e (w.1 24 0) stop i : Int)), (0, .inr (.inr (some (2, 0)))), (2, .inl (stop : Int)), (4, .inl (i : Int))] [] w2 kc ks := by
            intro w2 f2 c2 x5
            refine bX8_findTokens_78a ?_
            rw [am_w_id (z := (i : Int) + 1) (by unfold am_rg; omega), show max (tk_e (w.1 24 0) stop i : Int) ((i : Int) + 1) = (tk_e (w.1 24 0) stop i : Int) by omega]
            exact ih _ (m + 1) w2 _ (by omega) t2 (Int.le_refl _) ml f2 c2 Ld eF
          have l3 : L.length ≤ 3000 := by omega
          have c8 := c.1
          refine am_M_of (by decide) (Nat.le_of_ble_eq_true rfl) ?_
          refine bX8_keepToken_0 ⟨fun c5 => nx _ ?_ ?_ _, fun c5 => ⟨by omega, by omega, ?_⟩⟩
          · rw [c8, am_w_id (by unfold am_rg; omega)]
            refine ⟨fun t ht => (am_up_t (fun e => ht (by rw [e]; decide))).trans (f.1 t ht), f.2.1, fun k hk => (am_up_k hk).trans (f.2.2 k hk)⟩
          · rw [c8, am_w_id (by unfold am_rg; omega)]
            unfold tk_C
            simp (disch := decide) only [am_up_t, am_up_s]
            refine ⟨by omega, fun j hj h64 => c.2 j (by omega) h64⟩
          · rw [c8, Int.toNat_natCast]
            have fc : ∀ y : Int, y = tk_v (w.1 24 0) (L.getD m (0, 0)) → am_A (mh_G X) SC (d + 8) mX8_keepToken (fun r w1 => am_A (mh_G X) SC (d + 9) mX8_findTokens Q 78 [(5, .inl (tk_c (w.1 24 0) i (tk_e (w.1 24 0) stop i))), (3, .inl (tk_e (w.1 24 0) stop i : Int)), (0, .inr (.inr (some (2, 0)))), (2, .inl (stop : Int)), (4, .inl (i : Int))] (r.toList ++ []) w1 kc ks) 43 [(0, .inr (.inr (some (2, 0))))] [.inl y, .inl (m : Int), .inr (.inr (some (26, 0)))] (am_up w1.1 25 0 m (tk_c (w.1 24 0) i (tk_e (w.1 24 0) stop i)), w1.2) 0 0 := by
              intro y hy
              refine bX8_keepToken_43 ⟨by omega, by omega, nx _ ?_ ?_ _⟩
              · simp (disch := decide) only [am_up_t]
                rw [c8, am_w_id (by unfold am_rg; omega), Int.toNat_natCast]
                refine ⟨fun t ht => ?_, f.2.1, fun k hk => ?_⟩
                · show am_up (am_up (am_up _ _ _ _ _) _ _ _ _) _ _ _ _ t = _
                  rw [am_up_t (fun e => ht (by rw [e]; decide)), am_up_t (fun e => ht (by rw [e]; decide)), am_up_t (fun e => ht (by rw [e]; decide))]
                  exact f.1 t ht
                · simp (disch := first | decide | assumption) only [am_up_t, am_up_k]
                  exact f.2.2 k hk
              · unfold tk_C
                simp (disch := decide) only [am_up_t, am_up_s, am_up_a]
                rw [c8, am_w_id (by unfold am_rg; omega), Int.toNat_natCast]
                refine ⟨by omega, fun j hj h64 => ?_⟩
                by_cases z : j = m
                · rw [if_pos z, if_pos z, z, Lm, hy, Lm]; exact ⟨rfl, rfl⟩
                · rw [if_neg z, if_neg z]; exact c.2 j (by omega) h64
            have c41 : tk_c (w.1 24 0) i (tk_e (w.1 24 0) stop i) = 41 ↔ tk_dg (w.1 24 0 i) := tk_c41
            refine ⟨fun c6 => fc 0 ?_, fun c6 => ?_⟩
            · rw [Lm]; unfold tk_v; rw [if_neg (fun z => c6 (c41.mpr z))]
            · have dg := c41.mp c6
              have e24' : (am_up w1.1 25 0 m (tk_c (w.1 24 0) i (tk_e (w.1 24 0) stop i))) 24 = w.1 24 := (am_up_t (by decide)).trans e24
              refine pX8_valueOf (d := d + 5) ⟨by omega, by omega⟩ (fun k h1 h2 => ?_) ?_
              · show tk_dg (am_up w1.1 25 0 m (tk_c (w.1 24 0) i (tk_e (w.1 24 0) stop i)) 24 0 k)
                rw [e24']; exact t4 dg k h1 h2
              · refine bX8_keepToken_39 (fc _ ?_)
                show min (tk_n (am_up w1.1 25 0 m (tk_c (w.1 24 0) i (tk_e (w.1 24 0) stop i)) 24 0) i (tk_e (w.1 24 0) stop i - i)) 100000 = _
                rw [e24', Lm]
                unfold tk_v
                rw [if_pos dg]
        · rw [if_pos (c47.mp c4)] at eL eF
          have e1 : m = L.length := by
            have := congrArg List.length eL
            rw [List.length_drop] at this
            have : 0 = L.length - m := this
            omega
          have yF : F := by rw [← eF]; trivial
          exact K 0 w1 f (by rw [← e1]; exact c) (Or.inl rfl) ⟨fun _ => yF, fun _ => rfl⟩
      · rw [if_pos ⟨by omega, c2⟩, if_pos c3] at eL eF
        refine bX8_findTokens_78 ?_
        rw [am_w_id (z := (i : Int) + 1) (by unfold am_rg; omega), show max x3 ((i : Int) + 1) = ((i + 1 : Nat) : Int) by omega]
        exact ih (i + 1) m w1 x3 (by omega) (by omega) (by omega) hm f c eL eF
  refine am_M_of (by decide) (Nat.le_of_ble_eq_true rfl) ?_
  refine bX8_findTokens_0 (Bl (stop - start) start 0 _ _ (by omega) hs.1 (Int.le_refl _) (Nat.zero_le _) ?_ ?_ (by rw [List.drop_zero]; exact hL.symm) hF.symm)
  · exact ⟨fun t ht => am_up_t (fun e => ht (by rw [e]; decide)), rfl, fun k hk => am_up_k hk⟩
  · exact ⟨by dsimp only; rw [am_up_s]; rfl, fun j hj => absurd hj (Nat.not_lt_zero j)⟩
