-- wear, dyeDarker, sew, choose
variable {SC : Nat → Nat} {X : mh_X}
section
variable {I : Nat → Nat → Nat → Int} {cnt : Nat} {P : pl_X} {n D : Nat} {i : Nat} {w d : Nat → Int} {tk : Nat → Bool} {us : Nat → Int} {b : pl_B} {W : am_W} {kc ks : Nat} {Q : Option am_V → am_W → Prop}
theorem pl_lst_is (hX : pl_XS I cnt P) (hP : pl_PC I cnt P i w d tk us b W) (s st : Int) : pl_lst P s st tk = mh_ls W.1 s st tk ∧ (pl_lst P s st tk = -1 ∨ (0 ≤ pl_lst P s st tk ∧ pl_lst P s st tk < 40)) := by
  obtain ⟨-, -, -, -, -, xs, -, xd⟩ := hX
  have e : mh_ls W.1 s st tk = mh_ls I s st tk := by
    have l : ∀ n k, mh_lst W.1 s st tk n k = mh_lst I s st tk n k := by
      intro n
      induction n with
      | zero => intro k; rfl
      | succ n ih =>
        intro k
        rw [mh_lst1, mh_lst1, ih, hP.1 50 (by decide), hP.1 51 (by decide), hP.1 52 (by decide)]
    unfold mh_ls
    rw [l, hP.1 7 (by decide)]
  rw [xs, e]
  refine ⟨rfl, ?_⟩
  rcases mh_ls_b (I := I) (s := s) (st := st) (tk := tk) xd with h | h
  · exact Or.inl h
  · exact Or.inr ⟨h.1, h.2.1⟩
theorem pX7_wear (hX : pl_XS I cnt P) (IH : pl_CS SC X I cnt P n (D + 3)) (hn : n + 1 + i = cnt) (hP : pl_PC I cnt P i w d tk us b W) (hf : pl_fs (pl_H P) (pl_D P) (pl_l P) w i)
    (K : ∀ W', pl_fr W W' → pl_PC I cnt P i w d tk us (pl_d1 P (pl_T P n) i w d tk us 1 (pl_nd P i) b) W' → Q none W') :
    am_M (mh_G X) SC (D + 5) kc ks mX7_wear [.inr (.inr (some (8, 0))), .inl (i : Int), .inl (pl_c w i)] W Q := by
  have x5 := hX.2.2.2.2.2.2.1
  have xd := hX.2.2.2.2.2.2.2
  have ls := pl_lst_is hX hP (pl_sz P i) (pl_nd P i)
  have q3 := hP.2.2.1 i (by omega)
  have q7 := hP.2.2.2.2.2.2.1
  refine am_M_of (by decide) (Nat.le_of_ble_eq_true rfl) ?_
  refine bX7_wear_0 ⟨by omega, by omega, ?_⟩
  rw [Int.toNat_natCast, q3.1, q3.2]
  refine pX9_leastDress (by rw [hP.1 7 (by decide)]; exact xd) q7 ?_
  rw [← ls.1]
  refine bX7_wear_23 ⟨fun c => ?_, fun c => ?_⟩
  · refine K W pl_fr_r ?_
    unfold pl_d1
    rw [if_pos c]
    exact hP
  · have := pX7_pick (kc := 0) (ks := 0) (how := 1) (dr := pl_lst P (pl_sz P i) (pl_nd P i) tk) hX IH hn hP hf ls.2 (Q := fun r w1 => am_A (mh_G X) SC (D + 5) mX7_wear Q 37 [(3, .inl (pl_lst P (pl_sz P i) (pl_nd P i) tk)), (0, .inr (.inr (some (8, 0)))), (1, .inl (i : Int)), (2, .inl (pl_c w i))] (r.toList ++ []) w1 kc ks) (fun W' f' P' => bX7_wear_37 (K W' f' ?_))
    · rw [show pl_c w i + pl_cw 1 = pl_c w i from Int.add_zero _] at this
      exact this
    · unfold pl_d1
      rw [if_neg c]
      exact P'
theorem pX7_dyeDarker (hX : pl_XS I cnt P) (IH : pl_CS SC X I cnt P n (D + 3)) (hn : n + 1 + i = cnt) (hP : pl_PC I cnt P i w d tk us b W) (hf : pl_fs (pl_H P) (pl_D P) (pl_l P) w i)
    (K : ∀ W', pl_fr W W' → pl_PC I cnt P i w d tk us (pl_dy (fun s => pl_d1 P (pl_T P n) i w d tk us 2 (s : Int)) (pl_nd P i).toNat b) W' → Q none W') :
    am_M (mh_G X) SC (D + 5) kc ks mX7_dyeDarker [.inr (.inr (some (8, 0))), .inl (i : Int), .inl (pl_c w i)] W Q := by
  have x5 := hX.2.2.2.2.2.2.1
  have xd := hX.2.2.2.2.2.2.2
  have xn := hX.2.2.2.1 i (by omega)
  have cb := pl_c_b w i
  have B : ∀ (m : Nat) (b : pl_B) (W1 : am_W), pl_fr W W1 → pl_PC I cnt P i w d tk us b W1 → m ≤ 4 → (∀ W', pl_fr W W' → pl_PC I cnt P i w d tk us (pl_dy (fun s => pl_d1 P (pl_T P n) i w d tk us 2 (s : Int)) m b) W' → Q none W') →
      am_A (mh_G X) SC (D + 5) mX7_dyeDarker Q 9 [(0, .inr (.inr (some (8, 0)))), (1, .inl (i : Int)), (2, .inl (pl_c w i)), (3, .inl ((m : Int) - 1))] [] W1 kc ks := by
    intro m
    induction m with
    | zero =>
      intro b W1 f1 P1 _ K
      exact bX7_dyeDarker_9 ⟨fun _ => K W1 f1 P1, fun c => absurd (by omega) c⟩
    | succ m ih =>
      intro b W1 f1 P1 hm K
      have q3 := P1.2.2.1 i (by omega)
      have ls := pl_lst_is hX P1 (pl_sz P i) (m : Int)
      have nx : ∀ W', pl_fr W W' → pl_PC I cnt P i w d tk us (pl_d1 P (pl_T P n) i w d tk us 2 (m : Int) b) W' → am_A (mh_G X) SC (D + 5) mX7_dyeDarker Q 9 [(0, .inr (.inr (some (8, 0)))), (1, .inl (i : Int)), (2, .inl (pl_c w i)), (3, .inl (am_w ((m : Int) + (-1))))] [] W' kc ks := by
        intro W' f' P'
        rw [am_w_id (z := (m : Int) + (-1)) (by unfold am_rg; omega)]
        exact ih _ W' f' P' (by omega) K
      rw [show ((m + 1 : Nat) : Int) - 1 = (m : Int) by omega]
      refine bX7_dyeDarker_9 ⟨fun c => absurd c (by omega), fun _ => ⟨by omega, by omega, ?_⟩⟩
      rw [Int.toNat_natCast, q3.1]
      refine pX9_leastDress (by rw [P1.1 7 (by decide)]; exact xd) P1.2.2.2.2.2.2.1 ?_
      rw [← ls.1]
      refine bX7_dyeDarker_31 ⟨fun c => bX7_dyeDarker_50 (nx W1 f1 ?_), fun c => ?_⟩
      · unfold pl_d1
        rw [if_pos c]
        exact P1
      · have := pX7_pick (kc := 0) (ks := 0) (how := 2) (dr := pl_lst P (pl_sz P i) (m : Int) tk) hX IH hn P1 hf ls.2 (Q := fun r w1 => am_A (mh_G X) SC (D + 5) mX7_dyeDarker Q 50 [(4, .inl (pl_lst P (pl_sz P i) (m : Int) tk)), (0, .inr (.inr (some (8, 0)))), (1, .inl (i : Int)), (2, .inl (pl_c w i)), (3, .inl (m : Int))] (r.toList ++ []) w1 kc ks) (fun W' f' P' => bX7_dyeDarker_50a (nx W' (pl_fr_t f1 f') ?_))
        · rw [am_w_id (z := pl_c w i + 1) (by unfold am_rg; omega)]
          exact this
        · unfold pl_d1
          rw [if_neg c]
          exact P'
  have q3 := hP.2.2.1 i (by omega)
  refine am_M_of (by decide) (Nat.le_of_ble_eq_true rfl) ?_
  refine bX7_dyeDarker_0 ⟨by omega, by omega, ?_⟩
  rw [Int.toNat_natCast, q3.2, am_w_id (by unfold am_rg; omega)]
  have := B (pl_nd P i).toNat b W pl_fr_r hP (by omega) K
  rw [show ((pl_nd P i).toNat : Int) - 1 = pl_nd P i - 1 by omega] at this
  exact this
theorem pX7_sew (hX : pl_XS I cnt P) (IH : pl_CS SC X I cnt P n (D + 3)) (hn : n + 1 + i = cnt) (hP : pl_PC I cnt P i w d tk us b W) (hf : pl_fs (pl_H P) (pl_D P) (pl_l P) w i)
    (K : ∀ W', pl_fr W W' → pl_PC I cnt P i w d tk us (pl_d3 P (pl_T P n) i w d tk us b) W' → Q none W') :
    am_M (mh_G X) SC (D + 5) kc ks mX7_sew [.inr (.inr (some (8, 0))), .inl (i : Int), .inl (pl_c w i)] W Q := by
  have x5 := hX.2.2.2.2.2.2.1
  have xn := hX.2.2.2.1 i (by omega)
  have xc := hX.2.2.2.2.1 (pl_nd P i).toNat
  have cb := pl_c_b w i
  have q3 := hP.2.2.1 i (by omega)
  have q5 := hP.2.2.2.2.1 (pl_nd P i).toNat (by omega)
  have p53 := hP.1 53 (by decide)
  refine am_M_of (by decide) (Nat.le_of_ble_eq_true rfl) ?_
  refine bX7_sew_0 ⟨by omega, by omega, ?_⟩
  rw [Int.toNat_natCast, q3.2, q5.1, p53, ← xc.1]
  refine ⟨by omega, by omega, fun c => ?_, fun c => ?_⟩
  · refine K W pl_fr_r ?_
    unfold pl_d3
    rw [if_neg (by omega)]
    exact hP
  · rw [am_w_id (z := us (pl_nd P i).toNat + 1) (by unfold am_rg; omega), am_w_id (z := pl_c w i + 10) (by unfold am_rg; omega)]
    have hP' : pl_PC I cnt P i w d tk (pl_u us (pl_nd P i).toNat (us (pl_nd P i).toNat + 1)) b (am_up W.1 64 0 (pl_nd P i).toNat (us (pl_nd P i).toNat + 1), W.2) := by
      obtain ⟨p1, p2, p4, p5, p6, p7, p8, p9⟩ := hP
      refine ⟨fun t ht => ?_, ?_, fun j hj => ?_, fun j hj => ?_, fun s hs => ?_, fun r hr h hh => ?_, p8, ?_⟩
      · show am_up _ _ _ _ _ t = _
        rw [am_up_t (fun e => by rw [e] at ht; revert ht; decide)]; exact p1 t ht
      · simp (disch := decide) only [am_up_t]; exact p2
      · simp (disch := decide) only [am_up_t]; exact p4 j hj
      · simp (disch := decide) only [am_up_t]; exact p5 j hj
      · simp only [am_up_a]
        unfold pl_u
        by_cases e : s = (pl_nd P i).toNat
        · rw [if_pos e, if_pos e]; exact ⟨rfl, by omega, by omega⟩
        · rw [if_neg e, if_neg e]; exact p6 s hs
      · simp (disch := decide) only [am_up_t]; exact p7 r hr h hh
      · simp (disch := decide) only [am_up_t]; exact p9
    refine pX7_pick (how := 3) (dr := -1) hX IH hn hP' hf (Or.inl rfl) (fun W' f' P' => ?_)
    obtain ⟨p1, p2, p4, p5, p6, p7, p8, p9⟩ := P'
    have p6n := p6 (pl_nd P i).toNat (by omega)
    rw [pl_us] at p6n
    refine bX7_sew_46 ⟨by omega, by omega, ?_⟩
    rw [p6n.1, am_w_id (z := us (pl_nd P i).toNat + 1 - 1) (by unfold am_rg; omega), show us (pl_nd P i).toNat + 1 - 1 = us (pl_nd P i).toNat by omega]
    refine K _ (pl_fr_u (pl_fr_t (pl_fr_u pl_fr_r (by decide)) f') (by decide)) ?_
    unfold pl_d3
    rw [if_pos (by omega)]
    refine ⟨fun t ht => ?_, ?_, fun j hj => ?_, fun j hj => ?_, fun s hs => ?_, fun r hr h hh => ?_, p8, ?_⟩
    · show am_up _ _ _ _ _ t = _
      rw [am_up_t (fun e => by rw [e] at ht; revert ht; decide)]; exact p1 t ht
    · simp (disch := decide) only [am_up_t]; exact p2
    · simp (disch := decide) only [am_up_t]; exact p4 j hj
    · simp (disch := decide) only [am_up_t]; exact p5 j hj
    · simp only [am_up_a]
      by_cases e : s = (pl_nd P i).toNat
      · rw [if_pos e, e]; exact ⟨rfl, q5.2⟩
      · have := p6 s hs
        rw [pl_uo e] at this
        rw [if_neg e]; exact this
    · simp (disch := decide) only [am_up_t]; exact p7 r hr h hh
    · simp (disch := decide) only [am_up_t]; exact p9
end
theorem pX7_choose {I : Nat → Nat → Nat → Int} {cnt : Nat} {P : pl_X} (hX : pl_XS I cnt P) : ∀ (n D : Nat), pl_CS SC X I cnt P n (D + 3 * n + 6)
  | 0, D => by
    intro i w d tk us b W kc ks Q hn hP hf K
    have x5 := hX.2.2.2.2.2.2.1
    have p2 := hP.2.1.1
    have p9 := hP.2.2.2.2.2.2.2
    have p91 := p9.1
    obtain rfl : i = cnt := by omega
    refine am_M_of (by decide) (Nat.le_of_ble_eq_true rfl) ?_
    rw [pl_T0] at K
    refine bX7_choose_0 ⟨fun c => ⟨fun _ => ?_, fun c2 => absurd (by omega) c2⟩, fun c => ?_⟩
    · rw [if_pos ⟨by omega, hf⟩] at K
      refine bX7_choose_22 ?_
      refine pX7_keep p2 x5 (fun W' f1 f2 f3 f4 f5 => ?_)
      refine bX7_choose_27 (K W' ⟨fun t ht => f1 t (fun e => ht (by clear ht; revert e; revert t; decide)), fun t _ => by rw [f2]⟩ ?_)
      obtain ⟨p1, p2, p4, p5, p6, p7, p8, p9⟩ := hP
      refine ⟨fun t ht => ?_, ?_, fun j hj => ?_, fun j hj => ?_, fun s hs => ?_, fun r hr h hh => ?_, fun j hj => ?_, f4, fun _ j hj => ?_⟩
      · rw [f1 t (fun e => by revert e; revert ht; revert t; decide)]; exact p1 t ht
      · rw [f3 9 (by decide), f3 10 (by decide)]; exact p2
      · rw [f1 58 (by decide), f1 59 (by decide)]; exact p4 j hj
      · rw [f1 60 (by decide), f1 61 (by decide)]; exact p5 j hj
      · rw [f1 64 (by decide)]; exact p6 s hs
      · rw [f1 65 (by decide)]; exact p7 r hr h hh
      · rw [f2]; exact p8 j hj
      · rw [(f5 j hj).1, (f5 j hj).2]; exact p5 j hj
    · rw [if_neg (fun z => by omega)] at K
      exact K W pl_fr_r hP
  | n + 1, D => by
    intro i w d tk us b W kc ks Q hn hP hf K
    have IH : pl_CS SC X I cnt P n (D + 3 * n + 3 + 3) := pX7_choose hX n D
    have IH' : pl_CS SC X I cnt P n (D + 3 * n + 4 + 3) := by
      have := pX7_choose hX n (D + 1)
      rw [show D + 1 + 3 * n + 6 = D + 3 * n + 4 + 3 by omega] at this
      exact this
    have x5 := hX.2.2.2.2.2.2.1
    have xn := hX.2.2.2.1 i (by omega)
    have p2 := hP.2.1.1
    have p91 := hP.2.2.2.2.2.2.2.1
    have q3 := hP.2.2.1 i (by omega)
    have cb := pl_c_b w i
    rw [show D + 3 * (n + 1) + 6 = D + 3 * n + 3 + 6 by omega]
    refine am_M_of (by decide) (Nat.le_of_ble_eq_true rfl) ?_
    refine bX7_choose_0 ⟨fun c => ⟨fun c2 => absurd c2 (by omega), fun c2 => ⟨fun c3 => ⟨by omega, ?_⟩, fun c3 => absurd (by omega) c3⟩⟩, fun c => ?_⟩
    · rw [Int.toNat_natCast, q3.2]
      rw [pl_T1] at K
      refine ⟨fun c4 => ?_, fun c4 => ?_⟩
      · rw [if_neg c4] at K
        refine pX7_wear hX IH (by omega) hP hf (fun W1 f1 P1 => ?_)
        refine bX7_choose_56 ?_
        refine pX7_dyeDarker hX IH (by omega) P1 hf (fun W2 f2 P2 => ?_)
        refine bX7_choose_62 ?_
        refine pX7_sew hX IH (by omega) P2 hf (fun W3 f3 P3 => ?_)
        refine bX7_choose_68 ?_
        rw [am_w_id (z := pl_c w i + 100) (by unfold am_rg; omega)]
        refine pX7_pick (how := 4) (dr := -1) hX IH' (by omega) P3 hf (Or.inl rfl) (fun W4 f4 P4 => ?_)
        exact bX7_choose_79 (K W4 (pl_fr_t f1 (pl_fr_t f2 (pl_fr_t f3 f4))) P4)
      · rw [if_pos c4] at K
        have := pX7_pick (kc := 0) (ks := 0) (how := 0) (dr := -1) hX IH' (by omega) hP hf (Or.inl rfl) (Q := fun r w1 => am_A (mh_G X) SC (D + 3 * n + 3 + 6) mX7_choose Q 47 [(0, .inr (.inr (some (8, 0)))), (1, .inl (i : Int)), (2, .inl (pl_c w i))] (r.toList ++ []) w1 kc ks) (fun W4 f4 P4 => bX7_choose_47 (K W4 f4 P4))
        rw [show pl_c w i + pl_cw 0 = pl_c w i from Int.add_zero _] at this
        exact this
    · rw [pl_P1 (n + 1) (by omega)] at K
      exact K W pl_fr_r hP
