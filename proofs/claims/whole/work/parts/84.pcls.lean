-- the class's planner: hands, dresses
variable {SC : Nat → Nat} {X : mh_X}
theorem pl_fh_c {l l' : Nat → Int} : ∀ {n : Nat}, (∀ h, h ≤ n → l h = l' h) → pl_fh l n = pl_fh l' n
  | 0, _ => rfl
  | n + 1, h => by
    have ih := pl_fh_c (l := l) (l' := l') (n := n) (fun k hk => h k (by omega))
    have b := (pl_fh_b l' n).1
    rw [pl_fh1, pl_fh1, ih, h (n + 1) (by omega), h _ (by omega : pl_fh l' n ≤ n + 1)]
theorem pl_L_b {H : Int} {l w : Nat → Int} (h : ∀ h, 0 ≤ l h ∧ l h ≤ 60) : ∀ (i h : Nat), 0 ≤ pl_L H l w i h ∧ pl_L H l w i h ≤ 60 + 3 * i
  | 0, j => by have := h j; show 0 ≤ l j ∧ l j ≤ 60 + 3 * ((0 : Nat) : Int); omega
  | i + 1, j => by
    have ih := pl_L_b (H := H) (w := w) h i
    have a2 : ∀ p : Int, 0 ≤ p → p ≤ 3 → 0 ≤ pl_add H (pl_L H l w i) p j ∧ pl_add H (pl_L H l w i) p j ≤ 60 + 3 * ((i + 1 : Nat) : Int) := by
      intro p p0 p1
      unfold pl_add
      split
      · by_cases e : j = pl_f H (pl_L H l w i)
        · rw [e, pl_us]; have := ih (pl_f H (pl_L H l w i)); omega
        · rw [pl_uo e]; have := ih j; omega
      · have := ih j; omega
    rw [pl_L1]
    split
    · exact a2 2 (by decide) (by decide)
    split
    · exact a2 3 (by decide) (by decide)
    · have := ih j; omega
theorem pX7_freeHand {d kc ks : Nat} {Q : Option am_V → am_W → Prop} {W : am_W} {r : Nat} {l : Nat → Int} (hr : r ≤ 5) (hH : 0 < W.1 7 0 10 ∧ W.1 7 0 10 ≤ 4) (hl : ∀ h, h < 4 → W.1 65 0 (4 * r + h) = l h)
    (K : Q (some (.inl ((4 * r + pl_f (W.1 7 0 10) l : Nat) : Int))) W) : am_M (mh_G X) SC (d + 1) kc ks mX7_freeHand [.inr (.inr (some (8, 0))), .inl (r : Int)] W Q := by
  have B : ∀ n k : Nat, ((n + k : Nat) : Int) + 1 = W.1 7 0 10 → am_A (mh_G X) SC (d + 1) mX7_freeHand Q 9 [(0, .inr (.inr (some (8, 0)))), (2, .inl ((r : Int) * 4)), (3, .inl ((4 * r + pl_fh l k : Nat) : Int)), (4, .inl ((k : Int) + 1))] [] W kc ks := by
    intro n
    induction n with
    | zero =>
      intro k hk
      refine bX7_freeHand_9 ⟨fun _ => ?_, fun c => absurd (by omega) c⟩
      unfold pl_f at K
      rw [show (W.1 7 0 10).toNat - 1 = k by omega] at K
      exact K
    | succ n ih =>
      intro k hk
      have fb := (pl_fh_b l k).1
      have e1 := pl_fh1 (l := l) (n := k)
      refine bX7_freeHand_9 ⟨fun c => absurd c (by omega), fun _ => ?_⟩
      rw [am_w_id (z := (r : Int) * 4 + ((k : Int) + 1)) (by unfold am_rg; omega), Int.toNat_natCast, show ((r : Int) * 4 + ((k : Int) + 1)).toNat = 4 * r + (k + 1) by omega, hl _ (by omega), hl _ (by omega)]
      refine ⟨by omega, by omega, by omega, by omega, fun c => bX7_freeHand_44 ?_, fun c => bX7_freeHand_44 ?_⟩
      · rw [am_w_id (z := (k : Int) + 1 + 1) (by unfold am_rg; omega)]
        rw [if_neg (by omega)] at e1
        have := ih (k + 1) (by omega)
        rw [e1] at this
        exact this
      · rw [am_w_id (z := (k : Int) + 1 + 1) (by unfold am_rg; omega)]
        rw [if_pos (by omega)] at e1
        have := ih (k + 1) (by omega)
        rw [e1, show ((4 * r + (k + 1) : Nat) : Int) = (r : Int) * 4 + ((k : Int) + 1) by omega] at this
        exact this
  refine am_M_of (by decide) (Nat.le_of_ble_eq_true rfl) ?_
  refine bX7_freeHand_0 ?_
  rw [am_w_id (z := (r : Int) * 4) (by unfold am_rg; omega)]
  have := B ((W.1 7 0 10).toNat - 1) 0 (by omega)
  rw [show ((4 * r + pl_fh l 0 : Nat) : Int) = (r : Int) * 4 by show ((4 * r + 0 : Nat) : Int) = _; omega] at this
  exact this
/-- the first dress of a size and stuff that is free -/
def mh_lst (I : Nat → Nat → Nat → Int) (s st : Int) (tk : Nat → Bool) : Nat → Nat → Int
  | 0, _ => -1
  | n + 1, k => if I 52 0 k = 0 ∧ tk k = false ∧ I 50 0 k = s ∧ I 51 0 k = st then (k : Int) else mh_lst I s st tk n (k + 1)
theorem mh_lst1 {I : Nat → Nat → Nat → Int} {s st : Int} {tk : Nat → Bool} {n k : Nat} : mh_lst I s st tk (n + 1) k = if I 52 0 k = 0 ∧ tk k = false ∧ I 50 0 k = s ∧ I 51 0 k = st then (k : Int) else mh_lst I s st tk n (k + 1) := rfl
theorem mh_lst_b {I : Nat → Nat → Nat → Int} {s st : Int} {tk : Nat → Bool} : ∀ {n k : Nat}, mh_lst I s st tk n k = -1 ∨ ((k : Int) ≤ mh_lst I s st tk n k ∧ mh_lst I s st tk n k < (k + n : Nat) ∧ tk (mh_lst I s st tk n k).toNat = false)
  | 0, _ => Or.inl rfl
  | n + 1, k => by
    rw [mh_lst1]
    split
    · rename_i c
      refine Or.inr ⟨Int.le_refl _, by omega, ?_⟩
      rw [Int.toNat_natCast]
      exact c.2.1
    · rcases mh_lst_b (I := I) (s := s) (st := st) (tk := tk) (n := n) (k := k + 1) with h | ⟨h1, h2, h3⟩
      · exact Or.inl h
      · exact Or.inr ⟨by omega, by omega, h3⟩
def mh_ls (I : Nat → Nat → Nat → Int) (s st : Int) (tk : Nat → Bool) : Int := mh_lst I s st tk (I 7 0 8).toNat 0
theorem mh_ls_b {I : Nat → Nat → Nat → Int} {s st : Int} {tk : Nat → Bool} (hd : 0 ≤ I 7 0 8 ∧ I 7 0 8 ≤ 40) : mh_ls I s st tk = -1 ∨ (0 ≤ mh_ls I s st tk ∧ mh_ls I s st tk < 40 ∧ tk (mh_ls I s st tk).toNat = false) := by
  unfold mh_ls
  rcases mh_lst_b (I := I) (s := s) (st := st) (tk := tk) (n := (I 7 0 8).toNat) (k := 0) with h | ⟨h1, h2, h3⟩
  · exact Or.inl h
  · exact Or.inr ⟨by omega, by omega, h3⟩
theorem pX9_leastDress {d kc ks : Nat} {Q : Option am_V → am_W → Prop} {W : am_W} {s st : Int} {y : Int64} {tk : Nat → Bool} (hd : 0 ≤ W.1 7 0 8 ∧ W.1 7 0 8 ≤ 40) (hy : ∀ j, j < 40 → (mh_bt y j ↔ tk j = true))
    (K : Q (some (.inl (mh_ls W.1 s st tk))) W) : am_M (mh_G X) SC (d + 1) kc ks mX9_leastDress [.inr (.inr (some (7, 0))), .inl s, .inl st, .inr (.inl y)] W Q := by
  have B : ∀ n k : Nat, ((n + k : Nat) : Int) = W.1 7 0 8 → mh_ls W.1 s st tk = mh_lst W.1 s st tk n k → am_A (mh_G X) SC (d + 1) mX9_leastDress Q 3 [(0, .inr (.inr (some (7, 0)))), (1, .inl s), (2, .inl st), (3, .inr (.inl y)), (5, .inl (k : Int))] [] W kc ks := by
    intro n
    induction n with
    | zero =>
      intro k hk e
      rw [e] at K
      exact bX9_leastDress_3 ⟨fun _ => K, fun c => absurd (by omega) c⟩
    | succ n ih =>
      intro k hk e
      rw [mh_lst1] at e
      have nx : ¬ (W.1 52 0 k = 0 ∧ tk k = false ∧ W.1 50 0 k = s ∧ W.1 51 0 k = st) → am_A (mh_G X) SC (d + 1) mX9_leastDress Q 70 [(0, .inr (.inr (some (7, 0)))), (1, .inl s), (2, .inl st), (3, .inr (.inl y)), (5, .inl (k : Int))] [] W kc ks := by
        intro c
        rw [if_neg c] at e
        refine bX9_leastDress_70 ?_
        rw [am_w_id (z := (k : Int) + 1) (by unfold am_rg; omega)]
        exact ih (k + 1) (by omega) e
      have bt := mh_bt_test (k := (k : Int)) (by omega) y
      rw [Int.toNat_natCast, hy k (by omega)] at bt
      refine bX9_leastDress_3 ⟨fun c => absurd c (by omega), fun _ => ⟨by omega, by omega, ?_⟩⟩
      rw [Int.toNat_natCast]
      refine ⟨fun c => ?_, fun c => ⟨fun c2 => ?_, fun c2 => ?_⟩⟩
      · exact bX9_leastDress_37 (bX9_leastDress_38 ⟨fun _ => nx (fun z => c z.1), fun z => absurd rfl z⟩)
      · exact bX9_leastDress_37 (bX9_leastDress_38 ⟨fun _ => nx (fun z => c2 (bt.mpr (by rw [z.2.1]; decide))), fun z => absurd rfl z⟩)
      · have tf : tk k = false := by cases q : tk k; rfl; exact absurd q (bt.mp c2)
        refine bX9_leastDress_38 ⟨fun z => absurd z (by decide), fun _ => ⟨by omega, by omega, ?_⟩⟩
        rw [Int.toNat_natCast]
        refine ⟨fun c3 => nx (fun z => c3 z.2.2.1), fun c3 => ⟨fun c4 => nx (fun z => c4 z.2.2.2), fun c4 => ?_⟩⟩
        rw [if_pos ⟨c, tf, c3, c4⟩] at e
        rw [e] at K
        exact K
  refine am_M_of (by decide) (Nat.le_of_ble_eq_true rfl) ?_
  exact bX9_leastDress_0 (B _ 0 (by omega) rfl)
/-- hands and rows: whether the way's task is done in time -/
theorem pX7_isInTime {d kc ks : Nat} {Q : Option am_V → am_W → Prop} {W : am_W} {i : Nat} {H D how : Int} {l w : Nat → Int} (hi : i < 5) (hH : W.1 7 0 10 = H ∧ 0 ≤ H ∧ H ≤ 4) (hD : W.1 8 0 10 = D) (hl : ∀ h, 0 ≤ l h ∧ l h ≤ 60)
    (hr : ∀ h, h < 4 → W.1 65 0 (4 * i + h) = pl_L H l w i h)
    (K : ∀ (v : Int) (W' : am_W), (∀ t, ¬ t = 65 → W'.1 t = W.1 t) → W'.2 = W.2 → (∀ c, c < 4 * (i + 1) → W'.1 65 0 c = W.1 65 0 c) → (v = 0 ∨ v = 1) → (v = 1 ↔ pl_ok H D l (pl_u w i how) i) →
      (v = 1 → ∀ h, h < 4 → W'.1 65 0 (4 * (i + 1) + h) = pl_L H l (pl_u w i how) (i + 1) h) → Q (some (.inl v)) W') :
    am_M (mh_G X) SC (d + 2) kc ks mX7_isInTime [.inr (.inr (some (8, 0))), .inl (i : Int), .inl how] W Q := by
  have Le : pl_L H l (pl_u w i how) i = pl_L H l w i := pl_L_c (fun j hj => pl_uo (by omega))
  have L1 : pl_L H l (pl_u w i how) (i + 1) = if how = 2 then pl_add H (pl_L H l w i) 2 else if how = 3 then pl_add H (pl_L H l w i) 3 else pl_L H l w i := by rw [pl_L1, pl_us, Le]
  have Lb := pl_L_b (H := H) (w := w) hl i
  have ok : pl_ok H D l (pl_u w i how) i ↔ (how = 2 → 0 < H ∧ pl_L H l w i (pl_f H (pl_L H l w i)) + 2 ≤ D) ∧ (how = 3 → 0 < H ∧ pl_L H l w i (pl_f H (pl_L H l w i)) + 3 ≤ D) := by
    unfold pl_ok
    rw [pl_us, Le]
  have B : ∀ (n k : Nat) (W' : am_W), n + k = 4 → (∀ t, ¬ t = 65 → W'.1 t = W.1 t) → W'.2 = W.2 → (∀ c, c < 4 * (i + 1) → W'.1 65 0 c = W.1 65 0 c) → (∀ h, h < k → W'.1 65 0 (4 * (i + 1) + h) = pl_L H l w i h) →
      am_A (mh_G X) SC (d + 2) mX7_isInTime Q 12 [(0, .inr (.inr (some (8, 0)))), (1, .inl (i : Int)), (2, .inl how), (3, .inl ((i : Int) * 4)), (4, .inl ((i : Int) * 4 + 4)), (5, .inl (k : Int))] [] W' kc ks := by
    intro n
    induction n with
    | zero =>
      intro k W' hk f1 f2 f3 f4
      have h10 : W'.1 7 0 10 = H := by rw [f1 7 (by decide)]; exact hH.1
      have d10 : W'.1 8 0 10 = D := by rw [f1 8 (by decide)]; exact hD
      have go : ∀ p : Int, (how = 2 ∧ p = 2) ∨ (how = 3 ∧ p = 3) → am_A (mh_G X) SC (d + 2) mX7_isInTime Q 55 [(0, .inr (.inr (some (8, 0)))), (1, .inl (i : Int)), (2, .inl how)] [] W' kc ks := by
        intro p hp
        refine bX7_isInTime_55 ⟨fun c => ?_, fun c => ?_⟩
        · have H0 : 0 < H := by omega
          rw [am_w_id (z := (i : Int) + 1) (by unfold am_rg; omega)]
          have fb := (pl_f_b (pl_L H l w i) H0).1
          refine pX7_freeHand (r := i + 1) (l := pl_L H l w i) (by omega) (by omega) (fun h hh => f4 h (by omega)) ?_
          rw [h10]
          have fin : am_A (mh_G X) SC (d + 2) mX7_isInTime Q 94 [(0, .inr (.inr (some (8, 0)))), (5, .inl ((4 * (i + 1) + pl_f H (pl_L H l w i) : Nat) : Int))] [.inl p, .inl (W'.1 65 0 ((4 * (i + 1) + pl_f H (pl_L H l w i) : Nat) : Int).toNat), .inl ((4 * (i + 1) + pl_f H (pl_L H l w i) : Nat) : Int), .inr (.inr (some (65, 0)))] W' kc ks := by
            have lf := Lb (pl_f H (pl_L H l w i))
            rw [Int.toNat_natCast, f4 _ (by omega)]
            refine bX7_isInTime_94 ⟨by omega, by omega, by omega, by omega, ?_⟩
            rw [Int.toNat_natCast, am_w_id (z := pl_L H l w i (pl_f H (pl_L H l w i)) + p) (by unfold am_rg; omega), am_up_s, d10]
            have KK : ∀ v : Int, (v = 0 ∨ v = 1) → (v = 1 ↔ pl_L H l w i (pl_f H (pl_L H l w i)) + p ≤ D) → Q (some (.inl v)) (am_up W'.1 65 0 (4 * (i + 1) + pl_f H (pl_L H l w i)) (pl_L H l w i (pl_f H (pl_L H l w i)) + p), W'.2) := by
              intro v v1 v2
              refine K v _ (fun t ht => (am_up_t ht).trans (f1 t ht)) f2 (fun c hc => ?_) v1 ?_ (fun _ h hh => ?_)
              · show am_up W'.1 65 0 _ _ 65 0 c = _
                rw [am_up_k (by omega)]; exact f3 c hc
              · rw [ok, v2]
                rcases hp with ⟨a, b⟩ | ⟨a, b⟩
                · rw [b]; exact ⟨fun q => ⟨fun _ => ⟨H0, q⟩, fun z => by omega⟩, fun q => (q.1 a).2⟩
                · rw [b]; exact ⟨fun q => ⟨fun z => by omega, fun _ => ⟨H0, q⟩⟩, fun q => (q.2 a).2⟩
              · show am_up W'.1 65 0 _ _ 65 0 _ = _
                have La : pl_L H l (pl_u w i how) (i + 1) = pl_u (pl_L H l w i) (pl_f H (pl_L H l w i)) (pl_L H l w i (pl_f H (pl_L H l w i)) + p) := by
                  rw [L1]
                  rcases hp with ⟨a, b⟩ | ⟨a, b⟩
                  · rw [if_pos a, b]; unfold pl_add; rw [if_pos H0]
                  · rw [if_neg (by omega), if_pos a, b]; unfold pl_add; rw [if_pos H0]
                rw [La, am_up_a]
                unfold pl_u
                by_cases e : h = pl_f H (pl_L H l w i)
                · rw [if_pos e, if_pos (by omega)]
                · rw [if_neg e, if_neg (by omega)]; exact f4 h (by omega)
            exact ⟨fun c => KK 0 (Or.inl rfl) ⟨fun z => absurd z (by decide), fun z => by omega⟩, fun c => KK 1 (Or.inr rfl) ⟨fun _ => by omega, fun _ => rfl⟩⟩
          refine bX7_isInTime_74 ⟨by omega, by omega, fun c2 => ?_, fun c2 => ?_⟩
          · obtain rfl : p = 3 := by omega
            exact fin
          · obtain rfl : p = 2 := by omega
            exact fin
        · refine K 0 W' f1 f2 f3 (Or.inl rfl) ⟨fun z => absurd z (by decide), fun z => ?_⟩ (fun z => absurd z (by decide))
          have z2 := ok.mp z
          rcases hp with ⟨a, b⟩ | ⟨a, b⟩
          · have := (z2.1 a).1; omega
          · have := (z2.2 a).1; omega
      refine bX7_isInTime_12 ⟨fun _ => ⟨fun c => go 2 (Or.inl ⟨c, rfl⟩), fun c => ⟨fun c2 => go 3 (Or.inr ⟨c2, rfl⟩), fun c2 => ?_⟩⟩, fun c => absurd (by omega) c⟩
      refine K 1 W' f1 f2 f3 (Or.inr rfl) ⟨fun _ => ok.mpr ⟨fun z => absurd z c, fun z => absurd z c2⟩, fun _ => rfl⟩ (fun _ h hh => ?_)
      rw [L1, if_neg c, if_neg c2]
      exact f4 h (by omega)
    | succ n ih =>
      intro k W' hk f1 f2 f3 f4
      refine bX7_isInTime_12 ⟨fun c => absurd c (by omega), fun _ => ?_⟩
      rw [am_w_id (z := (i : Int) * 4 + (k : Int)) (by unfold am_rg; omega), am_w_id (z := (i : Int) * 4 + 4 + (k : Int)) (by unfold am_rg; omega), am_w_id (z := (k : Int) + 1) (by unfold am_rg; omega), show ((i : Int) * 4 + (k : Int)).toNat = 4 * i + k by omega, show ((i : Int) * 4 + 4 + (k : Int)).toNat = 4 * (i + 1) + k by omega]
      refine ⟨by omega, by omega, by omega, by omega, ih (k + 1) _ (by omega) (fun t ht => (am_up_t ht).trans (f1 t ht)) f2 (fun c hc => ?_) (fun h hh => ?_)⟩
      · show am_up W'.1 65 0 _ _ 65 0 c = _
        rw [am_up_k (by omega)]; exact f3 c hc
      · show am_up W'.1 65 0 _ _ 65 0 _ = _
        rw [am_up_a]
        by_cases e : h = k
        · rw [if_pos (by omega), e, f3 _ (by omega)]; exact hr k (by omega)
        · rw [if_neg (by omega)]; exact f4 h (by omega)
  refine am_M_of (by decide) (Nat.le_of_ble_eq_true rfl) ?_
  refine bX7_isInTime_0 ?_
  rw [am_w_id (z := (i : Int) * 4) (by unfold am_rg; omega), am_w_id (z := (i : Int) * 4 + 4) (by unfold am_rg; omega)]
  exact B 4 0 W rfl (fun _ _ => rfl) rfl (fun _ _ => rfl) (fun h hh => absurd hh (Nat.not_lt_zero h))
