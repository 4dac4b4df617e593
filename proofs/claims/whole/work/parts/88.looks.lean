-- the reference's search is pl_T: least, looks
variable {SC : Nat → Nat} {X : mh_X}
def pl_k (w : Nat → Int) (v : Int) : Nat → Int
  | 0 => 0
  | i + 1 => pl_k w v i + if w i = v then 1 else 0
theorem pl_k1 {w : Nat → Int} {v : Int} {i : Nat} : pl_k w v (i + 1) = pl_k w v i + if w i = v then 1 else 0 := rfl
theorem pl_k_b (w : Nat → Int) (v : Int) : ∀ n : Nat, 0 ≤ pl_k w v n ∧ pl_k w v n ≤ n
  | 0 => ⟨Int.le_refl _, Int.le_refl _⟩
  | n + 1 => by have := pl_k_b w v n; rw [pl_k1]; split <;> omega
theorem pl_k_c (w : Nat → Int) : ∀ n : Nat, pl_c w n = 100 * pl_k w 4 n + 10 * pl_k w 3 n + pl_k w 2 n
  | 0 => rfl
  | n + 1 => by
    have := pl_k_c w n
    rw [pl_c1, pl_k1, pl_k1, pl_k1]
    unfold pl_cw
    by_cases c4 : w n = 4
    · rw [if_pos c4, if_pos c4, if_neg (show ¬ w n = 3 by omega), if_neg (show ¬ w n = 2 by omega)]; omega
    · rw [if_neg c4, if_neg c4]
      by_cases c3 : w n = 3
      · rw [if_pos c3, if_pos c3, if_neg (show ¬ w n = 2 by omega)]; omega
      · rw [if_neg c3, if_neg c3]; omega
/-- the best so far, as the reference keeps it -/
def pl_bm (cnt : Nat) (b : pl_B) (J : Nat → Nat → Nat → Int) : Prop :=
  (b.1 = 2147483647 ∧ J 9 0 92 = 6) ∨ (b.1 = 100 * J 9 0 92 + 10 * J 9 0 93 + J 9 0 94 ∧ (0 ≤ J 9 0 92 ∧ J 9 0 92 ≤ 5) ∧ (0 ≤ J 9 0 93 ∧ J 9 0 93 ≤ 5) ∧ (0 ≤ J 9 0 94 ∧ J 9 0 94 ≤ 5) ∧ ∀ j, j < cnt → J 137 0 j = b.2.1 j ∧ J 138 0 j = b.2.2 j)
/-- the reference's planner on its way -/
def pl_PM (I : Nat → Nat → Nat → Int) (cnt : Nat) (P : pl_X) (k : Nat) (w d : Nat → Int) (tk : Nat → Bool) (us : Nat → Int) (b : pl_B) (J : Nat → Nat → Nat → Int) : Prop :=
  mh_We I J ∧ (J 9 0 91 = (cnt : Int) ∧ J 9 0 95 = pl_D P) ∧ (∀ j, j < cnt → (0 ≤ J 133 0 j ∧ J 133 0 j < 40) ∧ J 97 0 (J 133 0 j).toNat = pl_sz P j ∧ J 134 0 j = pl_nd P j) ∧
  (∀ j, j < k → J 135 0 j = w j ∧ J 136 0 j = d j) ∧ (∀ s, s < 5 → J 140 0 s = us s ∧ 0 ≤ us s ∧ us s ≤ 999) ∧ (∀ j, j < 40 → J 139 0 j = if tk j = true then 1 else 0) ∧ pl_bm cnt b J
theorem pl_PM_c {I : Nat → Nat → Nat → Int} {cnt : Nat} {P : pl_X} {k : Nat} {w d : Nat → Int} {tk : Nat → Bool} {us : Nat → Int} {b : pl_B} {J J' : Nat → Nat → Nat → Int}
    (h : pl_PM I cnt P k w d tk us b J) (c9 : ∀ k, J' 9 0 k = J 9 0 k) (c : ∀ t, t ∈ [97, 126, 127, 128, 129, 130, 131, 132, 133, 134, 135, 136, 137, 138, 139, 140] → J' t = J t) : pl_PM I cnt P k w d tk us b J' := by
  unfold pl_PM pl_bm mh_We at *
  rw [c 97 (by decide), c 126 (by decide), c 127 (by decide), c 128 (by decide), c 129 (by decide), c 130 (by decide), c 131 (by decide), c 132 (by decide), c 133 (by decide), c 134 (by decide), c 135 (by decide), c 136 (by decide), c 137 (by decide), c 138 (by decide), c 139 (by decide), c 140 (by decide)]
  simp only [c9]
  exact h
/-- the reference's static facts -/
def pl_XM (I : Nat → Nat → Nat → Int) (cnt : Nat) (P : pl_X) : Prop := pl_XS I cnt P ∧ mh_Wr I ∧ pl_F (pl_H P) (fun k => I 57 0 k) (I 7 0 9).toNat = pl_l P
theorem pX12_least {I : Nat → Nat → Nat → Int} {d kc ks : Nat} {Q : Option am_V → am_W → Prop} {W : am_W} {s st : Int} {tk : Nat → Bool} (hI : mh_Wr I) (hW : mh_We I W.1) (ht : ∀ j, j < 40 → W.1 139 0 j = if tk j = true then 1 else 0)
    (K : Q (some (.inl (mh_ls I s st tk))) W) : am_M (mh_G X) SC (d + 2) kc ks mX12_least [.inr (.inr (some (9, 0))), .inl s, .inl st] W Q := by
  obtain ⟨⟨g1, g2, g3⟩, g4, g5, -, g6, -⟩ := hW
  obtain ⟨hT, h1, h2, h3, -, -, -, -, h8, h9, h10⟩ := hI
  have B : ∀ n k : Nat, ((n + k : Nat) : Int) = I 7 0 8 → mh_ls I s st tk = mh_lst I s st tk n k → am_A (mh_G X) SC (d + 2) mX12_least Q 2 [(0, .inr (.inr (some (9, 0)))), (1, .inl s), (2, .inl st), (3, .inl (k : Int))] [] W kc ks := by
    intro n
    induction n with
    | zero =>
      intro k hk e
      rw [e] at K
      exact bX12_least_2 ⟨fun _ => K, fun c => absurd (by omega) c⟩
    | succ n ih =>
      intro k hk e
      rw [mh_lst1] at e
      have nx : ¬ (I 52 0 k = 0 ∧ tk k = false ∧ I 50 0 k = s ∧ I 51 0 k = st) → am_A (mh_G X) SC (d + 2) mX12_least Q 49 [(0, .inr (.inr (some (9, 0)))), (1, .inl s), (2, .inl st), (3, .inl (k : Int))] [] W kc ks := by
        intro c
        rw [if_neg c] at e
        refine bX12_least_49 ?_
        rw [am_w_id (z := (k : Int) + 1) (by unfold am_rg; omega)]
        exact ih (k + 1) (by omega) e
      have tk1 := ht k (by omega)
      refine bX12_least_2 ⟨fun c => absurd c (by omega), fun _ => ⟨by omega, by omega, ?_⟩⟩
      rw [Int.toNat_natCast, tk1]
      refine ⟨fun c => nx (fun z => c (by rw [z.2.1]; rfl)), fun c => ?_⟩
      have tf : tk k = false := by cases q : tk k; rfl; rw [q] at c; exact absurd c (by decide)
      have aw := h10 k
      refine pX12_hasTask (by omega) (fun m hm hx => ?_) (fun hx => ?_)
      · refine bX12_least_24 ⟨fun _ => nx (fun z => ?_), fun c => absurd c (by decide)⟩
        have := aw.2.mpr ⟨m, Or.inr ⟨by omega, by omega⟩, by rw [← g6]; exact hx⟩
        omega
      · have a0 : I 52 0 k = 0 := by
          rcases aw.1 with h | h
          · exact h
          · obtain ⟨m, hm, e2⟩ := aw.2.mp h
            exact absurd (by rw [g6]; exact e2) (hx m (by unfold mh_lv at hm; omega))
        refine bX12_least_24 ⟨fun c => absurd rfl c, fun _ => ⟨by omega, by omega, ?_⟩⟩
        rw [Int.toNat_natCast, g4, g5]
        refine ⟨fun c3 => nx (fun z => c3 z.2.2.1), fun c3 => ⟨fun c4 => nx (fun z => c4 z.2.2.2), fun c4 => ?_⟩⟩
        rw [if_pos ⟨a0, tf, c3, c4⟩] at e
        rw [e] at K
        exact K
  refine am_M_of (by decide) (Nat.le_of_ble_eq_true rfl) ?_
  exact bX12_least_0 (B _ 0 (by omega) rfl)
def pl_ft : List Nat := [135, 136, 137, 138, 139, 140, 141]
def pl_ff : List Nat := [92, 93, 94]
theorem pX12_looks {I : Nat → Nat → Nat → Int} {cnt : Nat} {P : pl_X} {d kc ks : Nat} {Q : Option am_V → am_W → Prop} {w dd : Nat → Int} {tk : Nat → Bool} {us : Nat → Int} {b : pl_B} {W : am_W} (hX : pl_XM I cnt P) (hP : pl_PM I cnt P cnt w dd tk us b W.1)
    (K : ∀ W', mh_fm pl_ft pl_ff W W' → pl_PM I cnt P cnt w dd tk us (pl_T P 0 cnt w dd tk us b) W'.1 → Q none W') : am_M (mh_G X) SC (d + 2) kc ks mX12_looks [.inr (.inr (some (9, 0)))] W Q := by
  obtain ⟨⟨⟨x1, x2⟩, xD, xl, xn, xc, xs, x5, xd⟩, xw, xF⟩ := hX
  have hP0 := hP
  obtain ⟨p1, ⟨p2, p3⟩, p4, p5, p6, p7, p8⟩ := hP
  obtain ⟨⟨g1, g2, g3⟩, g4, g5, gc, g6, g7, g8, g9⟩ := p1
  obtain ⟨⟨hT0, hT1⟩, h1, h2, h3, -, -, -, -, h8, h9, h10⟩ := xw
  have kb := fun v => pl_k_b w v cnt
  have kb4 := kb 4
  have kb3 := kb 3
  have kb2 := kb 2
  have kc0 := pl_k_c w cnt
  rw [pl_T0] at K
  have stay : ¬ (pl_c w cnt < b.1 ∧ pl_fs (pl_H P) (pl_D P) (pl_l P) w cnt) → ∀ W', mh_fm [141] [] W W' → Q none W' := by
    intro c W' f
    rw [if_neg c] at K
    exact K W' (mh_fm_m f (by decide) (by decide)) (pl_PM_c hP0 (fun k => f.2.1 k (by simp)) (fun t ht => f.1 t (by revert ht; revert t; decide) (by revert ht; revert t; decide)))
  have p8' : (b.1 = 2147483647 ∧ W.1 9 0 92 = 6) ∨ (b.1 = 100 * W.1 9 0 92 + 10 * W.1 9 0 93 + W.1 9 0 94 ∧ (0 ≤ W.1 9 0 92 ∧ W.1 9 0 92 ≤ 5) ∧ (0 ≤ W.1 9 0 93 ∧ W.1 9 0 93 ≤ 5) ∧ (0 ≤ W.1 9 0 94 ∧ W.1 9 0 94 ≤ 5)) := by
    rcases p8 with h | h
    · exact Or.inl h
    · exact Or.inr ⟨h.1, h.2.1, h.2.2.1, h.2.2.2.1⟩
  -- it is kept
  have keep : pl_c w cnt < b.1 → ∀ (W1 : am_W), mh_fm [141] [] W W1 → pl_fs (pl_H P) (pl_D P) (pl_l P) w cnt → ∀ x4 : Int, am_A (mh_G X) SC (d + 2) mX12_looks Q 137 [(4, .inl x4), (0, .inr (.inr (some (9, 0)))), (1, .inl (pl_k w 4 cnt)), (2, .inl (pl_k w 3 cnt)), (3, .inl (pl_k w 2 cnt))] [.inl 1] W1 kc ks := by
    intro cb W1 f1 fs x4
    rw [if_pos ⟨cb, fs⟩] at K
    have N : ∀ (n k : Nat) (W2 : am_W), n + k = cnt → mh_fm [137, 138, 141] [92, 93, 94] W W2 → (W2.1 9 0 92 = pl_k w 4 cnt ∧ W2.1 9 0 93 = pl_k w 3 cnt ∧ W2.1 9 0 94 = pl_k w 2 cnt) → (∀ j, j < k → W2.1 137 0 j = w j ∧ W2.1 138 0 j = dd j) →
        am_A (mh_G X) SC (d + 2) mX12_looks Q 159 [(0, .inr (.inr (some (9, 0)))), (5, .inl (k : Int))] [] W2 kc ks := by
      intro n
      induction n with
      | zero =>
        intro k W2 hk f2 r1 r2
        have e91 : W2.1 9 0 91 = (cnt : Int) := by rw [f2.2.1 91 (by decide)]; exact p2
        refine bX12_looks_159 ⟨fun _ => K W2 (mh_fm_m f2 (by decide) (by decide)) ?_, fun c => absurd (by omega) c⟩
        have T : ∀ t, t ∈ [97, 126, 127, 128, 129, 130, 131, 132, 133, 134, 135, 136, 139, 140] → W2.1 t = W.1 t := fun t ht => f2.1 t (by revert ht; revert t; decide) (by revert ht; revert t; decide)
        have N9 : ∀ k, k ∉ [92, 93, 94] → W2.1 9 0 k = W.1 9 0 k := f2.2.1
        unfold pl_PM mh_We pl_bm
        rw [T 97 (by decide), T 126 (by decide), T 127 (by decide), T 128 (by decide), T 129 (by decide), T 130 (by decide), T 131 (by decide), T 132 (by decide), T 133 (by decide), T 134 (by decide), T 135 (by decide), T 136 (by decide), T 139 (by decide), T 140 (by decide)]
        rw [N9 75 (by decide), N9 81 (by decide), N9 76 (by decide), N9 91 (by decide), N9 95 (by decide), r1.1, r1.2.1, r1.2.2]
        exact ⟨⟨⟨g1, g2, g3⟩, g4, g5, gc, g6, g7, g8, g9⟩, ⟨p2, p3⟩, p4, p5, p6, p7, Or.inr ⟨kc0, by omega, by omega, by omega, fun j hj => r2 j (by omega)⟩⟩
      | succ n ih =>
        intro k W2 hk f2 r1 r2
        have e91 : W2.1 9 0 91 = (cnt : Int) := by rw [f2.2.1 91 (by decide)]; exact p2
        refine bX12_looks_159 ⟨fun c => absurd c (by omega), fun _ => ⟨by omega, by omega, ?_⟩⟩
        rw [am_w_id (z := (k : Int) + 1) (by unfold am_rg; omega), Int.toNat_natCast]
        refine ih (k + 1) _ (by omega) (mh_fmu (b' := (_, _)) (mh_fmu f2 (by decide) (by decide)) (by decide) (by decide)) ?_ (fun j hj => ?_)
        · simp (disch := decide) only [am_up_t]; exact r1
        · simp (disch := decide) only [am_up_t, am_up_a]
          have p5k := p5 k (by omega)
          rw [f2.1 135 (by decide) (by decide), f2.1 136 (by decide) (by decide), p5k.1, p5k.2]
          by_cases e : j = k
          · rw [if_pos e, if_pos e, e]; exact ⟨rfl, rfl⟩
          · rw [if_neg e, if_neg e]; exact r2 j (by omega)
    refine bX12_looks_137 ⟨fun _ => ?_, fun c => absurd c (by decide)⟩
    refine N cnt 0 _ rfl ?_ ?_ (fun j hj => absurd hj (Nat.not_lt_zero j))
    · refine ⟨fun t ht h9 => ?_, fun k hk => ?_, f1.2.2⟩
      · show am_up (am_up (am_up _ _ _ _ _) _ _ _ _) _ _ _ _ t = _
        rw [am_up_t h9, am_up_t h9, am_up_t h9]
        exact f1.1 t (fun e => ht (by clear ht h9; revert e; revert t; decide)) h9
      · show am_up (am_up (am_up _ _ _ _ _) _ _ _ _) _ _ _ _ 9 0 k = _
        rw [am_up_k (fun e => hk (by rw [e]; decide)), am_up_k (fun e => hk (by rw [e]; decide)), am_up_k (fun e => hk (by rw [e]; decide))]
        exact f1.2.1 k (by simp)
    · simp (disch := decide) only [am_up_t, am_up_k, am_up_s]
      exact ⟨trivial, trivial, trivial⟩
  have yes : pl_c w cnt < b.1 → am_A (mh_G X) SC (d + 2) mX12_looks Q 121 [(0, .inr (.inr (some (9, 0)))), (1, .inl (pl_k w 4 cnt)), (2, .inl (pl_k w 3 cnt)), (3, .inl (pl_k w 2 cnt))] [] W kc ks := by
    intro cb
    refine bX12_looks_121 (bX12_looks_126 ⟨fun c => absurd c (by decide), fun _ => ?_⟩)
    refine pX12_isInTime (T := (I 7 0 9).toNat) (tl := fun k => I 57 0 k) (w := w) (l := pl_l P) (by omega) (by omega) p2 x5 (H := pl_H P) (by rw [g3, x1]) (by omega) p3 xD (fun k hk => ⟨g9 k, (h8 k (Or.inr ⟨by omega, hk⟩)).2.1.1, (h8 k (Or.inr ⟨by omega, hk⟩)).2.1.2⟩) xF (fun j hj => (p5 j hj).1) (fun v W1 f1 v01 vfs => ?_)
    rcases v01 with v0 | v1
    · rw [v0]
      exact bX12_looks_137 ⟨fun c => absurd rfl c, fun _ => stay (fun z => by have := vfs.mpr z.2; omega) W1 f1⟩
    · rw [v1]
      exact keep cb W1 f1 (vfs.mp v1) 1
  have no : ¬ pl_c w cnt < b.1 → am_A (mh_G X) SC (d + 2) mX12_looks Q 125 [(0, .inr (.inr (some (9, 0)))), (1, .inl (pl_k w 4 cnt)), (2, .inl (pl_k w 3 cnt)), (3, .inl (pl_k w 2 cnt))] [] W kc ks := by
    intro cb
    exact bX12_looks_125 (bX12_looks_126 ⟨fun _ => stay (fun z => cb z.1) W mh_fm_r, fun c => absurd rfl c⟩)
  have B : ∀ n k : Nat, n + k = cnt → am_A (mh_G X) SC (d + 2) mX12_looks Q 9 [(0, .inr (.inr (some (9, 0)))), (1, .inl (pl_k w 4 k)), (2, .inl (pl_k w 3 k)), (3, .inl (pl_k w 2 k)), (4, .inl (k : Int))] [] W kc ks := by
    intro n
    induction n with
    | zero =>
      intro k hk
      obtain rfl : k = cnt := by omega
      refine bX12_looks_9 ⟨fun _ => ⟨fun c => yes (by omega), fun c => ⟨fun c2 => no (by omega), fun c2 => ⟨fun c3 => yes (by omega), fun c3 => ⟨fun c4 => no (by omega), fun c4 => ⟨fun c5 => no (by omega), fun c5 => yes (by omega)⟩⟩⟩⟩⟩, fun c => absurd (by omega) c⟩
    | succ n ih =>
      intro k hk
      have wk := (p5 k (by omega)).1
      have b4 := pl_k_b w 4 k
      have b3 := pl_k_b w 3 k
      have b2 := pl_k_b w 2 k
      have e4 := pl_k1 (w := w) (v := 4) (i := k)
      have e3 := pl_k1 (w := w) (v := 3) (i := k)
      have e2 := pl_k1 (w := w) (v := 2) (i := k)
      have s73 : ∀ v : Int, v = (if w k = 2 then 1 else 0) → am_A (mh_G X) SC (d + 2) mX12_looks Q 73 [(0, .inr (.inr (some (9, 0)))), (1, .inl (pl_k w 4 (k + 1))), (2, .inl (pl_k w 3 (k + 1))), (4, .inl (k : Int))] [.inl v, .inl (pl_k w 2 k)] W kc ks := by
        intro v hv
        refine bX12_looks_73 ?_
        rw [← hv] at e2
        rw [am_w_id (z := (k : Int) + 1) (by unfold am_rg; omega), am_w_id (z := pl_k w 2 k + v) (by unfold am_rg; split at hv <;> omega), ← e2]
        exact ih (k + 1) (by omega)
      have s54 : ∀ v : Int, v = (if w k = 3 then 1 else 0) → am_A (mh_G X) SC (d + 2) mX12_looks Q 54 [(0, .inr (.inr (some (9, 0)))), (1, .inl (pl_k w 4 (k + 1))), (3, .inl (pl_k w 2 k)), (4, .inl (k : Int))] [.inl v, .inl (pl_k w 3 k)] W kc ks := by
        intro v hv
        refine bX12_looks_54 ⟨by omega, by omega, ?_⟩
        rw [← hv] at e3
        rw [Int.toNat_natCast, wk, am_w_id (z := pl_k w 3 k + v) (by unfold am_rg; split at hv <;> omega), ← e3]
        exact ⟨fun c => s73 0 (by rw [if_neg c]), fun c => s73 1 (by rw [if_pos c])⟩
      have s35 : ∀ v : Int, v = (if w k = 4 then 1 else 0) → am_A (mh_G X) SC (d + 2) mX12_looks Q 35 [(0, .inr (.inr (some (9, 0)))), (2, .inl (pl_k w 3 k)), (3, .inl (pl_k w 2 k)), (4, .inl (k : Int))] [.inl v, .inl (pl_k w 4 k)] W kc ks := by
        intro v hv
        refine bX12_looks_35 ⟨by omega, by omega, ?_⟩
        rw [← hv] at e4
        rw [Int.toNat_natCast, wk, am_w_id (z := pl_k w 4 k + v) (by unfold am_rg; split at hv <;> omega), ← e4]
        exact ⟨fun c => s54 0 (by rw [if_neg c]), fun c => s54 1 (by rw [if_pos c])⟩
      refine bX12_looks_9 ⟨fun c => absurd c (by omega), fun _ => ⟨by omega, by omega, ?_⟩⟩
      rw [Int.toNat_natCast, wk]
      exact ⟨fun c => s35 0 (by rw [if_neg c]), fun c => s35 1 (by rw [if_pos c])⟩
  refine am_M_of (by decide) (Nat.le_of_ble_eq_true rfl) ?_
  exact bX12_looks_0 (B cnt 0 rfl)
