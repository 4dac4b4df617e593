-- kin: isKin of the class
variable {SC : Nat → Nat} {X : mh_X}
theorem mh_bt_not (x : Int64) (j : Nat) : mh_bt (x ^^^ (-1 : Int64)) j ↔ j < 64 ∧ ¬ mh_bt x j := by
  unfold mh_bt
  rw [Int64.toBitVec_xor, BitVec.getLsbD_xor]
  show (x.toBitVec.getLsbD j ^^ (BitVec.allOnes 64).getLsbD j) = true ↔ _
  rw [BitVec.getLsbD_allOnes]
  by_cases h : j < 64
  · rw [decide_eq_true h, Bool.xor_true, Bool.not_eq_true']
    simp [h]
  · rw [decide_eq_false h, BitVec.getLsbD_of_ge _ _ (by omega)]
    simp [h]
theorem mh_w3 {x : Int} (h : 0 ≤ x ∧ x ≤ 11) : am_w (Int.tmod x 3) = x % 3 ∧ am_w (Int.tdiv x 3) = x / 3 ∧ am_w (x - x % 3) = 3 * (x / 3) := by
  rw [Int.tmod_eq_emod_of_nonneg h.1, Int.tdiv_eq_ediv_of_nonneg h.1, am_w_id (by unfold am_rg; omega), am_w_id (by unfold am_rg; omega), am_w_id (by unfold am_rg; omega)]
  omega
/-- facts of the family that stay -/
def mh_fa (I : Nat → Nat → Nat → Int) (L : Nat → Nat → Nat → Int64) : Prop :=
  (0 ≤ I 5 0 18 ∧ I 5 0 18 ≤ 40) ∧ (0 ≤ I 5 0 19 ∧ I 5 0 19 ≤ 40) ∧
  (∀ p j : Nat, mh_bt (L 42 0 p) j ↔ (j : Int) < I 5 0 18 ∧ (I 35 0 j = (p : Int) ∨ I 36 0 j = (p : Int))) ∧
   (∀ p j : Nat, mh_bt (L 41 0 p) j ↔ (p : Int) < I 5 0 18 ∧ (I 35 0 p = (j : Int) ∨ I 36 0 p = (j : Int))) ∧
   (∀ p j : Nat, mh_bt (L 43 0 p) j ↔ ((p : Int) < I 5 0 18 ∧ (j : Int) < I 5 0 18) ∧ ¬ p = j ∧ ((¬ I 35 0 p = -1 ∧ I 35 0 p = I 35 0 j) ∨ (¬ I 36 0 p = -1 ∧ I 36 0 p = I 36 0 j))) ∧
   (∀ j : Nat, mh_bt (L 5 0 16) j ↔ (j : Int) < I 5 0 18 ∧ I 33 0 j = 1)
theorem mh_RK_fa {I J : Nat → Nat → Nat → Int} {L : Nat → Nat → Nat → Int64} (h : mh_RK I L J) : mh_fa I L := by
  obtain ⟨h1, h2, h3, ⟨h4, h5, h6, h7⟩, h8⟩ := h
  exact ⟨h1.2, h2.2, h4, h5, h6, h7⟩
theorem mh_fa_ga {I : Nat → Nat → Nat → Int} {L L' : Nat → Nat → Nat → Int64} {day known : Int} (h : mh_fa I L) (g : mh_ga I L L' day known) : mh_fa I L' := by
  obtain ⟨g1, g2, -⟩ := g
  unfold mh_fa at *
  rw [g1 41 (by decide), g1 42 (by decide), g1 43 (by decide), g2]
  exact h
theorem pX2_kinOf {d kc ks : Nat} {Q : Option am_V → am_W → Prop} {w : am_W} {L0 : Nat → Nat → Nat → Int64} {day known : Int} {y : Int64} {x : Int} (hx : 0 ≤ x ∧ x ≤ 11) (hf : mh_fa w.1 w.2.1) (hg : mh_ga w.1 L0 w.2.1 day known)
    (K : ∀ r : Int64, (∀ p : Nat, (p : Int) < w.1 5 0 18 → (mh_bt r p ↔ ∃ q : Nat, (q : Int) < w.1 5 0 18 ∧ mh_bt y q ∧ mh_rl w.1 day known x p q)) → Q (some (.inr (.inl r))) w) : am_M (mh_G X) SC (d + 2) kc ks mX2_kinOf [.inr (.inr (some (5, 0))), .inr (.inl y), .inl x] w Q := by
  obtain ⟨f1, f2, f3, f4, f5, f6⟩ := hf
  obtain ⟨g1, g2, g3, g4⟩ := hg
  obtain ⟨m1, m2, m3⟩ := mh_w3 hx
  let R : Nat → Nat → Prop := fun p q => ((x / 3 = 0 ∧ mh_sp w.1 day known (w.1 5 0 19).toNat p q) ∨ (x / 3 = 1 ∧ (w.1 35 0 p = (q : Int) ∨ w.1 36 0 p = (q : Int))) ∨ (x / 3 = 2 ∧ (w.1 35 0 q = (p : Int) ∨ w.1 36 0 q = (p : Int))) ∨
    (x / 3 = 3 ∧ ¬ p = q ∧ ((¬ w.1 35 0 p = -1 ∧ w.1 35 0 p = w.1 35 0 q) ∨ (¬ w.1 36 0 p = -1 ∧ w.1 36 0 p = w.1 36 0 q))))
  have rel : ∀ q p : Nat, (q : Int) < w.1 5 0 18 → (p : Int) < w.1 5 0 18 → (mh_bt (if 3 * (x / 3) = 6 then w.2.1 41 0 q else if 3 * (x / 3) = 3 then w.2.1 42 0 q else if 3 * (x / 3) = 0 then w.2.1 48 0 q else w.2.1 43 0 q) p ↔ R p q) := by
    intro q p hq hp
    show _ ↔ (_ ∨ _)
    by_cases c2 : x / 3 = 2
    · rw [if_pos (by omega), f4]
      constructor
      · rintro ⟨-, z⟩; exact Or.inr (Or.inr (Or.inl ⟨c2, z⟩))
      · rintro (z | z | z | z)
        · omega
        · omega
        · exact ⟨hq, z.2⟩
        · omega
    · rw [if_neg (by omega)]
      by_cases c1 : x / 3 = 1
      · rw [if_pos (by omega), f3]
        constructor
        · rintro ⟨-, z⟩; exact Or.inr (Or.inl ⟨c1, z⟩)
        · rintro (z | z | z | z)
          · omega
          · exact ⟨hp, z.2⟩
          · omega
          · omega
      · rw [if_neg (by omega)]
        by_cases c0 : x / 3 = 0
        · rw [if_pos (by omega), g4 q p hq, mh_sp_c]
          constructor
          · intro z; exact Or.inl ⟨c0, z⟩
          · rintro (z | z | z | z)
            · exact z.2
            · omega
            · omega
            · omega
        · rw [if_neg (by omega), f5]
          constructor
          · rintro ⟨-, z1, z2⟩; exact Or.inr (Or.inr (Or.inr ⟨by omega, fun e => z1 e.symm, by omega⟩))
          · rintro (z | z | z | z)
            · omega
            · omega
            · omega
            · exact ⟨⟨hq, hp⟩, fun e => z.2.1 e.symm, by omega⟩
  have L : ∀ (n i : Nat) (r : Int64), (n + i : Nat) = (w.1 5 0 18).toNat → (∀ p : Nat, (p : Int) < w.1 5 0 18 → (mh_bt r p ↔ ∃ q : Nat, q < i ∧ mh_bt y q ∧ R p q)) →
      am_A (mh_G X) SC (d + 2) mX2_kinOf Q 6 [(0, .inr (.inr (some (5, 0)))), (1, .inr (.inl y)), (3, .inl x), (4, .inr (.inl r)), (6, .inl (i : Int))] [] w kc ks := by
    intro n
    induction n with
    | zero =>
      intro i r hi h
      refine bX2_kinOf_6 ⟨fun _ => ?_, fun c => absurd c (show ¬ ¬ w.1 5 0 18 ≤ (i : Int) by omega)⟩
      rw [m1]
      have e : ∀ p : Nat, (p : Int) < w.1 5 0 18 → ((mh_bt r p ∧ (x % 3 = 0 ∨ (x % 3 = 1 ∧ w.1 33 0 p = 1) ∨ (x % 3 = 2 ∧ ¬ w.1 33 0 p = 1))) ↔ ∃ q : Nat, (q : Int) < w.1 5 0 18 ∧ mh_bt y q ∧ mh_rl w.1 day known x p q) := by
        intro p hp
        rw [h p hp]
        constructor
        · rintro ⟨⟨q, q1, q2, q3⟩, s⟩
          exact ⟨q, by omega, q2, s, q3⟩
        · rintro ⟨q, q1, q2, s, q3⟩
          exact ⟨⟨q, by omega, q2, q3⟩, s⟩
      refine ⟨fun c => ⟨fun c2 => K _ (fun p hp => ?_), fun c2 => K _ (fun p hp => ?_)⟩, fun c => K _ (fun p hp => ?_)⟩
      · rw [← e p hp, mh_bt_and, mh_bt_not, f6]
        have : p < 64 := by omega
        constructor
        · rintro ⟨z1, z2, z3⟩; exact ⟨z1, by omega⟩
        · rintro ⟨z1, z2⟩; exact ⟨z1, this, by omega⟩
      · rw [← e p hp, mh_bt_and, f6]
        constructor
        · rintro ⟨z1, z2, z3⟩; exact ⟨z1, by omega⟩
        · rintro ⟨z1, z2⟩; exact ⟨z1, hp, by omega⟩
      · rw [← e p hp]
        exact ⟨fun z => ⟨z, Or.inl c⟩, fun z => z.1⟩
    | succ n ih =>
      intro i r hi h
      have hi2 : (i : Int) < w.1 5 0 18 := by omega
      refine bX2_kinOf_6 ⟨fun c => absurd c (show ¬ w.1 5 0 18 ≤ (i : Int) by omega), fun _ => ?_⟩
      rw [mh_bt_test (by omega), m1, m3, Int.toNat_natCast]
      refine ⟨fun c => ?_, fun c => ⟨fun _ => by omega, fun _ => by omega, fun _ => by omega, fun _ => by omega, fun _ => by omega, fun _ => by omega, fun _ => by omega, fun _ => by omega, ?_⟩⟩
      · refine bX2_kinOf_42 ?_
        rw [am_w_id (z := (i : Int) + 1) (by unfold am_rg; omega)]
        refine ih (i + 1) r (by omega) (fun p hp => (h p hp).trans ⟨?_, ?_⟩)
        · rintro ⟨q, q1, q2⟩; exact ⟨q, by omega, q2⟩
        · rintro ⟨q, q1, q2⟩
          by_cases e : q = i
          · rw [e] at q2; exact absurd q2.1 c
          · exact ⟨q, by omega, q2⟩
      · refine bX2_kinOf_42 ?_
        rw [am_w_id (z := (i : Int) + 1) (by unfold am_rg; omega)]
        refine ih (i + 1) _ (by omega) (fun p hp => ?_)
        rw [mh_bt_or, rel i p hi2 hp, h p hp]
        constructor
        · rintro (⟨q, q1, q2⟩ | z)
          · exact ⟨q, by omega, q2⟩
          · exact ⟨i, by omega, Classical.byContradiction c, z⟩
        · rintro ⟨q, q1, q2⟩
          by_cases e : q = i
          · rw [e] at q2; exact Or.inr q2.2
          · exact Or.inl ⟨q, by omega, q2⟩
  refine am_M_of (by decide) (Nat.le_of_ble_eq_true rfl) ?_
  refine bX2_kinOf_0 (L (w.1 5 0 18).toNat 0 0 (by omega) (fun p hp => ⟨fun z => absurd z mh_bt_0, fun ⟨q, z, _⟩ => absurd z (Nat.not_lt_zero q)⟩))
/-- the words of a rule, from the last one on -/
def mh_wo (I : Nat → Nat → Nat → Int) (l r : Nat) (i : Nat) : Int := I 145 l (r * 4 + ((I 144 l r).toNat - 1 - i))
theorem pX2_isKin {d kc ks : Nat} {Q : Option am_V → am_W → Prop} {w : am_W} {L0 : Nat → Nat → Nat → Int64} {day known : Int} {l r a e : Nat} (hr : r < 30) (hf : mh_fa w.1 w.2.1) (hg : mh_ga w.1 L0 w.2.1 day known)
    (hc : 1 ≤ w.1 144 l r ∧ w.1 144 l r ≤ 4) (hw : ∀ i : Nat, (i : Int) < w.1 144 l r → 0 ≤ w.1 145 l (r * 4 + i) ∧ w.1 145 l (r * 4 + i) ≤ 11)
    (ha : (a : Int) < w.1 5 0 18) (he : (e : Int) < w.1 5 0 18) (ht : w.1 38 0 a ≤ known)
    (K1 : mh_ks w.1 day known a (mh_wo w.1 l r) (w.1 144 l r).toNat e → Q (some (.inl 1)) w) (K0 : ¬ mh_ks w.1 day known a (mh_wo w.1 l r) (w.1 144 l r).toNat e → Q (some (.inl 0)) w) :
    am_M (mh_G X) SC (d + 3) kc ks mX2_isKin [.inr (.inr (some (5, 0))), .inr (.inr (some (10, l))), .inl (r : Int), .inl (a : Int), .inl (e : Int)] w Q := by
  have hf' := hf
  have hg' := hg
  obtain ⟨f1, f2, f3, f4, f5, f6⟩ := hf
  obtain ⟨g1, g2, g3, g4⟩ := hg
  let N := (w.1 144 l r).toNat
  have hN : (N : Int) = w.1 144 l r := by show ((w.1 144 l r).toNat : Int) = _; omega
  have B : ∀ (n i : Nat) (y5 y7 : Int64), n + i = N → (∀ x : Nat, mh_bt y5 x ↔ ((x : Int) < w.1 5 0 18 ∧ w.1 38 0 x ≤ known) ∧ ¬ x = a) → (∀ x : Nat, mh_bt y7 x ↔ (x : Int) < w.1 5 0 18 ∧ mh_ks w.1 day known a (mh_wo w.1 l r) i x) →
      am_A (mh_G X) SC (d + 3) mX2_isKin Q 33 [(0, .inr (.inr (some (5, 0)))), (1, .inr (.inr (some (10, l)))), (2, .inl (r : Int)), (4, .inl (e : Int)), (5, .inr (.inl y5)), (7, .inr (.inl y7)), (9, .inl ((n : Int) - 1))] [] w kc ks := by
    intro n
    induction n with
    | zero =>
      intro i y5 y7 hi h5 h7
      refine bX2_isKin_33 ⟨fun _ => ?_, fun c => absurd c (by omega)⟩
      rw [mh_bt_test (by omega), Int.toNat_natCast, h7]
      rw [show i = (w.1 144 l r).toNat by omega]
      exact ⟨fun c => K0 (fun z => c ⟨he, z⟩), fun c => K1 (Classical.byContradiction (fun z => c (fun q => z q.2)))⟩
    | succ n ih =>
      intro i y5 y7 hi h5 h7
      refine bX2_isKin_33 ⟨fun c => absurd c (by omega), fun _ => ?_⟩
      rw [am_w_id (z := (r : Int) * 4) (by unfold am_rg; omega), show ((n + 1 : Nat) : Int) - 1 = (n : Int) by omega, am_w_id (by unfold am_rg; omega), show ((r : Int) * 4 + (n : Int)).toNat = r * 4 + n by omega]
      refine ⟨by omega, by omega, ?_⟩
      refine pX2_kinOf (hw n (by omega)) hf' hg' (fun r2 h => ?_)
      refine bX2_isKin_51 ?_
      rw [am_w_id (z := (n : Int) + -1) (by unfold am_rg; omega), show (n : Int) + -1 = (n : Int) - 1 by omega]
      refine ih (i + 1) y5 _ (by omega) h5 (fun x => ?_)
      rw [mh_bt_and, h5]
      have ew : mh_wo w.1 l r i = w.1 145 l (r * 4 + n) := by
        unfold mh_wo
        rw [show (w.1 144 l r).toNat - 1 - i = n by show N - 1 - i = n; omega]
      show _ ↔ (x : Int) < _ ∧ ((x : Int) < w.1 5 0 18 ∧ ¬ x = a ∧ w.1 38 0 x ≤ known ∧ ∃ y : Nat, (y : Int) < w.1 5 0 18 ∧ mh_ks w.1 day known a (mh_wo w.1 l r) i y ∧ mh_rl w.1 day known (mh_wo w.1 l r i) x y)
      rw [ew]
      constructor
      · rintro ⟨z1, ⟨z2, z3⟩, z4⟩
        obtain ⟨q, q1, q2, q3⟩ := (h x z2).mp z1
        exact ⟨z2, z2, z4, z3, q, q1, ((h7 q).mp q2).2, q3⟩
      · rintro ⟨z2, -, z4, z3, q, q1, q2, q3⟩
        exact ⟨(h x z2).mpr ⟨q, q1, (h7 q).mpr ⟨q1, q2⟩, q3⟩, ⟨z2, z3⟩, z4⟩
  refine am_M_of (by decide) (Nat.le_of_ble_eq_true rfl) ?_
  refine bX2_isKin_0 ⟨by omega, by omega, ?_⟩
  rw [Int.toNat_natCast, am_w_id (z := w.1 144 l r - 1) (by unfold am_rg; omega), ← hN]
  refine B N 0 _ _ rfl (fun x => ?_) (fun x => ?_)
  · rw [mh_bt_and, mh_bt_not, g3, mh_bt_one (by omega)]
    constructor
    · rintro ⟨z1, z2, z3⟩; exact ⟨z1, by omega⟩
    · rintro ⟨z1, z2⟩; exact ⟨z1, by omega, by omega⟩
  · rw [mh_bt_and, g3, mh_bt_one (by omega)]
    show _ ↔ (x : Int) < _ ∧ x = a
    constructor
    · rintro ⟨⟨z1, z2⟩, z3⟩; exact ⟨z1, by omega⟩
    · rintro ⟨z1, z2⟩; rw [z2]; exact ⟨⟨ha, ht⟩, rfl⟩
