-- kin: the sets of the class
variable {SC : Nat → Nat} {X : mh_X}
def mh_sp (I : Nat → Nat → Nat → Int) (day known : Int) (K : Nat) (x y : Nat) : Prop :=
  ∃ k : Nat, k < K ∧ ((I 44 0 k = (x : Int) ∧ I 45 0 k = (y : Int)) ∨ (I 44 0 k = (y : Int) ∧ I 45 0 k = (x : Int))) ∧ I 46 0 k ≤ day ∧ I 47 0 k ≤ known
theorem mh_sp_c {I : Nat → Nat → Nat → Int} {day known : Int} {K x y : Nat} : mh_sp I day known K x y ↔ mh_sp I day known K y x := by
  constructor <;> (rintro ⟨k, h1, h2, h3⟩; exact ⟨k, h1, h2.symm, h3⟩)
/-- x is (by the word) kin of y -/
def mh_rl (I : Nat → Nat → Nat → Int) (day known word : Int) (x y : Nat) : Prop :=
  (word % 3 = 0 ∨ (word % 3 = 1 ∧ I 33 0 x = 1) ∨ (word % 3 = 2 ∧ ¬ I 33 0 x = 1)) ∧
  ((word / 3 = 0 ∧ mh_sp I day known (I 5 0 19).toNat x y) ∨ (word / 3 = 1 ∧ (I 35 0 x = (y : Int) ∨ I 36 0 x = (y : Int))) ∨ (word / 3 = 2 ∧ (I 35 0 y = (x : Int) ∨ I 36 0 y = (x : Int))) ∨
    (word / 3 = 3 ∧ ¬ x = y ∧ ((¬ I 35 0 x = -1 ∧ I 35 0 x = I 35 0 y) ∨ (¬ I 36 0 x = -1 ∧ I 36 0 x = I 36 0 y))))
/-- the set after i words -/
def mh_ks (I : Nat → Nat → Nat → Int) (day known : Int) (a : Nat) (ws : Nat → Int) : Nat → Nat → Prop
  | 0, x => x = a
  | i + 1, x => (x : Int) < I 5 0 18 ∧ ¬ x = a ∧ I 38 0 x ≤ known ∧ ∃ y : Nat, (y : Int) < I 5 0 18 ∧ mh_ks I day known a ws i y ∧ mh_rl I day known (ws i) x y
def mh_ga (I : Nat → Nat → Nat → Int) (L L' : Nat → Nat → Nat → Int64) (day known : Int) : Prop :=
  (∀ t, t ∉ [5, 48] → L' t = L t) ∧ L' 5 0 16 = L 5 0 16 ∧ (∀ j : Nat, mh_bt (L' 5 0 17) j ↔ (j : Int) < I 5 0 18 ∧ I 38 0 j ≤ known) ∧
  ∀ x y : Nat, (x : Int) < I 5 0 18 → (mh_bt (L' 48 0 x) y ↔ mh_sp I day known (I 5 0 19).toNat x y)
theorem mh_bt_0 {j : Nat} : ¬ mh_bt 0 j := by
  unfold mh_bt
  show ¬ (0#64).getLsbD j = true
  rw [BitVec.getLsbD_zero]
  decide
theorem pX2_gather {d kc ks : Nat} {Q : Option am_V → am_W → Prop} {w : am_W} {day known : Int} (hp : 0 ≤ w.1 5 0 18 ∧ w.1 5 0 18 ≤ 40) (hm : 0 ≤ w.1 5 0 19 ∧ w.1 5 0 19 ≤ 40)
    (hh : ∀ k : Nat, (k : Int) < w.1 5 0 19 → (0 ≤ w.1 44 0 k ∧ w.1 44 0 k < w.1 5 0 18) ∧ 0 ≤ w.1 45 0 k ∧ w.1 45 0 k < w.1 5 0 18)
    (K : ∀ L', mh_ga w.1 w.2.1 L' day known → Q none (w.1, L', w.2.2)) : am_M (mh_G X) SC (d + 1) kc ks mX2_gather [.inr (.inr (some (5, 0))), .inl day, .inl known] w Q := by
  have B : ∀ (n k : Nat) (L : Nat → Nat → Nat → Int64), (n + k : Nat) = (w.1 5 0 19).toNat → ((∀ t, t ∉ [5, 48] → L t = w.2.1 t) ∧ L 5 0 16 = w.2.1 5 0 16 ∧ (∀ j : Nat, mh_bt (L 5 0 17) j ↔ (j : Int) < w.1 5 0 18 ∧ w.1 38 0 j ≤ known) ∧ ∀ x y : Nat, (x : Int) < w.1 5 0 18 → (mh_bt (L 48 0 x) y ↔ mh_sp w.1 day known k x y)) →
      am_A (mh_G X) SC (d + 1) mX2_gather Q 52 [(0, .inr (.inr (some (5, 0)))), (1, .inl day), (2, .inl known), (3, .inl (k : Int))] [] (w.1, L, w.2.2) kc ks := by
    intro n
    induction n with
    | zero =>
      intro k L hk h
      refine bX2_gather_52 ⟨fun _ => K L ?_, fun c => absurd c (show ¬ ¬ w.1 5 0 19 ≤ (k : Int) by omega)⟩
      rw [show k = (w.1 5 0 19).toNat by omega] at h
      exact h
    | succ n ih =>
      intro k L hk h
      have skip : (¬ (w.1 46 0 k ≤ day ∧ w.1 47 0 k ≤ known)) → am_A (mh_G X) SC (d + 1) mX2_gather Q 124 [(0, .inr (.inr (some (5, 0)))), (1, .inl day), (2, .inl known), (3, .inl (k : Int))] [] (w.1, L, w.2.2) kc ks := by
        intro c
        refine bX2_gather_124 ?_
        rw [am_w_id (z := (k : Int) + 1) (by unfold am_rg; omega)]
        refine ih (k + 1) L (by omega) ⟨h.1, h.2.1, h.2.2.1, fun x y hx => (h.2.2.2 x y hx).trans ⟨?_, ?_⟩⟩
        · rintro ⟨i, h1, h2⟩; exact ⟨i, by omega, h2⟩
        · rintro ⟨i, h1, h2⟩
          by_cases e : i = k
          · rw [e] at h2; exact absurd h2.2 c
          · exact ⟨i, by omega, h2⟩
      have q := hh k (by omega)
      refine bX2_gather_52 ⟨fun c => absurd c (show ¬ w.1 5 0 19 ≤ (k : Int) by omega), fun _ => ⟨by omega, by omega, fun c => skip (fun z => absurd c (by simp only [Int.toNat_natCast]; omega)), fun c => ⟨fun c2 => skip (fun z => absurd c2 (by simp only [Int.toNat_natCast]; omega)), fun c2 => ?_⟩⟩⟩
      simp only [Int.toNat_natCast] at c c2 ⊢
      refine ⟨q.1.1, by omega, q.2.1, by omega, ?_⟩
      refine bX2_gather_124 ?_
      rw [am_w_id (z := (k : Int) + 1) (by unfold am_rg; omega)]
      obtain ⟨h1, h2, h3, h4⟩ := h
      refine ih (k + 1) _ (by omega) ⟨fun t z => ?_, ?_, fun j => ?_, fun x y hx => ?_⟩
      · rw [am_up_t (fun e => z (by rw [e]; decide)), am_up_t (fun e => z (by rw [e]; decide))]; exact h1 t z
      · rw [am_up_t (by decide), am_up_t (by decide)]; exact h2
      · rw [am_up_t (by decide), am_up_t (by decide)]; exact h3 j
      · have s1 : mh_sp w.1 day known (k + 1) x y ↔ mh_sp w.1 day known k x y ∨ ((w.1 44 0 k = (x : Int) ∧ w.1 45 0 k = (y : Int)) ∨ (w.1 44 0 k = (y : Int) ∧ w.1 45 0 k = (x : Int))) := by
          constructor
          · rintro ⟨i, g1, g2⟩
            by_cases e : i = k
            · rw [e] at g2; exact Or.inr g2.1
            · exact Or.inl ⟨i, by omega, g2⟩
          · rintro (⟨i, g1, g2⟩ | g)
            · exact ⟨i, by omega, g2⟩
            · exact ⟨k, by omega, g, by omega, by omega⟩
        rw [s1, ← h4 x y hx, mh_bt_up]
        have hb1 := mh_bt_one (k := w.1 45 0 k) (by omega) y
        have hb2 := mh_bt_one (k := w.1 44 0 k) (by omega) y
        by_cases e1 : x = (w.1 45 0 k).toNat
        · rw [if_pos e1, mh_bt_or, mh_bt_up, hb2]
          by_cases e2 : (w.1 45 0 k).toNat = (w.1 44 0 k).toNat
          · rw [if_pos e2, mh_bt_or, hb1, ← e2, ← e1]
            grind
          · rw [if_neg e2, ← e1]
            grind
        · rw [if_neg e1, mh_bt_up]
          by_cases e2 : x = (w.1 44 0 k).toNat
          · rw [if_pos e2, mh_bt_or, hb1, ← e2]
            grind
          · rw [if_neg e2]
            grind
  have A : ∀ (n i : Nat) (L : Nat → Nat → Nat → Int64), (n + i : Nat) = (w.1 5 0 18).toNat → ((∀ t, t ∉ [5, 48] → L t = w.2.1 t) ∧ L 5 0 16 = w.2.1 5 0 16 ∧ (∀ j : Nat, mh_bt (L 5 0 17) j ↔ j < i ∧ w.1 38 0 j ≤ known) ∧ ∀ x : Nat, x < i → L 48 0 x = 0) →
      am_A (mh_G X) SC (d + 1) mX2_gather Q 7 [(0, .inr (.inr (some (5, 0)))), (1, .inl day), (2, .inl known), (3, .inl (i : Int))] [] (w.1, L, w.2.2) kc ks := by
    intro n
    induction n with
    | zero =>
      intro i L hi h
      obtain ⟨h1, h2, h3, h4⟩ := h
      refine bX2_gather_7 ⟨fun _ => B (w.1 5 0 19).toNat 0 L (by omega) ⟨h1, h2, fun j => ?_, fun x y hx => ?_⟩, fun c => absurd c (show ¬ ¬ w.1 5 0 18 ≤ (i : Int) by omega)⟩
      · rw [h3]
        constructor
        · rintro ⟨g1, g2⟩; exact ⟨by omega, g2⟩
        · rintro ⟨g1, g2⟩; exact ⟨by omega, g2⟩
      · rw [h4 x (by omega)]
        exact ⟨fun z => absurd z mh_bt_0, fun ⟨k, z, _⟩ => absurd z (Nat.not_lt_zero k)⟩
    | succ n ih =>
      intro i L hi h
      obtain ⟨h1, h2, h3, h4⟩ := h
      have s48 : ∀ x : Nat, x < i + 1 → am_up L 48 0 i (0 : Int64) 48 0 x = 0 := by
        intro x hx
        rw [am_up_a]
        by_cases e : x = i
        · rw [if_pos e]
        · rw [if_neg e]; exact h4 x (by omega)
      refine bX2_gather_7 ⟨fun c => absurd c (show ¬ w.1 5 0 18 ≤ (i : Int) by omega), fun _ => ⟨by omega, by omega, fun c => ?_, fun c => ?_⟩⟩
      · simp only [Int.toNat_natCast] at c ⊢
        refine bX2_gather_44 ?_
        rw [am_w_id (z := (i : Int) + 1) (by unfold am_rg; omega)]
        refine ih (i + 1) _ (by omega) ⟨fun t z => ?_, ?_, fun j => ?_, s48⟩
        · rw [am_up_t (fun e => z (by rw [e]; decide))]; exact h1 t z
        · rw [am_up_t (by decide)]; exact h2
        · rw [am_up_t (by decide), h3 j]
          constructor
          · rintro ⟨g1, g2⟩; exact ⟨by omega, g2⟩
          · rintro ⟨g1, g2⟩
            by_cases e : j = i
            · rw [e] at g2; omega
            · exact ⟨by omega, g2⟩
      · simp only [Int.toNat_natCast] at c ⊢
        refine bX2_gather_44 ?_
        rw [am_w_id (z := (i : Int) + 1) (by unfold am_rg; omega)]
        refine ih (i + 1) _ (by omega) ⟨fun t z => ?_, ?_, fun j => ?_, fun x hx => ?_⟩
        · rw [am_up_t (fun e => z (by rw [e]; decide)), am_up_t (fun e => z (by rw [e]; decide))]; exact h1 t z
        · rw [am_up_k (by decide), am_up_t (by decide)]; exact h2
        · rw [am_up_s, mh_bt_or, mh_bt_one (by omega), h3 j]
          constructor
          · rintro (⟨g1, g2⟩ | g)
            · exact ⟨by omega, g2⟩
            · have : j = i := by omega
              rw [this]; exact ⟨by omega, by omega⟩
          · rintro ⟨g1, g2⟩
            by_cases e : j = i
            · exact Or.inr (by omega)
            · exact Or.inl ⟨by omega, g2⟩
        · rw [am_up_t (by decide)]; exact s48 x hx
  refine am_M_of (by decide) (Nat.le_of_ble_eq_true rfl) ?_
  refine bX2_gather_0 ?_
  refine A (w.1 5 0 18).toNat 0 _ (by omega) ⟨fun t z => ?_, ?_, fun j => ?_, fun x hx => absurd hx (Nat.not_lt_zero x)⟩
  · rw [am_up_t (fun e => z (by rw [e]; decide))]
  · rw [am_up_k (by decide)]
  · rw [am_up_s]
    exact ⟨fun z => absurd z mh_bt_0, fun z => absurd z.1 (Nat.not_lt_zero j)⟩
