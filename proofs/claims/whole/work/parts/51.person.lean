-- person, wed
variable {SC : Nat → Nat} {X : mh_X}
theorem mh_bt_up {L : Nat → Nat → Nat → Int64} {t i p j : Nat} {y : Int64} : mh_bt (am_up L t 0 i y t 0 p) j ↔ (if p = i then mh_bt y j else mh_bt (L t 0 p) j) := by
  rw [am_up_a]
  split <;> rfl
/-- what addChild does to the bits -/
def mh_ad (L L' : Nat → Nat → Nat → Int64) (v : Prop) (f n : Int) (i : Nat) : Prop :=
  (∀ t, t ∉ [41, 42, 43] → L' t = L t) ∧
  (∀ p j, mh_bt (L' 42 0 p) j ↔ mh_bt (L 42 0 p) j) ∧ (∀ p j, mh_bt (L' 41 0 p) j ↔ mh_bt (L 41 0 p) j) ∧
  (∀ p j : Nat, mh_bt (L' 43 0 p) j ↔ mh_bt (L 43 0 p) j ∨ (v ∧ ((p < i ∧ (j : Int) = n ∧ mh_bt (L 42 0 f.toNat) p) ∨ ((p : Int) = n ∧ j < i ∧ mh_bt (L 42 0 f.toNat) j))))
def mh_ad2 (L L' : Nat → Nat → Nat → Int64) (v : Prop) (f n : Int) : Prop :=
  (∀ t, t ∉ [41, 42, 43] → L' t = L t) ∧
  (∀ p j : Nat, mh_bt (L' 42 0 p) j ↔ mh_bt (L 42 0 p) j ∨ (v ∧ (p : Int) = f ∧ (j : Int) = n)) ∧ (∀ p j : Nat, mh_bt (L' 41 0 p) j ↔ mh_bt (L 41 0 p) j ∨ (v ∧ (p : Int) = n ∧ (j : Int) = f)) ∧
  (∀ p j : Nat, mh_bt (L' 43 0 p) j ↔ mh_bt (L 43 0 p) j ∨ (v ∧ (((p : Int) < n ∧ (j : Int) = n ∧ mh_bt (L 42 0 f.toNat) p) ∨ ((p : Int) = n ∧ (j : Int) < n ∧ mh_bt (L 42 0 f.toNat) j))))
theorem pX2_addChild {d kc ks : Nat} {Q : Option am_V → am_W → Prop} {w : am_W} {f n : Int} (hp : 0 ≤ w.1 5 0 18 ∧ w.1 5 0 18 < 40) (hn : n = w.1 5 0 18)
    (K : ∀ L', mh_ad2 w.2.1 L' (0 ≤ f ∧ f < w.1 5 0 18) f n → Q none (w.1, L', w.2.2)) : am_M (mh_G X) SC (d + 2) kc ks mX2_addChild [.inr (.inr (some (5, 0))), .inl f, .inl n] w Q := by
  refine am_M_of (by decide) (Nat.le_of_ble_eq_true rfl) ?_
  refine bX2_addChild_0 ⟨fun c => ?_, fun c => K w.2.1 ?_⟩
  · have L : ∀ (m i : Nat) (L1 : Nat → Nat → Nat → Int64), (m + i : Nat) = n → mh_ad w.2.1 L1 True f n i → am_A (mh_G X) SC (d + 2) mX2_addChild Q 11 [(0, .inr (.inr (some (5, 0)))), (1, .inl f), (2, .inl n), (3, .inl (i : Int))] [] (w.1, L1, w.2.2) kc ks := by
      intro m
      induction m with
      | zero =>
        intro i L1 hi h
        refine bX2_addChild_11 ⟨fun _ => ⟨by omega, by omega, by omega, by omega, K _ ?_⟩, fun c2 => absurd c2 (by omega)⟩
        obtain ⟨a1, a2, a3, a4⟩ := h
        refine ⟨fun t q => ?_, fun p j => ?_, fun p j => ?_, fun p j => ?_⟩
        · rw [am_up_t (fun e => q (by rw [e]; decide)), am_up_t (fun e => q (by rw [e]; decide))]
          exact a1 t q
        · rw [am_up_t (by decide), mh_bt_up, mh_bt_or, a2, a2, mh_bt_one (by omega)]
          by_cases e : p = f.toNat
          · rw [if_pos e, e]
            grind
          · rw [if_neg e]
            grind
        · rw [mh_bt_up, mh_bt_or]
          simp (disch := decide) only [am_up_t]
          rw [a3, a3, mh_bt_one (by omega)]
          by_cases e : p = n.toNat
          · rw [if_pos e, e]
            grind
          · rw [if_neg e]
            grind
        · simp (disch := decide) only [am_up_t]
          rw [a4]
          grind
      | succ m ih =>
        intro i L1 hi h
        have step : ∀ L2, mh_ad w.2.1 L2 True f n (i + 1) → am_A (mh_G X) SC (d + 2) mX2_addChild Q 55 [(0, .inr (.inr (some (5, 0)))), (1, .inl f), (2, .inl n), (3, .inl (i : Int))] [] (w.1, L2, w.2.2) kc ks := by
          intro L2 h2
          refine bX2_addChild_55 ?_
          rw [am_w_id (z := (i : Int) + 1) (by unfold am_rg; omega)]
          exact ih (i + 1) L2 (by omega) h2
        obtain ⟨a1, a2, a3, a4⟩ := h
        refine bX2_addChild_11 ⟨fun c2 => absurd c2 (by omega), fun _ => ⟨by omega, by omega, fun c2 => ?_, fun c2 => ⟨by omega, by omega, by omega, by omega, ?_⟩⟩⟩
        · refine step L1 ⟨a1, a2, a3, fun p j => ?_⟩
          rw [mh_bt_test (by omega), Int.toNat_natCast, a2] at c2
          rw [a4]
          grind
        · rw [mh_bt_test (by omega), Int.toNat_natCast, a2] at c2
          simp only [Int.toNat_natCast]
          refine step _ ⟨fun t q => ?_, fun p j => ?_, fun p j => ?_, fun p j => ?_⟩
          · rw [am_up_t (fun e => q (by rw [e]; decide)), am_up_t (fun e => q (by rw [e]; decide)), a1 t q]
          · simp (disch := decide) only [am_up_t]
            rw [a2]
          · simp (disch := decide) only [am_up_t]
            rw [a3]
          · have i1 : ¬ n.toNat = i := by omega
            rw [mh_bt_up, mh_bt_or, mh_bt_up, mh_bt_up, mh_bt_or, if_neg i1, mh_bt_one (by omega), mh_bt_one (by omega), a4, a4, a4]
            grind
    exact L n.toNat 0 w.2.1 (by omega) ⟨fun _ _ => rfl, fun _ _ => Iff.rfl, fun _ _ => Iff.rfl, fun p j => by grind⟩
  · refine ⟨fun _ _ => rfl, fun _ _ => ?_, fun _ _ => ?_, fun p j => ?_⟩ <;> grind
/-- one of the people more -/
def mh_add (a : am_W) (x1 x2 x3 x4 : Int) : Nat → Nat → Nat → Int :=
  am_up (am_up (am_up (am_up (am_up (am_up (am_up (am_up a.1 33 0 (a.1 5 0 18).toNat (x1 / 10)) 34 0 (a.1 5 0 18).toNat (x1 % 10)) 35 0 (a.1 5 0 18).toNat x2) 36 0 (a.1 5 0 18).toNat x3) 37 0 (a.1 5 0 18).toNat x4) 38 0 (a.1 5 0 18).toNat (a.1 1 0 12)) 40 0 (a.1 5 0 18).toNat 2147483647) 5 0 18 (a.1 5 0 18 + 1)
def mh_addm (b : am_W) (n now x1 x2 x3 x4 : Int) : Nat → Nat → Nat → Int :=
  am_up (am_up (am_up (am_up (am_up (am_up (am_up (am_up b.1 96 0 n.toNat (x1 / 10)) 97 0 n.toNat (x1 % 10)) 98 0 n.toNat x2) 99 0 n.toNat x3) 100 0 n.toNat x4) 101 0 n.toNat now) 102 0 n.toNat (-2147483648)) 9 0 42 (n + 1)
/-- who can come -/
def mh_cp (a : am_W) (x1 x2 x3 x4 : Int) : Prop :=
  a.1 5 0 18 < 40 ∧ (0 ≤ x1 ∧ x1 / 10 ≤ 1 ∧ x1 % 10 ≤ 4) ∧ (-36524 ≤ x4 ∧ x4 ≤ a.1 1 0 12) ∧
  (x2 = -1 ∨ ((0 ≤ x2 ∧ x2 < a.1 5 0 18) ∧ a.1 33 0 x2.toNat = 1 ∧ a.1 37 0 x2.toNat ≤ x4)) ∧
  (x3 = -1 ∨ ((0 ≤ x3 ∧ x3 < a.1 5 0 18) ∧ a.1 33 0 x3.toNat = 0 ∧ a.1 37 0 x3.toNat ≤ x4))
theorem mh_sib {n p j : Nat} {f m : Int} {F M : Nat → Int} (hf : f = -1 ∨ (0 ≤ f ∧ f < n)) (hm : m = -1 ∨ (0 ≤ m ∧ m < n))
    (gp : p < n → ¬ (F p = m ∧ 0 ≤ m) ∧ ¬ (M p = f ∧ 0 ≤ f)) (gj : j < n → ¬ (F j = m ∧ 0 ≤ m) ∧ ¬ (M j = f ∧ 0 ≤ f)) :
    (((((p : Int) < n ∧ (j : Int) < n) ∧ ¬ p = j ∧ ((¬ F p = -1 ∧ F p = F j) ∨ (¬ M p = -1 ∧ M p = M j))) ∨
      ((0 ≤ f ∧ f < n) ∧ (((p : Int) < n ∧ (j : Int) = n ∧ ((p : Int) < n ∧ (F p = (f.toNat : Int) ∨ M p = (f.toNat : Int)))) ∨ ((p : Int) = n ∧ (j : Int) < n ∧ ((j : Int) < n ∧ (F j = (f.toNat : Int) ∨ M j = (f.toNat : Int))))))) ∨
      ((0 ≤ m ∧ m < n) ∧ (((p : Int) < n ∧ (j : Int) = n ∧ (((p : Int) < n ∧ (F p = (m.toNat : Int) ∨ M p = (m.toNat : Int))) ∨ ((0 ≤ f ∧ f < n) ∧ ((m.toNat : Int) = f ∧ (p : Int) = n)))) ∨ ((p : Int) = n ∧ (j : Int) < n ∧ (((j : Int) < n ∧ (F j = (m.toNat : Int) ∨ M j = (m.toNat : Int))) ∨ ((0 ≤ f ∧ f < n) ∧ ((m.toNat : Int) = f ∧ (j : Int) = n))))))) ↔
    ((p : Int) < n + 1 ∧ (j : Int) < n + 1) ∧ ¬ p = j ∧ ((¬ (if p = n then f else F p) = -1 ∧ (if p = n then f else F p) = (if j = n then f else F j)) ∨ (¬ (if p = n then m else M p) = -1 ∧ (if p = n then m else M p) = (if j = n then m else M j))) := by
  by_cases c1 : p = n
  · by_cases c2 : j = n
    · simp only [if_pos c1, if_pos c2]; omega
    · simp only [if_pos c1, if_neg c2]
      by_cases c3 : j < n
      · have := gj c3
        clear gp gj
        grind
      · omega
  · by_cases c2 : j = n
    · simp only [if_neg c1, if_pos c2]
      by_cases c3 : p < n
      · have := gp c3
        clear gp gj
        grind
      · omega
    · simp only [if_neg c1, if_neg c2]
      clear gp gj hf hm
      constructor
      · rintro ((h | h) | h)
        · exact ⟨by omega, h.2⟩
        · omega
        · omega
      · rintro ⟨h1, h2⟩
        exact Or.inl (Or.inl ⟨by omega, h2⟩)
theorem mh_E_person {a b : am_W} {x1 x2 x3 x4 : Int} {L L1 L2 : Nat → Nat → Nat → Int64} (e : mh_E a b) (h : mh_cp a x1 x2 x3 x4)
    (hL : L = a.2.1 ∧ ¬ x1 / 10 = 1 ∨ L = am_up a.2.1 5 0 16 (a.2.1 5 0 16 ||| ((1 : Int64) <<< ((Int32.ofInt (a.1 5 0 18)).toInt64 &&& 63))) ∧ x1 / 10 = 1)
    (h1 : mh_ad2 L L1 (0 ≤ x2 ∧ x2 < a.1 5 0 18) x2 (a.1 5 0 18)) (h2 : mh_ad2 L1 L2 (0 ≤ x3 ∧ x3 < a.1 5 0 18) x3 (a.1 5 0 18)) :
    mh_E (mh_add a x1 x2 x3 x4, L2, a.2.2) (mh_addm b (a.1 5 0 18) (a.1 1 0 12) x1 x2 x3 x4, b.2) := by
  have n1 := e.2.1.2
  have p1 := e.2.2.2.2.1.1
  unfold mh_cp at h
  unfold mh_add mh_addm
  refine mh_E_F e (fun t q => by (show am_up _ _ _ _ _ t = _; rw [am_up_t (fun e => q (by rw [e]; decide)), am_up_t (fun e => q (by rw [e]; decide)), am_up_t (fun e => q (by rw [e]; decide)), am_up_t (fun e => q (by rw [e]; decide)), am_up_t (fun e => q (by rw [e]; decide)), am_up_t (fun e => q (by rw [e]; decide)), am_up_t (fun e => q (by rw [e]; decide)), am_up_t (fun e => q (by rw [e]; decide))])) (fun k hk => by repeat (first | (rw [am_up_n hk (by decide)]) | (simp (disch := decide) only [am_up_t]))) (by simp (disch := decide) only [am_up_t, am_up_s]; omega) (mh_fm_f (mh_fm_v (mh_fm_v (mh_fm_v (mh_fm_v (mh_fm_v (mh_fm_v (mh_fm_v mh_fm_i (by decide) (by decide)) (by decide) (by decide)) (by decide) (by decide)) (by decide) (by decide)) (by decide) (by decide)) (by decide) (by decide)) (by decide) (by decide)) (by decide)) ?_
  obtain ⟨-, -, -, -, ⟨e1, e2, e3, ⟨e4, e5, e6, e7⟩, e8⟩, -⟩ := e
  have L42 : ∀ p, L 42 0 p = a.2.1 42 0 p := by
    intro p
    rcases hL with ⟨q, -⟩ | ⟨q, -⟩
    · rw [q]
    · rw [q, am_up_t (by decide)]
  have L41 : ∀ p, L 41 0 p = a.2.1 41 0 p := by
    intro p
    rcases hL with ⟨q, -⟩ | ⟨q, -⟩
    · rw [q]
    · rw [q, am_up_t (by decide)]
  have L43 : ∀ p, L 43 0 p = a.2.1 43 0 p := by
    intro p
    rcases hL with ⟨q, -⟩ | ⟨q, -⟩
    · rw [q]
    · rw [q, am_up_t (by decide)]
  have Lm : ∀ j, mh_bt (L2 5 0 16) j ↔ mh_bt (a.2.1 5 0 16) j ∨ ((j : Int) = a.1 5 0 18 ∧ x1 / 10 = 1) := by
    intro j
    rw [h2.1 5 (by decide), h1.1 5 (by decide)]
    rcases hL with ⟨q, q2⟩ | ⟨q, q2⟩
    · rw [q]
      exact ⟨Or.inl, fun c => c.resolve_right (fun c2 => q2 c2.2)⟩
    · rw [q, am_up_s, mh_bt_or, mh_bt_one (by omega)]
      exact ⟨fun c => c.imp_right (fun c2 => ⟨c2, q2⟩), fun c => c.imp_right (fun c2 => c2.1)⟩
  obtain ⟨-, a1, a2, a3⟩ := h1
  obtain ⟨-, b1, b2, b3⟩ := h2
  obtain ⟨n, hn⟩ : ∃ n : Nat, a.1 5 0 18 = (n : Int) := ⟨(a.1 5 0 18).toNat, by omega⟩
  have fm : ∀ p : Nat, p < n → ¬ (a.1 35 0 p = x3 ∧ 0 ≤ x3) ∧ ¬ (a.1 36 0 p = x2 ∧ 0 ≤ x2) := by
    intro p hp
    have q := (e3 p (by omega)).2.2.2.2.1
    constructor
    · rintro ⟨q1, q2⟩
      rw [q1] at q
      omega
    · rintro ⟨q1, q2⟩
      rw [q1] at q
      omega
  unfold mh_RK
  simp (disch := decide) only [am_up_t, am_up_k, am_up_s]
  simp (disch := decide) only [am_up_t, am_up_a]
  have hn' : (a.1 5 0 18).toNat = n := by omega
  simp only [hn']
  refine ⟨⟨trivial, by omega⟩, e2, fun p hp => ?_, ⟨fun p j => ?_, fun p j => ?_, fun p j => ?_, fun j => ?_⟩, fun k hk => ?_⟩
  · by_cases c : p = n
    · subst c
      simp only [↓reduceIte, true_and]
      refine ⟨by omega, by omega, by omega, by omega, ⟨?_, ?_⟩, by omega, by omega, Or.inl trivial⟩
      · split <;> omega
      · split <;> omega
    · have := e3 p (by omega)
      simp only [if_neg c]
      rw [if_neg (by omega), if_neg (by omega)]
      exact this
  · rw [b1, a1, L42, e4]
    split <;> omega
  · rw [b2, a2, L41, e5]
    split <;> omega
  · rw [b3, a3]
    simp only [a1, L43, L42, e6, e4, hn]
    refine mh_sib (F := a.1 35 0) (M := a.1 36 0) ?_ ?_ (fm p) (fm j)
    · have := h.2.2.2.1; rw [hn] at this; exact this.imp_right (fun q => q.1)
    · have := h.2.2.2.2; rw [hn] at this; exact this.imp_right (fun q => q.1)
  · rw [Lm, e7]
    split <;> omega
  · have := e8 k hk
    omega
theorem mh_dm10 {x : Int} (h : 0 ≤ x) (h2 : x < 2147483648) : am_w (Int.tdiv x 10) = x / 10 ∧ am_w (Int.tmod x 10) = x % 10 := by
  rw [Int.tdiv_eq_ediv_of_nonneg h, Int.tmod_eq_emod_of_nonneg h, am_w_id (by unfold am_rg; omega), am_w_id (by unfold am_rg; omega)]
  exact ⟨rfl, rfl⟩
theorem pX2_add {d kc ks : Nat} {Q : Option am_V → am_W → Prop} {a : am_W} {x1 x2 x3 x4 : Int} (hr : x1 < 2147483648) (hp : 0 ≤ a.1 5 0 18) (h : mh_cp a x1 x2 x3 x4)
    (K : ∀ L L1 L2, (L = a.2.1 ∧ ¬ x1 / 10 = 1 ∨ L = am_up a.2.1 5 0 16 (a.2.1 5 0 16 ||| ((1 : Int64) <<< ((Int32.ofInt (a.1 5 0 18)).toInt64 &&& 63))) ∧ x1 / 10 = 1) →
      mh_ad2 L L1 (0 ≤ x2 ∧ x2 < a.1 5 0 18) x2 (a.1 5 0 18) → mh_ad2 L1 L2 (0 ≤ x3 ∧ x3 < a.1 5 0 18) x3 (a.1 5 0 18) → Q (some (.inl (a.1 5 0 18))) (mh_add a x1 x2 x3 x4, L2, a.2.2)) :
    am_M (mh_G X) SC (d + 3) kc ks mX2_add [.inr (.inr (some (5, 0))), .inl x1, .inl x2, .inl x3, .inl x4, .inl (a.1 1 0 12)] a Q := by
  unfold mh_cp at h
  obtain ⟨m1, m2⟩ := mh_dm10 (x := x1) (by omega) hr
  refine am_M_of (by decide) (Nat.le_of_ble_eq_true rfl) ?_
  refine bX2_add_0 ?_
  rw [m1, m2, am_up_s]
  have cont : ∀ L, (L = a.2.1 ∧ ¬ x1 / 10 = 1 ∨ L = am_up a.2.1 5 0 16 (a.2.1 5 0 16 ||| ((1 : Int64) <<< ((Int32.ofInt (a.1 5 0 18)).toInt64 &&& 63))) ∧ x1 / 10 = 1) →
      am_A (mh_G X) SC (d + 3) mX2_add Q 93 [(0, .inr (.inr (some (5, 0)))), (2, .inl x2), (3, .inl x3), (6, .inl (a.1 5 0 18))] [] (am_up (am_up (am_up (am_up (am_up (am_up (am_up a.1 33 0 (a.1 5 0 18).toNat (x1 / 10)) 34 0 (a.1 5 0 18).toNat (x1 % 10)) 35 0 (a.1 5 0 18).toNat x2) 36 0 (a.1 5 0 18).toNat x3) 37 0 (a.1 5 0 18).toNat x4) 38 0 (a.1 5 0 18).toNat (a.1 1 0 12)) 40 0 (a.1 5 0 18).toNat 2147483647, L, a.2.2) kc ks := by
    intro L hL
    refine bX2_add_93 ?_
    refine pX2_addChild ?_ ?_ ?_
    · simp (disch := decide) only [am_up_t]; omega
    · simp (disch := decide) only [am_up_t]
    intro L1 h1
    simp (disch := decide) only [am_up_t] at h1
    refine bX2_add_100 ?_
    refine pX2_addChild ?_ ?_ ?_
    · simp (disch := decide) only [am_up_t]; omega
    · simp (disch := decide) only [am_up_t]
    intro L2 h2
    simp (disch := decide) only [am_up_t] at h2
    refine bX2_add_107 ?_
    simp (disch := decide) only [am_up_t]
    rw [am_w_id (z := a.1 5 0 18 + 1) (by unfold am_rg; omega)]
    exact K L L1 L2 hL h1 h2
  exact ⟨hp, h.1, fun c => cont a.2.1 (Or.inl ⟨rfl, c⟩), fun c => cont _ (Or.inr ⟨rfl, c⟩)⟩
theorem pX12_person {d kc ks : Nat} {Q : Option am_V → am_W → Prop} {a b : am_W} {x1 x2 x3 x4 : Int} (hr : am_rg x1) (e : mh_E a b)
    (K0 : ¬ mh_cp a x1 x2 x3 x4 → Q (some (.inl (-1))) b) (K1 : mh_cp a x1 x2 x3 x4 → Q (some (.inl (a.1 5 0 18))) (mh_addm b (a.1 5 0 18) (a.1 1 0 12) x1 x2 x3 x4, b.2)) :
    am_M (mh_G X) SC (d + 3) kc ks mX12_person [.inr (.inr (some (9, 0))), .inl x1, .inl x2, .inl x3, .inl x4] b Q := by
  unfold am_rg at hr
  unfold mh_cp at K0 K1
  have n1 := e.2.1
  unfold mh_RN at n1
  obtain ⟨⟨p1, p2⟩, -, p3, -⟩ := e.2.2.2.2.1
  by_cases c0 : 0 ≤ x1
  · obtain ⟨m1, m2⟩ := mh_dm10 (x := x1) c0 (by omega)
    have last : (a.1 5 0 18 < 40 ∧ (0 ≤ x1 ∧ x1 / 10 ≤ 1 ∧ x1 % 10 ≤ 4) ∧ (-36524 ≤ x4 ∧ x4 ≤ a.1 1 0 12) ∧
      (x2 = -1 ∨ ((0 ≤ x2 ∧ x2 < a.1 5 0 18) ∧ a.1 33 0 x2.toNat = 1 ∧ a.1 37 0 x2.toNat ≤ x4))) → am_A (mh_G X) SC (d + 3) mX12_person Q 88 [(0, .inr (.inr (some (9, 0)))), (1, .inl x1), (2, .inl x2), (3, .inl x3), (4, .inl x4)] [] b kc ks := by
      intro h
      have fin : (x3 = -1 ∨ ((0 ≤ x3 ∧ x3 < a.1 5 0 18) ∧ a.1 33 0 x3.toNat = 0 ∧ a.1 37 0 x3.toNat ≤ x4)) → am_A (mh_G X) SC (d + 3) mX12_person Q 123 [(0, .inr (.inr (some (9, 0)))), (1, .inl x1), (2, .inl x2), (3, .inl x3), (4, .inl x4)] [] b kc ks := by
        intro h3
        refine bX12_person_123 ?_
        rw [p1, m1, m2, n1.1, am_up_s, am_w_id (z := a.1 5 0 18 + 1) (by unfold am_rg; omega), am_w_id (by unfold am_rg; omega), show a.1 5 0 18 + 1 - 1 = a.1 5 0 18 by omega]
        exact ⟨by omega, by omega, K1 ⟨h.1, h.2.1, h.2.2.1, h.2.2.2, h3⟩⟩
      refine bX12_person_88 ⟨fun c => fin (Or.inl c), fun c => ?_⟩
      rw [p1, am_w_id (by unfold am_rg; omega)]
      refine ⟨fun c2 => K0 (by omega), fun c2 => ⟨by omega, by omega, ?_⟩⟩
      have := p3 x3.toNat (by omega)
      exact ⟨fun c3 => K0 (by omega), fun c3 => ⟨fun c4 => fin (by omega), fun c4 => K0 (by omega)⟩⟩
    refine am_M_of (by decide) (Nat.le_of_ble_eq_true rfl) ?_
    refine bX12_person_0 ?_
    rw [p1, m1, m2, n1.1, am_w_id (by unfold am_rg; omega)]
    refine ⟨fun c => K0 (by omega), fun c => ⟨fun c2 => K0 (by omega), fun c2 => ⟨fun c3 => K0 (by omega), fun c3 => ⟨fun c4 => K0 (by omega), fun c4 => ⟨fun c5 => K0 (by omega), fun c5 => ⟨fun c6 => ⟨fun c7 => last (by omega), fun c7 => ⟨fun c8 => K0 (by omega), fun c8 => ⟨by omega, by omega, ?_⟩⟩⟩, fun c6 => K0 (by omega)⟩⟩⟩⟩⟩⟩
    have := p3 x2.toNat (by omega)
    exact ⟨fun c9 => K0 (by omega), fun c9 => ⟨fun c10 => last (by omega), fun c10 => K0 (by omega)⟩⟩
  · refine am_M_of (by decide) (Nat.le_of_ble_eq_true rfl) ?_
    refine bX12_person_0 ⟨fun _ => K0 (by omega), fun c => ⟨fun _ => K0 (by omega), fun c2 => absurd c2 (by omega)⟩⟩
theorem qX_person {x1 x2 x3 x4 : Int} (hr : am_rg x1) : mh_q SC X 4 mX11_person [.inr (.inr (some (1, 0))), .inl x1, .inl x2, .inl x3, .inl x4] 3 mX12_person [.inr (.inr (some (9, 0))), .inl x1, .inl x2, .inl x3, .inl x4] := by
  intro a b0 E d kc ks Q h
  have hr' := hr
  unfold am_rg at hr'
  have n1 := E.2.1.2
  have p1 := E.2.2.2.2.1.1
  have no : ¬ mh_cp a x1 x2 x3 x4 → Q (some (.inl (-1))) a := fun c => h (-1) a (fun _ _ => rfl) (fun b e d' kc' ks' Q' k => pX12_person hr e (fun _ => k b e (fun _ _ => rfl) rfl) (fun c2 => absurd c2 c))
  have c0 : (¬ 40 ≤ (a.1 5 0 18) ∧ (¬ x1 < 0 ∧ (¬ 1 < (am_w (Int.tdiv x1 10)) ∧ (¬ 5 ≤ (am_w (Int.tmod x1 10)) ∧ ((x2 = (-1) ∨ ((¬ x2 < 0 ∧ (¬ (a.1 5 0 18) ≤ x2)) ∧ ((a.1 33 0 x2.toNat) = (1 : Int) ∧ (¬ x4 < (a.1 37 0 x2.toNat))))) ∧ ((x3 = (-1) ∨ ((¬ x3 < 0 ∧ (¬ (a.1 5 0 18) ≤ x3)) ∧ ((a.1 33 0 x3.toNat) = (0 : Int) ∧ (¬ x4 < (a.1 37 0 x3.toNat))))))))))) ∧ (-36524 ≤ x4 ∧ x4 ≤ a.1 1 0 12) ↔ mh_cp a x1 x2 x3 x4 := by
    unfold mh_cp
    by_cases c : 0 ≤ x1
    · obtain ⟨m1, m2⟩ := mh_dm10 (x := x1) c (by omega)
      rw [m1, m2]
      omega
    · constructor
      · intro q; exact absurd q.1.2.1 (by omega)
      · intro q; exact absurd q.2.1.1 c
  refine am_M_of (by decide) (Nat.le_of_ble_eq_true rfl) ?_
  refine bX11_person_0 ⟨fun c => no (fun c2 => by have := (c0.mpr c2).2; omega), fun c => ?_⟩
  refine sX2_hasPlaceFor (fun _ _ _ _ _ c => by omega) (fun _ _ _ _ _ c => by omega) (fun _ _ _ _ _ _ c => by omega) (fun _ _ _ _ _ _ c => by omega) ?_
  refine bX11_person_21 ⟨fun c2 => ?_, fun c2 => ?_⟩
  · have c3 := Classical.byContradiction (fun q => c2 (if_neg q))
    have hc := c0.mp ⟨c3, by omega⟩
    refine pX2_add (by omega) (by omega) hc (fun L L1 L2 hL h1 h2 => ?_)
    refine bX11_person_42 ?_
    refine h _ _ ?_ (fun b e d' kc' ks' Q' k => pX12_person hr e (fun c4 => absurd hc c4) (fun _ => k _ (mh_E_person e hc hL h1 h2) ?_ rfl))
    · unfold mh_add
      exact (fun t q => by (show am_up _ _ _ _ _ t = _; rw [am_up_t (fun e => q (by rw [e]; decide)), am_up_t (fun e => q (by rw [e]; decide)), am_up_t (fun e => q (by rw [e]; decide)), am_up_t (fun e => q (by rw [e]; decide)), am_up_t (fun e => q (by rw [e]; decide)), am_up_t (fun e => q (by rw [e]; decide)), am_up_t (fun e => q (by rw [e]; decide)), am_up_t (fun e => q (by rw [e]; decide))]))
    · unfold mh_addm
      exact (fun t q => by (show am_up _ _ _ _ _ t = _; rw [am_up_t (fun e => q (by rw [e]; decide)), am_up_t (fun e => q (by rw [e]; decide)), am_up_t (fun e => q (by rw [e]; decide)), am_up_t (fun e => q (by rw [e]; decide)), am_up_t (fun e => q (by rw [e]; decide)), am_up_t (fun e => q (by rw [e]; decide)), am_up_t (fun e => q (by rw [e]; decide)), am_up_t (fun e => q (by rw [e]; decide))]))
  · refine no (fun c3 => ?_)
    rw [if_pos (c0.mpr c3).1] at c2
    exact absurd c2 (by decide)
