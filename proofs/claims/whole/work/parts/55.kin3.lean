-- kin: the reference
variable {SC : Nat → Nat} {X : mh_X}
theorem pX12_isSpouse {d kc ks : Nat} {Q : Option am_V → am_W → Prop} {I : Nat → Nat → Nat → Int} {L : Nat → Nat → Nat → Int64} {w : am_W} {day known : Int} {x y : Nat} (hR : mh_RK I L w.1)
    (K1 : mh_sp I day known (I 5 0 19).toNat x y → Q (some (.inl 1)) w) (K0 : ¬ mh_sp I day known (I 5 0 19).toNat x y → Q (some (.inl 0)) w) :
    am_M (mh_G X) SC (d + 1) kc ks mX12_isSpouse [.inr (.inr (some (9, 0))), .inl (x : Int), .inl (y : Int), .inl day, .inl known] w Q := by
  obtain ⟨-, ⟨m1, m2⟩, -, -, hm⟩ := hR
  have B : ∀ (n k : Nat), (n + k : Nat) = (I 5 0 19).toNat → (¬ mh_sp I day known k x y) → am_A (mh_G X) SC (d + 1) mX12_isSpouse Q 3 [(0, .inr (.inr (some (9, 0)))), (1, .inl (x : Int)), (2, .inl (y : Int)), (3, .inl day), (4, .inl known), (5, .inl (k : Int))] [] w kc ks := by
    intro n
    induction n with
    | zero =>
      intro k hk h
      refine bX12_isSpouse_3 ⟨fun _ => K0 (by rw [show (I 5 0 19).toNat = k by omega]; exact h), fun c => absurd c (show ¬ ¬ w.1 9 0 47 ≤ (k : Int) by omega)⟩
    | succ n ih =>
      intro k hk h
      have q := hm k (by omega)
      have skip : ¬ (((I 44 0 k = (x : Int) ∧ I 45 0 k = (y : Int)) ∨ (I 44 0 k = (y : Int) ∧ I 45 0 k = (x : Int))) ∧ I 46 0 k ≤ day ∧ I 47 0 k ≤ known) → am_A (mh_G X) SC (d + 1) mX12_isSpouse Q 93 [(0, .inr (.inr (some (9, 0)))), (1, .inl (x : Int)), (2, .inl (y : Int)), (3, .inl day), (4, .inl known), (5, .inl (k : Int))] [] w kc ks := by
        intro c
        refine bX12_isSpouse_93 ?_
        rw [am_w_id (z := (k : Int) + 1) (by unfold am_rg; omega)]
        refine ih (k + 1) (by omega) ?_
        rintro ⟨i, h1, h2⟩
        by_cases e : i = k
        · rw [e] at h2; exact c h2
        · exact h ⟨i, by omega, h2⟩
      have yes : ((I 44 0 k = (x : Int) ∧ I 45 0 k = (y : Int)) ∨ (I 44 0 k = (y : Int) ∧ I 45 0 k = (x : Int))) → am_A (mh_G X) SC (d + 1) mX12_isSpouse Q 56 [(0, .inr (.inr (some (9, 0)))), (1, .inl (x : Int)), (2, .inl (y : Int)), (3, .inl day), (4, .inl known), (5, .inl (k : Int))] [] w kc ks := by
        intro c
        refine bX12_isSpouse_56 (bX12_isSpouse_61 ⟨fun z => absurd z (by decide), fun _ => ⟨by omega, by omega, ?_⟩⟩)
        simp only [Int.toNat_natCast]
        refine ⟨fun c2 => skip (by omega), fun c2 => ⟨fun c3 => skip (by omega), fun c3 => K1 ⟨k, by omega, c, by omega, by omega⟩⟩⟩
      have no : ¬ ((I 44 0 k = (x : Int) ∧ I 45 0 k = (y : Int)) ∨ (I 44 0 k = (y : Int) ∧ I 45 0 k = (x : Int))) → am_A (mh_G X) SC (d + 1) mX12_isSpouse Q 60 [(0, .inr (.inr (some (9, 0)))), (1, .inl (x : Int)), (2, .inl (y : Int)), (3, .inl day), (4, .inl known), (5, .inl (k : Int))] [] w kc ks :=
        fun c => bX12_isSpouse_60 (bX12_isSpouse_61 ⟨fun _ => skip (fun z => c z.1), fun z => absurd rfl z⟩)
      refine bX12_isSpouse_3 ⟨fun c => absurd c (show ¬ w.1 9 0 47 ≤ (k : Int) by omega), fun _ => ⟨by omega, by omega, ?_⟩⟩
      simp only [Int.toNat_natCast]
      have m34 : (¬ (w.1 104 0 k = (x : Int) ∧ w.1 105 0 k = (y : Int))) → am_A (mh_G X) SC (d + 1) mX12_isSpouse Q 34 [(0, .inr (.inr (some (9, 0)))), (1, .inl (x : Int)), (2, .inl (y : Int)), (3, .inl day), (4, .inl known), (5, .inl (k : Int))] [] w kc ks := by
        intro c
        refine bX12_isSpouse_34 ⟨by omega, by omega, ?_⟩
        simp only [Int.toNat_natCast]
        exact ⟨fun c2 => no (by omega), fun c2 => ⟨fun c3 => no (by omega), fun c3 => yes (by omega)⟩⟩
      exact ⟨fun c => m34 (by omega), fun c => ⟨fun c2 => yes (by omega), fun c2 => m34 (by omega)⟩⟩
  refine am_M_of (by decide) (Nat.le_of_ble_eq_true rfl) ?_
  exact bX12_isSpouse_0 (B (I 5 0 19).toNat 0 (by omega) (fun ⟨k, z, _⟩ => absurd z (Nat.not_lt_zero k)))
theorem pX12_isKin {d kc ks : Nat} {Q : Option am_V → am_W → Prop} {I : Nat → Nat → Nat → Int} {L : Nat → Nat → Nat → Int64} {w : am_W} {day known z : Int} {x y : Nat} (hR : mh_RK I L w.1) (hz : 0 ≤ z ∧ z ≤ 11)
    (hx : (x : Int) < I 5 0 18) (hy : (y : Int) < I 5 0 18)
    (K1 : mh_rl I day known z x y → Q (some (.inl 1)) w) (K0 : ¬ mh_rl I day known z x y → Q (some (.inl 0)) w) :
    am_M (mh_G X) SC (d + 2) kc ks mX12_isKin [.inr (.inr (some (9, 0))), .inl z, .inl (x : Int), .inl (y : Int), .inl day, .inl known] w Q := by
  have hR' := hR
  obtain ⟨p0, ⟨m1, m2⟩, hp, -, hm⟩ := hR
  obtain ⟨w1, w2, w3⟩ := mh_w3 hz
  have qx := hp x hx
  have qy := hp y hy
  have no : ¬ (z % 3 = 0 ∨ (z % 3 = 1 ∧ I 33 0 x = 1) ∨ (z % 3 = 2 ∧ ¬ I 33 0 x = 1)) → am_A (mh_G X) SC (d + 2) mX12_isKin Q 43 [(0, .inr (.inr (some (9, 0)))), (1, .inl z), (2, .inl (x : Int)), (3, .inl (y : Int)), (4, .inl day), (5, .inl known)] [] w kc ks :=
    fun c => bX12_isKin_43 (bX12_isKin_44 ⟨fun c2 => absurd rfl c2, fun _ => K0 (fun h => c h.1)⟩)
  have yes : (z % 3 = 0 ∨ (z % 3 = 1 ∧ I 33 0 x = 1) ∨ (z % 3 = 2 ∧ ¬ I 33 0 x = 1)) → am_A (mh_G X) SC (d + 2) mX12_isKin Q 39 [(0, .inr (.inr (some (9, 0)))), (1, .inl z), (2, .inl (x : Int)), (3, .inl (y : Int)), (4, .inl day), (5, .inl known)] [] w kc ks := by
    intro c
    refine bX12_isKin_39 (bX12_isKin_44 ⟨fun _ => ?_, fun c2 => absurd c2 (by decide)⟩)
    rw [w2]
    refine ⟨fun c2 => ?_, fun c2 => ?_, fun c2 => ⟨by omega, by omega, ?_⟩, fun c2 => ⟨by omega, by omega, ?_⟩⟩
    · refine sX12_isSibling (fun _ => by omega) (fun _ => by omega) (fun _ _ _ => by omega) (fun _ _ _ => by omega) (fun _ _ => by omega) (fun _ _ => by omega) ?_
      refine bX12_isKin_115 ?_
      simp only [Int.toNat_natCast]
      have e : (¬ (x : Int) = (y : Int) ∧ (((w.1 98 0 x) = (-1) ∧ (¬ (w.1 99 0 x) = (-1) ∧ ((w.1 99 0 x) = (w.1 99 0 y)))) ∨ (¬ (w.1 98 0 x) = (-1) ∧ ((w.1 98 0 x) = (w.1 98 0 y) ∨ (¬ (w.1 99 0 x) = (-1) ∧ ((w.1 99 0 x) = (w.1 99 0 y))))))) ↔ (¬ x = y ∧ ((¬ I 35 0 x = -1 ∧ I 35 0 x = I 35 0 y) ∨ (¬ I 36 0 x = -1 ∧ I 36 0 x = I 36 0 y))) := by omega
      by_cases c3 : ¬ x = y ∧ ((¬ I 35 0 x = -1 ∧ I 35 0 x = I 35 0 y) ∨ (¬ I 36 0 x = -1 ∧ I 36 0 x = I 36 0 y))
      · rw [if_pos (e.mpr c3)]
        exact ⟨Or.inr rfl, K1 ⟨c, Or.inr (Or.inr (Or.inr ⟨by omega, c3⟩))⟩⟩
      · rw [if_neg (fun h => c3 (e.mp h))]
        refine ⟨Or.inl rfl, K0 (fun h => ?_)⟩
        rcases h.2 with h | h | h | h
        · omega
        · omega
        · omega
        · exact c3 h.2
    · refine pX12_isSpouse hR' (fun h => ?_) (fun h => ?_)
      · exact bX12_isKin_94 ⟨Or.inr rfl, K1 ⟨c, Or.inl ⟨c2, h⟩⟩⟩
      · refine bX12_isKin_94 ⟨Or.inl rfl, K0 (fun g => ?_)⟩
        rcases g.2 with g | g | g | g
        · exact h g.2
        · omega
        · omega
        · omega
    · simp only [Int.toNat_natCast]
      by_cases c3 : I 35 0 x = (y : Int) ∨ I 36 0 x = (y : Int)
      · rw [if_pos (by omega)]
        exact K1 ⟨c, Or.inr (Or.inl ⟨c2, c3⟩)⟩
      · rw [if_neg (by omega)]
        refine K0 (fun h => ?_)
        rcases h.2 with h | h | h | h
        · omega
        · exact c3 h.2
        · omega
        · omega
    · simp only [Int.toNat_natCast]
      by_cases c3 : I 35 0 y = (x : Int) ∨ I 36 0 y = (x : Int)
      · rw [if_pos (by omega)]
        exact K1 ⟨c, Or.inr (Or.inr (Or.inl ⟨c2, c3⟩))⟩
      · rw [if_neg (by omega)]
        refine K0 (fun h => ?_)
        rcases h.2 with h | h | h | h
        · omega
        · omega
        · exact c3 h.2
        · omega
  refine am_M_of (by decide) (Nat.le_of_ble_eq_true rfl) ?_
  refine bX12_isKin_0 ?_
  rw [w1]
  simp only [Int.toNat_natCast]
  exact ⟨fun c => yes (Or.inl c), fun c => ⟨fun c2 => ⟨by omega, by omega, fun c3 => no (by omega), fun c3 => yes (by omega)⟩, fun c2 => ⟨by omega, by omega, fun c3 => no (by omega), fun c3 => yes (by omega)⟩⟩⟩
/-- rule r of law m of the reference against rule r of law l of the class -/
def mh_wr (I J : Nat → Nat → Nat → Int) (l m r : Nat) : Prop :=
  (J 71 m r = I 144 l r ∧ 1 ≤ I 144 l r ∧ I 144 l r ≤ 4) ∧
    ∀ i : Nat, (i : Int) < I 144 l r → J 78 (30 * m + r) i = I 145 l (r * 4 + i) ∧ 0 ≤ I 145 l (r * 4 + i) ∧ I 145 l (r * 4 + i) ≤ 11
theorem mh_La_wr {I J : Nat → Nat → Nat → Int} {l m r : Nat} (h : mh_La I J l m) (hr : (r : Int) < I 10 l 10) : mh_wr I J l m r := ⟨(h.2.1 r hr).1, (h.2.1 r hr).2.1⟩
def mh_kf (I : Nat → Nat → Nat → Int) (L : Nat → Nat → Nat → Int64) (J : Nat → Nat → Nat → Int) (l m r : Nat) : Prop := mh_RK I L J ∧ mh_wr I J l m r ∧ m < 7 ∧ r < 30
theorem mh_kf_s {I : Nat → Nat → Nat → Int} {L : Nat → Nat → Nat → Int64} {b b' : am_W} {l m r : Nat} (h : mh_kf I L b.1 l m r) (g : mh_fm [112, 113] [] b b') : mh_kf I L b'.1 l m r := by
  obtain ⟨h1, h2, h3⟩ := h
  refine ⟨mh_RK_s h1 (Int.le_refl _) (fun _ _ => rfl) (fun _ _ => rfl) (fun _ _ => rfl) rfl (fun t ht => g.1 t ?_ ?_) (fun k hk => g.2.1 k (by simp)), ?_, h3⟩
  · revert ht; revert t; decide
  · revert ht; revert t; decide
  · unfold mh_wr at *
    rw [g.1 71 (by decide) (by decide), g.1 78 (by decide) (by decide)]
    exact h2
/-- one below y -/
def mh_ny (P : Nat → Prop) (y : Nat) : Prop := ∃ y', y' < y ∧ P y'
theorem pX12_kbD {d bc bs : Nat} {Q : Option am_V → am_W → Prop} {I : Nat → Nat → Nat → Int} {L : Nat → Nat → Nat → Int64} {day known : Int} {l m r a e k x : Nat} {S : Nat → Prop} (hx : (x : Int) < I 5 0 18) (hk : (k : Int) < I 144 l r)
    {w0 : am_W} (hS : ∀ y : Nat, (y : Int) < I 5 0 18 → (w0.1 112 0 y = 0 ∨ w0.1 112 0 y = 1) ∧ (w0.1 112 0 y = 1 ↔ S y))
    (K : ∀ w' : am_W, mh_fm [113] [] w0 w' → (∀ x', ¬ x' = x → w'.1 113 0 x' = w0.1 113 0 x') → (w'.1 113 0 x = 0 ∨ w'.1 113 0 x = 1) → (w'.1 113 0 x = 1 ↔ ((x : Int) < I 5 0 18 ∧ ¬ x = a ∧ I 38 0 x ≤ known ∧ ∃ y : Nat, (y : Int) < I 5 0 18 ∧ S y ∧ mh_rl I day known (I 145 l (r * 4 + k)) x y)) →
      am_A (mh_G X) SC (d + 3) mX12_isKinBy Q 166 [(0, .inr (.inr (some (9, 0)))), (1, .inl (m : Int)), (2, .inl (r : Int)), (3, .inl (a : Int)), (4, .inl (e : Int)), (5, .inl day), (6, .inl known), (7, .inl (k : Int)), (8, .inl (x : Int))] [] w' bc bs) :
    ∀ (n y : Nat) (w : am_W), (n + y : Nat) = (I 5 0 18).toNat → mh_kf I L w.1 l m r → mh_fm [113] [] w0 w → (∀ x', ¬ x' = x → w.1 113 0 x' = w0.1 113 0 x') → (w.1 113 0 x = 0 ∨ w.1 113 0 x = 1) → (w.1 113 0 x = 1 ↔ (¬ x = a ∧ I 38 0 x ≤ known ∧ mh_ny (fun y' => S y' ∧ mh_rl I day known (I 145 l (r * 4 + k)) x y') y)) →
      am_A (mh_G X) SC (d + 3) mX12_isKinBy Q 76 [(0, .inr (.inr (some (9, 0)))), (1, .inl (m : Int)), (2, .inl (r : Int)), (3, .inl (a : Int)), (4, .inl (e : Int)), (5, .inl day), (6, .inl known), (7, .inl (k : Int)), (8, .inl (x : Int)), (9, .inl (y : Int))] [] w bc bs := by
  intro n
  induction n with
  | zero =>
    intro y w hy hf hg h1 h2 h3
    have p1 := hf.1.1
    refine bX12_isKinBy_76 ⟨fun _ => K w hg h1 h2 (h3.trans ⟨?_, ?_⟩), fun c => absurd c (show ¬ ¬ w.1 9 0 42 ≤ (y : Int) by omega)⟩
    · rintro ⟨z1, z2, q, z3, z4⟩; exact ⟨hx, z1, z2, q, by omega, z4⟩
    · rintro ⟨-, z1, z2, q, z3, z4⟩; exact ⟨z1, z2, q, by omega, z4⟩
  | succ n ih =>
    intro y w hy hf hg h1 h2 h3
    have p1 := hf.1.1
    have b1 := hf.2.2
    have b2 := hf.2.1.1
    have px := hf.1.2.2.1 x hx
    have hy2 : (y : Int) < I 5 0 18 := by omega
    have out : (x = a ∨ ¬ I 38 0 x ≤ known) → am_A (mh_G X) SC (d + 3) mX12_isKinBy Q 166 [(0, .inr (.inr (some (9, 0)))), (1, .inl (m : Int)), (2, .inl (r : Int)), (3, .inl (a : Int)), (4, .inl (e : Int)), (5, .inl day), (6, .inl known), (7, .inl (k : Int)), (8, .inl (x : Int))] [] w bc bs := by
      intro c
      refine K w hg h1 h2 (h3.trans ⟨?_, ?_⟩)
      · rintro ⟨z1, z2, -⟩; rcases c with c | c
        · exact absurd c z1
        · exact absurd z2 c
      · rintro ⟨-, z1, z2, -⟩; rcases c with c | c
        · exact absurd c z1
        · exact absurd z2 c
    have fin : ∀ v : Int, (v = 0 ∨ v = 1) → (v = 1 ↔ (¬ x = a ∧ I 38 0 x ≤ known ∧ mh_ny (fun y' => S y' ∧ mh_rl I day known (I 145 l (r * 4 + k)) x y') (y + 1))) →
        am_A (mh_G X) SC (d + 3) mX12_isKinBy Q 159 [(0, .inr (.inr (some (9, 0)))), (1, .inl (m : Int)), (2, .inl (r : Int)), (3, .inl (a : Int)), (4, .inl (e : Int)), (5, .inl day), (6, .inl known), (7, .inl (k : Int)), (8, .inl (x : Int)), (9, .inl (y : Int))] [.inl v, .inl (x : Int), .inr (.inr (some (113, 0)))] w bc bs := by
      intro v hv h
      refine bX12_isKinBy_159 ⟨by omega, by omega, hv, ?_⟩
      simp only [Int.toNat_natCast]
      rw [am_w_id (z := (y : Int) + 1) (by unfold am_rg; omega)]
      have fr : mh_fm [113] [] w (am_up w.1 113 0 x v, w.2) := mh_fm_v mh_fm_i (by decide) (by decide)
      refine ih (y + 1) _ (by omega) (mh_kf_s hf (mh_fm_m fr (by decide) (by decide))) (mh_fm_t hg fr) (fun x' c => ?_) ?_ ?_
      · show am_up w.1 113 0 x v 113 0 x' = _
        rw [am_up_k c]; exact h1 x' c
      · simp only [am_up_s]; exact hv
      · simp only [am_up_s]; exact h
    refine bX12_isKinBy_76 ⟨fun c => absurd c (show ¬ w.1 9 0 42 ≤ (y : Int) by omega), fun _ => ⟨fun c => out (Or.inl (by omega)), fun c => ⟨by omega, by omega, ?_⟩⟩⟩
    simp only [Int.toNat_natCast]
    rw [px.2.2.2.2.2.2.1.1]
    refine ⟨fun c2 => out (Or.inr (by omega)), fun c2 => ⟨fun c3 => ?_, fun c3 => ⟨by omega, by omega, ?_⟩⟩⟩
    · refine bX12_isKinBy_154 (fin 1 (Or.inr rfl) ⟨fun _ => ?_, fun _ => rfl⟩)
      have := h3.mp (by omega)
      obtain ⟨z1, z2, q, z3, z4⟩ := this
      exact ⟨z1, z2, q, by omega, z4⟩
    · have e12 : w.1 112 0 y = w0.1 112 0 y := by rw [hg.1 112 (by decide) (by decide)]
      have sy := hS y hy2
      have n3 : ¬ (mh_ny (fun y' => S y' ∧ mh_rl I day known (I 145 l (r * 4 + k)) x y') y) := fun z => by
        have := h3.mpr ⟨by omega, by omega, z⟩
        omega
      have v0 : (¬ (S y ∧ mh_rl I day known (I 145 l (r * 4 + k)) x y)) → am_A (mh_G X) SC (d + 3) mX12_isKinBy Q 158 [(0, .inr (.inr (some (9, 0)))), (1, .inl (m : Int)), (2, .inl (r : Int)), (3, .inl (a : Int)), (4, .inl (e : Int)), (5, .inl day), (6, .inl known), (7, .inl (k : Int)), (8, .inl (x : Int)), (9, .inl (y : Int))] [.inl (x : Int), .inr (.inr (some (113, 0)))] w bc bs := by
        intro c4
        refine bX12_isKinBy_158 (fin 0 (Or.inl rfl) ⟨fun z => absurd z (by decide), ?_⟩)
        rintro ⟨z1, z2, q, z3, z4⟩
        by_cases c5 : q = y
        · rw [c5] at z4; exact absurd z4 c4
        · exact absurd ⟨q, by omega, z4⟩ n3
      refine ⟨fun c4 => v0 (fun z => by have := sy.2.mpr z.1; omega), fun c4 => ⟨by omega, by omega, by omega, by omega, by omega, by omega, ?_⟩⟩
      have hw := hf.2.1.2 k hk
      rw [hw.1]
      refine pX12_isKin hf.1 hw.2 hx hy2 (fun h => ?_) (fun h => ?_)
      · refine bX12_isKinBy_151 ⟨fun z => absurd z (by decide), fun _ => bX12_isKinBy_154 (fin 1 (Or.inr rfl) ⟨fun _ => ⟨by omega, by omega, y, by omega, sy.2.mp (by omega), h⟩, fun _ => rfl⟩)⟩
      · exact bX12_isKinBy_151 ⟨fun _ => v0 (fun z => h z.2), fun z => absurd rfl z⟩
