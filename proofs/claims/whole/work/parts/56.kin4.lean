-- kin: isKinBy
variable {SC : Nat → Nat} {X : mh_X}
/-- the row t holds the set S -/
def mh_rw (I : Nat → Nat → Nat → Int) (J : Nat → Nat → Nat → Int) (t : Nat) (n : Int) (S : Nat → Prop) : Prop := ∀ x : Nat, (x : Int) < n → (J t 0 x = 0 ∨ J t 0 x = 1) ∧ (J t 0 x = 1 ↔ S x)
theorem pX12_kbC {d bc bs : Nat} {Q : Option am_V → am_W → Prop} {I : Nat → Nat → Nat → Int} {L : Nat → Nat → Nat → Int64} {day known : Int} {l m r a e k : Nat} {S : Nat → Prop} (hk : (k : Int) < I 144 l r) (hP : 0 ≤ I 5 0 18 ∧ I 5 0 18 ≤ 40)
    {w0 : am_W} (hS : mh_rw I w0.1 112 (I 5 0 18) S)
    (K : ∀ w' : am_W, mh_fm [112, 113] [] w0 w' → mh_rw I w'.1 112 (I 5 0 18) (fun x => (x : Int) < I 5 0 18 ∧ ¬ x = a ∧ I 38 0 x ≤ known ∧ ∃ y : Nat, (y : Int) < I 5 0 18 ∧ S y ∧ mh_rl I day known (I 145 l (r * 4 + k)) x y) →
      am_A (mh_G X) SC (d + 3) mX12_isKinBy Q 48 [(0, .inr (.inr (some (9, 0)))), (1, .inl (m : Int)), (2, .inl (r : Int)), (3, .inl (a : Int)), (4, .inl (e : Int)), (5, .inl day), (6, .inl known), (7, .inl ((k : Int) - 1))] [] w' bc bs) :
    ∀ (n x : Nat) (w : am_W), (n + x : Nat) = (I 5 0 18).toNat → mh_kf I L w.1 l m r → mh_fm [113] [] w0 w → mh_rw I w.1 113 (x : Int) (fun x => (x : Int) < I 5 0 18 ∧ ¬ x = a ∧ I 38 0 x ≤ known ∧ ∃ y : Nat, (y : Int) < I 5 0 18 ∧ S y ∧ mh_rl I day known (I 145 l (r * 4 + k)) x y) →
      am_A (mh_G X) SC (d + 3) mX12_isKinBy Q 56 [(0, .inr (.inr (some (9, 0)))), (1, .inl (m : Int)), (2, .inl (r : Int)), (3, .inl (a : Int)), (4, .inl (e : Int)), (5, .inl day), (6, .inl known), (7, .inl (k : Int)), (8, .inl (x : Int))] [] w bc bs := by
  intro n
  induction n with
  | zero =>
    intro x w hx hf hg h
    have p1 := hf.1.1
    have b2 := hf.2.1.1
    have E : ∀ (n p : Nat) (w2 : am_W), (n + p : Nat) = (I 5 0 18).toNat → mh_fm [112, 113] [] w0 w2 → mh_kf I L w2.1 l m r → mh_rw I w2.1 113 (I 5 0 18) (fun x => (x : Int) < I 5 0 18 ∧ ¬ x = a ∧ I 38 0 x ≤ known ∧ ∃ y : Nat, (y : Int) < I 5 0 18 ∧ S y ∧ mh_rl I day known (I 145 l (r * 4 + k)) x y) →
        mh_rw I w2.1 112 (p : Int) (fun x => (x : Int) < I 5 0 18 ∧ ¬ x = a ∧ I 38 0 x ≤ known ∧ ∃ y : Nat, (y : Int) < I 5 0 18 ∧ S y ∧ mh_rl I day known (I 145 l (r * 4 + k)) x y) →
        am_A (mh_G X) SC (d + 3) mX12_isKinBy Q 175 [(0, .inr (.inr (some (9, 0)))), (1, .inl (m : Int)), (2, .inl (r : Int)), (3, .inl (a : Int)), (4, .inl (e : Int)), (5, .inl day), (6, .inl known), (7, .inl (k : Int)), (8, .inl (p : Int))] [] w2 bc bs := by
      intro n
      induction n with
      | zero =>
        intro p w2 hp g f h1 h2
        have p2 := f.1.1.1
        refine bX12_isKinBy_175 ⟨fun _ => ?_, fun c => absurd c (show ¬ ¬ w2.1 9 0 42 ≤ (p : Int) by omega)⟩
        rw [am_w_id (z := (k : Int) + -1) (by unfold am_rg; omega), show (k : Int) + -1 = (k : Int) - 1 by omega]
        exact K w2 g (fun y hy => h2 y (by omega))
      | succ n ih =>
        intro p w2 hp g f h1 h2
        have p2 := f.1.1.1
        have q := h1 p (by omega)
        refine bX12_isKinBy_175 ⟨fun c => absurd c (show ¬ w2.1 9 0 42 ≤ (p : Int) by omega), fun _ => ⟨by omega, by omega, ?_⟩⟩
        simp only [Int.toNat_natCast]
        refine ⟨q.1, ?_⟩
        rw [am_w_id (z := (p : Int) + 1) (by unfold am_rg; omega)]
        have fr : mh_fm [112, 113] [] w2 (am_up w2.1 112 0 p (w2.1 113 0 p), w2.2) := mh_fm_v mh_fm_i (by decide) (by decide)
        refine ih (p + 1) _ (by omega) (mh_fm_t g fr) (mh_kf_s f fr) (fun y hy => ?_) (fun y hy => ?_)
        · show (am_up w2.1 112 0 p (w2.1 113 0 p) 113 0 y = 0 ∨ am_up w2.1 112 0 p (w2.1 113 0 p) 113 0 y = 1) ∧ (am_up w2.1 112 0 p (w2.1 113 0 p) 113 0 y = 1 ↔ _)
          rw [am_up_t (by decide)]
          exact h1 y hy
        · show (am_up w2.1 112 0 p (w2.1 113 0 p) 112 0 y = 0 ∨ am_up w2.1 112 0 p (w2.1 113 0 p) 112 0 y = 1) ∧ (am_up w2.1 112 0 p (w2.1 113 0 p) 112 0 y = 1 ↔ _)
          rw [am_up_a]
          by_cases c : y = p
          · rw [if_pos c, c]; exact q
          · rw [if_neg c]; exact h2 y (by omega)
    refine bX12_isKinBy_56 ⟨fun _ => ?_, fun c => absurd c (show ¬ ¬ w.1 9 0 42 ≤ (x : Int) by omega)⟩
    refine E (I 5 0 18).toNat 0 w (by omega) (mh_fm_m hg (by decide) (by decide)) hf (fun y hy => h y (by omega)) (fun y hy => absurd hy (by omega))
  | succ n ih =>
    intro x w hx hf hg h
    have p1 := hf.1.1
    refine bX12_isKinBy_56 ⟨fun c => absurd c (show ¬ w.1 9 0 42 ≤ (x : Int) by omega), fun _ => ⟨by omega, by omega, ?_⟩⟩
    simp only [Int.toNat_natCast]
    have fr : mh_fm [113] [] w (am_up w.1 113 0 x 0, w.2) := mh_fm_v mh_fm_i (by decide) (by decide)
    have g2 := mh_fm_t hg fr
    refine pX12_kbD (w0 := (am_up w.1 113 0 x 0, w.2)) (S := S) (L := L) (by omega) hk (fun y hy => ?_) ?_ (I 5 0 18).toNat 0 _ (by omega) (mh_kf_s hf (mh_fm_m fr (by decide) (by decide))) mh_fm_r (fun _ _ => rfl) ?_ ?_
    · rw [g2.1 112 (by decide) (by decide)]
      exact hS y hy
    · intro w' f1 f2 f3 f4
      refine bX12_isKinBy_166 ?_
      rw [am_w_id (z := (x : Int) + 1) (by unfold am_rg; omega)]
      refine ih (x + 1) w' (by omega) (mh_kf_s hf (mh_fm_m (mh_fm_t fr f1) (by decide) (by decide))) (mh_fm_t g2 f1) (fun y hy => ?_)
      by_cases c : y = x
      · rw [c]; exact ⟨f3, f4⟩
      · rw [f2 y c]
        show (am_up w.1 113 0 x 0 113 0 y = 0 ∨ am_up w.1 113 0 x 0 113 0 y = 1) ∧ (am_up w.1 113 0 x 0 113 0 y = 1 ↔ _)
        rw [am_up_k c]
        exact h y (by omega)
    · simp only [am_up_s]; exact Or.inl trivial
    · simp only [am_up_s]
      exact ⟨fun z => absurd z (by decide), fun z => by obtain ⟨-, -, q, z, -⟩ := z; exact absurd z (Nat.not_lt_zero q)⟩
theorem pX12_isKinBy {d kc ks : Nat} {Q : Option am_V → am_W → Prop} {I : Nat → Nat → Nat → Int} {L : Nat → Nat → Nat → Int64} {w : am_W} {day known : Int} {l m r a e : Nat} (hf : mh_kf I L w.1 l m r) (ha : (a : Int) < I 5 0 18) (he : (e : Int) < I 5 0 18)
    (K1 : ∀ w', mh_fm [112, 113] [] w w' → mh_ks I day known a (mh_wo I l r) (I 144 l r).toNat e → Q (some (.inl 1)) w') (K0 : ∀ w', mh_fm [112, 113] [] w w' → ¬ mh_ks I day known a (mh_wo I l r) (I 144 l r).toNat e → Q (some (.inl 0)) w') :
    am_M (mh_G X) SC (d + 3) kc ks mX12_isKinBy [.inr (.inr (some (9, 0))), .inl (m : Int), .inl (r : Int), .inl (a : Int), .inl (e : Int), .inl day, .inl known] w Q := by
  have hP : 0 ≤ I 5 0 18 ∧ I 5 0 18 ≤ 40 := hf.1.1.2
  have hC := hf.2.1.1
  have B : ∀ (n i : Nat) (w2 : am_W), (n + i : Nat) = (I 144 l r).toNat → mh_fm [112, 113] [] w w2 → mh_rw I w2.1 112 (I 5 0 18) (mh_ks I day known a (mh_wo I l r) i) →
      am_A (mh_G X) SC (d + 3) mX12_isKinBy Q 48 [(0, .inr (.inr (some (9, 0)))), (1, .inl (m : Int)), (2, .inl (r : Int)), (3, .inl (a : Int)), (4, .inl (e : Int)), (5, .inl day), (6, .inl known), (7, .inl ((n : Int) - 1))] [] w2 kc ks := by
    intro n
    induction n with
    | zero =>
      intro i w2 hi g h
      refine bX12_isKinBy_48 ⟨fun _ => ⟨by omega, by omega, ?_⟩, fun c => absurd c (by omega)⟩
      simp only [Int.toNat_natCast]
      have q := h e he
      rw [show i = (I 144 l r).toNat by omega] at q
      refine ⟨q.1, ?_⟩
      rcases q.1 with z | z
      · rw [z]; exact K0 w2 g (fun c => by have := q.2.mpr c; omega)
      · rw [z]; exact K1 w2 g (q.2.mp z)
    | succ n ih =>
      intro i w2 hi g h
      refine bX12_isKinBy_48 ⟨fun c => absurd c (by omega), fun _ => ?_⟩
      rw [show ((n + 1 : Nat) : Int) - 1 = (n : Int) by omega]
      refine pX12_kbC (w0 := w2) (L := L) (S := mh_ks I day known a (mh_wo I l r) i) (by omega) hP h ?_ (I 5 0 18).toNat 0 w2 (by omega) (mh_kf_s hf g) mh_fm_r (fun y hy => absurd hy (by omega))
      intro w' f1 f2
      refine ih (i + 1) w' (by omega) (mh_fm_t g f1) (fun x hx => ?_)
      have q := f2 x hx
      have ew : mh_wo I l r i = I 145 l (r * 4 + n) := by
        unfold mh_wo
        rw [show (I 144 l r).toNat - 1 - i = n by omega]
      rw [← ew] at q
      exact q
  have A : ∀ (n p : Nat) (w2 : am_W), (n + p : Nat) = (I 5 0 18).toNat → mh_fm [112, 113] [] w w2 → mh_rw I w2.1 112 (p : Int) (fun x => x = a) →
      am_A (mh_G X) SC (d + 3) mX12_isKinBy Q 3 [(0, .inr (.inr (some (9, 0)))), (1, .inl (m : Int)), (2, .inl (r : Int)), (3, .inl (a : Int)), (4, .inl (e : Int)), (5, .inl day), (6, .inl known), (7, .inl (p : Int))] [] w2 kc ks := by
    intro n
    induction n with
    | zero =>
      intro p w2 hp g h
      have f2 := mh_kf_s hf g
      have p2 := f2.1.1.1
      have b1 := f2.2.2
      refine bX12_isKinBy_3 ⟨fun _ => ⟨by omega, by omega, by omega, by omega, ?_⟩, fun c => absurd c (show ¬ ¬ w2.1 9 0 42 ≤ (p : Int) by omega)⟩
      simp only [Int.toNat_natCast]
      rw [f2.2.1.1.1, am_w_id (z := I 144 l r - 1) (by unfold am_rg; omega), show I 144 l r - 1 = ((I 144 l r).toNat : Int) - 1 by omega]
      exact B _ 0 w2 rfl g (fun y hy => h y (by omega))
    | succ n ih =>
      intro p w2 hp g h
      have f2 := mh_kf_s hf g
      have p2 := f2.1.1.1
      have go : ∀ v : Int, (v = 0 ∨ v = 1) → (v = 1 ↔ p = a) → am_A (mh_G X) SC (d + 3) mX12_isKinBy Q 29 [(0, .inr (.inr (some (9, 0)))), (1, .inl (m : Int)), (2, .inl (r : Int)), (3, .inl (a : Int)), (4, .inl (e : Int)), (5, .inl day), (6, .inl known), (7, .inl (p : Int))] [.inl v, .inl (p : Int), .inr (.inr (some (112, 0)))] w2 kc ks := by
        intro v hv h2
        refine bX12_isKinBy_29 ⟨by omega, by omega, hv, ?_⟩
        simp only [Int.toNat_natCast]
        rw [am_w_id (z := (p : Int) + 1) (by unfold am_rg; omega)]
        refine ih (p + 1) _ (by omega) (mh_fm_t g (mh_fm_v mh_fm_i (by decide) (by decide))) (fun y hy => ?_)
        show (am_up w2.1 112 0 p v 112 0 y = 0 ∨ am_up w2.1 112 0 p v 112 0 y = 1) ∧ (am_up w2.1 112 0 p v 112 0 y = 1 ↔ _)
        rw [am_up_a]
        by_cases c : y = p
        · rw [if_pos c, c]; exact ⟨hv, h2⟩
        · rw [if_neg c]; exact h y (by omega)
      exact bX12_isKinBy_3 ⟨fun c => absurd c (show ¬ w2.1 9 0 42 ≤ (p : Int) by omega), fun _ => ⟨fun c => go 0 (Or.inl rfl) ⟨fun z => absurd z (by decide), fun z => by omega⟩, fun c => go 1 (Or.inr rfl) ⟨fun _ => by omega, fun _ => rfl⟩⟩⟩
  refine am_M_of (by decide) (Nat.le_of_ble_eq_true rfl) ?_
  exact bX12_isKinBy_0 (A (I 5 0 18).toNat 0 w (by omega) mh_fm_r (fun y hy => absurd hy (by omega)))
