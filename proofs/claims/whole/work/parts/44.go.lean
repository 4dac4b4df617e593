-- go: the days of the wardrobe
variable {SC : Nat → Nat} {X : mh_X}
theorem mh_cnd {f g : Nat → Int} {q n : Nat} (h : q ≤ n) (e : ∀ k, q ≤ k → k < n → f k = g k) : mh_cn f n - mh_cn f q = mh_cn g n - mh_cn g q := by
  induction n with
  | zero => rw [show q = 0 by omega]; omega
  | succ n ih =>
    by_cases c : q = n + 1
    · rw [c]; omega
    · have := ih (by omega) (fun k a b => e k a (by omega))
      have z := e n (by omega) (by omega)
      show mh_cn f n + (if f n = -1 then 1 else 0) - mh_cn f q = mh_cn g n + (if g n = -1 then 1 else 0) - mh_cn g q
      rw [z]; omega
theorem mh_cn1 (f : Nat → Int) (n : Nat) : mh_cn f (n + 1) = mh_cn f n + (if f n = -1 then 1 else 0) := rfl
def mh_lo (p k : Nat) : Int := if k < p then 1 else 0
theorem mh_Wi_keep {I : Nat → Nat → Nat → Int} {p q n : Nat} (h : mh_Wi I p q n (mh_lo p)) (hq : q < n) (h1 : 1 ≤ I 57 0 q) :
    mh_Wi (am_up (am_up (am_up (am_up I 54 0 p (I 54 0 q)) 55 0 p (I 55 0 q)) 56 0 p (I 56 0 q)) 57 0 p (I 57 0 q)) (p + 1) (q + 1) n (mh_lo (p + 1)) := by
  obtain ⟨i1, i2, i3, i4, i5, i6, i7, i8, i9, i10⟩ := h
  unfold mh_Wi
  simp (disch := decide) only [am_up_t, am_up_k, am_up_s]
  simp (disch := decide) only [am_up_t, am_up_a]
  have l1 : ∀ k, mh_lv (p + 1) (q + 1) n k → ¬ k = p → mh_lv p q n k := by unfold mh_lv; omega
  have l2 : mh_lv p q n q := by unfold mh_lv; omega
  have l3 : ∀ k, mh_lv (p + 1) (q + 1) n k → ¬ k = q ∨ k = p := by unfold mh_lv; omega
  refine ⟨i1, i2, by omega, ?_, i5, i6, i7, fun k hk => ?_, fun k l hk hl => ?_, fun j => ?_⟩
  · rw [i4, mh_cnd (f := am_up I 54 0 p (I 54 0 q) 54 0) (g := I 54 0) (by omega) (fun k a b => by rw [am_up_a, if_neg (by omega)]), mh_cn1 _ p, mh_cn1 (I 54 0) q, am_up_s, mh_cnc (f := am_up I 54 0 p (I 54 0 q) 54 0) (g := I 54 0) (fun k a => by rw [am_up_a, if_neg (by omega)])]
    omega
  · by_cases c : k = p
    · have := i8 q l2
      simp only [if_pos c]
      unfold mh_lo
      rw [if_pos (by omega)]
      omega
    · have := i8 k (l1 k hk c)
      simp only [if_neg c]
      unfold mh_lo at this ⊢
      refine ⟨this.1, ⟨?_, this.2.1.2⟩, this.2.2⟩
      have := this.2.1.1
      split at this <;> split <;> omega
  · by_cases c : k = p
    · by_cases c2 : l = p
      · intro _; exact Or.inr (by omega)
      · simp only [if_pos c, if_neg c2]
        intro z
        rcases i9 q l l2 (l1 l hl c2) z with y | y
        · exact Or.inl y
        · rcases l3 l hl with y2 | y2 <;> omega
    · by_cases c2 : l = p
      · simp only [if_neg c, if_pos c2]
        intro z
        rcases i9 k q (l1 k hk c) l2 z with y | y
        · exact Or.inl y
        · rcases l3 k hk with y2 | y2 <;> omega
      · simp only [if_neg c, if_neg c2]
        exact i9 k l (l1 k hk c) (l1 l hl c2)
  · obtain ⟨j1, j2⟩ := i10 j
    refine ⟨j1, j2.trans ⟨?_, ?_⟩⟩
    · rintro ⟨k, hk, z⟩
      by_cases c : k = q
      · exact ⟨p, by unfold mh_lv; omega, by rw [if_pos rfl, ← c]; exact z⟩
      · refine ⟨k, by revert hk; unfold mh_lv; omega, ?_⟩
        by_cases c2 : k = p
        · revert hk; unfold mh_lv; omega
        · rw [if_neg c2]; exact z
    · rintro ⟨k, hk, z⟩
      by_cases c : k = p
      · rw [if_pos c] at z; exact ⟨q, l2, z⟩
      · rw [if_neg c] at z; exact ⟨k, l1 k hk c, z⟩
theorem mh_Wi_made {I : Nat → Nat → Nat → Int} {p q n : Nat} (h : mh_Wi I p q n (mh_lo p)) (hq : q < n) (h1 : I 54 0 q = -1) :
    I 7 0 8 < 40 ∧ mh_Wi (am_up (am_up (am_up (am_up (am_up I 7 0 11 (I 7 0 11 - 1)) 50 0 (I 7 0 8).toNat (I 55 0 q)) 51 0 (I 7 0 8).toNat (I 56 0 q)) 52 0 (I 7 0 8).toNat 0) 7 0 8 (I 7 0 8 + 1)) p (q + 1) n (mh_lo p) := by
  obtain ⟨i1, i2, i3, i4, i5, i6, i7, i8, i9, i10⟩ := h
  have l1 : ∀ k, mh_lv p (q + 1) n k → mh_lv p q n k := by unfold mh_lv; omega
  have l2 : mh_lv p q n q := by unfold mh_lv; omega
  have c1 := mh_cn1 (I 54 0) q
  rw [if_pos h1] at c1
  have c2 := mh_cnm (I 54 0) (a := q + 1) (b := n) (by omega)
  have c3 := mh_cnb (I 54 0) p
  refine ⟨by omega, ?_⟩
  unfold mh_Wi
  simp (disch := decide) only [am_up_t, am_up_k, am_up_s]
  simp (disch := decide) only [am_up_t, am_up_a]
  refine ⟨by omega, i2, by omega, by omega, i5, fun k => ?_, fun k => ?_, fun k hk => ?_, fun k l hk hl => i9 k l (l1 k hk) (l1 l hl), fun j => ?_⟩
  · have := i6 k
    have := i8 q l2
    split <;> omega
  · have := i7 k
    have := i8 q l2
    split <;> omega
  · have := i8 k (l1 k hk)
    exact ⟨by omega, this.2.1, this.2.2⟩
  · obtain ⟨j1, j2⟩ := i10 j
    by_cases c : j = (I 7 0 8).toNat
    · rw [if_pos c]
      refine ⟨Or.inl rfl, fun z => absurd z (by decide), ?_⟩
      rintro ⟨k, hk, z⟩
      have := (i8 k (l1 k hk)).1
      omega
    · rw [if_neg c]
      refine ⟨j1, j2.trans ⟨?_, ?_⟩⟩
      · rintro ⟨k, hk, z⟩
        refine ⟨k, ?_, z⟩
        by_cases c4 : k = q
        · rw [c4, h1] at z; omega
        · revert hk; unfold mh_lv; omega
      · rintro ⟨k, hk, z⟩
        exact ⟨k, l1 k hk, z⟩
theorem mh_Wi_dyed {I : Nat → Nat → Nat → Int} {p q n : Nat} (h : mh_Wi I p q n (mh_lo p)) (hq : q < n) (h1 : ¬ I 54 0 q = -1) :
    (0 ≤ I 54 0 q ∧ I 54 0 q < I 7 0 8) ∧ mh_Wi (am_up (am_up I 51 0 (I 54 0 q).toNat (I 56 0 q)) 52 0 (I 54 0 q).toNat 0) p (q + 1) n (mh_lo p) := by
  obtain ⟨i1, i2, i3, i4, i5, i6, i7, i8, i9, i10⟩ := h
  have l1 : ∀ k, mh_lv p (q + 1) n k → mh_lv p q n k := by unfold mh_lv; omega
  have l2 : mh_lv p q n q := by unfold mh_lv; omega
  have l3 : ∀ k, mh_lv p (q + 1) n k → ¬ k = q := by unfold mh_lv; omega
  have q8 := i8 q l2
  have c1 := mh_cn1 (I 54 0) q
  rw [if_neg h1] at c1
  refine ⟨by omega, ?_⟩
  unfold mh_Wi
  simp (disch := decide) only [am_up_t, am_up_k, am_up_s]
  simp (disch := decide) only [am_up_t, am_up_a]
  refine ⟨i1, i2, by omega, by omega, i5, i6, fun k => ?_, fun k hk => i8 k (l1 k hk), fun k l hk hl => i9 k l (l1 k hk) (l1 l hl), fun j => ?_⟩
  · have := i7 k
    split <;> omega
  · obtain ⟨j1, j2⟩ := i10 j
    by_cases c : j = (I 54 0 q).toNat
    · rw [if_pos c]
      refine ⟨Or.inl rfl, fun z => absurd z (by decide), ?_⟩
      rintro ⟨k, hk, z⟩
      rcases i9 k q (l1 k hk) l2 (by omega) with y | y
      · omega
      · exact absurd y (l3 k hk)
    · rw [if_neg c]
      refine ⟨j1, j2.trans ⟨?_, ?_⟩⟩
      · rintro ⟨k, hk, z⟩
        refine ⟨k, ?_, z⟩
        by_cases c4 : k = q
        · rw [c4] at z; omega
        · revert hk; unfold mh_lv; omega
      · rintro ⟨k, hk, z⟩
        exact ⟨k, l1 k hk, z⟩
