-- THE RELATION of class and reference: I, L the store that holds the class's cells, J that of the reference's
theorem am_up_t {α : Type} {f : Nat → Nat → Nat → α} {t j k t' : Nat} {v : α} (h : ¬ t' = t) : am_up f t j k v t' = f t' := by
  funext a b; unfold am_up; rw [if_neg (fun q => h q.1)]
theorem am_up_j {α : Type} {f : Nat → Nat → Nat → α} {t j k j' : Nat} {v : α} (h : ¬ j' = j) : am_up f t j k v t j' = f t j' := by
  funext b; unfold am_up; rw [if_neg (fun q => h q.2.1)]
theorem am_up_k {α : Type} {f : Nat → Nat → Nat → α} {t j k k' : Nat} {v : α} (h : ¬ k' = k) : am_up f t j k v t j k' = f t j k' := by
  unfold am_up; rw [if_neg (fun q => h q.2.2)]
theorem am_up_s {α : Type} {f : Nat → Nat → Nat → α} {t j k : Nat} {v : α} : am_up f t j k v t j k = v := by
  unfold am_up; rw [if_pos ⟨rfl, rfl, rfl⟩]
theorem am_up_a {α : Type} {f : Nat → Nat → Nat → α} {t j k k' : Nat} {v : α} : am_up f t j k v t j k' = if k' = k then v else f t j k' := by
  unfold am_up; simp only [true_and]
theorem am_up_i {α : Type} {f : Nat → Nat → Nat → α} {t j k : Nat} : am_up f t j k (f t j k) = f := by
  funext a b c
  unfold am_up
  by_cases h : a = t ∧ b = j ∧ c = k
  · rw [if_pos h, h.1, h.2.1, h.2.2]
  · rw [if_neg h]
def mh_cn (f : Nat → Int) : Nat → Int
  | 0 => 0
  | n + 1 => mh_cn f n + (if f n = -1 then 1 else 0)
theorem mh_cnb (f : Nat → Int) : ∀ n : Nat, 0 ≤ mh_cn f n ∧ mh_cn f n ≤ n
  | 0 => ⟨Int.le_refl _, Int.le_refl _⟩
  | n + 1 => by
    have := mh_cnb f n
    show 0 ≤ mh_cn f n + (if f n = -1 then 1 else 0) ∧ mh_cn f n + (if f n = -1 then 1 else 0) ≤ ((n + 1 : Nat) : Int)
    split <;> omega
theorem mh_cnc {f g : Nat → Int} : ∀ {n : Nat}, (∀ k, k < n → f k = g k) → mh_cn f n = mh_cn g n
  | 0, _ => rfl
  | n + 1, h => by
    show mh_cn f n + (if f n = -1 then 1 else 0) = mh_cn g n + (if g n = -1 then 1 else 0)
    rw [mh_cnc (fun k q => h k (by omega)), h n (by omega)]
theorem mh_cnm (f : Nat → Int) {a : Nat} : ∀ {b : Nat}, a ≤ b → mh_cn f a ≤ mh_cn f b
  | 0, h => by rw [show a = 0 by omega]; exact Int.le_refl _
  | b + 1, h => by
    by_cases c : a = b + 1
    · rw [c]; exact Int.le_refl _
    · have := mh_cnm f (a := a) (b := b) (by omega)
      show _ ≤ mh_cn f b + (if f b = -1 then 1 else 0)
      split <;> omega
/-- tasks that stand while the row is gone through: p are kept, those from q to n come -/
def mh_lv (p q n k : Nat) : Prop := k < p ∨ (q ≤ k ∧ k < n)
def mh_Wi (I : Nat → Nat → Nat → Int) (p q n : Nat) (lo : Nat → Int) : Prop :=
  (0 ≤ I 7 0 8 ∧ I 7 0 8 + I 7 0 11 ≤ 40 ∧ 0 ≤ I 7 0 11) ∧ (0 ≤ I 7 0 10 ∧ I 7 0 10 ≤ 4) ∧ (p ≤ q ∧ q ≤ n ∧ n ≤ 20) ∧
  I 7 0 11 = mh_cn (I 54 0) p + (mh_cn (I 54 0) n - mh_cn (I 54 0) q) ∧
  (∀ k, 0 ≤ I 53 0 k ∧ I 53 0 k ≤ 999) ∧ (∀ k, 0 ≤ I 50 0 k ∧ I 50 0 k ≤ 4) ∧ (∀ k, 0 ≤ I 51 0 k ∧ I 51 0 k ≤ 4) ∧
  (∀ k, mh_lv p q n k → (I 54 0 k = -1 ∨ (0 ≤ I 54 0 k ∧ I 54 0 k < I 7 0 8)) ∧ (lo k ≤ I 57 0 k ∧ I 57 0 k ≤ 3) ∧ (0 ≤ I 55 0 k ∧ I 55 0 k ≤ 4) ∧ (0 ≤ I 56 0 k ∧ I 56 0 k ≤ 4)) ∧
  (∀ k l, mh_lv p q n k → mh_lv p q n l → I 54 0 k = I 54 0 l → I 54 0 k = -1 ∨ k = l) ∧
  (∀ j : Nat, (I 52 0 j = 0 ∨ I 52 0 j = 1) ∧ (I 52 0 j = 1 ↔ ∃ k, mh_lv p q n k ∧ I 54 0 k = (j : Int)))
/-- the wardrobes agree -/
def mh_We (I J : Nat → Nat → Nat → Int) : Prop :=
  (J 9 0 75 = I 7 0 8 ∧ J 9 0 81 = I 7 0 9 ∧ J 9 0 76 = I 7 0 10) ∧
  (∀ k, J 126 0 k = I 50 0 k) ∧ (∀ k, J 127 0 k = I 51 0 k) ∧ (∀ k, J 128 0 k = I 53 0 k) ∧
  (∀ k, J 129 0 k = I 54 0 k) ∧ (∀ k, J 130 0 k = I 55 0 k) ∧ (∀ k, J 131 0 k = I 56 0 k) ∧ (∀ k, J 132 0 k = I 57 0 k)
def mh_Wr (I : Nat → Nat → Nat → Int) : Prop := (0 ≤ I 7 0 9 ∧ I 7 0 9 ≤ 20) ∧ mh_Wi I 0 0 (I 7 0 9).toNat (fun _ => 1)
def mh_RN (I J : Nat → Nat → Nat → Int) : Prop := J 9 0 33 = I 1 0 12 ∧ 0 ≤ I 1 0 12 ∧ I 1 0 12 ≤ 73047
/-- the text -/
def mh_RT (I J : Nat → Nat → Nat → Int) : Prop :=
  (J 9 0 1 = I 2 0 3 ∧ 0 ≤ I 2 0 3 ∧ I 2 0 3 ≤ 3000) ∧ (J 9 0 2 = I 2 0 4 ∧ J 9 0 3 = I 2 0 5 ∧ J 9 0 4 = I 2 0 6) ∧
  ∀ k, (0 ≤ I 24 0 k ∧ I 24 0 k < 256) ∧ J 66 0 k = (if I 24 0 k < 128 then I 24 0 k else I 24 0 k - 256)
/-- law l of the class is law m of the reference -/
def mh_La (I J : Nat → Nat → Nat → Int) (l m : Nat) : Prop :=
  (J 68 0 m = I 10 l 10 ∧ 0 ≤ I 10 l 10 ∧ I 10 l 10 ≤ 30) ∧
  (∀ r : Nat, (r : Int) < I 10 l 10 →
    (J 71 m r = I 144 l r ∧ 1 ≤ I 144 l r ∧ I 144 l r ≤ 4) ∧
    (∀ i : Nat, (i : Int) < I 144 l r → J 78 (30 * m + r) i = I 145 l (r * 4 + i) ∧ 0 ≤ I 145 l (r * 4 + i) ∧ I 145 l (r * 4 + i) ≤ 11) ∧
    (J 73 m r = I 146 l r ∧ 1 ≤ I 146 l r ∧ I 146 l r ≤ 4) ∧
    (∀ i : Nat, (i : Int) < I 146 l r → (J 81 (30 * m + r) (3 * i) = I 147 l (r * 4 + i) ∧ 1 ≤ I 147 l (r * 4 + i) ∧ I 147 l (r * 4 + i) ≤ 4) ∧ (J 81 (30 * m + r) (3 * i + 1) = I 148 l (r * 4 + i) ∧ 1 ≤ I 148 l (r * 4 + i) ∧ I 148 l (r * 4 + i) ≤ 999) ∧ (J 81 (30 * m + r) (3 * i + 2) + 17 = I 149 l (r * 4 + i) ∧ 17 ≤ I 149 l (r * 4 + i) ∧ I 149 l (r * 4 + i) ≤ 20)) ∧
    (J 75 m r = I 150 l r ∧ 0 ≤ I 150 l r ∧ I 150 l r ≤ 15)) ∧
  ((J 69 0 m = I 10 l 11 ∧ 0 ≤ I 10 l 11 ∧ I 10 l 11 ≤ 8) ∧
    ∀ i : Nat, (i : Int) < I 10 l 11 → (J 85 m i = I 151 l i ∧ 0 ≤ I 151 l i ∧ I 151 l i ≤ 1300) ∧ (J 87 m i = I 152 l i ∧ 0 ≤ I 152 l i ∧ I 152 l i ≤ 4)) ∧
  (∀ i : Nat, i < 4 → J 83 m i = I 153 l i ∧ 0 ≤ I 153 l i ∧ I 153 l i ≤ 4) ∧
  (J 88 0 m = I 10 l 12 ∧ 0 ≤ I 10 l 12 ∧ I 10 l 12 ≤ 400) ∧ (0 < I 10 l 12 → J 89 0 m = I 10 l 13) ∧ (0 ≤ I 10 l 13 ∧ I 10 l 13 ≤ 4) ∧
  (J 90 0 m = I 10 l 14 ∧ 0 ≤ I 10 l 14 ∧ I 10 l 14 ≤ 30) ∧ (0 < I 10 l 14 → J 91 0 m = I 10 l 15) ∧ (0 ≤ I 10 l 15 ∧ I 10 l 15 ≤ 4) ∧
  ((J 92 0 m = I 10 l 16 ∨ (J 92 0 m = -1 ∧ I 10 l 16 = 0)) ∧ 0 ≤ I 10 l 16 ∧ I 10 l 16 ≤ 4)
def mh_RL (I J : Nat → Nat → Nat → Int) : Prop :=
  (J 9 0 21 = I 4 0 5 ∧ 0 ≤ I 4 0 5 ∧ I 4 0 5 ≤ 6) ∧
  ∀ l : Nat, (l : Int) < I 4 0 5 → mh_La I J l l ∧ J 67 0 l = I 10 l 17 ∧ 0 ≤ I 10 l 17 ∧ I 10 l 17 ≤ I 1 0 12
def mh_bt (x : Int64) (j : Nat) : Prop := x.toBitVec.getLsbD j = true
/-- the people -/
def mh_RK (I : Nat → Nat → Nat → Int) (L : Nat → Nat → Nat → Int64) (J : Nat → Nat → Nat → Int) : Prop :=
  (J 9 0 42 = I 5 0 18 ∧ 0 ≤ I 5 0 18 ∧ I 5 0 18 ≤ 40) ∧ (J 9 0 47 = I 5 0 19 ∧ 0 ≤ I 5 0 19 ∧ I 5 0 19 ≤ 40) ∧
  (∀ p : Nat, (p : Int) < I 5 0 18 → (J 96 0 p = I 33 0 p ∧ (I 33 0 p = 0 ∨ I 33 0 p = 1)) ∧ (J 97 0 p = I 34 0 p ∧ 0 ≤ I 34 0 p ∧ I 34 0 p ≤ 4) ∧
    (J 98 0 p = I 35 0 p ∧ -1 ≤ I 35 0 p ∧ I 35 0 p < p) ∧ (J 99 0 p = I 36 0 p ∧ -1 ≤ I 36 0 p ∧ I 36 0 p < p) ∧
    ((I 35 0 p = -1 ∨ I 33 0 (I 35 0 p).toNat = 1) ∧ (I 36 0 p = -1 ∨ I 33 0 (I 36 0 p).toNat = 0)) ∧ (J 100 0 p = I 37 0 p ∧ -36524 ≤ I 37 0 p ∧ I 37 0 p ≤ I 1 0 12) ∧ (J 101 0 p = I 38 0 p ∧ 0 ≤ I 38 0 p ∧ I 38 0 p ≤ I 1 0 12) ∧
    ((J 102 0 p = -2147483648 ∧ I 40 0 p = 2147483647) ∨
      ((J 102 0 p = I 39 0 p ∧ I 37 0 p ≤ I 39 0 p ∧ I 39 0 p ≤ I 1 0 12) ∧ J 103 0 p = I 40 0 p ∧ 0 ≤ I 40 0 p ∧ I 40 0 p ≤ I 1 0 12))) ∧
  ((∀ p j : Nat, mh_bt (L 42 0 p) j ↔ (j : Int) < I 5 0 18 ∧ (I 35 0 j = (p : Int) ∨ I 36 0 j = (p : Int))) ∧
   (∀ p j : Nat, mh_bt (L 41 0 p) j ↔ (p : Int) < I 5 0 18 ∧ (I 35 0 p = (j : Int) ∨ I 36 0 p = (j : Int))) ∧
   (∀ p j : Nat, mh_bt (L 43 0 p) j ↔ ((p : Int) < I 5 0 18 ∧ (j : Int) < I 5 0 18) ∧ ¬ p = j ∧ ((¬ I 35 0 p = -1 ∧ I 35 0 p = I 35 0 j) ∨ (¬ I 36 0 p = -1 ∧ I 36 0 p = I 36 0 j))) ∧
   (∀ j : Nat, mh_bt (L 5 0 16) j ↔ (j : Int) < I 5 0 18 ∧ I 33 0 j = 1)) ∧
  (∀ k : Nat, (k : Int) < I 5 0 19 → ((0 ≤ I 44 0 k ∧ I 44 0 k < I 5 0 18) ∧ 0 ≤ I 45 0 k ∧ I 45 0 k < I 5 0 18) ∧
    ((J 104 0 k = I 44 0 k ∧ J 105 0 k = I 45 0 k) ∨ (J 104 0 k = I 45 0 k ∧ J 105 0 k = I 44 0 k)) ∧
    (J 106 0 k = I 46 0 k ∧ -36524 ≤ I 46 0 k ∧ I 46 0 k ≤ I 1 0 12) ∧ (J 107 0 k = I 47 0 k ∧ 0 ≤ I 47 0 k ∧ I 47 0 k ≤ I 1 0 12))
/-- the court's orders -/
def mh_RO (I J : Nat → Nat → Nat → Int) : Prop :=
  (J 9 0 52 = I 4 0 6 ∧ 0 ≤ I 4 0 6 ∧ I 4 0 6 ≤ 10) ∧
  ∀ k : Nat, (k : Int) < I 4 0 6 → (J 108 0 k = I 29 0 k ∧ -36524 ≤ I 29 0 k ∧ I 29 0 k ≤ 73047) ∧ (J 109 0 k = I 30 0 k ∧ 1 ≤ I 30 0 k ∧ I 30 0 k ≤ 400) ∧ (J 110 0 k = I 31 0 k ∧ 1 ≤ I 31 0 k ∧ I 31 0 k ≤ 4) ∧ J 111 0 k = I 32 0 k
/-- the deeds -/
def mh_RD (I J : Nat → Nat → Nat → Int) : Prop :=
  (J 9 0 70 = I 1 0 11 ∧ 0 ≤ I 1 0 11 ∧ I 1 0 11 ≤ 100) ∧
  ∀ k : Nat, (k : Int) < I 1 0 11 → (J 122 0 k = I 20 0 k ∧ 0 ≤ I 20 0 k ∧ I 20 0 k < I 5 0 18) ∧ (J 123 0 k = I 21 0 k ∧ 0 ≤ I 21 0 k ∧ I 21 0 k ≤ 3) ∧ (J 124 0 k = I 22 0 k ∧ 0 ≤ I 22 0 k ∧ I 22 0 k ≤ I 1 0 12)
/-- the page -/
def mh_RP (I J : Nat → Nat → Nat → Int) : Prop :=
  (J 9 0 99 = I 3 0 1 ∧ 0 ≤ I 3 0 1 ∧ I 3 0 1 ≤ 256) ∧ ∀ k : Nat, (k : Int) < I 3 0 1 → J 143 0 k = I 27 0 k
def mh_E (a b : am_W) : Prop :=
  (mh_Wr a.1 ∧ mh_We a.1 b.1) ∧ mh_RN a.1 b.1 ∧ mh_RT a.1 b.1 ∧ mh_RL a.1 b.1 ∧ mh_RK a.1 a.2.1 b.1 ∧ mh_RO a.1 b.1 ∧ mh_RD a.1 b.1 ∧ mh_RP a.1 b.1
