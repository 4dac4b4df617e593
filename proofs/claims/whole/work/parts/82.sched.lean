-- THE HANDS: tasks laid on hands one by one, against days gone through one by one
def pl_u {α : Type} (f : Nat → α) (k : Nat) (v : α) : Nat → α := fun j => if j = k then v else f j
theorem pl_us {α : Type} {f : Nat → α} {k : Nat} {v : α} : pl_u f k v k = v := by unfold pl_u; rw [if_pos rfl]
theorem pl_uo {α : Type} {f : Nat → α} {k j : Nat} {v : α} (h : ¬ j = k) : pl_u f k v j = f j := by unfold pl_u; rw [if_neg h]
/-- the first of the hands 0 .. n that is free first -/
def pl_fh (l : Nat → Int) : Nat → Nat
  | 0 => 0
  | n + 1 => if l (n + 1) < l (pl_fh l n) then n + 1 else pl_fh l n
theorem pl_fh1 {l : Nat → Int} {n : Nat} : pl_fh l (n + 1) = if l (n + 1) < l (pl_fh l n) then n + 1 else pl_fh l n := rfl
theorem pl_fh_b (l : Nat → Int) : ∀ n, pl_fh l n ≤ n ∧ ∀ h, h ≤ n → l (pl_fh l n) ≤ l h
  | 0 => ⟨Nat.le_refl _, fun h hh => by rw [show h = 0 by omega]; exact Int.le_refl _⟩
  | n + 1 => by
    obtain ⟨a, b⟩ := pl_fh_b l n
    rw [pl_fh1]
    split
    · rename_i c
      refine ⟨Nat.le_refl _, fun h hh => ?_⟩
      by_cases e : h = n + 1
      · rw [e]; exact Int.le_refl _
      · have := b h (by omega); omega
    · rename_i c
      refine ⟨by omega, fun h hh => ?_⟩
      by_cases e : h = n + 1
      · rw [e]; omega
      · exact b h (by omega)
def pl_f (H : Int) (l : Nat → Int) : Nat := pl_fh l (H.toNat - 1)
theorem pl_f_b {H : Int} (l : Nat → Int) (h : 0 < H) : pl_f H l < H.toNat ∧ ∀ j, j < H.toNat → l (pl_f H l) ≤ l j := by
  have := pl_fh_b l (H.toNat - 1)
  unfold pl_f
  exact ⟨by omega, fun j hj => this.2 j (by omega)⟩
/-- one task more -/
def pl_add (H : Int) (l : Nat → Int) (p : Int) : Nat → Int := if 0 < H then pl_u l (pl_f H l) (l (pl_f H l) + p) else l
def pl_F (H : Int) (p : Nat → Int) : Nat → (Nat → Int)
  | 0 => fun _ => 0
  | k + 1 => pl_add H (pl_F H p k) (p k)
theorem pl_F1 {H : Int} {p : Nat → Int} {k : Nat} : pl_F H p (k + 1) = pl_add H (pl_F H p k) (p k) := rfl
/-- when task k begins -/
def pl_S (H : Int) (p : Nat → Int) (k : Nat) : Int := pl_F H p k (pl_f H (pl_F H p k))
/-- what is left of task k after t days -/
def pl_r (H : Int) (p : Nat → Int) (t : Int) (k : Nat) : Int := if 0 < H then max 0 (min (p k) (pl_S H p k + p k - t)) else p k
/-- how many of the first n hands are busy on day t -/
def pl_b (l : Nat → Int) (t : Int) : Nat → Int
  | 0 => 0
  | n + 1 => pl_b l t n + if t < l n then 1 else 0
theorem pl_b1 {l : Nat → Int} {t : Int} {n : Nat} : pl_b l t (n + 1) = pl_b l t n + if t < l n then 1 else 0 := rfl
theorem pl_b_n {l : Nat → Int} {t : Int} : ∀ n : Nat, 0 ≤ pl_b l t n ∧ pl_b l t n ≤ n ∧ ((∀ h, h < n → t < l h) → pl_b l t n = n) ∧ (∀ h, h < n → l h ≤ t → pl_b l t n < n)
  | 0 => ⟨Int.le_refl _, Int.le_refl _, fun _ => rfl, fun h hh => absurd hh (Nat.not_lt_zero h)⟩
  | n + 1 => by
    obtain ⟨a, b, c, d⟩ := pl_b_n (l := l) (t := t) n
    rw [pl_b1]
    refine ⟨by split <;> omega, by split <;> omega, fun q => ?_, fun h hh q => ?_⟩
    · have := c (fun h hh => q h (by omega))
      rw [if_pos (q n (by omega))]; omega
    · by_cases e : h = n
      · rw [e] at q; rw [if_neg (by omega)]; omega
      · have := d h (by omega) q
        split <;> omega
theorem pl_b_u {l : Nat → Int} {t v : Int} {j : Nat} : ∀ n : Nat, pl_b (pl_u l j v) t n = pl_b l t n + if j < n then (if t < v then 1 else 0) - (if t < l j then 1 else 0) else 0
  | 0 => by show (0 : Int) = 0 + _; rw [if_neg (by omega)]; rfl
  | n + 1 => by
    rw [pl_b1, pl_b1, pl_b_u n]
    by_cases e : n = j
    · rw [e, pl_us, if_neg (show ¬ j < j by omega), if_pos (show j < j + 1 by omega)]; omega
    · rw [pl_uo e]
      by_cases c : j < n
      · rw [if_pos c, if_pos (show j < n + 1 by omega)]; omega
      · rw [if_neg c, if_neg (show ¬ j < n + 1 by omega)]; omega
/-- how many of the first k tasks are still to do after t days -/
def pl_n (H : Int) (p : Nat → Int) (t : Int) : Nat → Int
  | 0 => 0
  | k + 1 => pl_n H p t k + if pl_r H p t k = 0 then 0 else 1
theorem pl_n1 {H : Int} {p : Nat → Int} {t : Int} {k : Nat} : pl_n H p t (k + 1) = pl_n H p t k + if pl_r H p t k = 0 then 0 else 1 := rfl
theorem pl_nn {H : Int} {p : Nat → Int} {t : Int} : ∀ k, 0 ≤ pl_n H p t k
  | 0 => Int.le_refl _
  | k + 1 => by have := pl_nn (H := H) (p := p) (t := t) k; rw [pl_n1]; split <;> omega
theorem pl_nm {H : Int} {p : Nat → Int} {t : Int} {k : Nat} : ∀ j, pl_n H p t k ≤ pl_n H p t (k + j)
  | 0 => Int.le_refl _
  | j + 1 => by have := pl_nm (H := H) (p := p) (t := t) (k := k) j; rw [show k + (j + 1) = k + j + 1 by omega, pl_n1]; split <;> omega
theorem pl_nb {H : Int} {p : Nat → Int} {t : Int} (hH : 0 < H) (ht : 0 ≤ t) : ∀ k : Nat, (∀ i, i < k → 1 ≤ p i) → min (pl_n H p t k) H = pl_b (pl_F H p k) t H.toNat
  | 0, _ => by
    show min 0 H = pl_b (fun _ => 0) t H.toNat
    have : ∀ n, pl_b (fun _ => 0) t n = 0 := by
      intro n
      induction n with
      | zero => rfl
      | succ n ih => rw [pl_b1, ih, if_neg (by omega)]; rfl
    rw [this]; omega
  | k + 1, h => by
    have ih := pl_nb hH ht k (fun i hi => h i (by omega))
    obtain ⟨f1, f2⟩ := pl_f_b (pl_F H p k) hH
    obtain ⟨b1, b2, b3, b4⟩ := pl_b_n (l := pl_F H p k) (t := t) H.toNat
    have pk := h k (by omega)
    have re : pl_r H p t k = max 0 (min (p k) (pl_F H p k (pl_f H (pl_F H p k)) + p k - t)) := by unfold pl_r; rw [if_pos hH]; rfl
    have nn := pl_nn (H := H) (p := p) (t := t) k
    rw [pl_n1, pl_F1]
    unfold pl_add
    rw [if_pos hH, pl_b_u, if_pos f1]
    by_cases c : pl_F H p k (pl_f H (pl_F H p k)) ≤ t
    · have := b4 _ f1 c
      rw [if_neg (by omega : ¬ t < pl_F H p k (pl_f H (pl_F H p k)))]
      by_cases c2 : pl_F H p k (pl_f H (pl_F H p k)) + p k ≤ t
      · rw [if_pos (by omega), if_neg (by omega)]; omega
      · rw [if_neg (by omega), if_pos (by omega)]; omega
    · have := b3 (fun h hh => by have := f2 h hh; omega)
      rw [if_neg (by omega), if_pos (by omega), if_pos (by omega)]; omega
/-- task k is worked on when fewer than H before it are still to do -/
theorem pl_S_n {H : Int} {p : Nat → Int} {t : Int} (hH : 0 < H) (ht : 0 ≤ t) {k : Nat} (h : ∀ i, i < k → 1 ≤ p i) : pl_S H p k ≤ t ↔ pl_n H p t k < H := by
  have nb := pl_nb hH ht k h
  obtain ⟨f1, f2⟩ := pl_f_b (pl_F H p k) hH
  obtain ⟨b1, b2, b3, b4⟩ := pl_b_n (l := pl_F H p k) (t := t) H.toNat
  unfold pl_S
  constructor
  · intro c
    have := b4 _ f1 c
    omega
  · intro c
    by_cases q : pl_F H p k (pl_f H (pl_F H p k)) ≤ t
    · exact q
    · have := b3 (fun h hh => by have := f2 h hh; omega)
      omega
theorem pl_r_1 {H : Int} {p : Nat → Int} {t : Int} (hH : 0 < H) (ht : 0 ≤ t) {k : Nat} (h : ∀ i, i < k + 1 → 1 ≤ p i) :
    pl_r H p (t + 1) k = if pl_r H p t k = 0 then 0 else if pl_n H p t k < H then pl_r H p t k - 1 else pl_r H p t k := by
  have s := pl_S_n hH ht (k := k) (fun i hi => h i (by omega))
  have pk := h k (by omega)
  unfold pl_r
  rw [if_pos hH, if_pos hH]
  split
  · omega
  · split
    · have := s.mpr (by assumption); omega
    · have : ¬ pl_S H p k ≤ t := fun q => by have := s.mp q; omega
      omega
theorem pl_r_0 {H : Int} {p : Nat → Int} {k : Nat} (hp : 1 ≤ p k) (hF : ∀ j, 0 ≤ pl_F H p k j) : pl_r H p 0 k = p k := by
  unfold pl_r pl_S
  split
  · have := hF (pl_f H (pl_F H p k)); omega
  · rfl
theorem pl_F_0 {H : Int} {p : Nat → Int} : ∀ {k : Nat}, (∀ i, i < k → 1 ≤ p i) → ∀ j, 0 ≤ pl_F H p k j
  | 0, _, j => Int.le_refl _
  | k + 1, h, j => by
    have ih := pl_F_0 (H := H) (p := p) (k := k) (fun i hi => h i (by omega))
    rw [pl_F1]
    unfold pl_add
    split
    · by_cases e : j = pl_f H (pl_F H p k)
      · rw [e, pl_us]; have := ih (pl_f H (pl_F H p k)); have := h k (by omega); omega
      · rw [pl_uo e]; exact ih j
    · exact ih j
