-- THE SEARCH: all plans in order, the first of the cheapest that are done in time
/-- the hands after the tasks of the first i -/
def pl_L (H : Int) (l : Nat → Int) (w : Nat → Int) : Nat → (Nat → Int)
  | 0 => l
  | i + 1 => if w i = 2 then pl_add H (pl_L H l w i) 2 else if w i = 3 then pl_add H (pl_L H l w i) 3 else pl_L H l w i
theorem pl_L1 {H : Int} {l w : Nat → Int} {i : Nat} : pl_L H l w (i + 1) = if w i = 2 then pl_add H (pl_L H l w i) 2 else if w i = 3 then pl_add H (pl_L H l w i) 3 else pl_L H l w i := rfl
theorem pl_L_c {H : Int} {l w w' : Nat → Int} : ∀ {i : Nat}, (∀ j, j < i → w j = w' j) → pl_L H l w i = pl_L H l w' i
  | 0, _ => rfl
  | i + 1, h => by rw [pl_L1, pl_L1, pl_L_c (fun j hj => h j (by omega)), h i (by omega)]
/-- the i-th one's task is done in time -/
def pl_ok (H D : Int) (l : Nat → Int) (w : Nat → Int) (i : Nat) : Prop := (w i = 2 → 0 < H ∧ pl_L H l w i (pl_f H (pl_L H l w i)) + 2 ≤ D) ∧ (w i = 3 → 0 < H ∧ pl_L H l w i (pl_f H (pl_L H l w i)) + 3 ≤ D)
def pl_fs (H D : Int) (l : Nat → Int) (w : Nat → Int) (n : Nat) : Prop := ∀ i, i < n → pl_ok H D l w i
theorem pl_ok_c {H D : Int} {l w w' : Nat → Int} {i : Nat} (h : ∀ j, j < i + 1 → w j = w' j) : pl_ok H D l w i ↔ pl_ok H D l w' i := by
  unfold pl_ok
  rw [pl_L_c (fun j hj => h j (by omega)), h i (by omega)]
theorem pl_fs_c {H D : Int} {l w w' : Nat → Int} {n : Nat} (h : ∀ j, j < n → w j = w' j) : pl_fs H D l w n ↔ pl_fs H D l w' n :=
  ⟨fun f i hi => (pl_ok_c (fun j hj => h j (by omega))).mp (f i hi), fun f i hi => (pl_ok_c (fun j hj => h j (by omega))).mpr (f i hi)⟩
def pl_cw (x : Int) : Int := if x = 4 then 100 else if x = 3 then 10 else if x = 2 then 1 else 0
theorem pl_cw_b (x : Int) : 0 ≤ pl_cw x ∧ pl_cw x ≤ 100 := by unfold pl_cw; split <;> (try split) <;> (try split) <;> omega
/-- what the first n cost -/
def pl_c (w : Nat → Int) : Nat → Int
  | 0 => 0
  | i + 1 => pl_c w i + pl_cw (w i)
theorem pl_c1 {w : Nat → Int} {i : Nat} : pl_c w (i + 1) = pl_c w i + pl_cw (w i) := rfl
theorem pl_c_c {w w' : Nat → Int} : ∀ {n : Nat}, (∀ j, j < n → w j = w' j) → pl_c w n = pl_c w' n
  | 0, _ => rfl
  | n + 1, h => by rw [pl_c1, pl_c1, pl_c_c (fun j hj => h j (by omega)), h n (by omega)]
theorem pl_c_b (w : Nat → Int) : ∀ n : Nat, 0 ≤ pl_c w n ∧ pl_c w n ≤ 100 * n
  | 0 => ⟨Int.le_refl _, Int.le_refl _⟩
  | n + 1 => by
    have := pl_c_b w n
    have := pl_cw_b (w n)
    rw [pl_c1]; omega
theorem pl_c_u {w : Nat → Int} {k : Nat} {v : Int} : pl_c (pl_u w k v) (k + 1) = pl_c w k + pl_cw v := by
  rw [pl_c1, pl_us, pl_c_c (fun j hj => pl_uo (by omega))]
abbrev pl_B : Type := Int × (Nat → Int) × (Nat → Int)
/-- hands, days, loads, needs, sizes, cloths, the least dress of a size and stuff that isn't taken -/
abbrev pl_X : Type := Int × Int × (Nat → Int) × (Nat → Int) × (Nat → Int) × (Nat → Int) × (Int → Int → (Nat → Bool) → Int)
abbrev pl_H (X : pl_X) : Int := X.1
abbrev pl_D (X : pl_X) : Int := X.2.1
abbrev pl_l (X : pl_X) : Nat → Int := X.2.2.1
abbrev pl_nd (X : pl_X) : Nat → Int := X.2.2.2.1
abbrev pl_sz (X : pl_X) : Nat → Int := X.2.2.2.2.1
abbrev pl_cl (X : pl_X) : Nat → Int := X.2.2.2.2.2.1
abbrev pl_lst (X : pl_X) : Int → Int → (Nat → Bool) → Int := X.2.2.2.2.2.2
/-- darker ones are dyed from: from the darkest -/
def pl_dy (g : Nat → pl_B → pl_B) : Nat → pl_B → pl_B
  | 0, b => b
  | m + 1, b => pl_dy g m (g m b)
def pl_tk (tk : Nat → Bool) (d : Int) : Nat → Bool := if d = -1 then tk else pl_u tk d.toNat true
/-- one way for the k-th, and then all of the rest -/
def pl_go (T : Nat → (Nat → Int) → (Nat → Int) → (Nat → Bool) → (Nat → Int) → pl_B → pl_B) (k : Nat) (w d : Nat → Int) (tk : Nat → Bool) (us : Nat → Int) (how dr : Int) (b : pl_B) : pl_B :=
  T (k + 1) (pl_u w k how) (pl_u d k dr) (pl_tk tk dr) us b
def pl_d1 (X : pl_X) (T : Nat → (Nat → Int) → (Nat → Int) → (Nat → Bool) → (Nat → Int) → pl_B → pl_B) (k : Nat) (w d : Nat → Int) (tk : Nat → Bool) (us : Nat → Int) (how : Int) (s : Int) (b : pl_B) : pl_B :=
  if pl_lst X (pl_sz X k) s tk = -1 then b else pl_go T k w d tk us how (pl_lst X (pl_sz X k) s tk) b
def pl_d3 (X : pl_X) (T : Nat → (Nat → Int) → (Nat → Int) → (Nat → Bool) → (Nat → Int) → pl_B → pl_B) (k : Nat) (w d : Nat → Int) (tk : Nat → Bool) (us : Nat → Int) (b : pl_B) : pl_B :=
  if us (pl_nd X k).toNat < pl_cl X (pl_nd X k).toNat then pl_go T k w d tk (pl_u us (pl_nd X k).toNat (us (pl_nd X k).toNat + 1)) 3 (-1) b else b
noncomputable def pl_T (X : pl_X) : Nat → Nat → (Nat → Int) → (Nat → Int) → (Nat → Bool) → (Nat → Int) → pl_B → pl_B
  | 0, k, w, d, _, _, b => @ite pl_B (pl_c w k < b.1 ∧ pl_fs (pl_H X) (pl_D X) (pl_l X) w k) (Classical.propDecidable _) (pl_c w k, w, d) b
  | n + 1, k, w, d, tk, us, b =>
    if pl_nd X k = 0 then pl_go (pl_T X n) k w d tk us 0 (-1) b
    else pl_go (pl_T X n) k w d tk us 4 (-1) (pl_d3 X (pl_T X n) k w d tk us (pl_dy (fun s => pl_d1 X (pl_T X n) k w d tk us 2 (s : Int)) (pl_nd X k).toNat (pl_d1 X (pl_T X n) k w d tk us 1 (pl_nd X k) b)))
theorem pl_T0 {X : pl_X} {k : Nat} {w d : Nat → Int} {tk : Nat → Bool} {us : Nat → Int} {b : pl_B} : pl_T X 0 k w d tk us b = @ite pl_B (pl_c w k < b.1 ∧ pl_fs (pl_H X) (pl_D X) (pl_l X) w k) (Classical.propDecidable _) (pl_c w k, w, d) b := rfl
theorem pl_T1 {X : pl_X} {n k : Nat} {w d : Nat → Int} {tk : Nat → Bool} {us : Nat → Int} {b : pl_B} : pl_T X (n + 1) k w d tk us b =
    if pl_nd X k = 0 then pl_go (pl_T X n) k w d tk us 0 (-1) b
    else pl_go (pl_T X n) k w d tk us 4 (-1) (pl_d3 X (pl_T X n) k w d tk us (pl_dy (fun s => pl_d1 X (pl_T X n) k w d tk us 2 (s : Int)) (pl_nd X k).toNat (pl_d1 X (pl_T X n) k w d tk us 1 (pl_nd X k) b))) := rfl
theorem pl_dy_id {g : Nat → pl_B → pl_B} {b : pl_B} (h : ∀ s, g s b = b) : ∀ m, pl_dy g m b = b
  | 0 => rfl
  | m + 1 => by show pl_dy g m (g m b) = b; rw [h, pl_dy_id h m]
/-- a search whose every step leaves b leaves b -/
theorem pl_T_id {X : pl_X} {n k : Nat} {w d : Nat → Int} {tk : Nat → Bool} {us : Nat → Int} {b : pl_B} (h : ∀ tk us how dr, pl_go (pl_T X n) k w d tk us how dr b = b) : pl_T X (n + 1) k w d tk us b = b := by
  have h1 : ∀ tk us how s, pl_d1 X (pl_T X n) k w d tk us how s b = b := fun tk us how s => by unfold pl_d1; split; rfl; exact h _ _ _ _
  have h3 : ∀ tk us, pl_d3 X (pl_T X n) k w d tk us b = b := fun tk us => by unfold pl_d3; split; exact h _ _ _ _; rfl
  rw [pl_T1]
  split
  · exact h _ _ _ _
  · rw [h1, pl_dy_id (fun s => h1 _ _ _ _), h3]
    exact h _ _ _ _
theorem pl_P1 {X : pl_X} : ∀ (n : Nat) {k : Nat} {w d : Nat → Int} {tk : Nat → Bool} {us : Nat → Int} {b : pl_B}, b.1 ≤ pl_c w k → pl_T X n k w d tk us b = b
  | 0, k, w, d, tk, us, b, h => by rw [pl_T0, if_neg (fun c => by omega)]
  | n + 1, k, w, d, tk, us, b, h => by
    refine pl_T_id (fun tk us how dr => pl_P1 n ?_)
    rw [pl_c_u]
    have := pl_cw_b how
    omega
theorem pl_P2 {X : pl_X} : ∀ (n : Nat) {k : Nat} {w d : Nat → Int} {tk : Nat → Bool} {us : Nat → Int} {b : pl_B}, ¬ pl_fs (pl_H X) (pl_D X) (pl_l X) w k → pl_T X n k w d tk us b = b
  | 0, k, w, d, tk, us, b, h => by rw [pl_T0, if_neg (fun c => h c.2)]
  | n + 1, k, w, d, tk, us, b, h => by
    refine pl_T_id (fun tk us how dr => pl_P2 n (fun f => h (fun i hi => ?_)))
    exact (pl_ok_c (fun j hj => pl_uo (by omega))).mp (f i (by omega))
/-- what is found costs no more than before, and no more than all bought -/
theorem pl_dy_le {g : Nat → pl_B → pl_B} (h : ∀ s b, (g s b).1 ≤ b.1) : ∀ m b, (pl_dy g m b).1 ≤ b.1
  | 0, b => Int.le_refl _
  | m + 1, b => by show (pl_dy g m (g m b)).1 ≤ b.1; have := pl_dy_le h m (g m b); have := h m b; omega
theorem pl_P3 {X : pl_X} : ∀ (n : Nat) {k : Nat} {w d : Nat → Int} {tk : Nat → Bool} {us : Nat → Int} {b : pl_B}, (pl_T X n k w d tk us b).1 ≤ b.1 ∧ (pl_fs (pl_H X) (pl_D X) (pl_l X) w k → (pl_T X n k w d tk us b).1 ≤ pl_c w k + 100 * n)
  | 0, k, w, d, tk, us, b => by
    rw [pl_T0]
    by_cases c : pl_c w k < b.1 ∧ pl_fs (pl_H X) (pl_D X) (pl_l X) w k
    · rw [if_pos c]; exact ⟨by show pl_c w k ≤ _; omega, fun _ => by show pl_c w k ≤ _; omega⟩
    · rw [if_neg c]; exact ⟨Int.le_refl _, fun f => by have : ¬ pl_c w k < b.1 := fun q => c ⟨q, f⟩; omega⟩
  | n + 1, k, w, d, tk, us, b => by
    have go : ∀ tk us how dr b, (pl_go (pl_T X n) k w d tk us how dr b).1 ≤ b.1 := fun tk us how dr b => (pl_P3 n).1
    have h1 : ∀ tk us how s b, (pl_d1 X (pl_T X n) k w d tk us how s b).1 ≤ b.1 := fun tk us how s b => by unfold pl_d1; split; exact Int.le_refl _; exact go _ _ _ _ _
    have h3 : ∀ tk us b, (pl_d3 X (pl_T X n) k w d tk us b).1 ≤ b.1 := fun tk us b => by unfold pl_d3; split; exact go _ _ _ _ _; exact Int.le_refl _
    have fin : ∀ tk us how dr b, ¬ how = 2 → ¬ how = 3 → pl_fs (pl_H X) (pl_D X) (pl_l X) w k → (pl_go (pl_T X n) k w d tk us how dr b).1 ≤ pl_c w k + 100 * ((n + 1 : Nat) : Int) := by
      intro tk us how dr b n2 n3 f
      have := (pl_P3 (X := X) n (k := k + 1) (w := pl_u w k how) (d := pl_u d k dr) (tk := pl_tk tk dr) (us := us) (b := b)).2 (fun i hi => ?_)
      · rw [pl_c_u] at this
        have q := pl_cw_b how
        unfold pl_go
        omega
      · by_cases e : i = k
        · unfold pl_ok
          rw [e, pl_us]
          exact ⟨fun q => absurd q n2, fun q => absurd q n3⟩
        · exact (pl_ok_c (fun j hj => pl_uo (by omega))).mpr (f i (by omega))
    rw [pl_T1]
    split
    · exact ⟨go _ _ _ _ _, fun f => fin _ _ _ _ _ (by decide) (by decide) f⟩
    · refine ⟨?_, fun f => fin _ _ _ _ _ (by decide) (by decide) f⟩
      refine Int.le_trans (go _ _ _ _ _) (Int.le_trans (h3 _ _ _) (Int.le_trans (pl_dy_le (fun s b => h1 _ _ _ _ _) _ _) (h1 _ _ _ _ _)))
