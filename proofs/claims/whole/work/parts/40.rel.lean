-- frames, and the wardrobe's agreement: a has the class's part, b the reference's
def mh_fr (ts : List Nat) (a b : am_W) : Prop := (∀ t, t ∉ ts → b.1 t = a.1 t) ∧ (∀ t, t ∉ ts → b.2.1 t = a.2.1 t) ∧ b.2.2 = a.2.2
theorem mh_fr_r (ts : List Nat) (a : am_W) : mh_fr ts a a := ⟨fun _ _ => rfl, fun _ _ => rfl, rfl⟩
theorem mh_fr_t {ts : List Nat} {a b c : am_W} (h : mh_fr ts a b) (k : mh_fr ts b c) : mh_fr ts a c :=
  ⟨fun t q => (k.1 t q).trans (h.1 t q), fun t q => (k.2.1 t q).trans (h.2.1 t q), k.2.2.trans h.2.2⟩
theorem am_up_t {α : Type} {f : Nat → Nat → Nat → α} {t j k t' : Nat} {v : α} (h : ¬ t' = t) : am_up f t j k v t' = f t' := by
  funext a b; unfold am_up; rw [if_neg (fun q => h q.1)]
theorem am_up_j {α : Type} {f : Nat → Nat → Nat → α} {t j k j' : Nat} {v : α} (h : ¬ j' = j) : am_up f t j k v t j' = f t j' := by
  funext b; unfold am_up; rw [if_neg (fun q => h q.2.1)]
theorem am_up_k {α : Type} {f : Nat → Nat → Nat → α} {t j k k' : Nat} {v : α} (h : ¬ k' = k) : am_up f t j k v t j k' = f t j k' := by
  unfold am_up; rw [if_neg (fun q => h q.2.2)]
theorem am_up_s {α : Type} {f : Nat → Nat → Nat → α} {t j k : Nat} {v : α} : am_up f t j k v t j k = v := by
  unfold am_up; rw [if_pos ⟨rfl, rfl, rfl⟩]
theorem mh_fr_u {ts : List Nat} {a : am_W} {t j k : Nat} {v : Int} (h : t ∈ ts) : mh_fr ts a (am_up a.1 t j k v, a.2) :=
  ⟨fun t' q => am_up_t (fun e => q (e ▸ h)), fun _ _ => rfl, rfl⟩
theorem mh_fr_v {ts : List Nat} {a : am_W} {I : Nat → Nat → Nat → Int} {t j k : Nat} {v : Int} (h : t ∈ ts) (q : mh_fr ts a (I, a.2)) : mh_fr ts a (am_up I t j k v, a.2) :=
  ⟨fun t' p => (am_up_t (f := I) (j := j) (k := k) (v := v) (fun e : t' = t => p (e ▸ h))).trans (q.1 t' p), fun _ _ => rfl, rfl⟩
def mh_cn (f : Nat → Int) : Nat → Int
  | 0 => 0
  | n + 1 => mh_cn f n + (if f n = -1 then 1 else 0)
/-- what always holds of the wardrobe -/
def mh_Iw (I : Nat → Nat → Nat → Int) : Prop :=
  (0 ≤ I 7 0 8 ∧ I 7 0 8 + I 7 0 11 ≤ 40 ∧ 0 ≤ I 7 0 11) ∧ (0 ≤ I 7 0 9 ∧ I 7 0 9 ≤ 20) ∧ (0 ≤ I 7 0 10 ∧ I 7 0 10 ≤ 4) ∧ I 7 0 11 = mh_cn (I 54 0) (I 7 0 9).toNat ∧
  (∀ k, 0 ≤ I 53 0 k ∧ I 53 0 k ≤ 999) ∧ (∀ k, 0 ≤ I 50 0 k ∧ I 50 0 k ≤ 4) ∧ (∀ k, 0 ≤ I 51 0 k ∧ I 51 0 k ≤ 4) ∧
  (∀ k : Nat, (k : Int) < I 7 0 9 → (I 54 0 k = -1 ∨ (0 ≤ I 54 0 k ∧ I 54 0 k < I 7 0 8)) ∧ (1 ≤ I 57 0 k ∧ I 57 0 k ≤ 3) ∧ (0 ≤ I 55 0 k ∧ I 55 0 k ≤ 4) ∧ (0 ≤ I 56 0 k ∧ I 56 0 k ≤ 4)) ∧
  (∀ k l : Nat, (k : Int) < I 7 0 9 → (l : Int) < I 7 0 9 → I 54 0 k = I 54 0 l → I 54 0 k = -1 ∨ k = l) ∧
  (∀ j : Nat, (I 52 0 j = 0 ∨ I 52 0 j = 1) ∧ (I 52 0 j = 1 ↔ ∃ k : Nat, (k : Int) < I 7 0 9 ∧ I 54 0 k = j))
def mh_Ew (a b : am_W) : Prop :=
  (a.1 7 0 8 = b.1 9 0 75 ∧ a.1 7 0 9 = b.1 9 0 81 ∧ a.1 7 0 10 = b.1 9 0 76) ∧
  (a.1 50 0 = b.1 126 0 ∧ a.1 51 0 = b.1 127 0 ∧ a.1 53 0 = b.1 128 0 ∧ a.1 54 0 = b.1 129 0 ∧ a.1 55 0 = b.1 130 0 ∧ a.1 56 0 = b.1 131 0 ∧ a.1 57 0 = b.1 132 0)
/-- the call of the reference that answers v where the class went from a to a' -/
def mh_ac (X : mh_X) (SC : Nat → Nat) (d : Nat) (Y : am_Y) (as : List am_V) (ts : List Nat) (E : am_W → am_W → Prop) (v : Int) (a a' : am_W) : Prop :=
  ∀ (b : am_W), E a b → ∀ (d' kc ks : Nat) (Q : Option am_V → am_W → Prop), (∀ b', E a' b' → mh_fr ts b b' → Q (some (.inl v)) b') → am_M (mh_G X) SC (d' + d) kc ks Y as b Q
theorem qX_hands {SC : Nat → Nat} {X : mh_X} {d kc ks : Nat} {Q : Option am_V → am_W → Prop} {a : am_W} {x : Int} (hI : mh_Iw a.1)
    (h : ∀ v a', mh_Iw a'.1 → mh_fr [7] a a' → mh_ac X SC 2 mX12_hands [.inr (.inr (some (9, 0))), .inl x] [9] mh_Ew v a a' → Q (some (.inl v)) a') :
    am_M (mh_G X) SC (d + 1) kc ks mX11_hands [.inr (.inr (some (1, 0))), .inl x] a Q := by
  have no : ¬ (0 ≤ x ∧ x ≤ 4) → Q (some (.inl 0)) a := by
    intro c
    refine h 0 a hI (mh_fr_r _ _) ?_
    intro b e d' kc ks Q' k
    refine am_M_of (by decide) (Nat.le_of_ble_eq_true rfl) ?_
    exact bX12_hands_0 ⟨fun c2 => absurd c2 (by omega), fun _ => k b e (mh_fr_r _ _)⟩
  refine am_M_of (by decide) (Nat.le_of_ble_eq_true rfl) ?_
  refine bX11_hands_0 ⟨fun c => no (by omega), fun c => ⟨fun c2 => ?_, fun c2 => no (by omega)⟩⟩
  refine h 1 _ ?_ (mh_fr_u (by decide)) ?_
  · obtain ⟨i1, i2, i3, i4, i5, i6, i7, i8, i9, i10⟩ := hI
    have g : ∀ k, ¬ k = 10 → am_up a.1 7 0 10 x 7 0 k = a.1 7 0 k := fun k q => am_up_k q
    have g2 : ∀ t, ¬ t = 7 → am_up a.1 7 0 10 x t = a.1 t := fun t q => am_up_t q
    unfold mh_Iw
    show _ ∧ _
    simp only [g 8 (by decide), g 9 (by decide), g 11 (by decide), g2 50 (by decide), g2 51 (by decide), g2 52 (by decide), g2 53 (by decide), g2 54 (by decide), g2 55 (by decide), g2 56 (by decide), g2 57 (by decide), am_up_s]
    exact ⟨i1, i2, ⟨by omega, by omega⟩, i4, i5, i6, i7, i8, i9, i10⟩
  · intro b e d' kc ks Q' k
    refine am_M_of (by decide) (Nat.le_of_ble_eq_true rfl) ?_
    refine bX12_hands_0 ⟨fun _ => k _ ?_ (mh_fr_u (by decide)), fun c3 => absurd ⟨c, by omega⟩ c3⟩
    obtain ⟨⟨e1, e2, e3⟩, e4⟩ := e
    unfold mh_Ew
    show (am_up a.1 7 0 10 x 7 0 8 = am_up b.1 9 0 76 x 9 0 75 ∧ am_up a.1 7 0 10 x 7 0 9 = am_up b.1 9 0 76 x 9 0 81 ∧ am_up a.1 7 0 10 x 7 0 10 = am_up b.1 9 0 76 x 9 0 76) ∧ _
    refine ⟨⟨?_, ?_, ?_⟩, ?_⟩
    · rw [am_up_k (by decide), am_up_k (by decide)]; exact e1
    · rw [am_up_k (by decide), am_up_k (by decide)]; exact e2
    · rw [am_up_s, am_up_s]
    · have g2 : ∀ t, ¬ t = 7 → am_up a.1 7 0 10 x t = a.1 t := fun t q => am_up_t q
      have g3 : ∀ t, ¬ t = 9 → am_up b.1 9 0 76 x t = b.1 t := fun t q => am_up_t q
      simp only [g2 50 (by decide), g2 51 (by decide), g2 53 (by decide), g2 54 (by decide), g2 55 (by decide), g2 56 (by decide), g2 57 (by decide), g3 126 (by decide), g3 127 (by decide), g3 128 (by decide), g3 129 (by decide), g3 130 (by decide), g3 131 (by decide), g3 132 (by decide)]
      exact e4
