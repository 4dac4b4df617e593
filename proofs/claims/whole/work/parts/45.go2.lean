-- go: the loops
variable {SC : Nat → Nat} {X : mh_X}
theorem am_up_u {α : Type} {f : Nat → Nat → Nat → α} {t j k : Nat} {v v' : α} : am_up (am_up f t j k v) t j k v' = am_up f t j k v' := by
  funext a b c
  unfold am_up
  split
  · rfl
  · rfl
theorem mh_Wi_le {I : Nat → Nat → Nat → Int} {p q n : Nat} {lo lo' : Nat → Int} (h : mh_Wi I p q n lo) (g : ∀ k, mh_lv p q n k → lo' k ≤ I 57 0 k) : mh_Wi I p q n lo' := by
  obtain ⟨i1, i2, i3, i4, i5, i6, i7, i8, i9, i10⟩ := h
  exact ⟨i1, i2, i3, i4, i5, i6, i7, fun k hk => ⟨(i8 k hk).1, ⟨g k hk, (i8 k hk).2.1.2⟩, (i8 k hk).2.2⟩, i9, i10⟩
def mh_lp2 (k j : Nat) : Int := if j < k then 0 else 1
theorem mh_Wi_dec {I : Nat → Nat → Nat → Int} {k n : Nat} (h : mh_Wi I 0 0 n (mh_lp2 k)) (hk : k < n) : mh_Wi (am_up I 57 0 k (I 57 0 k - 1)) 0 0 n (mh_lp2 (k + 1)) := by
  obtain ⟨i1, i2, i3, i4, i5, i6, i7, i8, i9, i10⟩ := h
  unfold mh_Wi
  simp (disch := decide) only [am_up_t, am_up_k, am_up_s]
  simp (disch := decide) only [am_up_t, am_up_a]
  refine ⟨i1, i2, i3, i4, i5, i6, i7, fun j hj => ?_, i9, i10⟩
  have z := i8 j hj
  refine ⟨z.1, ?_, z.2.2⟩
  have z2 := z.2.1
  unfold mh_lp2 at z2 ⊢
  by_cases c : j = k
  · rw [if_pos c, ← c]
    rw [if_neg (by omega)] at z2
    rw [if_pos (by omega)]
    omega
  · rw [if_neg c]
    split at z2 <;> split <;> omega
theorem mh_We_a {I J : Nat → Nat → Nat → Int} (h : mh_We I J) (k : Nat) : J 129 0 k = I 54 0 k ∧ J 130 0 k = I 55 0 k ∧ J 131 0 k = I 56 0 k ∧ J 132 0 k = I 57 0 k := by
  obtain ⟨-, -, -, -, e7, e8, e9, e10⟩ := h
  exact ⟨e7 k, e8 k, e9 k, e10 k⟩
theorem qX_dec {d bc bs : Nat} {Q : Option am_V → am_W → Prop} {days i : Int} {N : Nat} : ∀ (n k : Nat) (a : am_W), a.1 7 0 9 = (N : Int) → n + k = min N (a.1 7 0 10).toNat → mh_Wi a.1 0 0 N (mh_lp2 k) →
    (∀ a' : am_W, a'.2 = a.2 → (∀ t, t ∉ [57] → a'.1 t = a.1 t) → mh_Wi a'.1 0 0 N (fun _ => 0) → (∀ (b : am_W) (d' bc' bs' : Nat) (Q' : Option am_V → am_W → Prop), mh_We a.1 b.1 → (∀ b' : am_W, mh_We a'.1 b'.1 → mh_fm [132] [] b b' → am_A (mh_G X) SC (d' + 2) mX12_works Q' 34 [(0, .inr (.inr (some (9, 0))))] [] b' bc' bs') → am_A (mh_G X) SC (d' + 2) mX12_works Q' 2 [(0, .inr (.inr (some (9, 0)))), (1, .inl (k : Int))] [] b bc' bs') → am_A (mh_G X) SC (d + 4) mX9_work Q 55 [(0, .inr (.inr (some (7, 0)))), (1, .inl days), (2, .inl i)] [] a' bc bs) →
    am_A (mh_G X) SC (d + 4) mX9_work Q 23 [(0, .inr (.inr (some (7, 0)))), (1, .inl days), (2, .inl i), (3, .inl (k : Int))] [] a bc bs
  | 0, k, a, hN, hn, hW, K => by
    have i2 := hW.2.1
    have i3 := hW.2.2.1
    have Z := K a rfl (fun _ _ => rfl) (mh_Wi_le hW (fun j hj => by
      have := (hW.2.2.2.2.2.2.2.1 j hj).2.1.1
      unfold mh_lp2 at this
      split at this <;> omega)) (fun b d' bc' bs' Q' e h => by
      obtain ⟨⟨e1, e2, e3⟩, -⟩ := id e
      refine bX12_works_2 ⟨fun _ => h b e mh_fm_r, fun c => ⟨fun _ => h b e mh_fm_r, fun c2 => absurd hn (by omega)⟩⟩)
    exact bX9_work_23 ⟨fun _ => Z, fun c => ⟨fun _ => Z, fun c2 => absurd hn (by omega)⟩⟩
  | n + 1, k, a, hN, hn, hW, K => by
    have i2 := hW.2.1
    have i3 := hW.2.2.1
    have i8 := (hW.2.2.2.2.2.2.2.1 k (mh_lvn.mpr (by omega))).2.1
    unfold mh_lp2 at i8
    rw [if_neg (by omega)] at i8
    refine bX9_work_23 ⟨fun c => absurd hn (by omega), fun c => ⟨fun c2 => absurd hn (by omega), fun c2 => ⟨by omega, by omega, ?_⟩⟩⟩
    simp only [Int.toNat_natCast]
    rw [am_w_id (z := a.1 57 0 k - 1) (by unfold am_rg; omega), am_w_id (z := (k : Int) + 1) (by unfold am_rg; omega)]
    refine qX_dec n (k + 1) _ ?_ ?_ (mh_Wi_dec hW (by omega)) ?_
    · simp (disch := decide) only [am_up_t]; exact hN
    · simp (disch := decide) only [am_up_t]; omega
    · intro a' h1 h2 h3 h4
      refine K a' h1 (fun t q => (h2 t q).trans (am_up_t (fun c => q (by rw [c]; decide)))) h3 ?_
      intro b d' bc' bs' Q' e h
      obtain ⟨⟨e1, e2, e3⟩, -⟩ := id e
      refine bX12_works_2 ⟨fun c => absurd hn (by omega), fun c => ⟨fun c2 => absurd hn (by omega), fun c2 => ⟨by omega, by omega, ?_⟩⟩⟩
      simp only [Int.toNat_natCast]
      rw [(mh_We_a e k).2.2.2, am_w_id (z := a.1 57 0 k - 1) (by unfold am_rg; omega), am_w_id (z := (k : Int) + 1) (by unfold am_rg; omega)]
      refine h4 _ d' bc' bs' Q' ?_ (fun b' g1 g2 => h b' g1 (mh_fm_t (mh_fm_v mh_fm_i (by decide) (by decide)) g2))
      obtain ⟨e1, e2, e3, e4, e5, e6, e7, e8⟩ := e
      unfold mh_We
      show _ ∧ _
      simp (disch := decide) only [am_up_t, am_up_k, am_up_s]
      simp (disch := decide) only [am_up_t, am_up_a]
      exact ⟨e1, e2, e3, e4, e5, e6, e7, fun j => by rw [e8 j]⟩
def mh_tw : List Nat := [7, 50, 51, 52, 53, 54, 55, 56, 57]
theorem qX_clr {d bc bs : Nat} {Q : Option am_V → am_W → Prop} {N : Nat} : ∀ (n p q : Nat) (a : am_W), n + q = N → a.1 7 0 9 = (N : Int) → mh_Wi a.1 p q N (mh_lo p) →
    (∀ a' : am_W, a'.2 = a.2 → (∀ t, t ∉ mh_tw → a'.1 t = a.1 t) → a'.1 7 0 10 = a.1 7 0 10 → mh_Wr a'.1 → (∀ (b : am_W) (d' bc' bs' : Nat) (Q' : Option am_V → am_W → Prop), mh_We a.1 b.1 → (∀ b' : am_W, mh_We a'.1 b'.1 → mh_fm [126, 127, 129, 130, 131, 132] [75, 81] b b' → Q' none b') → am_A (mh_G X) SC (d' + 2) mX12_works Q' 38 [(0, .inr (.inr (some (9, 0)))), (1, .inl (p : Int)), (2, .inl (q : Int))] [] b bc' bs') → Q none a') →
    am_A (mh_G X) SC (d + 3) mX9_clearDone Q 4 [(0, .inr (.inr (some (7, 0)))), (1, .inl (p : Int)), (2, .inl (q : Int))] [] a bc bs
  | 0, p, q, a, hq, hN, hW, K => by
    have i3 := hW.2.2.1
    refine bX9_clearDone_4 ⟨fun _ => ?_, fun c => absurd hN (by omega)⟩
    refine K _ rfl (fun t q => am_up_t (fun c => q (by rw [c]; decide))) (show am_up a.1 7 0 9 (p : Int) 7 0 10 = a.1 7 0 10 from am_up_k (by decide)) ?_ ?_
    · obtain ⟨i1, i2, i3, i4, i5, i6, i7, i8, i9, i10⟩ := hW
      have hl : ∀ k, mh_lv 0 0 p k ↔ mh_lv p q N k := by unfold mh_lv; omega
      unfold mh_Wr mh_Wi
      show _ ∧ _
      simp (disch := decide) only [am_up_t, am_up_k, am_up_s, Int.toNat_natCast, hl]
      refine ⟨by omega, i1, i2, by omega, ?_, i5, i6, i7, fun k hk => ?_, i9, i10⟩
      · rw [i4, show q = N by omega]
        show _ = (0 : Int) + (_ - 0)
        omega
      · have := i8 k hk
        have l := (hl k).mpr hk
        unfold mh_lo at this
        rw [if_pos (mh_lvn.mp l)] at this
        exact this
    · intro b d' bc' bs' Q' e h
      refine bX12_works_38 ⟨fun _ => h _ ?_ (mh_fm_f mh_fm_i (by decide)), fun c => absurd (show b.1 9 0 81 ≤ (q : Int) by have := e.1.2.1; omega) c⟩
      unfold mh_We
      show _ ∧ _
      simp (disch := decide) only [am_up_t, am_up_k, am_up_s]
      obtain ⟨⟨e1, e2, e3⟩, e4⟩ := e
      exact ⟨⟨e1, trivial, e3⟩, e4⟩
  | n + 1, p, q, a, hq, hN, hW, K => by
    have i3 := hW.2.2.1
    have lq : mh_lv p q N q := Or.inr ⟨Nat.le_refl _, by omega⟩
    have i8 := (hW.2.2.2.2.2.2.2.1 q lq).2.1
    unfold mh_lo at i8
    refine bX9_clearDone_4 ⟨fun c => absurd hN (by omega), fun c => ⟨by omega, by omega, fun c2 => ⟨by omega, by omega, ?_⟩, fun c2 => ?_⟩⟩
    · simp only [Int.toNat_natCast] at c2 ⊢
      rw [am_w_id (z := (p : Int) + 1) (by unfold am_rg; omega)]
      refine bX9_clearDone_80 ?_
      rw [am_w_id (z := (q : Int) + 1) (by unfold am_rg; omega)]
      refine qX_clr n (p + 1) (q + 1) _ (by omega) ?_ (mh_Wi_keep hW (by omega) (by omega)) ?_
      · simp (disch := decide) only [am_up_t]
        exact hN
      · intro a' h1 h2 h3 h4 h5
        refine K a' h1 (fun t r => (h2 t r).trans ?_) (h3.trans ?_) h4 ?_
        · show am_up _ _ _ _ _ t = _
          rw [am_up_t (fun c => r (by rw [c]; decide)), am_up_t (fun c => r (by rw [c]; decide)), am_up_t (fun c => r (by rw [c]; decide)), am_up_t (fun c => r (by rw [c]; decide))]
        · simp (disch := decide) only [am_up_t]
        · intro b d' bc' bs' Q' e h
          obtain ⟨e1, e2, e3, e4, e5, e6, e7, e8⟩ := id e
          refine bX12_works_38 ⟨fun c => absurd hN (by omega), fun c => ⟨by omega, by omega, fun _ => ⟨by omega, by omega, ?_⟩, fun c4 => absurd (e8 q) (by simp only [Int.toNat_natCast] at c4; omega)⟩⟩
          simp only [Int.toNat_natCast]
          rw [am_w_id (z := (p : Int) + 1) (by unfold am_rg; omega)]
          refine bX12_works_114 ?_
          rw [am_w_id (z := (q : Int) + 1) (by unfold am_rg; omega)]
          refine h5 _ d' bc' bs' Q' ?_ (fun b' g1 g2 => h b' g1 (mh_fm_t (mh_fm_v (mh_fm_v (mh_fm_v (mh_fm_v mh_fm_i (by decide) (by decide)) (by decide) (by decide)) (by decide) (by decide)) (by decide) (by decide)) g2))
          unfold mh_We
          show _ ∧ _
          simp (disch := decide) only [am_up_t, am_up_k, am_up_s]
          simp (disch := decide) only [am_up_t, am_up_a, e1, e2, e3, e4, e5, e6, e7, e8]
          exact ⟨⟨trivial, trivial, trivial⟩, fun _ => trivial, fun _ => trivial, fun _ => trivial, fun _ => trivial, fun _ => trivial, fun _ => trivial, fun _ => trivial⟩
    · simp only [Int.toNat_natCast] at c2
      have c3 : a.1 57 0 q = 0 := by split at i8 <;> omega
      refine am_M_of (by decide) (Nat.le_of_ble_eq_true rfl) ?_
      refine bX9_bring_0 ⟨by omega, by omega, fun c4 => ?_, fun c4 => ?_⟩
      · simp only [Int.toNat_natCast] at c4 ⊢
        have u : a.1 54 0 q = -1 := by
          have := (hW.2.2.2.2.2.2.2.1 q lq).1
          omega
        obtain ⟨m1, m2⟩ := mh_Wi_made hW (by omega) u
        have i1 := hW.1
        refine ⟨fun c5 => absurd m1 (by omega), fun _ => ?_⟩
        simp (disch := decide) only [am_up_k]
        rw [am_w_id (z := a.1 7 0 8 + 1) (by unfold am_rg; omega), am_w_id (z := a.1 7 0 11 - 1) (by
          have c1 := mh_cn1 (a.1 54 0) q
          rw [if_pos u] at c1
          have c2 := mh_cnm (a.1 54 0) (a := q + 1) (b := N) (by omega)
          have c3 := mh_cnb (a.1 54 0) p
          unfold am_rg; omega)]
        refine ⟨i1.1, m1, ?_⟩
        refine bX9_clearDone_26 (bX9_clearDone_80 ?_)
        rw [am_w_id (z := (q : Int) + 1) (by unfold am_rg; omega)]
        refine qX_clr n p (q + 1) _ (by omega) ?_ m2 ?_
        · simp (disch := decide) only [am_up_t, am_up_k]
          exact hN
        · intro a' h1 h2 h3 h4 h5
          refine K a' h1 (fun t r => (h2 t r).trans ?_) (h3.trans ?_) h4 ?_
          · show am_up _ _ _ _ _ t = _
            rw [am_up_t (fun c => r (by rw [c]; decide)), am_up_t (fun c => r (by rw [c]; decide)), am_up_t (fun c => r (by rw [c]; decide)), am_up_t (fun c => r (by rw [c]; decide)), am_up_t (fun c => r (by rw [c]; decide))]
          · simp (disch := decide) only [am_up_t, am_up_k]
          · intro b d' bc' bs' Q' e h
            obtain ⟨⟨e0, e1, e2⟩, e3, e4, e5, e6, e7, e8, e9⟩ := id e
            refine bX12_works_38 ⟨fun c => absurd hN (by omega), fun c => ⟨by omega, by omega, fun c4 => absurd (e9 q) (by simp only [Int.toNat_natCast] at c4; omega), fun _ => ?_⟩⟩
            refine am_M_of (by decide) (Nat.le_of_ble_eq_true rfl) ?_
            refine bX12_done_0 ⟨by omega, by omega, fun c4 => absurd (e6 q) (by simp only [Int.toNat_natCast] at c4; omega), fun _ => ?_⟩
            simp only [Int.toNat_natCast]
            rw [e0, am_w_id (z := a.1 7 0 8 + 1) (by unfold am_rg; omega)]
            refine ⟨by omega, by omega, ?_⟩
            refine bX12_works_60 (bX12_works_114 ?_)
            rw [am_w_id (z := (q : Int) + 1) (by unfold am_rg; omega)]
            refine h5 _ d' bc' bs' Q' ?_ (fun b' g1 g2 => h b' g1 (mh_fm_t (mh_fm_f (mh_fm_v (mh_fm_v mh_fm_i (by decide) (by decide)) (by decide) (by decide)) (by decide)) g2))
            unfold mh_We
            show _ ∧ _
            simp (disch := decide) only [am_up_t, am_up_k, am_up_s]
            simp (disch := decide) only [am_up_t, am_up_a, e1, e2, e3, e4, e5, e6, e7, e8, e9]
            exact ⟨⟨trivial, trivial, trivial⟩, fun _ => trivial, fun _ => trivial, fun _ => trivial, fun _ => trivial, fun _ => trivial, fun _ => trivial, fun _ => trivial⟩
      · simp only [Int.toNat_natCast] at c4 ⊢
        have u : ¬ a.1 54 0 q = -1 := by omega
        obtain ⟨m1, m2⟩ := mh_Wi_dyed hW (by omega) u
        have i1 := hW.1
        refine ⟨by omega, by omega, ?_⟩
        refine bX9_clearDone_26 (bX9_clearDone_80 ?_)
        rw [am_w_id (z := (q : Int) + 1) (by unfold am_rg; omega)]
        refine qX_clr n p (q + 1) _ (by omega) ?_ m2 ?_
        · simp (disch := decide) only [am_up_t, am_up_k]
          exact hN
        · intro a' h1 h2 h3 h4 h5
          refine K a' h1 (fun t r => (h2 t r).trans ?_) (h3.trans ?_) h4 ?_
          · show am_up _ _ _ _ _ t = _
            rw [am_up_t (fun c => r (by rw [c]; decide)), am_up_t (fun c => r (by rw [c]; decide))]
          · simp (disch := decide) only [am_up_t, am_up_k]
          · intro b d' bc' bs' Q' e h
            obtain ⟨⟨e0, e1, e2⟩, e3, e4, e5, e6, e7, e8, e9⟩ := id e
            refine bX12_works_38 ⟨fun c => absurd hN (by omega), fun c => ⟨by omega, by omega, fun c4 => absurd (e9 q) (by simp only [Int.toNat_natCast] at c4; omega), fun _ => ?_⟩⟩
            refine am_M_of (by decide) (Nat.le_of_ble_eq_true rfl) ?_
            refine bX12_done_0 ⟨by omega, by omega, fun _ => ?_, fun c4 => absurd (e6 q) (by simp only [Int.toNat_natCast] at c4; omega)⟩
            simp only [Int.toNat_natCast]
            rw [e6, e8]
            refine ⟨by omega, by omega, ?_⟩
            refine bX12_works_60 (bX12_works_114 ?_)
            rw [am_w_id (z := (q : Int) + 1) (by unfold am_rg; omega)]
            refine h5 _ d' bc' bs' Q' ?_ (fun b' g1 g2 => h b' g1 (mh_fm_t (mh_fm_v mh_fm_i (by decide) (by decide)) g2))
            unfold mh_We
            show _ ∧ _
            simp (disch := decide) only [am_up_t, am_up_k, am_up_s]
            simp (disch := decide) only [am_up_t, am_up_a, e0, e1, e2, e3, e4, e5, e6, e7, e8, e9]
            exact ⟨⟨trivial, trivial, trivial⟩, fun _ => trivial, fun _ => trivial, fun _ => trivial, fun _ => trivial, fun _ => trivial, fun _ => trivial, fun _ => trivial⟩
