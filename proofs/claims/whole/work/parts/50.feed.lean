-- feed
variable {SC : Nat → Nat} {X : mh_X}
theorem mh_E_byte {a b : am_W} {c v : Int} (e : mh_E a b) (h : a.1 2 0 3 < 3000) (hc : 0 ≤ c ∧ c < 256) (hv : v = if c < 128 then c else c - 256) :
    mh_E (am_up (am_up a.1 24 0 (a.1 2 0 3).toNat c) 2 0 3 (a.1 2 0 3 + 1), a.2) (am_up (am_up b.1 66 0 (a.1 2 0 3).toNat v) 9 0 1 (a.1 2 0 3 + 1), b.2) := by
  refine mh_E_T e (fun t q => by (show am_up _ _ _ _ _ t = _; rw [am_up_t (fun e => q (by rw [e]; decide)), am_up_t (fun e => q (by rw [e]; decide))])) (fun k hk => by repeat (first | (rw [am_up_n hk (by decide)]) | (simp (disch := decide) only [am_up_t]))) rfl (mh_fm_f (mh_fm_v mh_fm_i (by decide) (by decide)) (by decide)) ?_
  obtain ⟨-, -, ⟨e1, e2, e3⟩, -⟩ := e
  unfold mh_RT
  simp (disch := decide) only [am_up_t, am_up_k, am_up_s]
  simp (disch := decide) only [am_up_t, am_up_a]
  refine ⟨⟨trivial, by omega⟩, e2, fun k => ?_⟩
  have := e3 k
  by_cases q : k = (a.1 2 0 3).toNat
  · simp only [if_pos q]
    exact ⟨hc, hv⟩
  · simp only [if_neg q]
    exact this
theorem qX_app {d bc bs : Nat} {Q : Option am_V → am_W → Prop} {x : Int} : ∀ (m : Nat) (a : am_W), m ≤ 4 → a.1 2 0 3 + m ≤ 3000 → (∃ b0, mh_E a b0) →
    (∀ a' : am_W, (∀ t, t ∉ mh_tc → a'.1 t = a.1 t) → a'.1 2 0 3 = a.1 2 0 3 + m → (∃ b0, mh_E a' b0) →
      (∀ (b : am_W) (d' bc' bs' : Nat) (Q' : Option am_V → am_W → Prop), mh_E a b → (∀ b' : am_W, mh_E a' b' → (∀ t, t ∉ mh_tr → b'.1 t = b.1 t) → b'.2.1 = b.2.1 → Q' none b') → am_A (mh_G X) SC (d' + 1) mX12_feeds Q' 2 [(0, .inr (.inr (some (9, 0)))), (1, .inl x), (2, .inl ((m : Int) - 1))] [] b bc' bs') → Q none a') →
    am_A (mh_G X) SC (d + 1) mX8_append Q 3 [(0, .inr (.inr (some (2, 0)))), (1, .inl x), (2, .inl (8 * (m : Int) - 8))] [] a bc bs
  | 0, a, hm, hs, ⟨b0, E⟩, K => by
    refine bX8_append_3 ⟨fun _ => ?_, fun c => absurd c (by omega)⟩
    refine K a (fun _ _ => rfl) (by omega) ⟨b0, E⟩ (fun b d' bc' bs' Q' e h => ?_)
    exact bX12_feeds_2 ⟨fun _ => h b e (fun _ _ => rfl) rfl, fun c => absurd c (by omega)⟩
  | m + 1, a, hm, hs, ⟨b0, E⟩, K => by
    have t1 := E.2.2.1.1
    have F := mb_fed x (8 * m) (by omega)
    refine bX8_append_3 ⟨fun c => absurd c (by omega), fun _ => ⟨fun c => absurd c (by omega), fun _ => ⟨by omega, by omega, ?_⟩⟩⟩
    rw [show (8 * ((m + 1 : Nat) : Int) - 8) = ((8 * m : Nat) : Int) by omega]
    refine ⟨⟨by omega, by omega⟩, ?_⟩
    rw [am_w_id (z := a.1 2 0 3 + 1) (by unfold am_rg; omega)]
    refine bX8_append_44 ?_
    rw [am_w_id (z := ((8 * m : Nat) : Int) + -8) (by unfold am_rg; omega), show ((8 * m : Nat) : Int) + -8 = 8 * (m : Int) - 8 by omega]
    have z : ∀ b, mh_E a b → mh_E (am_up (am_up a.1 24 0 (a.1 2 0 3).toNat (am_i2c (am_and (am_shr x ((8 * m : Nat) : Int)) 255))) 2 0 3 (a.1 2 0 3 + 1), a.2) (am_up (am_up b.1 66 0 (a.1 2 0 3).toNat (am_i2b (am_ushr x ((8 * m : Nat) : Int)))) 9 0 1 (a.1 2 0 3 + 1), b.2) := fun b e => mh_E_byte e (by omega) F.1 F.2
    refine qX_app m _ (by omega) ?_ ⟨_, z b0 E⟩ ?_
    · simp only [am_up_s]; omega
    · intro a' f1 f2 f3 f4
      simp only [am_up_s] at f2
      refine K a' (fun t q => (f1 t q).trans ?_) (by omega) f3 ?_
      · show am_up _ _ _ _ _ t = _
        rw [am_up_t (fun e => q (by rw [e]; decide)), am_up_t (fun e => q (by rw [e]; decide))]
      · intro b d' bc' bs' Q' e h
        have t2 := e.2.2.1.1.1
        refine bX12_feeds_2 ⟨fun c => absurd c (by omega), fun _ => ?_⟩
        rw [show ((m + 1 : Nat) : Int) - 1 = (m : Int) by omega, am_w_id (z := 8 * (m : Int)) (by unfold am_rg; omega), show 8 * (m : Int) = ((8 * m : Nat) : Int) by omega, t2]
        refine ⟨by omega, by omega, ?_, ?_⟩
        · have := F.2
          split at this <;> omega
        · rw [am_w_id (z := a.1 2 0 3 + 1) (by unfold am_rg; omega), am_w_id (z := (m : Int) + -1) (by unfold am_rg; omega), show (m : Int) + -1 = (m : Int) - 1 by omega]
          refine f4 _ d' bc' bs' Q' (z b e) (fun b' g1 g2 g3 => h b' g1 (fun t q => (g2 t q).trans ?_) g3)
          show am_up _ _ _ _ _ t = _
          rw [am_up_t (fun e => q (by rw [e]; decide)), am_up_t (fun e => q (by rw [e]; decide))]
theorem qX_app4 {d kc ks : Nat} {Q : Option am_V → am_W → Prop} {x : Int} {a : am_W} (hs : a.1 2 0 3 + 4 ≤ 3000) (E : ∃ b0, mh_E a b0)
    (K : ∀ a' : am_W, (∀ t, t ∉ mh_tc → a'.1 t = a.1 t) → a'.1 2 0 3 = a.1 2 0 3 + 4 → (∃ b0, mh_E a' b0) →
      (∀ (b : am_W) (d' kc' ks' : Nat) (Q' : Option am_V → am_W → Prop), mh_E a b → (∀ b' : am_W, mh_E a' b' → (∀ t, t ∉ mh_tr → b'.1 t = b.1 t) → b'.2.1 = b.2.1 → Q' none b') → am_M (mh_G X) SC (d' + 1) kc' ks' mX12_feeds [.inr (.inr (some (9, 0))), .inl x] b Q') → Q none a') :
    am_M (mh_G X) SC (d + 1) kc ks mX8_append [.inr (.inr (some (2, 0))), .inl x] a Q := by
  refine am_M_of (by decide) (Nat.le_of_ble_eq_true rfl) ?_
  refine bX8_append_0 ?_
  refine qX_app 4 a (by omega) (by omega) E ?_
  intro a' f1 f2 f3 f4
  refine K a' f1 (by omega) f3 (fun b d' kc' ks' Q' e h => ?_)
  refine am_M_of (by decide) (Nat.le_of_ble_eq_true rfl) ?_
  exact bX12_feeds_0 (f4 b d' _ _ Q' e h)
theorem qX_feed {x1 x2 x3 x4 x5 : Int} : mh_q SC X 2 mX11_feed [.inr (.inr (some (1, 0))), .inl x1, .inl x2, .inl x3, .inl x4, .inl x5] 2 mX12_feed [.inr (.inr (some (9, 0))), .inl x1, .inl x2, .inl x3, .inl x4, .inl x5] := by
  intro a b0 E d kc ks Q h
  have t1 := E.2.2.1.1
  refine am_M_of (by decide) (Nat.le_of_ble_eq_true rfl) ?_
  refine bX11_feed_0 ⟨fun c => ?_, fun c => h (-1) a (fun _ _ => rfl) ?_⟩
  · refine qX_app4 (by omega) ⟨b0, E⟩ (fun a1 f1 s1 E1 r1 => ?_)
    refine bX11_feed_20 ?_
    refine qX_app4 (by omega) E1 (fun a2 f2 s2 E2 r2 => ?_)
    refine bX11_feed_28 ?_
    refine qX_app4 (by omega) E2 (fun a3 f3 s3 E3 r3 => ?_)
    refine bX11_feed_36 ?_
    refine qX_app4 (by omega) E3 (fun a4 f4 s4 E4 r4 => ?_)
    refine bX11_feed_45 ?_
    refine qX_app4 (by omega) E4 (fun a5 f5 s5 E5 r5 => ?_)
    refine bX11_feed_54 ?_
    refine h _ a5 (fun t q => (f5 t q).trans ((f4 t q).trans ((f3 t q).trans ((f2 t q).trans (f1 t q))))) ?_
    intro b e d' kc' ks' Q' k
    have t2 := e.2.2.1.1.1
    refine am_M_of (by decide) (Nat.le_of_ble_eq_true rfl) ?_
    refine bX12_feed_0 ⟨fun _ => ?_, fun c2 => absurd c2 ?_⟩
    · refine r1 b _ _ _ _ e (fun b1 e1 g1 l1 => ?_)
      refine bX12_feed_20 ?_
      refine r2 b1 _ _ _ _ e1 (fun b2 e2 g2 l2 => ?_)
      refine bX12_feed_25 ?_
      refine r3 b2 _ _ _ _ e2 (fun b3 e3 g3 l3 => ?_)
      refine bX12_feed_30 ?_
      refine r4 b3 _ _ _ _ e3 (fun b4 e4 g4 l4 => ?_)
      refine bX12_feed_36 ?_
      refine r5 b4 _ _ _ _ e4 (fun b5 e5 g5 l5 => ?_)
      refine bX12_feed_42 ?_
      rw [e5.2.2.1.1.1]
      exact k b5 e5 (fun t q => (g5 t q).trans ((g4 t q).trans ((g3 t q).trans ((g2 t q).trans (g1 t q))))) (l5.trans (l4.trans (l3.trans (l2.trans l1))))
    · rw [t2, am_w_id (by unfold am_rg; omega)]; omega
  · intro b e d' kc' ks' Q' k
    have t2 := e.2.2.1.1.1
    refine am_M_of (by decide) (Nat.le_of_ble_eq_true rfl) ?_
    refine bX12_feed_0 ⟨fun c2 => absurd c2 ?_, fun _ => k b e (fun _ _ => rfl) rfl⟩
    rw [t2, am_w_id (by unfold am_rg; omega)]; omega
