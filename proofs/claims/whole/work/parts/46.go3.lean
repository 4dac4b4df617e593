-- go
variable {SC : Nat → Nat} {X : mh_X}
theorem pX12_works_i {d kc ks : Nat} {Q : Option am_V → am_W → Prop} {w : am_W} (h : 0 ≤ w.1 9 0 81 ∧ w.1 9 0 81 ≤ 20) (hz : w.1 9 0 81 = 0 ∨ w.1 9 0 76 ≤ 0) (ht : ∀ k : Nat, (k : Int) < w.1 9 0 81 → ¬ w.1 132 0 k = 0) (K : Q none w) : am_M (mh_G X) SC (d + 2) kc ks mX12_works [.inr (.inr (some (9, 0)))] w Q := by
  have L : ∀ (n k : Nat), n + k = (w.1 9 0 81).toNat → am_A (mh_G X) SC (d + 2) mX12_works Q 38 [(0, .inr (.inr (some (9, 0)))), (1, .inl (k : Int)), (2, .inl (k : Int))] [] w kc ks := by
    intro n
    induction n with
    | zero =>
      intro k hk
      refine bX12_works_38 ⟨fun _ => ?_, fun c => absurd (show w.1 9 0 81 ≤ (k : Int) by omega) c⟩
      rw [show (k : Int) = w.1 9 0 81 by omega, am_up_i]
      exact K
    | succ n ih =>
      intro k hk
      refine bX12_works_38 ⟨fun c => absurd hk (by omega), fun c => ⟨by omega, by omega, fun _ => ⟨by omega, by omega, ?_⟩, fun c2 => absurd c2 (ht k (by omega))⟩⟩
      simp only [Int.toNat_natCast, am_up_i]
      rw [am_w_id (z := (k : Int) + 1) (by unfold am_rg; omega)]
      refine bX12_works_114 ?_
      rw [am_w_id (z := (k : Int) + 1) (by unfold am_rg; omega)]
      exact ih (k + 1) (by omega)
  have Z : am_A (mh_G X) SC (d + 2) mX12_works Q 34 [(0, .inr (.inr (some (9, 0))))] [] w kc ks := bX12_works_34 (L (w.1 9 0 81).toNat 0 (by omega))
  refine am_M_of (by decide) (Nat.le_of_ble_eq_true rfl) ?_
  exact bX12_works_0 (bX12_works_2 ⟨fun _ => Z, fun c => ⟨fun _ => Z, fun c2 => absurd hz (by omega)⟩⟩)
theorem pX12_idle {d bc bs : Nat} {Q : Option am_V → am_W → Prop} {w : am_W} {now days x : Int} (h : 0 ≤ w.1 9 0 81 ∧ w.1 9 0 81 ≤ 20) (hz : w.1 9 0 81 = 0 ∨ w.1 9 0 76 ≤ 0) (ht : ∀ k : Nat, (k : Int) < w.1 9 0 81 → ¬ w.1 132 0 k = 0)
    (h0 : 0 ≤ now ∧ now ≤ 73047) (hx : 0 ≤ x ∧ x ≤ 2000) (hd : days = min (now + x) 73047 - now) (K : Q (some (.inl (now + days))) (am_up w.1 9 0 33 (now + days), w.2)) :
    ∀ (n i : Nat), (n + i : Nat) = days.toNat → am_A (mh_G X) SC (d + 3) mX12_go Q 15 [(0, .inr (.inr (some (9, 0)))), (1, .inl x), (2, .inl (i : Int))] [] (am_up w.1 9 0 33 (now + i), w.2) bc bs
  | 0, i, hi => by
    have e : now + days = now + i := by omega
    rw [e] at K
    have K2 : Q (some (.inl ((am_up w.1 9 0 33 (now + i), w.2).1 9 0 33))) (am_up w.1 9 0 33 (now + i), w.2) := by
      show Q (some (.inl (am_up w.1 9 0 33 (now + i) 9 0 33))) _
      rw [am_up_s]; exact K
    refine bX12_go_15 ⟨fun _ => K2, fun c => ⟨fun _ => K2, fun c2 => absurd c2 ?_⟩⟩
    simp only [am_up_s]
    omega
  | n + 1, i, hi => by
    refine bX12_go_15 ⟨fun c => absurd c (by omega), fun c => ⟨fun c2 => absurd c2 ?_, fun c2 => ?_⟩⟩
    · simp only [am_up_s]; omega
    refine pX12_works_i ?_ ?_ ?_ ?_
    · simp (disch := decide) only [am_up_k]; exact h
    · simp (disch := decide) only [am_up_k]; exact hz
    · simp (disch := decide) only [am_up_k, am_up_t]; exact ht
    · refine bX12_go_34 ?_
      simp only [am_up_s, am_up_u]
      rw [am_w_id (z := now + i + 1) (by unfold am_rg; omega), am_w_id (z := (i : Int) + 1) (by unfold am_rg; omega), show now + i + 1 = now + (i + 1 : Nat) by omega]
      exact pX12_idle h hz ht h0 hx hd K n (i + 1) (by omega)
theorem qX_days {d bc bs : Nat} {Q : Option am_V → am_W → Prop} {now days x : Int} (h0 : 0 ≤ now ∧ now ≤ 73047) (hx : 0 ≤ x ∧ x ≤ 2000) (hd : days = min (now + x) 73047 - now) :
    ∀ (n i : Nat) (a : am_W), (n + i : Nat) = days.toNat → mh_Wr a.1 →
    (∀ a' : am_W, a'.2 = a.2 → (∀ t, t ∉ mh_tw → a'.1 t = a.1 t) → mh_Wr a'.1 → (∀ (b : am_W) (d' bc' bs' : Nat) (Q' : Option am_V → am_W → Prop), mh_We a.1 b.1 → b.1 9 0 33 = now + i → (∀ b' : am_W, mh_We a'.1 b'.1 → mh_fm [126, 127, 129, 130, 131, 132] [33, 75, 81] b b' → b'.1 9 0 33 = now + days → Q' (some (.inl (now + days))) b') → am_A (mh_G X) SC (d' + 3) mX12_go Q' 15 [(0, .inr (.inr (some (9, 0)))), (1, .inl x), (2, .inl (i : Int))] [] b bc' bs') → Q none a') →
    am_A (mh_G X) SC (d + 4) mX9_work Q 2 [(0, .inr (.inr (some (7, 0)))), (1, .inl days), (2, .inl (i : Int))] [] a bc bs
  | 0, i, a, hi, hW, K => by
    refine bX9_work_2 ⟨fun _ => ?_, fun c => absurd hi (by omega)⟩
    refine K a rfl (fun _ _ => rfl) hW (fun b d' bc' bs' Q' e hn h => ?_)
    have hn2 : b.1 9 0 33 = now + days := by omega
    have Z : Q' (some (.inl (b.1 9 0 33))) b := by rw [hn2]; exact h b e mh_fm_r hn2
    exact bX12_go_15 ⟨fun _ => Z, fun c => ⟨fun _ => Z, fun c2 => absurd hi (by omega)⟩⟩
  | n + 1, i, a, hi, hW, K => by
    have idle : (a.1 7 0 9 ≤ 0 ∨ a.1 7 0 10 ≤ 0) → Q none a := by
      intro z
      refine K a rfl (fun _ _ => rfl) hW (fun b d' bc' bs' Q' e hn h => ?_)
      obtain ⟨⟨e1, e2, e3⟩, e4, e5, e6, e7, e8, e9, e10⟩ := id e
      have hb : b = (am_up b.1 9 0 33 (now + i), b.2) := by rw [← hn, am_up_i]
      rw [hb]
      refine pX12_idle ?_ ?_ ?_ h0 hx hd (h _ ?_ (mh_fm_f mh_fm_i (by decide)) (show am_up b.1 9 0 33 (now + days) 9 0 33 = now + days from am_up_s)) (n + 1) i hi
      · rw [e2]; exact hW.1
      · rw [e2, e3]; have := hW.1; omega
      · intro k hk
        rw [e10 k]
        have := (hW.2.2.2.2.2.2.2.2.1 k (mh_lvn.mpr (by omega))).2.1.1
        dsimp only at this
        omega
      · unfold mh_We
        simp (disch := decide) only [am_up_t, am_up_k]
        exact e
    refine bX9_work_2 ⟨fun c => absurd hi (by omega), fun _ => ⟨fun c => idle (Or.inl c), fun c => ⟨fun c2 => idle (Or.inr c2), fun c2 => ?_⟩⟩⟩
    have hW2 : mh_Wi a.1 0 0 (a.1 7 0 9).toNat (mh_lp2 0) := hW.2
    refine qX_dec (N := (a.1 7 0 9).toNat) (min (a.1 7 0 9).toNat (a.1 7 0 10).toNat) 0 a (by omega) rfl hW2 ?_
    intro a1 g1 g2 g3 g4
    have r7 : a1.1 7 = a.1 7 := g2 7 (by decide)
    refine bX9_work_55 ?_
    refine am_M_of (by decide) (Nat.le_of_ble_eq_true rfl) ?_
    refine bX9_clearDone_0 ?_
    refine qX_clr (N := (a.1 7 0 9).toNat) (a.1 7 0 9).toNat 0 0 a1 rfl (by rw [r7]; omega) (mh_Wi_le g3 (fun k hk => (g3.2.2.2.2.2.2.2.1 k hk).2.1.1)) ?_
    intro a2 f1 f2 f3 f4 f5
    refine bX9_work_59 ?_
    rw [am_w_id (z := (i : Int) + 1) (by unfold am_rg; omega)]
    refine qX_days h0 hx hd n (i + 1) a2 (by omega) f4 ?_
    intro a3 k1 k2 k3 k4
    refine K a3 (k1.trans (f1.trans g1)) (fun t q => (k2 t q).trans ((f2 t q).trans (g2 t (fun c => q (by rw [List.mem_singleton.mp c]; decide))))) k3 ?_
    intro b d' bc' bs' Q' e hn h
    refine bX12_go_15 ⟨fun c => absurd hi (by omega), fun c => ⟨fun c2 => absurd hi (by omega), fun c2 => ?_⟩⟩
    refine am_M_of (by decide) (Nat.le_of_ble_eq_true rfl) ?_
    refine bX12_works_0 ?_
    refine g4 b _ _ _ _ e ?_
    intro b1 e1 m1
    refine bX12_works_34 ?_
    refine f5 b1 _ _ _ _ e1 ?_
    intro b2 e2 m2
    refine bX12_go_34 ?_
    have hn2 : b2.1 9 0 33 = now + i := (m2.2.1 33 (by decide)).trans ((m1.2.1 33 (by decide)).trans hn)
    rw [hn2, am_w_id (z := now + i + 1) (by unfold am_rg; omega), am_w_id (z := (i : Int) + 1) (by unfold am_rg; omega)]
    refine k4 _ d' bc' bs' Q' ?_ ?_ (fun b' p1 p2 p3 => h b' p1 ?_ p3)
    · unfold mh_We
      simp (disch := decide) only [am_up_t, am_up_k]
      exact e2
    · simp only [am_up_s]; omega
    · exact mh_fm_t (mh_fm_t (mh_fm_m m1 (by decide) (by decide)) (mh_fm_m m2 (by decide) (by decide))) (mh_fm_t (mh_fm_f mh_fm_i (by decide)) p2)
theorem mh_dw1 : ∀ t, t ∈ [7, 50, 51, 52, 53, 54, 55, 56, 57] → ¬ t = 1 := by decide
theorem mh_dw2 : ∀ t, t ∈ mh_tw → t ∈ mh_tc := by decide
theorem mh_E_go {a b a' b' : am_W} {n : Int} (e : mh_E a b) (f : ∀ t, ¬ t = 1 → t ∉ mh_tw → a'.1 t = a.1 t) (hl : a'.2.1 = a.2.1) (p2 : mh_fm [126, 127, 129, 130, 131, 132] [33, 75, 81] b b') (f12 : a'.1 1 0 12 = n) (f11 : a'.1 1 0 11 = a.1 1 0 11) (hb : b'.1 9 0 33 = n) (hn : a.1 1 0 12 ≤ n ∧ n ≤ 73047) (w : mh_Wr a'.1 ∧ mh_We a'.1 b'.1) : mh_E a' b' := by
  obtain ⟨-, q3, q4, q5, q6, q7, q8, q9⟩ := e
  have F : ∀ (l : List Nat), (∀ t, t ∈ l → ¬ t = 1 ∧ t ∉ mh_tw) → ∀ t, t ∈ l → a'.1 t = a.1 t := fun l q t ht => f t (q t ht).1 (q t ht).2
  have G : ∀ (l : List Nat), (∀ t, t ∈ l → t ∉ [126, 127, 129, 130, 131, 132] ∧ ¬ t = 9) → ∀ t, t ∈ l → b'.1 t = b.1 t := fun l q t ht => p2.1 t (q t ht).1 (q t ht).2
  have G9 : ∀ (l : List Nat), (∀ t, t ∈ l → t ∉ [33, 75, 81]) → ∀ t, t ∈ l → b'.1 9 0 t = b.1 9 0 t := fun l q t ht => p2.2.1 t (q t ht)
  have hm : a.1 1 0 12 ≤ a'.1 1 0 12 := by rw [f12]; exact hn.1
  refine ⟨w, ?_, ?_, ?_, ?_, ?_, ?_, ?_⟩
  · unfold mh_RN at *
    omega
  · exact mh_RT_s q4 (fun k _ => by rw [f 2 (by decide) (by decide)]) (f 24 (by decide) (by decide)) (p2.1 66 (by decide) (by decide)) (G9 _ (by decide))
  · exact mh_RL_s q5 hm (by rw [f 4 (by decide) (by decide)]) (F _ (by decide)) (G _ (by decide)) (p2.2.1 21 (by decide))
  · exact mh_RK_s q6 hm (fun k _ => by rw [f 5 (by decide) (by decide)]) (F _ (by decide)) (fun t _ => by rw [hl]) (by rw [hl]) (G _ (by decide)) (G9 _ (by decide))
  · exact mh_RO_s q7 (by rw [f 4 (by decide) (by decide)]) (F _ (by decide)) (G _ (by decide)) (p2.2.1 52 (by decide))
  · exact mh_RD_s q8 hm (by rw [f 5 (by decide) (by decide)]; exact Int.le_refl _) f11 (F _ (by decide)) (G _ (by decide)) (p2.2.1 70 (by decide))
  · exact mh_RP_s q9 (by rw [f 3 (by decide) (by decide)]) (f 27 (by decide) (by decide)) (p2.1 143 (by decide) (by decide)) (p2.2.1 99 (by decide))
theorem qX_go {x : Int} : mh_q SC X 5 mX11_go [.inr (.inr (some (1, 0))), .inl x] 3 mX12_go [.inr (.inr (some (9, 0))), .inl x] := by
  intro a b0 E d kc ks Q h
  have hn := E.2.1.2
  have no : ¬ (0 ≤ x ∧ x ≤ 2000) → Q (some (.inl (-1))) a := by
    intro c
    refine h (-1) a (fun _ _ => rfl) ?_
    intro b e d' kc' ks' Q' k
    refine am_M_of (by decide) (Nat.le_of_ble_eq_true rfl) ?_
    exact bX12_go_0 ⟨fun c2 => absurd c2 (by omega), fun _ => k b e (fun _ _ => rfl) rfl⟩
  refine am_M_of (by decide) (Nat.le_of_ble_eq_true rfl) ?_
  refine bX11_go_0 ⟨fun c => no (by omega), fun c => ⟨fun c2 => ?_, fun c2 => no (by omega)⟩⟩
  rw [am_w_id (z := a.1 1 0 12 + x) (by unfold am_rg; omega), am_w_id (by unfold am_rg; omega)]
  refine am_M_of (by decide) (Nat.le_of_ble_eq_true rfl) ?_
  refine bX9_work_0 ?_
  refine qX_days (now := a.1 1 0 12) (x := x) hn ⟨by omega, c2⟩ rfl (min (a.1 1 0 12 + x) 73047 - a.1 1 0 12).toNat 0 a rfl E.1.1 ?_
  intro a' h1 h2 h3 h4
  refine bX11_go_38 ?_
  rw [am_up_s]
  refine h _ _ ?_ ?_
  · intro t q
    show am_up _ _ _ _ _ t = _
    rw [am_up_t (fun e => q (by rw [e]; decide))]
    exact h2 t (fun c => q (mh_dw2 t c))
  · intro b e d' kc' ks' Q' k
    refine am_M_of (by decide) (Nat.le_of_ble_eq_true rfl) ?_
    refine bX12_go_0 ⟨fun _ => ?_, fun c3 => absurd ⟨by omega, by omega⟩ c3⟩
    refine h4 b _ _ _ _ e.1.2 (e.2.1.1.trans (by omega)) ?_
    intro b' p1 p2 p3
    rw [show a.1 1 0 12 + (min (a.1 1 0 12 + x) 73047 - a.1 1 0 12) = min (a.1 1 0 12 + x) 73047 by omega] at p3 ⊢
    obtain ⟨w1, w2⟩ := mh_fm_w p2 (by decide)
    refine k b' ?_ w1 w2
    refine mh_E_go (n := min (a.1 1 0 12 + x) 73047) e (fun t u v => (am_up_t u).trans (h2 t v)) (by rw [h1]) p2 (by simp only [am_up_s]) ?_ p3 (by omega) ?_
    · show am_up a'.1 1 0 12 (min (a.1 1 0 12 + x) 73047) 1 0 11 = a.1 1 0 11
      rw [am_up_k (by decide), h2 1 (by decide)]
    · exact ⟨mh_Wr_s h3 (fun t ht => am_up_t (mh_dw1 t ht)), mh_We_s p1 (fun t ht => am_up_t (mh_dw1 t ht)) (fun _ _ => rfl) (fun _ _ => rfl)⟩
