-- passDays, moveTo, study
variable {SC : Nat → Nat} {X : mh_X}
theorem pX4_passDays {d kc ks : Nat} {Q : Option am_V → am_W → Prop} {I : Nat → Nat → Nat → Int} {L : Nat → Nat → Nat → Int64} {a : Nat} {known t c : Int} {w : am_W} (hC : mh_C I L) (hk : known < 2147483647) (ha : (a : Int) < I 5 0 18) (ht : -36524 ≤ t) (hc : c ≤ 73048) (hM : mh_ML I a known t w) (hc2 : w.1 6 0 7 = c)
    (K : ∀ w' : am_W, w'.2 = w.2 → (∀ t, t ∉ [6, 11] → w'.1 t = w.1 t) → mh_ML I a known c w' → Q none w') :
    am_M (mh_G X) SC (d + 3) kc ks mX4_passDays [.inr (.inr (some (6, 0))), .inl (c - t)] w Q := by
  obtain ⟨ok, -⟩ := mh_P_ok hC hk ha
  have hC' := hC
  obtain ⟨J, R, RL, RN⟩ := hC
  have n40 : md_n (mh_P I a known) ≤ (I 5 0 18).toNat := mh_dl_n
  have p40 := R.1.2
  obtain ⟨⟨m1, m2, m3, m4, m5, m6⟩, qu, -, f8, f9, -⟩ := hM
  rw [hc2] at qu
  have tc := qu.1
  have dm := mh_dmx (I := I) (a := a) (known := known) (t := t) (n := md_n (mh_P I a known)) (fun e he => (md_d0 ok t he).1)
  refine am_M_of (by decide) (Nat.le_of_ble_eq_true rfl) ?_
  refine bX4_passDays_0 ?_
  rw [m5, f8, f9, dm.1, show t + (c - t) = c by omega, am_w_id (z := c) (by unfold am_rg; omega)]
  have B : ∀ (n e : Nat) (w2 : am_W), n + e = md_n (mh_P I a known) → w2.2 = w.2 → (∀ t, ¬ t = 11 → w2.1 t = w.1 t) →
      (∀ e', e' < md_n (mh_P I a known) → mh_ms I a known w2.1 e' ∧ (e' < e → mh_dynA (mh_P I a known) c w2.1 e') ∧ (e ≤ e' → mh_dyn (mh_P I a known) t w2.1 e')) →
      am_A (mh_G X) SC (d + 3) mX4_passDays Q 22 [(0, .inr (.inr (some (6, 0)))), (1, .inl (c - t)), (2, .inl (md_mx (md_d (mh_P I a known) t (md_S (mh_P I a known) t)) (md_n (mh_P I a known)))), (3, .inl c), (4, .inl (e : Int))] [] w2 kc ks := by
    intro n
    induction n with
    | zero =>
      intro e w2 hn g1 g2 g3
      have q6 : w2.1 6 = w.1 6 := g2 6 (by decide)
      refine bX4_passDays_22 ⟨fun _ => ?_, fun y => absurd y (show ¬ ¬ w2.1 6 0 3 ≤ (e : Int) by rw [q6, m2]; omega)⟩
      have hA : mh_MA I a known c (am_up w2.1 6 0 6 c, w2.2) := by
        refine ⟨fun t ht => ?_, ?_, ?_, ?_, ?_, fun e' he' => ?_⟩
        · show am_up _ _ _ _ _ t = _
          rw [am_up_t (fun y => ht (by rw [y]; decide))]
          exact (g2 t (fun y => ht (by rw [y]; decide))).trans (m1 t ht)
        · simp (disch := decide) only [am_up_k]; rw [q6]; exact m2
        · simp (disch := decide) only [am_up_k]; rw [q6]; exact m3
        · simp (disch := decide) only [am_up_k]; rw [q6]; exact m4
        · simp only [am_up_s]
        · unfold mh_ms mh_dynA at *
          simp (disch := decide) only [am_up_t]
          exact ⟨(g3 e' he').1, (g3 e' he').2.1 (by omega)⟩
      refine pX4_endW hC' hk ha (by omega) hA (fun w3 k1 k2 k3 => ?_)
      refine bX4_passDays_83 ?_
      refine pX4_lookAhead hC' hk ha (by omega) k3 (fun w4 l1 l2 l3 => ?_)
      refine bX4_passDays_87 (K w4 (l1.trans (k1.trans g1)) (fun t ht => ?_) l3)
      rw [l2 t (fun y => ht (by rw [y]; decide)), k2 t (fun y => ht (by rw [y]; decide))]
      show am_up _ _ _ _ _ t = _
      rw [am_up_t (fun y => ht (by rw [y]; decide))]
      exact g2 t (fun y => ht (by rw [y]; decide))
    | succ n ih =>
      intro e w2 hn g1 g2 g3
      have he : e < md_n (mh_P I a known) := by omega
      have q6 : w2.1 6 = w.1 6 := g2 6 (by decide)
      obtain ⟨ms, -, dy⟩ := g3 e he
      have dy := dy (Nat.le_refl _)
      have on := mh_dyn_on ok he dy
      have o := ok e he
      have ac := md_adv_c ok qu he
      have nx : ∀ w3 : am_W, w3.2 = w.2 → (∀ t, ¬ t = 11 → w3.1 t = w.1 t) → mh_oe w2.1 w3.1 e → mh_ms I a known w3.1 e → mh_dynA (mh_P I a known) c w3.1 e →
          am_A (mh_G X) SC (d + 3) mX4_passDays Q 22 [(0, .inr (.inr (some (6, 0)))), (1, .inl (c - t)), (2, .inl (md_mx (md_d (mh_P I a known) t (md_S (mh_P I a known) t)) (md_n (mh_P I a known)))), (3, .inl c), (4, .inl (am_w ((e : Int) + 1)))] [] w3 kc ks := by
        intro w3 k1 k2 k3 k4 k5
        rw [am_w_id (z := (e : Int) + 1) (by unfold am_rg; omega)]
        refine ih (e + 1) w3 (by omega) k1 k2 (fun e' he' => ?_)
        by_cases y : e' = e
        · rw [y]; exact ⟨k4, fun _ => k5, fun u => absurd u (by omega)⟩
        · obtain ⟨u1, u2, u3⟩ := g3 e' he'
          exact ⟨mh_ms_o u1 k3 y, fun u => mh_dynA_oe k3 y (u2 (by omega)), fun u => mh_dyn_oe k3 y (u3 (by omega))⟩
      have keep : ¬ md_go (mh_P I a known) t e → am_A (mh_G X) SC (d + 3) mX4_passDays Q 68 [(0, .inr (.inr (some (6, 0)))), (1, .inl (c - t)), (2, .inl (md_mx (md_d (mh_P I a known) t (md_S (mh_P I a known) t)) (md_n (mh_P I a known)))), (3, .inl c), (4, .inl (e : Int))] [] w2 kc ks := by
        intro ng
        refine bX4_passDays_68 (nx w2 g1 g2 (fun _ _ => ⟨rfl, rfl, rfl⟩) ms ?_)
        have z := ac.1 ng
        unfold mh_dynA
        rw [z]
        rcases dy with dy | dy
        · exact Or.inl dy
        · exact Or.inr ⟨dy.1, dy.2.1, dy.2.2.1, dy.2.2.2.1, dy.2.2.2.2.1, dy.2.2.2.2.2.1, by have := dy.2.2.2.2.2.2; omega⟩
      refine bX4_passDays_22 ⟨fun y => absurd y (show ¬ w2.1 6 0 3 ≤ (e : Int) by rw [q6, m2]; omega), fun _ => ⟨by omega, by omega, ?_⟩⟩
      rw [Int.toNat_natCast, q6, m5, ms.2.2.1, ms.2.2.2.1]
      refine ⟨fun y => keep (fun g => y ⟨on.1.mpr g.1, by have := g.2.1; omega⟩), fun y => ?_⟩
      have hs := on.1.mp y.1
      obtain ⟨a1, a2, a3, a4⟩ := mh_ms_at ok he ms dy hs
      obtain ⟨q1, q2, q3, q4, q5⟩ := on.2 hs
      rw [a1]
      refine ⟨fun _ => a3, fun _ => a4, fun z => keep (fun g => z g.2.2), fun z => ?_⟩
      have g : md_go (mh_P I a known) t e := ⟨hs, by omega, z⟩
      obtain ⟨ad, sp⟩ := ac.2 g
      have cb := qu.2.2.2 e he g
      have tt := md_tot ok he _ q3
      have cub := o.2.2.2.2.2 _ q3
      have bt := g.2.1
      have b0 := o.1
      refine am_M_of (by decide) (Nat.le_of_ble_eq_true rfl) ?_
      refine bX5_pass_0 ?_
      simp (disch := decide) only [am_up_k, am_up_s]
      rw [q1, q2, am_w_id (z := md_S (mh_P I a known) t e + (c - t)) (by unfold am_rg; omega), Int.toNat_natCast, ms.1, am_w_id (z := (md_np (mh_P I a known) e : Int) - 1) (by unfold am_rg; omega), am_w_id (z := c - 1) (by unfold am_rg; omega), am_w_id (z := (md_pt (md_cu (mh_P I a known) e) (md_S (mh_P I a known) t e) (md_np (mh_P I a known) e) : Int) + 1) (by unfold am_rg; omega)]
      have c154 : w2.1 154 e (md_pt (md_cu (mh_P I a known) e) (md_S (mh_P I a known) t e) (md_np (mh_P I a known) e)) = md_cu (mh_P I a known) e (md_pt (md_cu (mh_P I a known) e) (md_S (mh_P I a known) t e) (md_np (mh_P I a known) e)) := (ms.2.2.2.2.2 _ q3).1
      rw [c154]
      have lo := md_pt_lo (c := md_cu (mh_P I a known) e) (f := md_S (mh_P I a known) t e) (md_np (mh_P I a known) e)
      have o7 := dy.resolve_right (fun u => hs u.2.1)
      refine ⟨by omega, by omega, fun u => ⟨fun v => ?_, fun v => ?_⟩, fun u => ?_⟩
      · -- the next part
        refine bX4_passDays_68a (nx _ g1 (fun t ht => ?_) (mh_oe_t mh_oe_u mh_oe_u) (mh_ms_u (mh_ms_u ms (by decide)) (by decide)) ?_)
        · show am_up _ _ _ _ _ t = _
          rw [am_up_t ht, am_up_t ht]; exact g2 t ht
        · have up := o.2.2.2.1 (md_pt (md_cu (mh_P I a known) e) (md_S (mh_P I a known) t e) (md_np (mh_P I a known) e)) (by omega)
          have tt2 := md_tot ok he (md_pt (md_cu (mh_P I a known) e) (md_S (mh_P I a known) t e) (md_np (mh_P I a known) e) + 1) (by omega)
          have ad2 : md_adv (mh_P I a known) (c - 1) (md_S (mh_P I a known) (c - 1)) e = md_S (mh_P I a known) t e + (c - t) := by rw [ad, if_neg (by omega)]
          have pt2 : md_pt (md_cu (mh_P I a known) e) (md_S (mh_P I a known) t e + (c - t)) (md_np (mh_P I a known) e) = md_pt (md_cu (mh_P I a known) e) (md_S (mh_P I a known) t e) (md_np (mh_P I a known) e) + 1 :=
            md_pt_is o.2.2.2.1 (by omega) (by omega) (Or.inr (by rw [Nat.add_sub_cancel]; exact u))
          refine Or.inl ?_
          rw [ad2, pt2]
          simp (disch := decide) only [am_up_k, am_up_s]
          exact ⟨y.1, trivial, by omega, by omega, o7.2.2.2.2⟩
      · -- over
        refine bX4_passDays_68a (nx _ g1 (fun t ht => ?_) (mh_oe_t mh_oe_u (mh_oe_t mh_oe_u mh_oe_u)) (mh_ms_u (mh_ms_u (mh_ms_u ms (by decide)) (by decide)) (by decide)) ?_)
        · show am_up _ _ _ _ _ t = _
          rw [am_up_t ht, am_up_t ht, am_up_t ht]; exact g2 t ht
        · have pe : md_pt (md_cu (mh_P I a known) e) (md_S (mh_P I a known) t e) (md_np (mh_P I a known) e) = md_np (mh_P I a known) e - 1 := by omega
          have ad2 : md_adv (mh_P I a known) (c - 1) (md_S (mh_P I a known) (c - 1)) e = -1 := by
            rw [ad, if_pos]
            rw [pe] at u
            exact u
          have sc : md_S (mh_P I a known) c e = -1 := by
            rw [md_Sc ok c he]
            unfold md_wed
            rw [ad2, if_neg (fun z => z.1 rfl)]
          refine Or.inr ?_
          rw [ad2]
          simp (disch := decide) only [am_up_k, am_up_s]
          rw [show c - 1 + 1 = c by omega]
          exact ⟨trivial, trivial, sc, by omega, fun s hs => md_S_le ok he sp hs, by omega, by omega⟩
      · -- the same part
        refine bX4_passDays_68a (nx _ g1 (fun t ht => ?_) mh_oe_u (mh_ms_u ms (by decide)) ?_)
        · show am_up _ _ _ _ _ t = _
          rw [am_up_t ht]; exact g2 t ht
        · have ad2 : md_adv (mh_P I a known) (c - 1) (md_S (mh_P I a known) (c - 1)) e = md_S (mh_P I a known) t e + (c - t) := by rw [ad, if_neg (by omega)]
          have pt2 : md_pt (md_cu (mh_P I a known) e) (md_S (mh_P I a known) t e + (c - t)) (md_np (mh_P I a known) e) = md_pt (md_cu (mh_P I a known) e) (md_S (mh_P I a known) t e) (md_np (mh_P I a known) e) :=
            md_pt_is o.2.2.2.1 q3 (by omega) (lo.imp_right (fun z => by omega))
          refine Or.inl ?_
          rw [ad2, pt2]
          simp (disch := decide) only [am_up_k, am_up_s]
          exact ⟨y.1, trivial, by omega, q2, o7.2.2.2.2⟩
  exact B (md_n (mh_P I a known)) 0 w rfl rfl (fun _ _ => rfl) (fun e' he' => ⟨(m6 e' he').1, fun u => absurd u (Nat.not_lt_zero e'), fun _ => (m6 e' he').2⟩)
/-- weddings to come -/
def mh_ww (I : Nat → Nat → Nat → Int) (t : Int) : Nat → Nat
  | 0 => 0
  | k + 1 => mh_ww I t k + (if t < I 46 0 k then 1 else 0)
theorem mh_ww_b (I : Nat → Nat → Nat → Int) (t : Int) : ∀ n, mh_ww I t n ≤ n
  | 0 => Nat.le_refl _
  | n + 1 => by
    have := mh_ww_b I t n
    show mh_ww I t n + (if t < I 46 0 n then 1 else 0) ≤ n + 1
    split <;> omega
theorem mh_ww_m {I : Nat → Nat → Nat → Int} {t c : Int} (h : t ≤ c) : ∀ n, mh_ww I c n ≤ mh_ww I t n
  | 0 => Nat.le_refl _
  | n + 1 => by
    have := mh_ww_m (I := I) h n
    show mh_ww I c n + (if c < I 46 0 n then 1 else 0) ≤ mh_ww I t n + (if t < I 46 0 n then 1 else 0)
    split <;> split <;> omega
theorem mh_ww_l {I : Nat → Nat → Nat → Int} {t c : Int} (h : t < c) : ∀ {n k : Nat}, k < n → I 46 0 k = c → mh_ww I c n < mh_ww I t n
  | 0, k, hk, _ => absurd hk (Nat.not_lt_zero k)
  | n + 1, k, hk, e => by
    show mh_ww I c n + (if c < I 46 0 n then 1 else 0) < mh_ww I t n + (if t < I 46 0 n then 1 else 0)
    have m := mh_ww_m (I := I) (t := t) (c := c) (by omega) n
    by_cases q : k = n
    · rw [q] at e
      rw [e, if_neg (by omega), if_pos h]; omega
    · have := mh_ww_l (I := I) h (n := n) (k := k) (by omega) e
      split <;> split <;> omega
def mh_mes (I : Nat → Nat → Nat → Int) (t : Int) : Nat := if t < 0 then 73100 + mh_ww I t (I 5 0 19).toNat else (73049 - t).toNat
theorem pX4_moveTo {d kc ks : Nat} {Q : Option am_V → am_W → Prop} {I : Nat → Nat → Nat → Int} {L : Nat → Nat → Nat → Int64} {a : Nat} {known day : Int} {w : am_W} (hC : mh_C I L) (hk : known < 2147483647) (ha : (a : Int) < I 5 0 18) (hd : day ≤ 73048)
    (hM : ∃ t, -36524 ≤ t ∧ t ≤ day ∧ mh_ML I a known t w)
    (K : ∀ (w' : am_W), w'.2 = w.2 → (∀ t, t ∉ [6, 11] → w'.1 t = w.1 t) → (∃ t, -36524 ≤ t ∧ t ≤ day ∧ mh_ML I a known t w' ∧ day < w'.1 6 0 7) → Q none w') :
    am_M (mh_G X) SC (d + 4) kc ks mX4_moveTo [.inr (.inr (some (6, 0))), .inl day] w Q := by
  have hm40 : 0 ≤ I 5 0 19 ∧ I 5 0 19 ≤ 40 := by obtain ⟨J, R, -⟩ := hC; exact R.2.1.2
  have B : ∀ (m i : Nat) (t : Int) (w2 : am_W), mh_mes I t ≤ m → i + m ≤ 100000 → w2.2 = w.2 → (∀ t, t ∉ [6, 11] → w2.1 t = w.1 t) → -36524 ≤ t → t ≤ day → mh_ML I a known t w2 → am_A (mh_G X) SC (d + 4) mX4_moveTo Q 2 [(0, .inr (.inr (some (6, 0)))), (1, .inl day), (2, .inl (i : Int))] [] w2 kc ks := by
    intro m
    induction m with
    | zero =>
      intro i t w2 hm hi g1 g2 t0 t1 g3
      exfalso
      unfold mh_mes at hm
      split at hm <;> omega
    | succ m ih =>
      intro i t w2 hm hi g1 g2 t0 t1 g3
      have qc := g3.2.1.1
      have td : w2.1 6 0 6 = t := g3.1.2.2.2.2.1
      have fin : day < w2.1 6 0 7 → Q none w2 := fun z => K w2 g1 g2 ⟨t, t0, t1, g3, z⟩
      refine bX4_moveTo_2 ⟨fun c => absurd c (by omega), fun _ => ⟨fun c => fin (by omega), fun c => ⟨fun c2 => fin c2, fun c2 => ?_⟩⟩⟩
      rw [td, am_w_id (z := w2.1 6 0 7 - t) (by unfold am_rg; omega)]
      refine pX4_passDays hC hk ha t0 (by omega) g3 rfl (fun w3 k1 k2 k3 => ?_)
      refine bX4_moveTo_37 ?_
      rw [am_w_id (z := (i : Int) + 1) (by unfold am_rg; omega)]
      refine ih (i + 1) (w2.1 6 0 7) w3 ?_ (by omega) (k1.trans g1) (fun t ht => (k2 t ht).trans (g2 t ht)) (by omega) (by omega) k3
      unfold mh_mes at hm ⊢
      by_cases c3 : t < 0
      · rw [if_pos c3] at hm
        by_cases c4 : w2.1 6 0 7 < 0
        · rw [if_pos c4]
          have iw := g3.2.2.2.2.2.resolve_left (by omega)
          obtain ⟨k, z1, z2, z3, z4⟩ := (mh_iw_b (I := I) (a := a) (known := known) (s := w2.1 6 0 7)).2.mp iw
          have := mh_ww_l (I := I) qc z1 z3
          omega
        · rw [if_neg c4]; omega
      · rw [if_neg c3] at hm
        rw [if_neg (by omega)]
        omega
  obtain ⟨t, t0, t1, hM⟩ := hM
  refine am_M_of (by decide) (Nat.le_of_ble_eq_true rfl) ?_
  refine bX4_moveTo_0 (B 99999 0 t w ?_ (by omega) rfl (fun _ _ => rfl) t0 t1 hM)
  unfold mh_mes
  have := mh_ww_b I t (I 5 0 19).toNat
  split <;> omega
