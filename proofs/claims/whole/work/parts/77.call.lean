-- depth, may, edge, deed
variable {SC : Nat → Nat} {X : mh_X}
theorem pX12_isAlive {d kc ks : Nat} {Q : Option am_V → am_W → Prop} {I : Nat → Nat → Nat → Int} {L : Nat → Nat → Nat → Int64} {w : am_W} {a : Nat} {known day : Int} (hC : mh_C I L) (hk : known < 2147483647) (hJ : mh_JR I L w.1) (ha : (a : Int) < I 5 0 18)
    (K1 : mh_ali I a known day → Q (some (.inl 1)) w) (K0 : ¬ mh_ali I a known day → Q (some (.inl 0)) w) : am_M (mh_G X) SC (d + 2) kc ks mX12_isAlive [.inr (.inr (some (9, 0))), .inl (a : Int), .inl day, .inl known] w Q := by
  have nb : I 1 0 12 ≤ 73047 := by obtain ⟨J, R, RL, RN⟩ := hC; unfold mh_RN at RN; omega
  have p40 := hJ.1.1.2
  have pa := hJ.1.2.2.1 a ha
  refine sX12_isAlive (by omega) (by omega) ?_
  rw [Int.toNat_natCast]
  unfold mh_ali at K1 K0
  by_cases c : I 38 0 a ≤ known ∧ I 37 0 a ≤ day ∧ ¬ (I 40 0 a ≤ known ∧ I 39 0 a < day)
  · rw [if_pos (by omega)]; exact K1 c
  · rw [if_neg (by omega)]; exact K0 c
theorem pX12_depthAt {d kc ks : Nat} {Q : Option am_V → am_W → Prop} {I : Nat → Nat → Nat → Int} {L : Nat → Nat → Nat → Int64} {a : Nat} {known day : Int} {w : am_W} (hC : mh_C I L) (hO : mh_Co I) (hk : known < 2147483647) (ha : (a : Int) < I 5 0 18) (hJ : mh_JR I L w.1)
    (hd : -36524 ≤ day ∧ day ≤ 73047)
    (K : ∀ w', mh_fm mh_tn mh_fn w w' → (mh_ali I a known day → mh_RS I a known day w'.1) → Q (some (.inl (mh_dpt I a known day))) w') : am_M (mh_G X) SC (d + 11) kc ks mX12_depthAt [.inr (.inr (some (9, 0))), .inl (a : Int), .inl day, .inl known] w Q := by
  refine am_M_of (by decide) (Nat.le_of_ble_eq_true rfl) ?_
  refine bX12_depthAt_0 ?_
  refine pX12_isAlive hC hk hJ ha (fun al => ?_) (fun al => ?_)
  · refine bX12_depthAt_7 ⟨fun _ => ?_, fun c => absurd c (by decide)⟩
    refine pX12_prepares hC hk ha hJ (fun w1 g1 s1 => ?_)
    refine bX12_depthAt_18 ?_
    refine pX12_goesTo hC hk ha (mh_JR_s hJ g1) (by omega) (by omega) s1 (fun w2 g2 s2 => ?_)
    refine bX12_depthAt_23 ?_
    refine pX12_depthNow hC hO hk ha (mh_JR_s hJ (mh_fm_t g1 g2)) hd s2 ?_
    refine bX12_depthAt_28 ?_
    have k := K w2 (mh_fm_t g1 g2) (fun _ => s2)
    unfold mh_dpt at k
    rw [if_pos al] at k
    exact k
  · refine bX12_depthAt_7 ⟨fun c => absurd rfl c, fun _ => ?_⟩
    have k := K w mh_fm_r (fun z => absurd z al)
    unfold mh_dpt at k
    rw [if_neg al] at k
    exact k
theorem pX12_mayBe {d kc ks : Nat} {Q : Option am_V → am_W → Prop} {I : Nat → Nat → Nat → Int} {L : Nat → Nat → Nat → Int64} {a act : Nat} {known day : Int} {w : am_W} (hC : mh_C I L) (hO : mh_Co I) (hk : known < 2147483647) (ha : (a : Int) < I 5 0 18) (hJ : mh_JR I L w.1)
    (hact : act < 4) (hd : -36524 ≤ day ∧ day ≤ 73047) (hS : mh_RS I a known day w.1)
    (K1 : (mh_law I day known = -1 ∨ mh_dep I a known day ≤ I 153 (mh_law I day known).toNat act) → Q (some (.inl 1)) w)
    (K0 : ¬ (mh_law I day known = -1 ∨ mh_dep I a known day ≤ I 153 (mh_law I day known).toNat act) → Q (some (.inl 0)) w) : am_M (mh_G X) SC (d + 9) kc ks mX12_mayBe [.inr (.inr (some (9, 0))), .inl (act : Int), .inl day] w Q := by
  have lb := mh_lw_b I day known (I 4 0 5).toNat
  have lb2 : mh_law I day known = -1 ∨ (0 ≤ mh_law I day known ∧ mh_law I day known < ((I 4 0 5).toNat : Int) ∧ I 10 (mh_law I day known).toNat 17 ≤ day ∧ I 10 (mh_law I day known).toNat 17 ≤ known) := lb
  have l6 := hJ.2.1.1
  refine am_M_of (by decide) (Nat.le_of_ble_eq_true rfl) ?_
  refine bX12_mayBe_0 ?_
  rw [hS.1.2.2]
  refine pX12_lawOf hJ.2.1 ?_
  refine bX12_mayBe_9 ⟨fun c => K1 (Or.inl c), fun c => ?_⟩
  refine pX12_depthNow hC hO hk ha hJ hd hS ?_
  have La := (hJ.2.1.2 (mh_law I day known).toNat (by omega)).1
  have mq := La.2.2.2.1 act hact
  refine bX12_mayBe_20 ⟨by omega, by omega, by omega, by omega, ?_⟩
  rw [Int.toNat_natCast, mq.1]
  exact ⟨fun c2 => K0 (by omega), fun c2 => K1 (Or.inr (by omega))⟩
theorem pX12_mayAt {d kc ks : Nat} {Q : Option am_V → am_W → Prop} {I : Nat → Nat → Nat → Int} {L : Nat → Nat → Nat → Int64} {a act : Nat} {known day : Int} {w : am_W} (hC : mh_C I L) (hO : mh_Co I) (hk : known < 2147483647) (ha : (a : Int) < I 5 0 18) (hJ : mh_JR I L w.1)
    (hact : act < 4) (hd : -36524 ≤ day ∧ day ≤ 73047)
    (K : ∀ (v : Int) (w' : am_W), mh_fm mh_tn mh_fn w w' → (v = 0 ∨ v = 1) → (v = 1 ↔ mh_alw I a known act day) → Q (some (.inl v)) w') : am_M (mh_G X) SC (d + 12) kc ks mX12_mayAt [.inr (.inr (some (9, 0))), .inl (a : Int), .inl (act : Int), .inl day, .inl known] w Q := by
  have db := mh_dep_b (a := a) (known := known) (day := day) hC hO hk ha
  refine am_M_of (by decide) (Nat.le_of_ble_eq_true rfl) ?_
  refine bX12_mayAt_0 ?_
  refine pX12_depthAt hC hO hk ha hJ hd (fun w1 g1 s1 => ?_)
  refine bX12_mayAt_8 ?_
  by_cases al : mh_ali I a known day
  · have pt : mh_dpt I a known day = mh_dep I a known day := by unfold mh_dpt; rw [if_pos al]
    rw [pt]
    refine ⟨fun _ => ?_, fun c => absurd c (by omega)⟩
    refine pX12_mayBe hC hO hk ha (mh_JR_s hJ g1) hact hd (s1 al) (fun y => ?_) (fun y => ?_)
    · exact bX12_mayAt_20 ⟨Or.inr rfl, K 1 w1 g1 (Or.inr rfl) ⟨fun _ => ⟨al, y⟩, fun _ => rfl⟩⟩
    · exact bX12_mayAt_20 ⟨Or.inl rfl, K 0 w1 g1 (Or.inl rfl) ⟨fun z => absurd z (by decide), fun z => absurd z.2 y⟩⟩
  · have pt : mh_dpt I a known day = -1 := by unfold mh_dpt; rw [if_neg al]
    rw [pt]
    exact ⟨fun c => absurd rfl c, fun _ => K 0 w1 g1 (Or.inl rfl) ⟨fun z => absurd z (by decide), fun z => absurd z.1 al⟩⟩
/-- what the class's mourner leaves -/
def mh_sc (a a' : am_W) : Prop := (∀ t, t ∉ [6, 11, 154, 155] → a'.1 t = a.1 t) ∧ (∀ t, t ∉ [5, 48] → a'.2.1 t = a.2.1 t) ∧ a'.2.1 5 0 16 = a.2.1 5 0 16
theorem mh_sc_fc {a a' : am_W} (h : mh_sc a a') : mh_fc mh_t1 mh_l1 a a' := by
  refine ⟨fun t ht => h.1 t (fun c => ht ?_), fun t ht => h.2.1 t (fun c => ht ?_), h.2.2⟩
  · have : ∀ t, t ∈ [6, 11, 154, 155] → t ∈ mh_t1 := by decide
    exact this t c
  · have : ∀ t, t ∈ [5, 48] → t ∈ mh_l1 := by decide
    exact this t c
theorem mh_sc_tc {a a' : am_W} (h : mh_sc a a') : ∀ t, t ∉ mh_tc → a'.1 t = a.1 t := fun t ht => h.1 t (fun c => ht (by
  have : ∀ t, t ∈ [6, 11, 154, 155] → t ∈ mh_tc := by decide
  exact this t c))
theorem mh_sc_wL {a a' : am_W} (h : mh_sc a a') : mh_wL a.2.1 a' := ⟨fun t ht => h.2.1 t (by
  have : ∀ t, t ∈ [41, 42, 43] → t ∉ [5, 48] := by decide
  exact this t ht), h.2.2⟩
theorem mh_sc_n {a b c : am_W} (h : mh_sc a b) (g2 : c.2 = b.2) (g1 : ∀ t, t ∉ [6, 11] → c.1 t = b.1 t) : mh_sc a c := by
  refine ⟨fun t ht => (g1 t (fun x => ht ?_)).trans (h.1 t ht), ?_, ?_⟩
  · have : ∀ t, t ∈ [6, 11] → t ∈ [6, 11, 154, 155] := by decide
    exact this t x
  · rw [g2]; exact h.2.1
  · rw [g2]; exact h.2.2
theorem mh_fm_rn {b b' : am_W} (g : mh_fm mh_tn mh_fn b b') : mh_fm mh_t2 mh_f2 b b' ∧ (∀ t, t ∉ mh_tr → b'.1 t = b.1 t) ∧ b'.2.1 = b.2.1 := ⟨mh_fm_m g (by decide) (by decide), mh_fm_w g (by decide)⟩
theorem mh_E_st {a a' b b' : am_W} (e : mh_E a b) (h : mh_sc a a') (g : mh_fm mh_tn mh_fn b b') : mh_E a' b' := mh_E_s e (mh_sc_fc h) (mh_fm_rn g).1
/-- study, then a question -/
theorem pX4_study2 {d kc ks : Nat} {Q : Option am_V → am_W → Prop} {u : Nat} {known : Int} {a : am_W} (hC : mh_C a.1 a.2.1) (hk : known < 2147483647) (ha : (u : Int) < a.1 5 0 18)
    (K : ∀ w' : am_W, mh_sc a w' → (∃ t, -36524 ≤ t ∧ t ≤ -36524 ∧ mh_ML a.1 u known t w') → Q none w') : am_M (mh_G X) SC (d + 6) kc ks mX4_study [.inr (.inr (some (6, 0))), .inl (u : Int), .inl known] a Q :=
  pX4_study hC hk ha (fun w' g1 g2 g3 _ g5 => K w' ⟨g1, g2, g3⟩ ⟨-36524, Int.le_refl _, Int.le_refl _, g5⟩)
theorem qX_depth {x1 x2 x3 : Int} : mh_q SC X 7 mX11_depth [.inr (.inr (some (1, 0))), .inl x1, .inl x2, .inl x3] 12 mX12_depth [.inr (.inr (some (9, 0))), .inl x1, .inl x2, .inl x3] := by
  intro a b0 E d kc ks Q h
  have n1 := E.2.1.2
  have p1 := E.2.2.2.2.1.1
  have hC := mh_E_C E
  have hO := mh_E_Co E
  have no : ¬ ((0 ≤ x1 ∧ x1 < a.1 5 0 18) ∧ (-36524 ≤ x2 ∧ x2 ≤ 73047) ∧ -36524 ≤ x3 ∧ x3 ≤ a.1 1 0 12) → Q (some (.inl (-1))) a := by
    intro c
    refine h (-1) a (fun _ _ => rfl) ?_
    intro b e d' kc' ks' Q' k
    have K := k b e (fun _ _ => rfl) rfl
    have p2 := e.2.2.2.2.1.1.1
    have n2 := e.2.1.1
    refine am_M_of (by decide) (Nat.le_of_ble_eq_true rfl) ?_
    refine bX12_depth_0 ?_
    rw [p2, n2, am_w_id (by unfold am_rg; omega)]
    exact ⟨fun _ => K, fun c1 => ⟨fun _ => K, fun c2 => ⟨fun _ => K, fun c3 => absurd ⟨by omega, by omega, by omega, by omega⟩ c⟩⟩⟩
  refine am_M_of (by decide) (Nat.le_of_ble_eq_true rfl) ?_
  refine bX11_depth_0 ⟨fun c => no (by omega), fun c => ⟨fun c2 => no (by omega), fun c2 => ⟨fun c3 => ?_, fun c3 => no (by omega)⟩⟩⟩
  obtain ⟨u, rfl⟩ := mh_nat (z := x1) (by omega)
  refine pX4_study2 hC (by omega) (by omega) (fun w1 g1 m1 => ?_)
  refine bX11_depth_37 ?_
  obtain ⟨t, t0, t1, ml⟩ := m1
  refine pX4_depthOn hC hO (by omega) (by omega) (by omega) (mh_sc_wL g1) ⟨t, t0, by omega, ml⟩ (fun w2 k1 k2 k3 => ?_)
  have g2 := mh_sc_n g1 k1 k2
  refine bX11_depth_45 (h _ w2 (mh_sc_tc g2) ?_)
  intro b e d' kc' ks' Q' k
  have p2 := e.2.2.2.2.1.1.1
  have n2 := e.2.1.1
  refine am_M_of (by decide) (Nat.le_of_ble_eq_true rfl) ?_
  refine bX12_depth_0 ?_
  rw [p2, n2, am_w_id (by unfold am_rg; omega)]
  refine ⟨fun c => absurd ⟨by omega, by omega⟩ c, fun _ => ⟨fun c => absurd ⟨by omega, by omega⟩ c, fun _ => ⟨fun c => absurd ⟨by omega, by omega⟩ c, fun _ => ?_⟩⟩⟩
  refine pX12_depthAt hC hO (by omega) (by omega) (mh_E_JR e) (by omega) (fun w3 j1 j2 => ?_)
  obtain ⟨-, j3, j4⟩ := mh_fm_rn j1
  exact bX12_depth_30 (k w3 (mh_E_st e g2 j1) j3 j4)
theorem qX_may {x1 x2 x3 x4 : Int} : mh_q SC X 7 mX11_may [.inr (.inr (some (1, 0))), .inl x1, .inl x2, .inl x3, .inl x4] 13 mX12_may [.inr (.inr (some (9, 0))), .inl x1, .inl x2, .inl x3, .inl x4] := by
  intro a b0 E d kc ks Q h
  have n1 := E.2.1.2
  have p1 := E.2.2.2.2.1.1
  have hC := mh_E_C E
  have hO := mh_E_Co E
  have no : ¬ ((0 ≤ x1 ∧ x1 < a.1 5 0 18) ∧ (0 ≤ x2 ∧ x2 < 4) ∧ (-36524 ≤ x3 ∧ x3 ≤ 73047) ∧ -36524 ≤ x4 ∧ x4 ≤ a.1 1 0 12) → Q (some (.inl 0)) a := by
    intro c
    refine h 0 a (fun _ _ => rfl) ?_
    intro b e d' kc' ks' Q' k
    have K := k b e (fun _ _ => rfl) rfl
    have p2 := e.2.2.2.2.1.1.1
    have n2 := e.2.1.1
    refine am_M_of (by decide) (Nat.le_of_ble_eq_true rfl) ?_
    refine bX12_may_0 ?_
    rw [p2, n2, am_w_id (by unfold am_rg; omega)]
    exact ⟨fun _ => K, fun c1 => ⟨fun _ => K, fun c2 => ⟨fun _ => K, fun c3 => ⟨fun _ => K, fun c4 => absurd ⟨by omega, by omega, by omega, by omega, by omega⟩ c⟩⟩⟩⟩
  refine am_M_of (by decide) (Nat.le_of_ble_eq_true rfl) ?_
  refine bX11_may_0 ⟨fun c => no (by omega), fun c => ⟨fun c2 => no (by omega), fun c2 => ⟨fun c3 => no (by omega), fun c3 => ⟨fun c4 => ?_, fun c4 => no (by omega)⟩⟩⟩⟩
  obtain ⟨u, rfl⟩ := mh_nat (z := x1) (by omega)
  obtain ⟨act, rfl⟩ := mh_nat (z := x2) (by omega)
  refine pX4_study2 hC (by omega) (by omega) (fun w1 g1 m1 => ?_)
  refine bX11_may_46 ?_
  obtain ⟨t, t0, t1, ml⟩ := m1
  refine pX4_isAllowed hC hO (by omega) (by omega) (by omega) (by omega) (mh_sc_wL g1) ⟨t, t0, by omega, ml⟩ (fun v w2 k1 k2 k3 v1 v2 => ?_)
  have g2 := mh_sc_n g1 k1 k2
  refine bX11_may_55 ⟨v1, h _ w2 (mh_sc_tc g2) ?_⟩
  intro b e d' kc' ks' Q' k
  have p2 := e.2.2.2.2.1.1.1
  have n2 := e.2.1.1
  refine am_M_of (by decide) (Nat.le_of_ble_eq_true rfl) ?_
  refine bX12_may_0 ?_
  rw [p2, n2, am_w_id (by unfold am_rg; omega)]
  refine ⟨fun c => absurd ⟨by omega, by omega⟩ c, fun _ => ⟨fun c => absurd ⟨by omega, by omega⟩ c, fun _ => ⟨fun c => absurd ⟨by omega, by omega⟩ c, fun _ => ⟨fun c => absurd ⟨by omega, by omega⟩ c, fun _ => ?_⟩⟩⟩⟩
  refine pX12_mayAt hC hO (by omega) (by omega) (mh_E_JR e) (by omega) (by omega) (fun v' w3 j1 v1' v2' => ?_)
  obtain ⟨-, j3, j4⟩ := mh_fm_rn j1
  have K := k w3 (mh_E_st e g2 j1) j3 j4
  have vv : v = v' := by
    rcases v1 with z | z <;> rcases v1' with z' | z'
    · omega
    · have := v2.mpr (v2'.mp z'); omega
    · have := v2'.mpr (v2.mp z); omega
    · omega
  rw [vv] at K
  rcases v1' with z' | z'
  · rw [z'] at K ⊢; exact bX12_may_40 ⟨fun _ => K, fun c => absurd rfl c⟩
  · rw [z'] at K ⊢; exact bX12_may_40 ⟨fun c => absurd c (by decide), fun _ => K⟩
