-- isAllowed, edgeOn, lastDayFor of the class
variable {SC : Nat → Nat} {X : mh_X}
def mh_alw (I : Nat → Nat → Nat → Int) (a : Nat) (known : Int) (act : Nat) (day : Int) : Prop := mh_ali I a known day ∧ (mh_law I day known = -1 ∨ mh_dep I a known day ≤ I 153 (mh_law I day known).toNat act)
theorem mh_dep_b {I : Nat → Nat → Nat → Int} {L : Nat → Nat → Nat → Int64} {a : Nat} {known day : Int} (hC : mh_C I L) (hO : mh_Co I) (hk : known < 2147483647) (ha : (a : Int) < I 5 0 18) : 0 ≤ mh_dep I a known day ∧ mh_dep I a known day ≤ 4 := by
  obtain ⟨ok, -⟩ := mh_P_ok hC hk ha
  obtain ⟨J, R, RL, RN⟩ := hC
  obtain ⟨bd, bo⟩ := mh_df_b (I := I) (a := a) (known := known) (t := day) ok
  have cb := mh_cou_b hO (day := day) (known := known) (I 4 0 6).toNat (by have := hO.1; omega)
  have l6 := RL.1
  have key : (mh_law I day known = -1) ∨ (0 ≤ mh_cap I a known day ∧ 0 ≤ I 10 (mh_law I day known).toNat 15 ∧ I 10 (mh_law I day known).toNat 15 ≤ 4) := by
    by_cases c : mh_law I day known = -1
    · exact Or.inl c
    · refine Or.inr ?_
      have lb := mh_lw_b I day known (I 4 0 5).toNat
      have lb2 : mh_law I day known = -1 ∨ (0 ≤ mh_law I day known ∧ mh_law I day known < ((I 4 0 5).toNat : Int) ∧ I 10 (mh_law I day known).toNat 17 ≤ day ∧ I 10 (mh_law I day known).toNat 17 ≤ known) := lb
      have La := (RL.2 (mh_law I day known).toNat (by omega)).1
      obtain ⟨-, -, ⟨fe1, fe2⟩, -, hd1, -, hd3, ud1, -, ud3, -⟩ := La
      have fb := mh_fcap_b (I := I) (l := (mh_law I day known).toNat) (date := mh_date day % 10000) (fun k hk => (fe2 k hk).2.2.1) (I 10 (mh_law I day known).toNat 11).toNat (by omega)
      refine ⟨?_, ud3⟩
      unfold mh_cap
      rw [if_neg c]
      split <;> omega
  unfold mh_dep
  rcases key with c | ⟨c1, c2⟩
  · rw [if_neg (fun z => z.1 c)]
    unfold mh_cap
    rw [if_pos c]
    omega
  · split <;> omega
theorem pX4_isAllowed {d kc ks : Nat} {Q : Option am_V → am_W → Prop} {I : Nat → Nat → Nat → Int} {L : Nat → Nat → Nat → Int64} {a act : Nat} {known day : Int} {w : am_W} (hC : mh_C I L) (hO : mh_Co I) (hk : known < 2147483647) (ha : (a : Int) < I 5 0 18) (hact : act < 4) (hd : -36524 ≤ day ∧ day ≤ 73047) (hL : mh_wL L w)
    (hM : ∃ t, -36524 ≤ t ∧ t ≤ day ∧ mh_ML I a known t w)
    (K : ∀ (v : Int) (w' : am_W), w'.2 = w.2 → (∀ t, t ∉ [6, 11] → w'.1 t = w.1 t) → (∃ t, -36524 ≤ t ∧ t ≤ day ∧ mh_ML I a known t w') → (v = 0 ∨ v = 1) → (v = 1 ↔ mh_alw I a known act day) → Q (some (.inl v)) w') :
    am_M (mh_G X) SC (d + 6) kc ks mX4_isAllowed [.inr (.inr (some (6, 0))), .inl (act : Int), .inl day] w Q := by
  have db := mh_dep_b (a := a) (known := known) (day := day) hC hO hk ha
  refine am_M_of (by decide) (Nat.le_of_ble_eq_true rfl) ?_
  refine bX4_isAllowed_0 ?_
  refine pX4_depthOn hC hO hk ha hd hL hM (fun w2 k1 k2 k3 => ?_)
  have fin : ∀ v : Int, (v = 0 ∨ v = 1) → (v = 1 ↔ mh_alw I a known act day) → Q (some (.inl v)) w2 := fun v h1 h2 => K v w2 k1 k2 k3 h1 h2
  obtain ⟨t, t0, t1, ml⟩ := k3
  have wI := ml.1.1
  refine bX4_isAllowed_5 ?_
  by_cases al : mh_ali I a known day
  · have pt : mh_dpt I a known day = mh_dep I a known day := by unfold mh_dpt; rw [if_pos al]
    rw [pt]
    refine ⟨fun _ => ?_, fun c => absurd c (by omega)⟩
    rw [ml.1.2.2.2.1]
    obtain ⟨J, R, RL, RN⟩ := hC
    refine pX1_lawOn (by rw [wI 4 (by decide)]; exact RL.1.2) (fun z => ?_) (fun l hl hll => ?_)
    · rw [mh_law_e (mh_wI_ft wI)] at z
      exact bX4_isAllowed_25 (fin 1 (Or.inr rfl) ⟨fun _ => ⟨al, Or.inl z⟩, fun _ => rfl⟩)
    · rw [mh_law_e (mh_wI_ft wI)] at hl
      refine bX4_isAllowed_25a ⟨by omega, by omega, ?_⟩
      rw [Int.toNat_natCast, wI 153 (by decide)]
      refine ⟨fun c => fin 0 (Or.inl rfl) ⟨fun z => absurd z (by decide), fun z => ?_⟩, fun c => fin 1 (Or.inr rfl) ⟨fun _ => ⟨al, Or.inr ?_⟩, fun _ => rfl⟩⟩
      · rcases z.2 with y | y
        · omega
        · rw [hl, Int.toNat_natCast] at y
          omega
      · rw [hl, Int.toNat_natCast]; omega
  · have pt : mh_dpt I a known day = -1 := by unfold mh_dpt; rw [if_neg al]
    rw [pt]
    exact ⟨fun c => absurd rfl c, fun _ => fin 0 (Or.inl rfl) ⟨fun z => absurd z (by decide), fun z => absurd z.1 al⟩⟩
/-- is one new on the day -/
def mh_new (P : md_P) (day : Int) : Nat → Int
  | 0 => 0
  | k + 1 => if md_b P k ≤ day ∧ day < md_b P k + 30 then 2 else mh_new P day k
theorem mh_new_b (P : md_P) (day : Int) : ∀ n : Nat, (mh_new P day n = 0 ∨ mh_new P day n = 2)
  | 0 => Or.inl rfl
  | n + 1 => by
    have := mh_new_b P day n
    unfold mh_new
    split <;> omega
noncomputable def mh_edg (I : Nat → Nat → Nat → Int) (a : Nat) (known day : Int) : Int := if 0 < mh_dpt I a known day then mh_dpt I a known day * 2 + mh_new (mh_P I a known) day (md_n (mh_P I a known)) else mh_dpt I a known day
theorem mh_dpt_b {I : Nat → Nat → Nat → Int} {L : Nat → Nat → Nat → Int64} {a : Nat} {known day : Int} (hC : mh_C I L) (hO : mh_Co I) (hk : known < 2147483647) (ha : (a : Int) < I 5 0 18) : -1 ≤ mh_dpt I a known day ∧ mh_dpt I a known day ≤ 4 := by
  have := mh_dep_b (a := a) (known := known) (day := day) hC hO hk ha
  unfold mh_dpt
  split <;> omega
theorem pX4_edgeOn {d kc ks : Nat} {Q : Option am_V → am_W → Prop} {I : Nat → Nat → Nat → Int} {L : Nat → Nat → Nat → Int64} {a : Nat} {known day : Int} {w : am_W} (hC : mh_C I L) (hO : mh_Co I) (hk : known < 2147483647) (ha : (a : Int) < I 5 0 18) (hd : -36524 ≤ day ∧ day ≤ 73047) (hL : mh_wL L w)
    (hM : ∃ t, -36524 ≤ t ∧ t ≤ day ∧ mh_ML I a known t w)
    (K : ∀ (w' : am_W), w'.2 = w.2 → (∀ t, t ∉ [6, 11] → w'.1 t = w.1 t) → Q (some (.inl (mh_edg I a known day))) w') :
    am_M (mh_G X) SC (d + 6) kc ks mX4_edgeOn [.inr (.inr (some (6, 0))), .inl day] w Q := by
  have db := mh_dpt_b (a := a) (known := known) (day := day) hC hO hk ha
  obtain ⟨ok, -⟩ := mh_P_ok hC hk ha
  have n40 : md_n (mh_P I a known) ≤ (I 5 0 18).toNat := mh_dl_n
  have p40 : 0 ≤ I 5 0 18 ∧ I 5 0 18 ≤ 40 := by obtain ⟨J, R, -⟩ := hC; exact R.1.2
  refine am_M_of (by decide) (Nat.le_of_ble_eq_true rfl) ?_
  refine bX4_edgeOn_0 ?_
  refine pX4_depthOn hC hO hk ha hd hL hM (fun w2 k1 k2 k3 => ?_)
  have Kf := K w2 k1 k2
  unfold mh_edg at Kf
  obtain ⟨t, t0, t1, ml⟩ := k3
  have B : ∀ n e : Nat, n + e = md_n (mh_P I a known) → 0 < mh_dpt I a known day → am_A (mh_G X) SC (d + 6) mX4_edgeOn Q 17 [(0, .inr (.inr (some (6, 0)))), (1, .inl day), (2, .inl (mh_dpt I a known day)), (3, .inl (mh_new (mh_P I a known) day e)), (4, .inl (e : Int))] [] w2 kc ks := by
    intro n
    induction n with
    | zero =>
      intro e hn hp
      have nb := mh_new_b (mh_P I a known) day e
      refine bX4_edgeOn_17 ⟨fun _ => ?_, fun c => absurd c (show ¬ ¬ w2.1 6 0 3 ≤ (e : Int) by rw [ml.1.2.1]; omega)⟩
      rw [am_w_id (z := mh_dpt I a known day * 2) (by unfold am_rg; omega), am_w_id (by unfold am_rg; omega)]
      rw [if_pos hp] at Kf
      rw [show e = md_n (mh_P I a known) by omega]
      exact Kf
    | succ n ih =>
      intro e hn hp
      have he : e < md_n (mh_P I a known) := by omega
      have ms := (ml.1.2.2.2.2.2 e he).1
      have e1 : mh_new (mh_P I a known) day (e + 1) = if md_b (mh_P I a known) e ≤ day ∧ day < md_b (mh_P I a known) e + 30 then 2 else mh_new (mh_P I a known) day e := rfl
      have go : ∀ v, v = mh_new (mh_P I a known) day (e + 1) → am_A (mh_G X) SC (d + 6) mX4_edgeOn Q 55 [(0, .inr (.inr (some (6, 0)))), (1, .inl day), (2, .inl (mh_dpt I a known day)), (3, .inl v), (4, .inl (e : Int))] [] w2 kc ks := by
        intro v hv
        refine bX4_edgeOn_55 ?_
        rw [am_w_id (z := (e : Int) + 1) (by unfold am_rg; omega), hv]
        exact ih (e + 1) (by omega) hp
      have bb : md_b (mh_P I a known) e ≤ 1000000 := by
        have h := mh_D_m (I := I) (a := a) (known := known) he
        have dd := mh_dead hC hk ha (by omega) h.2
        show mh_eb I a known (mh_D I a known e) ≤ _
        unfold mh_eb
        split <;> omega
      have b0 := (ok e he).1
      refine bX4_edgeOn_17 ⟨fun c => absurd c (show ¬ w2.1 6 0 3 ≤ (e : Int) by rw [ml.1.2.1]; omega), fun _ => ⟨by omega, by omega, ?_⟩⟩
      rw [Int.toNat_natCast, ms.2.2.1, am_w_id (z := md_b (mh_P I a known) e + 30) (by unfold am_rg; omega)]
      refine ⟨fun c => go _ ?_, fun c => ⟨fun c2 => go _ ?_, fun c2 => go _ ?_⟩⟩
      · rw [e1, if_neg (by omega)]
      · rw [e1, if_neg (by omega)]
      · rw [e1, if_pos (by omega)]
  refine bX4_edgeOn_5 ⟨fun c => B (md_n (mh_P I a known)) 0 rfl c, fun c => ?_⟩
  rw [if_neg c] at Kf
  exact Kf
/-- v is the last day of entry e, as last answers it -/
def mh_lav (P : md_P) (e : Nat) (v : Int) : Prop :=
  (¬ md_S P 73048 e = -1 ∧ v = 73048) ∨ (∃ la, md_S P (la + 1) e = -1 ∧ md_b P e ≤ la + 1 ∧ (∀ s, s ≤ la → ¬ md_S P s e = -1) ∧ la ≤ 73047 ∧ v = (if la < md_b P e then -2147483648 else la))
theorem pX4_lastDayFor {d kc ks : Nat} {Q : Option am_V → am_W → Prop} {I : Nat → Nat → Nat → Int} {L : Nat → Nat → Nat → Int64} {a dd : Nat} {known : Int} {w : am_W} (hC : mh_C I L) (hk : known < 2147483647) (ha : (a : Int) < I 5 0 18) (hdd : (dd : Int) < I 5 0 18)
    (hM : ∃ t, -36524 ≤ t ∧ t ≤ 73048 ∧ mh_ML I a known t w)
    (K0 : ∀ (w' : am_W), w'.2 = w.2 → (∀ t, t ∉ [6, 11] → w'.1 t = w.1 t) → mh_rule I a dd known = -1 → Q (some (.inl (-2147483648))) w')
    (K1 : ∀ (v : Int) (w' : am_W) (e : Nat), w'.2 = w.2 → (∀ t, t ∉ [6, 11] → w'.1 t = w.1 t) → e < md_n (mh_P I a known) → mh_D I a known e = dd → mh_lav (mh_P I a known) e v → Q (some (.inl v)) w') :
    am_M (mh_G X) SC (d + 5) kc ks mX4_lastDayFor [.inr (.inr (some (6, 0))), .inl (dd : Int)] w Q := by
  obtain ⟨ok, -⟩ := mh_P_ok hC hk ha
  have n40 : md_n (mh_P I a known) ≤ (I 5 0 18).toNat := mh_dl_n
  have p40 : 0 ≤ I 5 0 18 ∧ I 5 0 18 ≤ 40 := by obtain ⟨J, R, -⟩ := hC; exact R.1.2
  refine am_M_of (by decide) (Nat.le_of_ble_eq_true rfl) ?_
  refine bX4_lastDayFor_0 ?_
  refine pX4_moveTo hC hk ha (by omega) hM (fun w2 k1 k2 k3 => ?_)
  obtain ⟨t, t0, t1, ml, tc⟩ := k3
  have B : ∀ n e : Nat, n + e = md_n (mh_P I a known) → (∀ e', e' < e → ¬ mh_D I a known e' = dd) → am_A (mh_G X) SC (d + 5) mX4_lastDayFor Q 8 [(0, .inr (.inr (some (6, 0)))), (1, .inl (dd : Int)), (2, .inl (e : Int))] [] w2 kc ks := by
    intro n
    induction n with
    | zero =>
      intro e hn h
      refine bX4_lastDayFor_8 ⟨fun _ => K0 w2 k1 k2 ?_, fun c => absurd c (show ¬ ¬ w2.1 6 0 3 ≤ (e : Int) by rw [ml.1.2.1]; omega)⟩
      refine Classical.byContradiction (fun c => ?_)
      have mem : dd ∈ mh_dl I a known (I 5 0 18).toNat := mh_dl_m.mpr ⟨by omega, c⟩
      obtain ⟨i, hi, he⟩ := List.mem_iff_getElem.mp mem
      refine h i (by show i < e; have : (mh_dl I a known (I 5 0 18).toNat).length = md_n (mh_P I a known) := rfl; omega) ?_
      unfold mh_D
      rw [List.getD_eq_getElem?_getD, List.getElem?_eq_getElem hi, Option.getD_some]
      exact he
    | succ n ih =>
      intro e hn h
      have he : e < md_n (mh_P I a known) := by omega
      obtain ⟨ms, dy⟩ := ml.1.2.2.2.2.2 e he
      have b0 := (ok e he).1
      refine bX4_lastDayFor_8 ⟨fun c => absurd c (show ¬ w2.1 6 0 3 ≤ (e : Int) by rw [ml.1.2.1]; omega), fun _ => ⟨by omega, by omega, ?_⟩⟩
      rw [Int.toNat_natCast, ms.2.1, ms.2.2.1]
      refine ⟨fun c => ?_, fun c => ?_⟩
      · rw [am_w_id (z := (e : Int) + 1) (by unfold am_rg; omega)]
        refine ih (e + 1) (by omega) (fun e' he' => ?_)
        by_cases z : e' = e
        · rw [z]; omega
        · exact h e' (by omega)
      · have De : mh_D I a known e = dd := by omega
        rcases dy with ⟨y1, y2, y3, y4, y5⟩ | ⟨y1, y2, y3, y4, y5, y6, y7⟩
        · have bb : md_b (mh_P I a known) e ≤ 1000000 := by
            have h := mh_D_m (I := I) (a := a) (known := known) he
            have dd := mh_dead hC hk ha (by omega) h.2
            show mh_eb I a known (mh_D I a known e) ≤ _
            unfold mh_eb
            split <;> omega
          rw [y5]
          refine ⟨fun _ => ?_, fun c2 => absurd c2 (by omega)⟩
          refine K1 _ w2 e k1 k2 he De (Or.inl ⟨?_, by omega⟩)
          have j := md_jump ok ml.2.1 (73048 - t).toNat (by omega) e he
          rw [show t + (((73048 - t).toNat : Nat) : Int) = 73048 by omega] at j
          have i0 := md_pts ok t he y3
          by_cases g : md_go (mh_P I a known) t e
          · rw [j.1 g]; omega
          · rw [j.2.1 g]; exact y3
        · refine ⟨fun c2 => K1 _ w2 e k1 k2 he De (Or.inr ⟨w2.1 11 e 8, y3, y4, y5, by omega, ?_⟩), fun c2 => K1 _ w2 e k1 k2 he De (Or.inr ⟨w2.1 11 e 8, y3, y4, y5, by omega, ?_⟩)⟩
          · rw [if_neg (by omega)]; omega
          · rw [if_pos (by omega)]
  exact bX4_lastDayFor_6 (B _ 0 rfl (fun e' he' => absurd he' (Nat.not_lt_zero e')))
