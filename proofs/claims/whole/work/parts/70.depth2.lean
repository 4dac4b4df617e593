-- depthOn, isAllowed of the class
variable {SC : Nat → Nat} {X : mh_X}
theorem md_mx_b {f : Nat → Int} : ∀ {n : Nat}, (∀ e, e < n → 0 ≤ f e ∧ f e ≤ 4) → 0 ≤ md_mx f n ∧ md_mx f n ≤ 4
  | 0, _ => by show (0 : Int) ≤ 0 ∧ (0 : Int) ≤ 4; omega
  | n + 1, h => by
    have := md_mx_b (f := f) (n := n) (fun e he => h e (by omega))
    have := h n (by omega)
    show 0 ≤ max _ _ ∧ max _ _ ≤ 4
    omega
theorem mh_df_b {I : Nat → Nat → Nat → Int} {a : Nat} {known t : Int} (ok : md_ok (mh_P I a known)) : (0 ≤ md_mx (mh_df I a known t) (md_n (mh_P I a known)) ∧ md_mx (mh_df I a known t) (md_n (mh_P I a known)) ≤ 4) ∧ (0 ≤ md_mx (mh_do2 I a known t) (md_n (mh_P I a known)) ∧ md_mx (mh_do2 I a known t) (md_n (mh_P I a known)) ≤ 4) := by
  refine ⟨md_mx_b (fun e he => ?_), md_mx_b (fun e he => ?_)⟩
  · have := md_d0 ok t he
    unfold mh_df
    split <;> omega
  · have := md_d0 ok t he
    unfold mh_do2
    split <;> omega
theorem mh_df_j {I : Nat → Nat → Nat → Int} {a : Nat} {known t c day : Int} (ok : md_ok (mh_P I a known)) (q : md_qu (mh_P I a known) t c) (h1 : t ≤ day) (h2 : day < c) :
    md_mx (mh_df I a known t) (md_n (mh_P I a known)) = md_mx (mh_df I a known day) (md_n (mh_P I a known)) ∧ md_mx (mh_do2 I a known t) (md_n (mh_P I a known)) = md_mx (mh_do2 I a known day) (md_n (mh_P I a known)) := by
  have j := fun e he => (md_jump ok q (day - t).toNat (by omega) e he).2.2
  rw [show t + (((day - t).toNat : Nat) : Int) = day by omega] at j
  refine ⟨md_mxc (fun e he => ?_), md_mxc (fun e he => ?_)⟩
  · unfold mh_df; rw [j e he]
  · unfold mh_do2; rw [j e he]
theorem mh_fcap_e {I I' : Nat → Nat → Nat → Int} (h : ∀ t, t ∈ mh_ft → I' t = I t) : mh_fcap I' = mh_fcap I := by
  funext l date n
  induction n with
  | zero => rfl
  | succ n ih => unfold mh_fcap; rw [ih, h 151 (by decide), h 152 (by decide)]
theorem mh_chi_e {I I' : Nat → Nat → Nat → Int} (h : ∀ t, t ∈ mh_ft → I' t = I t) : mh_chi I' = mh_chi I := by
  funext a lo day known n
  induction n with
  | zero => rfl
  | succ n ih => unfold mh_chi; rw [ih, h 35 (by decide), h 36 (by decide), h 37 (by decide), h 38 (by decide)]
theorem mh_fcap_b {I : Nat → Nat → Nat → Int} {l : Nat} {date : Int} (hq : ∀ k : Nat, (k : Int) < I 10 l 11 → 0 ≤ I 152 l k) : ∀ n : Nat, (n : Int) ≤ I 10 l 11 → 0 ≤ mh_fcap I l date n ∧ mh_fcap I l date n ≤ 4
  | 0, _ => by show (0 : Int) ≤ 4 ∧ (4 : Int) ≤ 4; omega
  | n + 1, hn => by
    have := mh_fcap_b hq (date := date) n (by omega)
    have := hq n (by omega)
    unfold mh_fcap
    split <;> omega
/-- the longs that the mourner leaves -/
def mh_wL (L : Nat → Nat → Nat → Int64) (w : am_W) : Prop := (∀ t, t ∈ [41, 42, 43] → w.2.1 t = L t) ∧ w.2.1 5 0 16 = L 5 0 16
theorem mh_fa_w {I : Nat → Nat → Nat → Int} {L : Nat → Nat → Nat → Int64} {w : am_W} (h : mh_fa I L) (hw : mh_wI I w) (hl : mh_wL L w) : mh_fa w.1 w.2.1 := by
  unfold mh_fa at *
  rw [hw 5 (by decide), hw 33 (by decide), hw 35 (by decide), hw 36 (by decide), hl.1 41 (by decide), hl.1 42 (by decide), hl.1 43 (by decide), hl.2]
  exact h
theorem mh_wI_s {I : Nat → Nat → Nat → Int} {w w' : am_W} (hw : mh_wI I w) (h : ∀ t, t ∉ [6, 11] → w'.1 t = w.1 t) : mh_wI I w' := fun t ht => (h t (fun c => ht (by
  have : ∀ t, t ∈ [6, 11] → t ∈ [6, 11, 154, 155] := by decide
  exact this t c))).trans (hw t ht)
theorem mh_dated {x : Int} (hx : -36524 ≤ x ∧ x ≤ 2000000) : 0 ≤ mh_date x ∧ mh_date x ≤ 100000000 := by
  obtain ⟨y, m, a, t⟩ := mh_dte hx
  unfold mh_date
  rw [mh_dyc t]
  obtain ⟨t1, t2, t3, t4⟩ := t
  have := mh_mlb y m
  show 0 ≤ 10000 * y + 100 * m + a ∧ 10000 * y + 100 * m + a ≤ 100000000
  omega
theorem pX4_depthOn {d kc ks : Nat} {Q : Option am_V → am_W → Prop} {I : Nat → Nat → Nat → Int} {L : Nat → Nat → Nat → Int64} {a : Nat} {known day : Int} {w : am_W} (hC : mh_C I L) (hO : mh_Co I) (hk : known < 2147483647) (ha : (a : Int) < I 5 0 18) (hd : -36524 ≤ day ∧ day ≤ 73047) (hL : mh_wL L w)
    (hM : ∃ t, -36524 ≤ t ∧ t ≤ day ∧ mh_ML I a known t w)
    (K : ∀ w' : am_W, w'.2 = w.2 → (∀ t, t ∉ [6, 11] → w'.1 t = w.1 t) → (∃ t, -36524 ≤ t ∧ t ≤ day ∧ mh_ML I a known t w') → Q (some (.inl (mh_dpt I a known day))) w') :
    am_M (mh_G X) SC (d + 5) kc ks mX4_depthOn [.inr (.inr (some (6, 0))), .inl day] w Q := by
  obtain ⟨ok, -⟩ := mh_P_ok hC hk ha
  have hC' := hC
  obtain ⟨J, R, RL, RN⟩ := hC
  have p40 := R.1.2
  have pa := R.2.2.1 a ha
  unfold mh_RN at RN
  have hM' := hM
  obtain ⟨t, t0, t1, ml⟩ := hM
  have wI := ml.1.1
  have a4 := ml.1.2.2.1
  have a5 := ml.1.2.2.2.1
  have W37 := wI 37 (by decide)
  have W38 := wI 38 (by decide)
  have W39 := wI 39 (by decide)
  have W40 := wI 40 (by decide)
  have dead : ¬ mh_ali I a known day → Q (some (.inl (-1))) w := by
    intro c
    have k := K w rfl (fun _ _ => rfl) hM'
    unfold mh_dpt at k
    rw [if_neg c] at k
    exact k
  have live : mh_ali I a known day → am_M (mh_G X) SC (d + 4) 0 0 mX4_moveTo [.inr (.inr (some (6, 0))), .inl day] w (fun r w1 => am_A (mh_G X) SC (d + 5) mX4_depthOn Q 87 [(2, .inl 0), (0, .inr (.inr (some (6, 0)))), (1, .inl day)] (r.toList ++ []) w1 kc ks) := by
    intro al
    have pt : mh_dpt I a known day = mh_dep I a known day := by unfold mh_dpt; rw [if_pos al]
    refine pX4_moveTo hC' hk ha (by omega) hM' (fun w2 k1 k2 k3 => ?_)
    obtain ⟨t, t0, t1, ml, tc⟩ := k3
    have wI2 := ml.1.1
    have b4 := ml.1.2.2.1
    have b5 := ml.1.2.2.2.1
    obtain ⟨e8, e9⟩ := mh_df_j ok ml.2.1 t1 tc
    have f8 : w2.1 6 0 8 = md_mx (mh_df I a known day) (md_n (mh_P I a known)) := ml.2.2.2.1.trans e8
    have f9 : w2.1 6 0 9 = md_mx (mh_do2 I a known day) (md_n (mh_P I a known)) := ml.2.2.2.2.1.trans e9
    obtain ⟨bd, bo⟩ := mh_df_b (I := I) (a := a) (known := known) (t := day) ok
    have cb := mh_cou_b hO (day := day) (known := known) (I 4 0 6).toNat (by have := hO.1; omega)
    have Kf : Q (some (.inl (mh_dep I a known day))) w2 := by
      have k := K w2 k1 k2 ⟨t, t0, t1, ml⟩
      rw [pt] at k
      exact k
    have W4 := wI2 4 (by decide)
    have W10 := wI2 10 (by decide)
    refine bX4_depthOn_87 ?_
    rw [b5]
    refine pX1_lawOn (by rw [W4]; exact RL.1.2) (fun z => ?_) (fun l hl hll => ?_)
    · rw [mh_law_e (mh_wI_ft wI2)] at z
      have ed : mh_dep I a known day = max (max (md_mx (mh_df I a known day) (md_n (mh_P I a known))) (md_mx (mh_do2 I a known day) (md_n (mh_P I a known)))) (mh_cou I day known (I 4 0 6).toNat) := by
        unfold mh_dep mh_cap
        rw [if_neg (fun y => y.1 z), if_pos z, Int.min_eq_left bo.2]
      rw [ed] at Kf
      refine bX4_depthOn_99 ?_
      refine am_M_of (by decide) (Nat.le_of_ble_eq_true rfl) ?_
      refine bX4_lightened_0n ?_
      rw [f8, f9]
      refine bX4_depthOn_110 ?_
      rw [b5]
      refine pX1_ordered hO (by omega) wI2 ?_
      refine bX4_depthOn_129 ⟨fun _ => Kf, fun _ => ?_⟩
      refine am_M_of (by decide) (Nat.le_of_ble_eq_true rfl) ?_
      refine bX4_isTooYoung_0n ?_
      exact bX4_depthOn_145 ⟨fun _ => Kf, fun c => absurd rfl c⟩
    · rw [mh_law_e (mh_wI_ft wI2)] at hl
      rw [W4] at hll
      have La := (RL.2 l hll).1
      obtain ⟨-, -, ⟨fe1, fe2⟩, -, hd1, -, hd3, ud1, -, ud3, -⟩ := La
      have nl : ¬ mh_law I day known = -1 := by omega
      have lt : (mh_law I day known).toNat = l := by omega
      have fq : ∀ k : Nat, (k : Int) < I 10 l 11 → 0 ≤ I 152 l k := fun k hk => (fe2 k hk).2.2.1
      have fb := mh_fcap_b (date := mh_date day % 10000) fq (I 10 l 11).toNat (by omega)
      have dtb := mh_dated (x := day) (by omega)
      have ecap : mh_cap I a known day = min (mh_fcap I l (mh_date day % 10000) (I 10 l 11).toNat) (if 0 < I 10 l 12 ∧ mh_chi I a (day - I 10 l 12 + 1) day known (I 5 0 18).toNat = 1 then min 4 (I 10 l 13) else 4) := by
        unfold mh_cap
        rw [if_neg nl, lt]
      have ed : mh_dep I a known day = (if 0 < I 10 l 14 ∧ day < mh_lat (I 37 0 a) (I 10 l 14 * 12) then
          min (max (max (md_mx (mh_df I a known day) (md_n (mh_P I a known))) (min (md_mx (mh_do2 I a known day) (md_n (mh_P I a known))) (mh_cap I a known day))) (mh_cou I day known (I 4 0 6).toNat)) (I 10 l 15)
          else max (max (md_mx (mh_df I a known day) (md_n (mh_P I a known))) (min (md_mx (mh_do2 I a known day) (md_n (mh_P I a known))) (mh_cap I a known day))) (mh_cou I day known (I 4 0 6).toNat)) := by
        unfold mh_dep
        rw [lt]
        by_cases y : 0 < I 10 l 14 ∧ day < mh_lat (I 37 0 a) (I 10 l 14 * 12)
        · rw [if_pos ⟨nl, y⟩, if_pos y]
        · rw [if_neg (fun z => y z.2), if_neg y]
      have light : ∀ v, v = min (md_mx (mh_do2 I a known day) (md_n (mh_P I a known))) (mh_cap I a known day) → am_A (mh_G X) SC (d + 5) mX4_depthOn Q 110 [(3, .inr (.inr (some (10, l)))), (2, .inl 0), (0, .inr (.inr (some (6, 0)))), (1, .inl day)] [.inl v, .inl (md_mx (mh_df I a known day) (md_n (mh_P I a known)))] w2 kc ks := by
        intro v hv
        refine bX4_depthOn_110a ?_
        rw [b5]
        refine pX1_ordered hO (by omega) wI2 ?_
        rw [← hv] at ed
        refine bX4_depthOn_129a ⟨fun c => ?_, fun c => ?_⟩
        · have : mh_dep I a known day = max (max (md_mx (mh_df I a known day) (md_n (mh_P I a known))) v) (mh_cou I day known (I 4 0 6).toNat) := by
            rw [ed]
            split
            · omega
            · rfl
          rw [this] at Kf
          exact Kf
        · refine am_M_of (by decide) (Nat.le_of_ble_eq_true rfl) ?_
          refine bX4_isTooYoung_0 ?_
          rw [W10, b4, Int.toNat_natCast, wI2 37 (by decide)]
          refine ⟨fun c2 => ?_, fun c2 => ⟨by omega, by omega, ?_⟩⟩
          · refine bX4_depthOn_145a ⟨fun _ => ?_, fun c => absurd rfl c⟩
            rw [if_neg (fun y => by omega)] at ed
            rw [ed] at Kf
            exact Kf
          · rw [am_w_id (z := I 10 l 14 * 12) (by unfold am_rg; omega)]
            refine pX0_later2 (by omega) (by omega) ?_
            refine bX4_isTooYoung_33 ⟨fun c3 => ?_, fun c3 => ?_⟩
            · refine bX4_depthOn_145a ⟨fun _ => ?_, fun c => absurd rfl c⟩
              rw [if_neg (fun y => by omega)] at ed
              rw [ed] at Kf
              exact Kf
            · refine bX4_depthOn_145a ⟨fun c => absurd c (by decide), fun _ => ?_⟩
              rw [W10]
              rw [if_pos (by omega)] at ed
              rw [ed] at Kf
              exact Kf
      refine bX4_depthOn_99a ?_
      refine am_M_of (by decide) (Nat.le_of_ble_eq_true rfl) ?_
      refine bX4_lightened_0 ?_
      rw [f8, f9]
      refine ⟨fun c => ?_, fun c => light _ ?_⟩
      · refine pX0_date2 (by omega) ?_
        refine bX4_lightened_25 ?_
        refine pX3_onFeasts (by rw [W10]; exact fe1.2) bo dtb (fun k hk => by rw [wI2 152 (by decide)]; rw [W10] at hk; exact fq k hk) ?_
        rw [mh_fcap_e (mh_wI_ft wI2), W10]
        refine bX4_lightened_28 ?_
        rw [W10]
        have hb : 0 ≤ I 10 l 13 ∧ I 10 l 13 ≤ 4 := hd3
        refine ⟨fun c2 => light _ ?_, fun c2 => ⟨fun c3 => light _ ?_, fun c3 => ?_⟩⟩
        · rw [ecap]
          split <;> omega
        · rw [ecap, if_neg (fun y => by omega)]
          omega
        · rw [b4, b5, am_w_id (z := day - I 10 l 12) (by unfold am_rg; omega), am_w_id (z := day - I 10 l 12 + 1) (by unfold am_rg; omega)]
          have hL2 : mh_wL L w2 := by
            unfold mh_wL at *
            rw [k1]; exact hL
          refine pX2_hasChild (mh_fa_w (mh_RK_fa R) wI2 hL2) (by rw [wI2 5 (by decide)]; exact ha) ?_
          rw [mh_chi_e (mh_wI_ft wI2), wI2 5 (by decide)]
          have cb2 := (mh_chi_b (I := I) (a := a) (lo := day - I 10 l 12 + 1) (day := day) (known := known) (n := (I 5 0 18).toNat)).1
          refine bX4_lightened_68 ⟨fun c4 => light _ ?_, fun c4 => ?_⟩
          · rw [ecap, if_neg (fun y => by omega)]
            omega
          · rw [W10]
            refine light _ ?_
            rw [ecap, if_pos ⟨by omega, by omega⟩]
            omega
      · have cb2 : 0 ≤ mh_cap I a known day := by
          rw [ecap]
          split <;> omega
        omega
  refine am_M_of (by decide) (Nat.le_of_ble_eq_true rfl) ?_
  refine bX4_depthOn_0 ?_
  rw [a4, a5, Int.toNat_natCast, W40, W39]
  have fin0 : ¬ (I 40 0 a ≤ known ∧ I 39 0 a < day) → am_A (mh_G X) SC (d + 5) mX4_depthOn Q 39 [(0, .inr (.inr (some (6, 0)))), (1, .inl day)] [] w kc ks := by
    intro c
    refine bX4_depthOn_39 (bX4_depthOn_40 ?_)
    rw [a4, a5, Int.toNat_natCast, W38, W37]
    refine ⟨by omega, by omega, fun c2 => dead (fun y => by have := y.1; omega), fun c2 => ⟨fun c3 => dead (fun y => by have := y.2.1; omega), fun c3 => ⟨fun _ => live ⟨by omega, by omega, c⟩, fun c4 => absurd rfl c4⟩⟩⟩
  refine ⟨by omega, by omega, fun c => fin0 (by omega), fun c => ⟨fun c2 => fin0 (by omega), fun c2 => ?_⟩⟩
  refine bX4_depthOn_40 ?_
  rw [a4, a5, Int.toNat_natCast, W38, W37]
  have nd : Q (some (.inl (-1))) w := dead (fun y => y.2.2 ⟨by omega, by omega⟩)
  exact ⟨by omega, by omega, fun _ => nd, fun _ => ⟨fun _ => nd, fun _ => ⟨fun c4 => absurd c4 (by decide), fun _ => nd⟩⟩⟩
