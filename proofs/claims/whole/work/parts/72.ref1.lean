-- the reference's mourner: entries
variable {SC : Nat → Nat} {X : mh_X}
def mh_tn : List Nat := [112, 113, 114, 115, 116, 117, 118, 119, 120, 121]
def mh_fn : List Nat := [62, 63, 64, 65, 66]
/-- people, laws and orders of the reference agree with the class's -/
def mh_JR (I : Nat → Nat → Nat → Int) (L : Nat → Nat → Nat → Int64) (J : Nat → Nat → Nat → Int) : Prop := mh_RK I L J ∧ mh_RL I J ∧ mh_RO I J
theorem mh_E_JR {a b : am_W} (e : mh_E a b) : mh_JR a.1 a.2.1 b.1 := ⟨e.2.2.2.2.1, e.2.2.2.1, e.2.2.2.2.2.1⟩
theorem mh_JR_s {I : Nat → Nat → Nat → Int} {L : Nat → Nat → Nat → Int64} {b b' : am_W} (h : mh_JR I L b.1) (g : mh_fm mh_tn mh_fn b b') : mh_JR I L b'.1 := by
  obtain ⟨h1, h2, h3⟩ := h
  have G : ∀ (l : List Nat), (∀ t, t ∈ l → t ∉ mh_tn ∧ ¬ t = 9) → ∀ t, t ∈ l → b'.1 t = b.1 t := fun l q t ht => g.1 t (q t ht).1 (q t ht).2
  have G9 : ∀ (l : List Nat), (∀ t, t ∈ l → t ∉ mh_fn) → ∀ t, t ∈ l → b'.1 9 0 t = b.1 9 0 t := fun l q t ht => g.2.1 t (q t ht)
  exact ⟨mh_RK_s h1 (Int.le_refl _) (fun _ _ => rfl) (fun _ _ => rfl) (fun _ _ => rfl) rfl (G _ (by decide)) (G9 _ (by decide)),
    mh_RL_s h2 (Int.le_refl _) rfl (fun _ _ => rfl) (G _ (by decide)) (g.2.1 21 (by decide)), mh_RO_s h3 rfl (fun _ _ => rfl) (G _ (by decide)) (g.2.1 52 (by decide))⟩
/-- what doesn't change of entry e of the reference -/
def mh_rs (I : Nat → Nat → Nat → Int) (a : Nat) (known : Int) (J : Nat → Nat → Nat → Int) (e : Nat) : Prop :=
  J 114 0 e = (mh_D I a known e : Int) ∧ J 115 0 e = md_b (mh_P I a known) e ∧ J 117 0 e = (mh_er I a known (mh_D I a known e) : Int) ∧ J 118 0 e = (mh_el I known (mh_D I a known e) : Int) ∧
  ∀ i, i < md_np (mh_P I a known) e → J 120 e i = mh_le I a known (mh_D I a known e) i
/-- how it stands: G e, or over -/
def mh_rg (P : md_P) (G : Nat → Int) (J : Nat → Nat → Nat → Int) (e : Nat) : Prop :=
  (0 ≤ J 116 0 e ∧ J 116 0 e ≤ 3000000) ∧ ((G e = -1 ∧ ((J 121 0 e = 0 ∨ J 121 0 e = 1) ∧ (J 121 0 e = 1 ∨ md_cu P e (md_np P e - 1) ≤ J 116 0 e))) ∨ (J 121 0 e = 0 ∧ G e = J 116 0 e ∧ J 116 0 e < md_cu P e (md_np P e - 1)))
/-- facts of entry e by name -/
theorem mh_entF {I J : Nat → Nat → Nat → Int} {L : Nat → Nat → Nat → Int64} {a e : Nat} {known : Int} (hC : mh_C I L) (hk : known < 2147483647) (ha : (a : Int) < I 5 0 18) (hJ : mh_JR I L J) (he : e < md_n (mh_P I a known)) :
    e < 40 ∧ (mh_el I known (mh_D I a known e) < 6 ∧ mh_er I a known (mh_D I a known e) < 30) ∧ (mh_D I a known e : Int) < I 5 0 18 ∧
    J 73 (mh_el I known (mh_D I a known e)) (mh_er I a known (mh_D I a known e)) = (md_np (mh_P I a known) e : Int) ∧
    (∀ i, i < md_np (mh_P I a known) e → J 81 (30 * mh_el I known (mh_D I a known e) + mh_er I a known (mh_D I a known e)) (3 * i) = md_de (mh_P I a known) e i ∧
      (J 81 (30 * mh_el I known (mh_D I a known e) + mh_er I a known (mh_D I a known e)) (3 * i + 1) = I 148 (mh_el I known (mh_D I a known e)) (mh_er I a known (mh_D I a known e) * 4 + i) ∧ 1 ≤ I 148 (mh_el I known (mh_D I a known e)) (mh_er I a known (mh_D I a known e) * 4 + i) ∧ I 148 (mh_el I known (mh_D I a known e)) (mh_er I a known (mh_D I a known e) * 4 + i) ≤ 999) ∧
      (J 81 (30 * mh_el I known (mh_D I a known e) + mh_er I a known (mh_D I a known e)) (3 * i + 2) + 17 = I 149 (mh_el I known (mh_D I a known e)) (mh_er I a known (mh_D I a known e) * 4 + i) ∧ 17 ≤ I 149 (mh_el I known (mh_D I a known e)) (mh_er I a known (mh_D I a known e) * 4 + i) ∧ I 149 (mh_el I known (mh_D I a known e)) (mh_er I a known (mh_D I a known e) * 4 + i) ≤ 20)) ∧
    (J 75 (mh_el I known (mh_D I a known e)) (mh_er I a known (mh_D I a known e)) = mh_eo I a known (mh_D I a known e) ∧ 0 ≤ mh_eo I a known (mh_D I a known e) ∧ mh_eo I a known (mh_D I a known e) ≤ 15) := by
  obtain ⟨h1, h2⟩ := mh_D_m (I := I) (a := a) (known := known) he
  obtain ⟨⟨l1, l2⟩, ⟨r1, r2⟩, -⟩ := mh_dead hC hk ha (by omega) h2
  obtain ⟨R, RL, RO⟩ := hJ
  have La := (RL.2 _ l2).1
  have Fr := La.2.1 _ r2
  have n40 : md_n (mh_P I a known) ≤ (I 5 0 18).toNat := mh_dl_n
  have p40 := R.1.2
  have l6 := RL.1.2
  have r30 := La.1
  have npe : (md_np (mh_P I a known) e : Int) = I 146 (mh_el I known (mh_D I a known e)) (mh_er I a known (mh_D I a known e)) := by
    show ((I 146 (mh_el I known (mh_D I a known e)) (mh_er I a known (mh_D I a known e))).toNat : Int) = _
    have := Fr.2.2.1
    omega
  refine ⟨by omega, ⟨by omega, by omega⟩, by omega, by rw [Fr.2.2.1.1, npe], fun i hi => ?_, Fr.2.2.2.2⟩
  have q := Fr.2.2.2.1 i (by omega)
  exact ⟨q.1.1, q.2.1, q.2.2⟩
theorem mh_csb {I : Nat → Nat → Nat → Int} {a e : Nat} {known : Int} (ok : md_ok (mh_P I a known)) (he : e < md_n (mh_P I a known)) {i : Nat} (hi : i ≤ md_np (mh_P I a known) e) : 0 ≤ mh_cs I a known (mh_D I a known e) i ∧ mh_cs I a known (mh_D I a known e) i ≤ 3000000 := by
  have o := ok e he
  by_cases z : i = 0
  · rw [z]; show (0 : Int) ≤ 0 ∧ (0 : Int) ≤ 3000000; omega
  · have t1 := md_tot ok he (i - 1) (by omega)
    have t2 := o.2.2.2.2.2 (i - 1) (by omega)
    have t3 : md_cu (mh_P I a known) e (i - 1) = mh_cs I a known (mh_D I a known e) (i - 1 + 1) := rfl
    rw [show i - 1 + 1 = i by omega] at t3
    omega
theorem pX12_depthOf {d kc ks : Nat} {Q : Option am_V → am_W → Prop} {I : Nat → Nat → Nat → Int} {L : Nat → Nat → Nat → Int64} {a e : Nat} {known day : Int} {G : Nat → Int} {w : am_W} (hC : mh_C I L) (hk : known < 2147483647) (ha : (a : Int) < I 5 0 18) (hJ : mh_JR I L w.1) (he : e < md_n (mh_P I a known))
    (hs : mh_rs I a known w.1 e) (hg : mh_rg (mh_P I a known) G w.1 e)
    (K : Q (some (.inl (md_d (mh_P I a known) day G e))) w) : am_M (mh_G X) SC (d + 1) kc ks mX12_depthOf [.inr (.inr (some (9, 0))), .inl (e : Int), .inl day] w Q := by
  obtain ⟨ok, fsf⟩ := mh_P_ok hC hk ha
  obtain ⟨f1, ⟨f2, f3⟩, f4, f5, f6, f7⟩ := mh_entF hC hk ha hJ he
  obtain ⟨s1, s2, s3, s4, s5⟩ := hs
  obtain ⟨g1, g2⟩ := hg
  have o := ok e he
  have zero : md_d (mh_P I a known) day G e = 0 → Q (some (.inl 0)) w := fun z => z ▸ K
  have B : ∀ n i : Nat, n + i = md_np (mh_P I a known) e → md_b (mh_P I a known) e ≤ day → w.1 121 0 e = 0 → (i = 0 ∨ mh_cs I a known (mh_D I a known e) i ≤ w.1 116 0 e) → am_A (mh_G X) SC (d + 1) mX12_depthOf Q 31 [(0, .inr (.inr (some (9, 0)))), (1, .inl (e : Int)), (3, .inl (w.1 116 0 e - mh_cs I a known (mh_D I a known e) i)), (4, .inl (i : Int))] [] w kc ks := by
    intro n
    induction n with
    | zero =>
      intro i hi hb hz hc
      refine bX12_depthOf_31 ⟨by omega, by omega, ?_⟩
      rw [Int.toNat_natCast, s3, s4, Int.toNat_natCast, Int.toNat_natCast, f5]
      refine ⟨by omega, by omega, by omega, by omega, fun _ => zero ?_, fun c => absurd (show (md_np (mh_P I a known) e : Int) ≤ (i : Int) by omega) c⟩
      unfold md_d
      refine if_pos (Or.inl ?_)
      rcases g2 with g2 | g2
      · exact g2.1
      · exfalso
        have hc := hc.resolve_left (by omega)
        have : md_cu (mh_P I a known) e (md_np (mh_P I a known) e - 1) = mh_cs I a known (mh_D I a known e) (md_np (mh_P I a known) e - 1 + 1) := rfl
        rw [show md_np (mh_P I a known) e - 1 + 1 = i by omega] at this
        omega
    | succ n ih =>
      intro i hi hb hz hc
      have lf := (fsf e he i (by omega)).2.2
      have cb := mh_csb ok he (i := i) (by omega)
      have c1 : mh_cs I a known (mh_D I a known e) (i + 1) = mh_cs I a known (mh_D I a known e) i + mh_le I a known (mh_D I a known e) i := rfl
      have cu : md_cu (mh_P I a known) e i = mh_cs I a known (mh_D I a known e) (i + 1) := rfl
      refine bX12_depthOf_31 ⟨by omega, by omega, ?_⟩
      simp only [Int.toNat_natCast]
      rw [s3, s4, Int.toNat_natCast, Int.toNat_natCast, f5, s5 i (by omega), am_w_id (z := 3 * (i : Int)) (by unfold am_rg; omega), show (3 * (i : Int)).toNat = 3 * i by omega, (f6 i (by omega)).1]
      refine ⟨by omega, by omega, by omega, by omega, fun c => absurd c (by omega), fun _ => ⟨by omega, by omega, fun c => ?_, fun c => ⟨by omega, by omega, ?_⟩⟩⟩
      · rw [am_w_id (z := w.1 116 0 e - mh_cs I a known (mh_D I a known e) i - mh_le I a known (mh_D I a known e) i) (by unfold am_rg; omega), am_w_id (z := (i : Int) + 1) (by unfold am_rg; omega),
          show w.1 116 0 e - mh_cs I a known (mh_D I a known e) i - mh_le I a known (mh_D I a known e) i = w.1 116 0 e - mh_cs I a known (mh_D I a known e) (i + 1) by omega]
        exact ih (i + 1) (by omega) hb hz (Or.inr (by omega))
      · have tt := md_tot ok he i (by omega)
        have ge : G e = w.1 116 0 e := by
          rcases g2 with g2 | g2
          · exfalso
            omega
          · exact g2.2.1
        have pt : md_pt (md_cu (mh_P I a known) e) (G e) (md_np (mh_P I a known) e) = i := md_pt_is o.2.2.2.1 (by omega) (by omega) (by
          by_cases z : i = 0
          · exact Or.inl z
          · have hc := hc.resolve_left z
            refine Or.inr ?_
            have : md_cu (mh_P I a known) e (i - 1) = mh_cs I a known (mh_D I a known e) (i - 1 + 1) := rfl
            rw [show i - 1 + 1 = i by omega] at this
            omega)
        have dv : md_d (mh_P I a known) day G e = md_de (mh_P I a known) e i := by
          unfold md_d md_dp
          rw [if_neg (by omega), pt]
        rw [dv] at K
        exact K
  refine am_M_of (by decide) (Nat.le_of_ble_eq_true rfl) ?_
  refine bX12_depthOf_0 ⟨by omega, by omega, ?_⟩
  simp only [Int.toNat_natCast]
  rw [s2]
  refine ⟨fun c => zero ?_, fun c => ⟨fun c2 => ?_, fun c2 => zero ?_⟩⟩
  · unfold md_d
    refine if_pos (Or.inl ?_)
    rcases g2 with g2 | g2
    · exact g2.1
    · exact absurd g2.1 c
  · have z := B (md_np (mh_P I a known) e) 0 rfl c2 c (Or.inl rfl)
    have e0 : w.1 116 0 e - mh_cs I a known (mh_D I a known e) 0 = w.1 116 0 e := by show w.1 116 0 e - 0 = _; omega
    rw [e0] at z
    exact z
  · unfold md_d
    exact if_pos (Or.inr (by omega))
theorem pX12_reached {d kc ks : Nat} {Q : Option am_V → am_W → Prop} {w : am_W} {day many u : Int} (hd : -36524 ≤ day ∧ day ≤ 1600000) (hm : 1 ≤ many ∧ many ≤ 999) (hu : 0 ≤ u ∧ u ≤ 3)
    (K : Q (some (.inl (mh_rc day many (u + 17)))) w) : am_M (mh_G X) SC (d + 8) kc ks mX12_reached [.inl day, .inl many, .inl u] w Q := by
  have e : ∀ z, z = mh_rc day many (u + 17) → Q (some (.inl z)) w := fun z hz => hz ▸ K
  refine am_M_of (by decide) (Nat.le_of_ble_eq_true rfl) ?_
  refine bX12_reached_0 ⟨fun c => ⟨fun c2 => ⟨fun c3 => ?_, fun c3 => ?_⟩, fun c2 => e _ ?_⟩, fun c => e _ ?_⟩
  · rw [am_w_id (by unfold am_rg; omega)]
    refine bX12_reached_34 ?_
    refine pX12_behind2 (by omega) (by omega) ?_
    refine bX12_reached_37 (e _ ?_)
    unfold mh_rc
    rw [if_neg (by omega), if_neg (by omega), if_neg (by omega), Int.mul_comm]
  · refine bX12_reached_34 ?_
    refine pX12_behind2 (by omega) (by omega) ?_
    refine bX12_reached_37 (e _ ?_)
    unfold mh_rc
    rw [if_neg (by omega), if_neg (by omega), if_pos (by omega)]
  · unfold mh_rc
    rw [if_neg (by omega), if_pos (by omega), am_w_id (z := 7 * many) (by unfold am_rg; omega), am_w_id (by unfold am_rg; omega), Int.mul_comm]
  · unfold mh_rc
    rw [if_pos (by omega), am_w_id (by unfold am_rg; omega)]
