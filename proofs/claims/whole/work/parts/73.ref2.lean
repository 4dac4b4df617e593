-- the reference's mourner: enters, prepares
variable {SC : Nat → Nat} {X : mh_X}
/-- the other entries are left -/
def mh_or (J J' : Nat → Nat → Nat → Int) (e : Nat) : Prop := ∀ e', ¬ e' = e → (∀ t, t ∈ [114, 115, 116, 117, 118, 121] → J' t 0 e' = J t 0 e') ∧ J' 120 e' = J 120 e'
theorem mh_or_r {J : Nat → Nat → Nat → Int} {e : Nat} : mh_or J J e := fun _ _ => ⟨fun _ _ => rfl, rfl⟩
theorem mh_or_t {J J' J'' : Nat → Nat → Nat → Int} {e : Nat} (h : mh_or J J' e) (g : mh_or J' J'' e) : mh_or J J'' e := fun e' n => ⟨fun t ht => ((g e' n).1 t ht).trans ((h e' n).1 t ht), (g e' n).2.trans (h e' n).2⟩
theorem mh_or_u {J : Nat → Nat → Nat → Int} {t e : Nat} {v : Int} (h : ¬ 120 = t) : mh_or J (am_up J t 0 e v) e := fun e' n => ⟨fun t' _ => by
  by_cases c : t' = t
  · rw [c, am_up_k n]
  · rw [am_up_t c], by rw [am_up_t h]⟩
theorem mh_or_l {J : Nat → Nat → Nat → Int} {e i : Nat} {v : Int} : mh_or J (am_up J 120 e i v) e := fun e' n => ⟨fun t' ht => by
  rw [am_up_t (fun c => by rw [c] at ht; revert ht; decide)], by rw [am_up_j n]⟩
theorem mh_or_9 {J : Nat → Nat → Nat → Int} {e k : Nat} {v : Int} : mh_or J (am_up J 9 0 k v) e := fun e' n => ⟨fun t' ht => by
  rw [am_up_t (fun c => by rw [c] at ht; revert ht; decide)], by rw [am_up_t (by decide)]⟩
theorem mh_rs_o {I : Nat → Nat → Nat → Int} {a : Nat} {known : Int} {J J' : Nat → Nat → Nat → Int} {e e' : Nat} (h : mh_rs I a known J e') (o : mh_or J J' e) (n : ¬ e' = e) : mh_rs I a known J' e' := by
  obtain ⟨o1, o2⟩ := o e' n
  unfold mh_rs at *
  rw [o1 114 (by decide), o1 115 (by decide), o1 117 (by decide), o1 118 (by decide), o2]
  exact h
theorem mh_rg_o {P : md_P} {G G' : Nat → Int} {J J' : Nat → Nat → Nat → Int} {e e' : Nat} (h : mh_rg P G J e') (o : mh_or J J' e) (n : ¬ e' = e) (g : G' e' = G e') : mh_rg P G' J' e' := by
  obtain ⟨o1, o2⟩ := o e' n
  unfold mh_rg at *
  rw [o1 116 (by decide), o1 121 (by decide), g]
  exact h
theorem pX12_enters {d kc ks : Nat} {Q : Option am_V → am_W → Prop} {I : Nat → Nat → Nat → Int} {L : Nat → Nat → Nat → Int64} {a e : Nat} {known : Int} {w : am_W} (hC : mh_C I L) (hk : known < 2147483647) (ha : (a : Int) < I 5 0 18) (hJ : mh_JR I L w.1) (he : e < md_n (mh_P I a known))
    (c62 : w.1 9 0 62 = (e : Int))
    (K : ∀ w', mh_fm mh_tn [62] w w' → mh_or w.1 w'.1 e → w'.1 9 0 62 = (e : Int) + 1 → mh_rs I a known w'.1 e → mh_rg (mh_P I a known) (fun _ => 0) w'.1 e → Q none w') :
    am_M (mh_G X) SC (d + 9) kc ks mX12_enters [.inr (.inr (some (9, 0))), .inl (a : Int), .inl (mh_D I a known e : Int), .inl (mh_er I a known (mh_D I a known e) : Int), .inl known] w Q := by
  obtain ⟨ok, fsf⟩ := mh_P_ok hC hk ha
  obtain ⟨f1, ⟨f2, f3⟩, f4, f5, f6, f7⟩ := mh_entF hC hk ha hJ he
  obtain ⟨h1, h2⟩ := mh_D_m (I := I) (a := a) (known := known) he
  obtain ⟨⟨l1, l2⟩, ⟨r1, r2⟩, dd1, dd2, dd3, b1⟩ := mh_dead hC hk ha (by omega) h2
  have p40 := hJ.1.1.2
  have pd := hJ.1.2.2.1 (mh_D I a known e) f4
  have pa := hJ.1.2.2.1 a ha
  have nn : known < 2147483647 := hk
  have ed : w.1 102 0 (mh_D I a known e) = I 39 0 (mh_D I a known e) ∧ w.1 103 0 (mh_D I a known e) = I 40 0 (mh_D I a known e) := by omega
  have o := ok e he
  have op := mh_opt (v := mh_eo I a known (mh_D I a known e)) f7.2
  have be : md_b (mh_P I a known) e = mh_eb I a known (mh_D I a known e) := rfl
  -- the lengths
  have B : ∀ (n i : Nat) (w2 : am_W), n + i = md_np (mh_P I a known) e → mh_fm mh_tn [62] w w2 → mh_or w.1 w2.1 e → w2.1 9 0 62 = (e : Int) →
      (w2.1 114 0 e = (mh_D I a known e : Int) ∧ w2.1 115 0 e = md_b (mh_P I a known) e ∧ w2.1 117 0 e = (mh_er I a known (mh_D I a known e) : Int) ∧ w2.1 118 0 e = (mh_el I known (mh_D I a known e) : Int)) →
      (∀ i', i' < i → w2.1 120 e i' = mh_le I a known (mh_D I a known e) i') →
      am_A (mh_G X) SC (d + 9) mX12_enters Q 123 [(0, .inr (.inr (some (9, 0)))), (1, .inl (a : Int)), (3, .inl (mh_er I a known (mh_D I a known e) : Int)), (5, .inl (e : Int)), (6, .inl (mh_el I known (mh_D I a known e) : Int)), (7, .inl (mh_fs I a known (mh_D I a known e) i)), (8, .inl (i : Int))] [] w2 kc ks := by
    intro n
    induction n with
    | zero =>
      intro i w2 hi g1 g2 g3 g4 g5
      have e73 : w2.1 73 = w.1 73 := g1.1 73 (by decide) (by decide)
      refine bX12_enters_123 ⟨by omega, by omega, by omega, by omega, ?_⟩
      simp only [Int.toNat_natCast]
      rw [e73, f5, g3, am_w_id (z := (e : Int) + 1) (by unfold am_rg; omega)]
      refine ⟨fun _ => ⟨by omega, by omega, ?_⟩, fun c => absurd (show (md_np (mh_P I a known) e : Int) ≤ (i : Int) by omega) c⟩
      refine K _ (mh_fm_t g1 (mh_fm_f (mh_fm_v (mh_fm_v mh_fm_i (by decide) (by decide)) (by decide) (by decide)) (by decide))) (mh_or_t g2 (mh_or_t (mh_or_u (by decide)) (mh_or_t (mh_or_u (by decide)) mh_or_9))) (by simp only [am_up_s]) ?_ ?_
      · unfold mh_rs
        simp (disch := decide) only [am_up_t]
        exact ⟨g4.1, g4.2.1, g4.2.2.1, g4.2.2.2, fun i' hi' => g5 i' (by omega)⟩
      · unfold mh_rg
        simp (disch := decide) only [am_up_t, am_up_s]
        have tt := md_tot ok he 0 (by omega)
        exact ⟨by omega, Or.inr ⟨trivial, trivial, by omega⟩⟩
    | succ n ih =>
      intro i w2 hi g1 g2 g3 g4 g5
      obtain ⟨u1, u2, u3⟩ := fsf e he i (by omega)
      obtain ⟨q1, q2, q3⟩ := f6 i (by omega)
      have e73 : w2.1 73 = w.1 73 := g1.1 73 (by decide) (by decide)
      have e75 : w2.1 75 = w.1 75 := g1.1 75 (by decide) (by decide)
      have e81 : w2.1 81 = w.1 81 := g1.1 81 (by decide) (by decide)
      have e96 : w2.1 96 = w.1 96 := g1.1 96 (by decide) (by decide)
      refine bX12_enters_123 ⟨by omega, by omega, by omega, by omega, ?_⟩
      simp only [Int.toNat_natCast]
      rw [e73, e81, f5, am_w_id (z := 3 * (i : Int)) (by unfold am_rg; omega), am_w_id (z := 3 * (i : Int) + 1) (by unfold am_rg; omega), am_w_id (z := 3 * (i : Int) + 2) (by unfold am_rg; omega), show (3 * (i : Int) + 1).toNat = 3 * i + 1 by omega, show (3 * (i : Int) + 2).toNat = 3 * i + 2 by omega, q2.1]
      refine ⟨fun c => absurd c (by omega), fun _ => ⟨by omega, by omega, by omega, by omega, ?_⟩⟩
      refine pX12_reached (by omega) (by omega) (by omega) ?_
      rw [q3.1]
      have fe : mh_rc (mh_fs I a known (mh_D I a known e) i) (I 148 (mh_el I known (mh_D I a known e)) (mh_er I a known (mh_D I a known e) * 4 + i)) (I 149 (mh_el I known (mh_D I a known e)) (mh_er I a known (mh_D I a known e) * 4 + i)) = mh_fs I a known (mh_D I a known e) (i + 1) := rfl
      rw [fe]
      have nx : ∀ (w3 : am_W), mh_fm mh_tn [62] w2 w3 → mh_or w2.1 w3.1 e → w3.1 9 0 62 = (e : Int) → (∀ t, t ∈ [114, 115, 117, 118] → w3.1 t = w2.1 t) → (∀ i', ¬ i' = i → w3.1 120 e i' = w2.1 120 e i') → w3.1 120 e i = mh_le I a known (mh_D I a known e) i →
          am_A (mh_G X) SC (d + 9) mX12_enters Q 234 [(0, .inr (.inr (some (9, 0)))), (1, .inl (a : Int)), (3, .inl (mh_er I a known (mh_D I a known e) : Int)), (5, .inl (e : Int)), (6, .inl (mh_el I known (mh_D I a known e) : Int)), (8, .inl (i : Int)), (9, .inl (mh_fs I a known (mh_D I a known e) (i + 1)))] [] w3 kc ks := by
        intro w3 k1 k2 k3 k4 k5 k6
        refine bX12_enters_234 ?_
        rw [am_w_id (z := (i : Int) + 1) (by unfold am_rg; omega)]
        refine ih (i + 1) w3 (by omega) (mh_fm_t g1 k1) (mh_or_t g2 k2) k3 (by rw [k4 114 (by decide), k4 115 (by decide), k4 117 (by decide), k4 118 (by decide)]; exact g4) (fun i' hi' => ?_)
        by_cases z : i' = i
        · rw [z]; exact k6
        · rw [k5 i' z]; exact g5 i' (by omega)
      have one : mh_fs I a known (mh_D I a known e) (i + 1) - mh_fs I a known (mh_D I a known e) i = mh_le I a known (mh_D I a known e) i →
          am_A (mh_G X) SC (d + 9) mX12_enters Q 234 [(0, .inr (.inr (some (9, 0)))), (1, .inl (a : Int)), (3, .inl (mh_er I a known (mh_D I a known e) : Int)), (5, .inl (e : Int)), (6, .inl (mh_el I known (mh_D I a known e) : Int)), (8, .inl (i : Int)), (9, .inl (mh_fs I a known (mh_D I a known e) (i + 1)))] [] (am_up w2.1 120 e i (mh_fs I a known (mh_D I a known e) (i + 1) - mh_fs I a known (mh_D I a known e) i), w2.2) kc ks := by
        intro hz
        refine nx _ (mh_fm_v mh_fm_i (by decide) (by decide)) mh_or_l ?_ (fun t ht => ?_) (fun i' z => ?_) ?_
        · simp (disch := decide) only [am_up_t]; exact g3
        · exact am_up_t (fun c => by rw [c] at ht; revert ht; decide)
        · simp only [am_up_k z]
        · simp only [am_up_s]; exact hz
      refine bX12_enters_174 ⟨by omega, by omega, by omega, by omega, by omega, by omega, ?_⟩
      simp only [Int.toNat_natCast]
      rw [e96, e75, pa.1.1, f7.1, am_w_id (z := mh_fs I a known (mh_D I a known e) (i + 1) - mh_fs I a known (mh_D I a known e) i) (by unfold am_rg; omega), am_w_id (z := mh_fs I a known (mh_D I a known e) (i + 1) - mh_fs I a known (mh_D I a known e) i + 1) (by unfold am_rg; omega), Int.tdiv_eq_ediv_of_nonneg (by omega), am_w_id (by unfold am_rg; omega)]
      refine ⟨fun c => one ?_, fun c => ⟨by omega, by omega, by omega, by omega, fun c2 => one ?_, fun c2 => ?_⟩⟩
      · unfold mh_le
        rw [if_neg (fun z => c z.2)]
      · unfold mh_le
        rw [if_neg (fun z => by have := op.1.2.mp c2; omega)]
      · refine nx _ (mh_fm_v (mh_fm_v mh_fm_i (by decide) (by decide)) (by decide) (by decide)) (mh_or_t mh_or_l mh_or_l) ?_ (fun t ht => ?_) (fun i' z => ?_) ?_
        · simp (disch := decide) only [am_up_t]; exact g3
        · show am_up _ _ _ _ _ t = _
          rw [am_up_t (fun c => by rw [c] at ht; revert ht; decide), am_up_t (fun c => by rw [c] at ht; revert ht; decide)]
        · simp only [am_up_k z]
        · simp only [am_up_s]
          unfold mh_le
          rw [if_pos ⟨by have : ¬ mh_eo I a known (mh_D I a known e) % 2 = 0 := fun z => c2 (op.1.2.mpr z)
                         omega, c⟩]
  -- the beginning
  have A : ∀ (v : Int) (w2 : am_W), max v (I 37 0 a) = md_b (mh_P I a known) e → -36524 ≤ v → mh_fm mh_tn [62] w w2 → mh_or w.1 w2.1 e → w2.1 9 0 62 = (e : Int) →
      (w2.1 114 0 e = (mh_D I a known e : Int) ∧ w2.1 117 0 e = (mh_er I a known (mh_D I a known e) : Int) ∧ w2.1 118 0 e = (mh_el I known (mh_D I a known e) : Int)) →
      am_A (mh_G X) SC (d + 9) mX12_enters Q 81 [(0, .inr (.inr (some (9, 0)))), (1, .inl (a : Int)), (3, .inl (mh_er I a known (mh_D I a known e) : Int)), (5, .inl (e : Int)), (6, .inl (mh_el I known (mh_D I a known e) : Int))] [.inl v, .inl (e : Int), .inr (.inr (some (115, 0)))] w2 kc ks := by
    intro v w2 hv hv0 g1 g2 g3 g4
    have e100 : w2.1 100 = w.1 100 := g1.1 100 (by decide) (by decide)
    have fin : ∀ w3 : am_W, mh_fm mh_tn [62] w2 w3 → mh_or w2.1 w3.1 e → w3.1 9 0 62 = (e : Int) → (∀ t, t ∈ [114, 117, 118] → w3.1 t = w2.1 t) → w3.1 115 0 e = md_b (mh_P I a known) e →
        am_A (mh_G X) SC (d + 9) mX12_enters Q 111 [(0, .inr (.inr (some (9, 0)))), (1, .inl (a : Int)), (3, .inl (mh_er I a known (mh_D I a known e) : Int)), (5, .inl (e : Int)), (6, .inl (mh_el I known (mh_D I a known e) : Int))] [] w3 kc ks := by
      intro w3 k1 k2 k3 k4 k5
      refine bX12_enters_111 ⟨by omega, by omega, ?_⟩
      rw [Int.toNat_natCast, k5, be]
      exact B (md_np (mh_P I a known) e) 0 w3 rfl (mh_fm_t g1 k1) (mh_or_t g2 k2) k3 ⟨by rw [k4 114 (by decide)]; exact g4.1, k5, by rw [k4 117 (by decide)]; exact g4.2.1, by rw [k4 118 (by decide)]; exact g4.2.2⟩ (fun i' hi' => absurd hi' (Nat.not_lt_zero i'))
    refine bX12_enters_81 ⟨by omega, by omega, by omega, by omega, by omega, by omega, ?_⟩
    simp only [Int.toNat_natCast, am_up_s]
    rw [e100, pa.2.2.2.2.2.1.1]
    refine ⟨fun c => fin _ (mh_fm_v mh_fm_i (by decide) (by decide)) (mh_or_u (by decide)) ?_ (fun t ht => ?_) ?_, fun c => fin _ (mh_fm_v (mh_fm_v mh_fm_i (by decide) (by decide)) (by decide) (by decide)) (mh_or_t (mh_or_u (by decide)) (mh_or_u (by decide))) ?_ (fun t ht => ?_) ?_⟩
    · simp (disch := decide) only [am_up_t]; exact g3
    · exact am_up_t (fun c => by rw [c] at ht; revert ht; decide)
    · simp only [am_up_s]; omega
    · simp (disch := decide) only [am_up_t]; exact g3
    · show am_up _ _ _ _ _ t = _
      rw [am_up_t (fun c => by rw [c] at ht; revert ht; decide), am_up_t (fun c => by rw [c] at ht; revert ht; decide)]
    · simp only [am_up_s]; omega
  refine am_M_of (by decide) (Nat.le_of_ble_eq_true rfl) ?_
  refine bX12_enters_0 ⟨by omega, by omega, ?_⟩
  rw [Int.toNat_natCast, ed.1]
  refine pX12_lawOf hJ.2.1 ?_
  rw [l1]
  refine bX12_enters_18 ?_
  rw [c62]
  simp only [Int.toNat_natCast]
  rw [ed.1, ed.2, f7.1]
  have gw : mh_fm mh_tn [62] w (am_up (am_up (am_up w.1 114 0 e (mh_D I a known e : Int)) 118 0 e (mh_el I known (mh_D I a known e) : Int)) 117 0 e (mh_er I a known (mh_D I a known e) : Int), w.2) :=
    mh_fm_v (mh_fm_v (mh_fm_v mh_fm_i (by decide) (by decide)) (by decide) (by decide)) (by decide) (by decide)
  have go : mh_or w.1 (am_up (am_up (am_up w.1 114 0 e (mh_D I a known e : Int)) 118 0 e (mh_el I known (mh_D I a known e) : Int)) 117 0 e (mh_er I a known (mh_D I a known e) : Int)) e := mh_or_t (mh_or_u (by decide)) (mh_or_t (mh_or_u (by decide)) (mh_or_u (by decide)))
  refine ⟨by omega, by omega, by omega, by omega, by omega, by omega, fun c => ⟨by omega, by omega, A _ _ ?_ (by omega) gw go ?_ ?_⟩, fun c => ⟨by omega, by omega, A _ _ ?_ (by omega) gw go ?_ ?_⟩⟩
  · rw [be]; unfold mh_eb; rw [if_pos (op.2.2.2.2.mp c)]
  · simp (disch := decide) only [am_up_t]; exact c62
  · simp (disch := decide) only [am_up_t, am_up_s]; exact ⟨trivial, trivial, trivial⟩
  · rw [be]; unfold mh_eb; rw [if_neg (fun z => c (op.2.2.2.2.mpr z))]
  · simp (disch := decide) only [am_up_t]; exact c62
  · simp (disch := decide) only [am_up_t, am_up_s]; exact ⟨trivial, trivial, trivial⟩
