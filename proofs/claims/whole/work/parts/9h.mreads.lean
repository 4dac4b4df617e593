-- the reference's feast, and a line whole
variable {SC : Nat → Nat} {X : mh_X} {r : Option am_I} {L : List (Nat × Nat)} {B : Nat → Int} {stop : Nat} {ln : Int}
theorem pX12_feast {d kc ks : Nat} {Q : Option am_V → am_W → Prop} {b : am_W} {fe : Nat} (hX : mh_st X r) (hR : tk_R L B stop ln 1 0 0 b) (h69 : b.1 69 0 6 = (fe : Int)) (hfe : fe ≤ 8)
    (K : ∀ (b' : am_W) (q : Int × Int) (j' : Nat), j' ≤ 100 → mh_fm [69, 85, 87] [2, 3, 4, 32] b b' → (∀ m, ¬ m = 6 → b'.1 69 0 m = b.1 69 0 m ∧ b'.1 85 m = b.1 85 m ∧ b'.1 87 m = b.1 87 m) → tk_R L B stop ln j' q.1 q.2 b' → tk_ff q (tk_cd L B j' = 46) j' 2 = tk_ch (tk_lf (tk_cd L B) (tk_vl L B) fe ++ [(tk_cd L B 6 = 46, 7, 2)]) →
      (q.2 = 0 → b'.1 69 0 6 = (fe : Int) + 1 ∧ (∀ i, b'.1 85 6 i = if i = fe then 100 * tk_vl L B 1 + tk_vl L B 3 else b.1 85 6 i) ∧ ∀ i, b'.1 87 6 i = if i = fe then tk_cd L B 5 - 12 else b.1 87 6 i) → Q none b') :
    am_M (mh_G X) SC (d + 9) kc ks mX12_feast [.inr (.inr (some (9, 0)))] b Q := by
  have keep : ∀ b' : am_W, mh_fm [] [2, 3, 4, 32] b b' → mh_fm [69, 85, 87] [2, 3, 4, 32] b b' ∧ (∀ m, ¬ m = 6 → b'.1 69 0 m = b.1 69 0 m ∧ b'.1 85 m = b.1 85 m ∧ b'.1 87 m = b.1 87 m) := fun b' f =>
    ⟨mh_fm_m f (by simp) (by simp), fun m _ => by rw [f.1 69 (by simp) (by decide), f.1 85 (by simp) (by decide), f.1 87 (by simp) (by decide)]; exact ⟨rfl, rfl, rfl⟩⟩
  refine am_M_of (by decide) (Nat.le_of_ble_eq_true rfl) ?_
  refine bX12_feast_0 ?_
  (try dsimp only); rw [h69]
  refine ⟨fun c => ?_, fun c => ?_⟩
  · have f8 : ¬ fe = 8 := by omega
    have start : tk_ch [(¬ fe = 8, (1 : Int), (6 : Int))] = (0, 0) := tk_ch_y f8
    have hR' : tk_R L B stop ln 1 (tk_ch [(¬ fe = 8, (1 : Int), (6 : Int))]).1 (tk_ch [(¬ fe = 8, (1 : Int), (6 : Int))]).2 b := by rw [start]; exact hR
    refine pX12_number (d := d + 6) hR' (by omega) ⟨by decide, by decide, by decide⟩ (fun b1 q1 v e1 hv hvr f1 R1 => bX12_feast_29 ?_)
    refine pX12_needss (d := d + 6) (s := 46) (cs := 45) R1 (by omega) (Or.inr (Or.inr (Or.inr ⟨rfl, rfl⟩))) (fun b2 q2 e2 f2 R2 => bX12_feast_36 ?_)
    have F2 := mh_fm_t f1 f2
    rw [tk_ch_f (by simp), tk_ch_f (by simp)] at e1
    subst e1
    rw [tk_ch_f (by simp)] at e2
    have e2' : q2 = tk_ch [(¬ fe = 8, 1, 6), (tk_cd L B 1 = 41, 2, 2), (1 ≤ tk_vl L B 1 ∧ tk_vl L B 1 ≤ 12, 2, 3), (tk_cd L B 2 = 45, 3, 2)] := e2
    (try dsimp only); rw [tk_fk R2]
    refine ⟨fun y => ?_, fun y => ?_⟩
    · have hz := y
      rw [e2', tk_ch_z (by simp)] at hz
      have g1 : tk_cd L B 1 = 41 := hz (tk_cd L B 1 = 41, 2, 2) (by simp)
      have g2 : 1 ≤ tk_vl L B 1 ∧ tk_vl L B 1 ≤ 12 := hz (1 ≤ tk_vl L B 1 ∧ tk_vl L B 1 ≤ 12, 2, 3) (by simp)
      have hv1 : v = tk_vl L B 1 := hv ⟨g1, g2⟩
      subst hv1
      have lb := tk_len_b (tk_vl L B 1)
      have go : am_A (mh_G X) SC (d + 9) mX12_feast Q 63 [(2, .inl (tk_vl L B 1)), (1, .inl (fe : Int)), (0, .inr (.inr (some (9, 0))))] [.inl (tk_len (tk_vl L B 1)), .inl 1, .inr (.inr (some (9, 0)))] b2 kc ks := by
        refine bX12_feast_63 (pX12_number (d := d + 6) R2 (by omega) ⟨by decide, lb.1, by omega⟩ (fun b3 q3 v3 e3 hv3 hvr3 f3 R3 => bX12_feast_66 ?_))
        refine pX12_needsw (d := d + 1) (c := 35) hX R3 (by omega) (by decide) (by decide) (by decide +kernel) (fun b4 q4 e4 f4 R4 => bX12_feast_74 ?_)
        refine pX12_needs (d := d) hX R4 (by omega) (by decide) (fun b5 q5 e5 f5 R5 => bX12_feast_82 ?_)
        have F5 := mh_fm_t (mh_fm_t (mh_fm_t F2 f3) f4) f5
        rw [tk_w1s] at e5
        subst e2
        rw [tk_ch_f (by simp), tk_ch_f (by simp)] at e3
        subst e3
        rw [tk_ch_f (by simp)] at e4
        subst e4
        rw [tk_ch_f (by simp)] at e5
        have e6 : q5 = tk_ch (tk_lf (tk_cd L B) (tk_vl L B) fe) := e5
        have e7 : tk_ff q5 (tk_cd L B 6 = 46) 6 2 = tk_ch (tk_lf (tk_cd L B) (tk_vl L B) fe ++ [(tk_cd L B 6 = 46, 7, 2)]) := by
          (try dsimp only); rw [e6, tk_ch_f (by unfold tk_lf; simp)]; rfl
        (try dsimp only); rw [tk_fk R5]
        refine ⟨fun y5 => ?_, fun y5 => K b5 q5 6 (by omega) (keep b5 F5).1 (keep b5 F5).2 R5 e7 (fun z => absurd z y5)⟩
        have hz5 := y5
        rw [e6, tk_ch_z (by unfold tk_lf; simp)] at hz5
        have h3 : tk_cd L B 3 = 41 := hz5 (tk_cd L B 3 = 41, 4, 2) (by unfold tk_lf; simp)
        have h4 : 1 ≤ tk_vl L B 3 ∧ tk_vl L B 3 ≤ tk_len (tk_vl L B 1) := hz5 (1 ≤ tk_vl L B 3 ∧ tk_vl L B 3 ≤ tk_len (tk_vl L B 1), 4, 3) (by unfold tk_lf; simp)
        have h5 := tk_wst (L := L) (B := B) (j := 5) (hz5 (tk_st (tk_cd L B 5), 6, 2) (by unfold tk_lf; simp))
        have v3e : v3 = tk_vl L B 3 := hv3 ⟨h3, h4⟩
        have g69 : b5.1 69 0 6 = (fe : Int) := by rw [F5.1 69 (by simp) (by decide)]; exact h69
        refine ⟨by omega, by omega, ?_⟩
        (try dsimp only); rw [v3e, am_w_id (z := 100 * tk_vl L B 1) (by unfold am_rg; omega), am_w_id (z := 100 * tk_vl L B 1 + tk_vl L B 3) (by unfold am_rg; omega), Int.toNat_natCast, g69, am_w_id (z := (fe : Int) + 1) (by unfold am_rg; omega)]
        refine K _ q5 6 (by omega) (mh_fma (b' := (_, _)) (mh_fma (b' := (_, _)) (mh_fma (keep b5 F5).1 (by decide) (by decide)) (by decide) (by decide)) (by decide) (by decide)) (fun m hm => ?_) (tk_R_r (tk_R_r (tk_R_r R5 (by decide) rfl) (by decide) rfl) (by decide) rfl) e7 (fun _ => ⟨(by (try dsimp only); rw [am_up_s]), fun i => ?_, fun i => ?_⟩)
        · obtain ⟨k1, k2, k3⟩ := (keep b5 F5).2 m hm
          dsimp only
          (try dsimp only); rw [am_up_k hm, am_up_t (by decide), am_up_t (by decide), am_up_t (by decide), am_up_t (by decide), am_up_j hm, am_up_t (by decide), am_up_j hm, am_up_t (by decide)]
          exact ⟨k1, k2, k3⟩
        · dsimp only
          (try dsimp only); rw [am_up_t (by decide), am_up_t (by decide), am_up_a, F5.1 85 (by simp) (by decide)]
        · dsimp only
          (try dsimp only); rw [am_up_t (by decide), am_up_a, am_up_t (by decide), F5.1 87 (by simp) (by decide)]
          by_cases z : i = fe
          · (try dsimp only); rw [if_pos z, if_pos z]; exact h5
          · (try dsimp only); rw [if_neg z, if_neg z]
      refine ⟨fun c2 => ?_, fun c2 => ?_⟩
      · refine sX12_lengthOf (d := d + 6) ?_
        have e : tk_len (tk_vl L B 1) = (if tk_vl L B 1 = 4 then 30 else if tk_vl L B 1 = 6 then 30 else if tk_vl L B 1 = 9 then 30 else if tk_vl L B 1 = 11 then 30 else 31) := by unfold tk_len; rw [if_neg c2]
        (try dsimp only); rw [if_neg c2, ← e]
        exact go
      · have e : tk_len (tk_vl L B 1) = 29 := by unfold tk_len; rw [if_pos c2]
        rw [e] at go
        exact am_sub [2, 1, 0] rfl go
    · refine K b2 q2 3 (by omega) (keep b2 F2).1 (keep b2 F2).2 R2 ?_ (fun z => absurd z y)
      (try dsimp only); rw [tk_ff_k y, e2']
      have hn := y
      rw [e2'] at hn
      unfold tk_lf
      by_cases a2 : tk_cd L B 1 = 41
      · by_cases a3 : 1 ≤ tk_vl L B 1 ∧ tk_vl L B 1 ≤ 12
        · by_cases a4 : tk_cd L B 2 = 45
          · refine absurd ?_ hn
            (try dsimp only); rw [tk_ch_y f8, tk_ch_y a2, tk_ch_y a3, tk_ch_y a4]; rfl
          · (try dsimp only); rw [tk_ch_y f8, tk_ch_y a2, tk_ch_y a3, tk_ch_n a4]
            simp only [List.cons_append]
            (try dsimp only); rw [tk_ch_y f8, tk_ch_y a2, tk_ch_y a3, tk_ch_n a4]
        · (try dsimp only); rw [tk_ch_y f8, tk_ch_y a2, tk_ch_n a3]
          simp only [List.cons_append]
          (try dsimp only); rw [tk_ch_y f8, tk_ch_y a2, tk_ch_n a3]
      · (try dsimp only); rw [tk_ch_y f8, tk_ch_n a2]
        simp only [List.cons_append]
        (try dsimp only); rw [tk_ch_y f8, tk_ch_n a2]
  · refine pX12_fault (d := d + 7) hR ⟨by omega, by omega⟩ (by decide) (fun b1 f1 R1 => ?_)
    rw [if_pos rfl, if_pos rfl] at R1
    refine bX12_feast_21 (K b1 (0 + 1, 6) 1 (by omega) (keep b1 f1).1 (keep b1 f1).2 R1 ?_ (fun z => absurd z (by show ¬ (6 : Int) = 0; decide)))
    (try dsimp only); rw [tk_ff_k (by show ¬ (6 : Int) = 0; decide)]
    unfold tk_lf
    simp only [List.cons_append]
    (try dsimp only); rw [tk_ch_n (by omega : ¬ ¬ fe = 8)]
    rfl
theorem pX12_r84 {d bc bs : Nat} {Q : Option am_V → am_W → Prop} {w : am_W} {q : Int × Int} {j : Nat} (hj : j ≤ 100) (hR : tk_R L B stop ln j q.1 q.2 w)
    (K : ∀ (b' : am_W), mh_fm [] [2, 3, 4, 32] w b' → tk_F ln (tk_ff q (tk_cd L B j = 46) j 2).1 (tk_ff q (tk_cd L B j = 46) j 2).2 b'.1 → Q none b') : am_A (mh_G X) SC (d + 11) mX12_reads Q 84 [(0, .inr (.inr (some (9, 0))))] [] w bc bs := by
  have a3 := hR.2.2.1
  refine bX12_reads_84a ?_
  (try dsimp only); rw [a3, tk_at hR]
  refine ⟨fun z => ?_, fun z => ?_⟩
  · have e : tk_cd L B j = 46 := tk_cd46.mpr (by omega)
    rw [tk_ff_y e] at K
    exact K w mh_fm_r hR.2.2.2.2.2
  · have e : ¬ tk_cd L B j = 46 := fun y => by have := tk_cd46.mp y; omega
    rw [tk_ff_n e] at K
    exact pX12_fault (d := d + 9) hR ⟨by omega, by omega⟩ (by decide) (fun b1 f1 R1 => bX12_reads_104a (K b1 f1 R1.2.2.2.2.2))
/-- a frame of a line: these tags, the tokens, the scratch -/
def tk_ls (ts : List Nat) (b b' : am_W) : Prop := mh_fm (93 :: 94 :: 95 :: ts) [2, 3, 4, 30, 32] b b'
theorem tk_ls_c {ts : List Nat} {b b1 b2 b3 : am_W} (h1 : mh_fm [93, 94, 95] [2, 3, 4, 30] b b1) (h2 : mh_fm ts [2, 3, 4, 32] b1 b2) (h3 : mh_fm [] [2, 3, 4, 32] b2 b3) : tk_ls ts b b3 :=
  mh_fm_t (mh_fm_t (mh_fm_m h1 (fun t ht => by simp at ht ⊢; omega) (by decide)) (mh_fm_m h2 (fun t ht => by simp; exact Or.inr (Or.inr (Or.inr ht))) (by decide))) (mh_fm_m h3 (by simp) (by decide))
theorem pX12_reads {d kc ks : Nat} {Q : Option am_V → am_W → Prop} {b : am_W} {start rr fe : Nat} (hX : mh_st X r) (hs : start ≤ stop ∧ stop ≤ 3000) (hB : ∀ i, (0 ≤ B i ∧ B i < 256) ∧ b.1 66 0 i = tk_sb (B i)) (hF : tk_F ln 0 0 b.1)
    (h68 : b.1 68 0 6 = (rr : Int)) (hr : rr ≤ 30) (h69 : b.1 69 0 6 = (fe : Int)) (hfe : fe ≤ 8) (hL : L = tk_l B stop (stop - start) start)
    (KF : tk_f B stop (stop - start) start → ∀ b', tk_ls [] b b' → tk_F ln (L.length + 1) 1 b'.1 → Q none b')
    (K0 : ¬ tk_f B stop (stop - start) start → L.length = 0 → ∀ b', tk_ls [] b b' → tk_F ln 0 0 b'.1 → Q none b')
    (KR : ¬ tk_f B stop (stop - start) start → tk_cd L B 0 = 30 → ∀ (b0 b1 b' : am_W), mh_fm [93, 94, 95] [2, 3, 4, 30, 32] b b0 → tk_fR rr b0 b1 → mh_fm [] [2, 3, 4, 32] b1 b' → tk_F ln (tk_ru (tk_cd L B) (tk_vl L B) rr).1 (tk_ru (tk_cd L B) (tk_vl L B) rr).2 b'.1 →
      ((tk_ru (tk_cd L B) (tk_vl L B) rr).2 = 0 → rr < 30 ∧ b'.1 68 0 6 = (rr : Int) + 1 ∧ tk_cw L B rr (tk_rn (tk_cd L B)) b' ∧ tk_cp L B rr (2 * tk_rn (tk_cd L B) + 1) (tk_rm (tk_cd L B) (tk_vl L B)) b' ∧ b'.1 75 6 rr = (tk_ro (tk_cd L B) (tk_vl L B)).2) → Q none b')
    (KE : ¬ tk_f B stop (stop - start) start → tk_cd L B 0 = 34 → ∀ (b' : am_W), tk_ls [69, 85, 87] b b' → (∀ m, ¬ m = 6 → b'.1 69 0 m = b.1 69 0 m ∧ b'.1 85 m = b.1 85 m ∧ b'.1 87 m = b.1 87 m) → tk_F ln (tk_ch (tk_lf (tk_cd L B) (tk_vl L B) fe ++ [(tk_cd L B 6 = 46, 7, 2)])).1 (tk_ch (tk_lf (tk_cd L B) (tk_vl L B) fe ++ [(tk_cd L B 6 = 46, 7, 2)])).2 b'.1 →
      ((tk_ch (tk_lf (tk_cd L B) (tk_vl L B) fe ++ [(tk_cd L B 6 = 46, 7, 2)])).2 = 0 → b'.1 69 0 6 = (fe : Int) + 1 ∧ (∀ i, b'.1 85 6 i = if i = fe then 100 * tk_vl L B 1 + tk_vl L B 3 else b.1 85 6 i) ∧ ∀ i, b'.1 87 6 i = if i = fe then tk_cd L B 5 - 12 else b.1 87 6 i) → Q none b')
    (KM : ¬ tk_f B stop (stop - start) start → tk_cd L B 0 = 32 → ∀ (b' : am_W), tk_ls [83] b b' → (∀ m, ¬ m = 6 → b'.1 83 m = b.1 83 m) → tk_F ln (tk_ch (tk_lm (tk_cd L B) (tk_vl L B) ++ [(tk_cd L B 4 = 46, 5, 2)])).1 (tk_ch (tk_lm (tk_cd L B) (tk_vl L B) ++ [(tk_cd L B 4 = 46, 5, 2)])).2 b'.1 →
      ((tk_ch (tk_lm (tk_cd L B) (tk_vl L B) ++ [(tk_cd L B 4 = 46, 5, 2)])).2 = 0 → ∀ i, b'.1 83 6 i = if i = (tk_cd L B 1 - 21).toNat then tk_cd L B 3 - 12 else b.1 83 6 i) → Q none b')
    (KH : ¬ tk_f B stop (stop - start) start → tk_cd L B 0 = 36 → ∀ (b' : am_W), tk_ls [88, 89] b b' → (∀ m, ¬ m = 6 → b'.1 88 0 m = b.1 88 0 m ∧ b'.1 89 0 m = b.1 89 0 m) → tk_F ln (tk_ch (tk_lh (tk_cd L B) (tk_vl L B) ++ [(tk_cd L B 5 = 46, 6, 2)])).1 (tk_ch (tk_lh (tk_cd L B) (tk_vl L B) ++ [(tk_cd L B 5 = 46, 6, 2)])).2 b'.1 →
      ((tk_ch (tk_lh (tk_cd L B) (tk_vl L B) ++ [(tk_cd L B 5 = 46, 6, 2)])).2 = 0 → b'.1 88 0 6 = tk_vl L B 1 ∧ b'.1 89 0 6 = tk_cd L B 4 - 12) → Q none b')
    (KU : ¬ tk_f B stop (stop - start) start → tk_cd L B 0 = 37 → ∀ (b' : am_W), tk_ls [90, 91] b b' → (∀ m, ¬ m = 6 → b'.1 90 0 m = b.1 90 0 m ∧ b'.1 91 0 m = b.1 91 0 m) → tk_F ln (tk_ch (tk_lu (tk_cd L B) (tk_vl L B) ++ [(tk_cd L B 4 = 46, 5, 2)])).1 (tk_ch (tk_lu (tk_cd L B) (tk_vl L B) ++ [(tk_cd L B 4 = 46, 5, 2)])).2 b'.1 →
      ((tk_ch (tk_lu (tk_cd L B) (tk_vl L B) ++ [(tk_cd L B 4 = 46, 5, 2)])).2 = 0 → b'.1 90 0 6 = tk_vl L B 1 ∧ b'.1 91 0 6 = tk_cd L B 3 - 12) → Q none b')
    (KW : ¬ tk_f B stop (stop - start) start → ¬ L.length = 0 → ¬ tk_cd L B 0 = 30 → ¬ tk_cd L B 0 = 34 → ¬ tk_cd L B 0 = 32 → ¬ tk_cd L B 0 = 36 → ¬ tk_cd L B 0 = 37 → ∀ (b' : am_W), tk_ls [92] b b' → (∀ m, ¬ m = 6 → b'.1 92 0 m = b.1 92 0 m) → tk_F ln (tk_ch (tk_lw (tk_cd L B) (tk_vl L B) ++ [(tk_cd L B 3 = 46, 4, 2)])).1 (tk_ch (tk_lw (tk_cd L B) (tk_vl L B) ++ [(tk_cd L B 3 = 46, 4, 2)])).2 b'.1 →
      ((tk_ch (tk_lw (tk_cd L B) (tk_vl L B) ++ [(tk_cd L B 3 = 46, 4, 2)])).2 = 0 → b'.1 92 0 6 = tk_cd L B 2 - 12) → Q none b') :
    am_M (mh_G X) SC (d + 11) kc ks mX12_reads [.inr (.inr (some (9, 0))), .inl (start : Int), .inl (stop : Int)] b Q := by
  have Lk := tk_l_ok (B := B) (stop := stop) (n := stop - start) (i := start)
  rw [← hL] at Lk
  refine am_M_of (by decide) (Nat.le_of_ble_eq_true rfl) ?_
  refine bX12_reads_0 (pX12_splits (d := d + 8) hs hB hF (fun b1 f1 a1 a2 => ?_))
  rw [← hL] at a1 a2
  refine bX12_reads_6 ?_
  by_cases F : tk_f B stop (stop - start) start
  · have t := a2 F
    (try dsimp only); rw [t.2.1]
    exact ⟨fun _ => KF F b1 (mh_fm_m f1 (by decide) (by decide)) t, fun z => absurd z (by decide)⟩
  obtain ⟨t30, tM, t0⟩ := a1 F
  (try dsimp only); rw [t0.2.1, t30]
  refine ⟨fun z => absurd rfl z, fun _ => ⟨fun z => ?_, fun z => K0 F (by omega) b1 (mh_fm_m f1 (by decide) (by decide)) t0⟩⟩
  have b66 : b1.1 66 = b.1 66 := f1.1 66 (by decide) (by decide)
  have f0 : mh_fm [] [2, 3, 4, 32] b1 (am_up b1.1 9 0 32 0, b1.2) := mh_fmf mh_fm_r (by decide)
  have f0' : mh_fm [93, 94, 95] [2, 3, 4, 30, 32] b (am_up b1.1 9 0 32 0, b1.2) := mh_fmf (mh_fm_m f1 (by decide) (by decide)) (by decide)
  have R0 : tk_R L B stop ln 0 0 0 (am_up b1.1 9 0 32 0, b1.2) := by
    refine ⟨⟨hs.2, Lk.1, by omega⟩, fun i => ⟨(hB i).1, ?_⟩, ?_, fun j hj => ?_, (by (try dsimp only); rw [am_up_s]; rfl), ?_⟩
    · rw [f0.1 66 (by simp) (by decide), b66]; exact (hB i).2
    · (try dsimp only); rw [am_up_k (by decide)]; exact t30
    · rw [f0.1 93 (by simp) (by decide), f0.1 94 (by simp) (by decide), f0.1 95 (by simp) (by decide)]; exact tM j hj
    · obtain ⟨u1, u2, u3⟩ := t0
      refine ⟨?_, ?_, fun y => absurd rfl y, fun _ => ?_⟩
      · (try dsimp only); rw [am_up_k (by decide)]; exact u1
      · (try dsimp only); rw [am_up_k (by decide)]; exact u2
      · dsimp only
        rw [am_up_k (by decide), am_up_k (by decide)]; exact u3.2 rfl
  obtain ⟨b0, hb0⟩ : ∃ b0 : am_W, b0 = (am_up b1.1 9 0 32 0, b1.2) := ⟨_, rfl⟩
  rw [← hb0] at R0 f0' ⊢
  have P : ∀ t, ¬ t = 93 → ¬ t = 94 → ¬ t = 95 → ¬ t = 9 → b0.1 t = b.1 t := fun t n1 n2 n3 n9 => f0'.1 t (by simp; exact ⟨n1, n2, n3⟩) n9
  have f1' : mh_fm [93, 94, 95] [2, 3, 4, 30] b b1 := f1
  refine pX12_isWord (d := d + 4) (c := 30) hX R0 (by decide) (by decide) (by decide +kernel) (fun v1 y1 z1 => bX12_reads_33 ⟨fun c1 => ?_, fun c1 => ?_⟩)
  · have n1 : ¬ tk_cd L B 0 = 30 := fun x => by have := z1.mpr x; omega
    refine pX12_isWord (d := d + 4) (c := 34) hX R0 (by decide) (by decide) (by decide +kernel) (fun v2 y2 z2 => bX12_reads_60 ⟨fun c2 => ?_, fun c2 => ?_⟩)
    · have n2 : ¬ tk_cd L B 0 = 34 := fun x => by have := z2.mpr x; omega
      have cmp : ∀ (ts : List Nat) (b2 b3 : am_W), mh_fm ts [2, 3, 4, 32] b0 b2 → mh_fm [] [2, 3, 4, 32] b2 b3 → tk_ls ts b b3 := fun ts b2 b3 h2 h3 =>
        mh_fm_t (mh_fm_t (mh_fm_m f0' (fun t ht => by simp at ht ⊢; omega) (by decide)) (mh_fm_m h2 (fun t ht => by simp; exact Or.inr (Or.inr (Or.inr ht))) (by decide))) (mh_fm_m h3 (by simp) (by decide))
      refine pX12_others (d := d + 1) hX R0 (fun w0 b2 q f2 o2 R2 e2 k2 => ?_) (fun w0 b2 q f2 o2 R2 e2 k2 => ?_) (fun w0 b2 q f2 o2 R2 e2 k2 => ?_) (fun m1 m2 m3 b2 q f2 o2 R2 e2 k2 => ?_)
      · refine am_sub [0] rfl (pX12_r84 (d := d) (by omega) R2 (fun b3 f3 t3 => ?_))
        have ec : tk_ff q (tk_cd L B 4 = 46) 4 2 = tk_ch (tk_lm (tk_cd L B) (tk_vl L B) ++ [(tk_cd L B 4 = 46, 5, 2)]) := by rw [e2, tk_ch_f (by unfold tk_lm; simp)]; rfl
        rw [show ((4 : Nat) : Int) = 4 from rfl, ec] at t3
        refine KM F w0 b3 (cmp _ b2 b3 f2 f3) (fun m hm => ?_) t3 (fun hz i => ?_)
        · (try dsimp only); rw [f3.1 83 (by simp) (by decide), o2 m hm, P 83 (by decide) (by decide) (by decide) (by decide)]
        · have q0 : q.2 = 0 := by
            apply Classical.byContradiction
            intro x
            rw [← ec, tk_ff_k x] at hz
            exact x hz
          (try dsimp only); rw [f3.1 83 (by simp) (by decide), k2 q0 i, P 83 (by decide) (by decide) (by decide) (by decide)]
      · refine am_sub [0] rfl (pX12_r84 (d := d) (by omega) R2 (fun b3 f3 t3 => ?_))
        have ec : tk_ff q (tk_cd L B 5 = 46) 5 2 = tk_ch (tk_lh (tk_cd L B) (tk_vl L B) ++ [(tk_cd L B 5 = 46, 6, 2)]) := by rw [e2, tk_ch_f (by unfold tk_lh; simp)]; rfl
        rw [show ((5 : Nat) : Int) = 5 from rfl, ec] at t3
        refine KH F w0 b3 (cmp _ b2 b3 f2 f3) (fun m hm => ?_) t3 (fun hz => ?_)
        · (try dsimp only); rw [f3.1 88 (by simp) (by decide), f3.1 89 (by simp) (by decide), (o2 m hm).1, (o2 m hm).2, P 88 (by decide) (by decide) (by decide) (by decide), P 89 (by decide) (by decide) (by decide) (by decide)]
          exact ⟨rfl, rfl⟩
        · have q0 : q.2 = 0 := by
            apply Classical.byContradiction
            intro x
            rw [← ec, tk_ff_k x] at hz
            exact x hz
          (try dsimp only); rw [f3.1 88 (by simp) (by decide), f3.1 89 (by simp) (by decide)]
          exact k2 q0
      · refine am_sub [0] rfl (pX12_r84 (d := d) (by omega) R2 (fun b3 f3 t3 => ?_))
        have ec : tk_ff q (tk_cd L B 4 = 46) 4 2 = tk_ch (tk_lu (tk_cd L B) (tk_vl L B) ++ [(tk_cd L B 4 = 46, 5, 2)]) := by rw [e2, tk_ch_f (by unfold tk_lu; simp)]; rfl
        rw [show ((4 : Nat) : Int) = 4 from rfl, ec] at t3
        refine KU F w0 b3 (cmp _ b2 b3 f2 f3) (fun m hm => ?_) t3 (fun hz => ?_)
        · (try dsimp only); rw [f3.1 90 (by simp) (by decide), f3.1 91 (by simp) (by decide), (o2 m hm).1, (o2 m hm).2, P 90 (by decide) (by decide) (by decide) (by decide), P 91 (by decide) (by decide) (by decide) (by decide)]
          exact ⟨rfl, rfl⟩
        · have q0 : q.2 = 0 := by
            apply Classical.byContradiction
            intro x
            rw [← ec, tk_ff_k x] at hz
            exact x hz
          (try dsimp only); rw [f3.1 90 (by simp) (by decide), f3.1 91 (by simp) (by decide)]
          exact k2 q0
      · refine am_sub [0] rfl (pX12_r84 (d := d) (by omega) R2 (fun b3 f3 t3 => ?_))
        have ec : tk_ff q (tk_cd L B 3 = 46) 3 2 = tk_ch (tk_lw (tk_cd L B) (tk_vl L B) ++ [(tk_cd L B 3 = 46, 4, 2)]) := by rw [e2, tk_ch_f (by unfold tk_lw; simp)]; rfl
        rw [show ((3 : Nat) : Int) = 3 from rfl, ec] at t3
        refine KW F (by omega) n1 n2 m1 m2 m3 b3 (cmp _ b2 b3 f2 f3) (fun m hm => ?_) t3 (fun hz => ?_)
        · (try dsimp only); rw [f3.1 92 (by simp) (by decide), o2 m hm, P 92 (by decide) (by decide) (by decide) (by decide)]
        · have q0 : q.2 = 0 := by
            apply Classical.byContradiction
            intro x
            rw [← ec, tk_ff_k x] at hz
            exact x hz
          (try dsimp only); rw [f3.1 92 (by simp) (by decide)]
          exact k2 q0
    · have w0 := z2.mp (by omega)
      (try dsimp only); rw [tk_at R0, am_w_id (z := ((0 : Nat) : Int) + 1) (by unfold am_rg; omega)]
      have f9 : mh_fm [] [2, 3, 4, 32] b0 (am_up b0.1 9 0 32 (((0 : Nat) : Int) + 1), b0.2) := mh_fmf mh_fm_r (by decide)
      have g69 : (am_up b0.1 9 0 32 (((0 : Nat) : Int) + 1)) 69 0 6 = (fe : Int) := by (try dsimp only); rw [am_up_t (by decide), P 69 (by decide) (by decide) (by decide) (by decide)]; exact h69
      refine pX12_feast (d := d + 1) hX (tk_R_at (j' := 1) R0 (by omega)) g69 hfe (fun b2 q j2 l2 f2 o2 R2 e2 k2 => bX12_reads_77 (pX12_r84 (d := d) l2 R2 (fun b3 f3 t3 => ?_)))
      rw [e2] at t3
      have P2 : ∀ t, ¬ t = 93 → ¬ t = 94 → ¬ t = 95 → ¬ t = 9 → (am_up b0.1 9 0 32 (((0 : Nat) : Int) + 1)) t = b.1 t := fun t n1 n2 n3 n9 => (am_up_t n9).trans (P t n1 n2 n3 n9)
      refine KE F w0 b3 (mh_fm_t (mh_fm_t (mh_fm_m (mh_fm_t (mh_fm_m f0' (fun t ht => ht) (by decide)) (mh_fm_m f9 (by simp) (by decide)) : mh_fm [93, 94, 95] [2, 3, 4, 30, 32] b _) (fun t ht => by simp at ht ⊢; omega) (by decide)) (mh_fm_m f2 (fun t ht => by simp at ht ⊢; omega) (by decide))) (mh_fm_m f3 (by simp) (by decide))) (fun m hm => ?_) t3 (fun hz => ?_)
      · obtain ⟨o3, o4, o5⟩ := o2 m hm
        (try dsimp only); rw [f3.1 69 (by simp) (by decide), f3.1 85 (by simp) (by decide), f3.1 87 (by simp) (by decide), o3, o4, o5]
        exact ⟨by rw [show (am_up b0.1 9 0 32 (((0 : Nat) : Int) + 1), b0.2).1 = am_up b0.1 9 0 32 (((0 : Nat) : Int) + 1) from rfl, P2 69 (by decide) (by decide) (by decide) (by decide)], by rw [show (am_up b0.1 9 0 32 (((0 : Nat) : Int) + 1), b0.2).1 = am_up b0.1 9 0 32 (((0 : Nat) : Int) + 1) from rfl, P2 85 (by decide) (by decide) (by decide) (by decide)], by rw [show (am_up b0.1 9 0 32 (((0 : Nat) : Int) + 1), b0.2).1 = am_up b0.1 9 0 32 (((0 : Nat) : Int) + 1) from rfl, P2 87 (by decide) (by decide) (by decide) (by decide)]⟩
      · have q0 : q.2 = 0 := by
          apply Classical.byContradiction
          intro x
          rw [← e2, tk_ff_k x] at hz
          exact x hz
        obtain ⟨k3, k4, k5⟩ := k2 q0
        refine ⟨?_, fun i => ?_, fun i => ?_⟩
        · (try dsimp only); rw [f3.1 69 (by simp) (by decide)]; exact k3
        · (try dsimp only); rw [f3.1 85 (by simp) (by decide), k4 i, show (am_up b0.1 9 0 32 (((0 : Nat) : Int) + 1), b0.2).1 = am_up b0.1 9 0 32 (((0 : Nat) : Int) + 1) from rfl, P2 85 (by decide) (by decide) (by decide) (by decide)]
        · (try dsimp only); rw [f3.1 87 (by simp) (by decide), k5 i, show (am_up b0.1 9 0 32 (((0 : Nat) : Int) + 1), b0.2).1 = am_up b0.1 9 0 32 (((0 : Nat) : Int) + 1) from rfl, P2 87 (by decide) (by decide) (by decide) (by decide)]
  · have w0 := z1.mp (by omega)
    (try dsimp only); rw [tk_at R0, am_w_id (z := ((0 : Nat) : Int) + 1) (by unfold am_rg; omega)]
    have g68 : (am_up b0.1 9 0 32 (((0 : Nat) : Int) + 1)) 68 0 6 = (rr : Int) := by (try dsimp only); rw [am_up_t (by decide), P 68 (by decide) (by decide) (by decide) (by decide)]; exact h68
    have f9 : mh_fm [93, 94, 95] [2, 3, 4, 30, 32] b (am_up b0.1 9 0 32 (((0 : Nat) : Int) + 1), b0.2) := mh_fmf f0' (by decide)
    refine pX12_rule (d := d) hX (tk_R_at (j' := 1) R0 (by omega)) g68 hr (fun b2 q j2 l2 f2 R2 e2 k2 => bX12_reads_50 (pX12_r84 (d := d) l2 R2 (fun b3 f3 t3 => ?_)))
    rw [e2] at t3
    refine KR F w0 _ b2 b3 f9 f2 f3 t3 (fun hz => ?_)
    obtain ⟨k3, k4, k5, k6, k7⟩ := k2 hz
    refine ⟨k3, ?_, tk_cw_f k5 (f3.1 71 (by simp) (by decide)) (f3.1 78 (by simp) (by decide)), tk_cp_f k6 (f3.1 73 (by simp) (by decide)) (f3.1 81 (by simp) (by decide)), ?_⟩
    · (try dsimp only); rw [f3.1 68 (by simp) (by decide)]; exact k4
    · (try dsimp only); rw [f3.1 75 (by simp) (by decide)]; exact k7
