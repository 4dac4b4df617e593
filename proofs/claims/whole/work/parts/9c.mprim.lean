-- the reference's primitives: faults, words, signs, numbers
variable {SC : Nat → Nat} {X : mh_X} {r : Option am_I} {L : List (Nat × Nat)} {B : Nat → Int} {stop : Nat} {ln : Int}
/-- a fault is told if none was: q (token, kind) -/
noncomputable def tk_ff (q : Int × Int) (P : Prop) (tok kind : Int) : Int × Int := if q.2 = 0 then @ite (Int × Int) P (Classical.propDecidable _) q (tok + 1, kind) else q
theorem tk_ff_y {q : Int × Int} {P : Prop} {tok kind : Int} (h : P) : tk_ff q P tok kind = q := by
  unfold tk_ff
  (try dsimp only); rw [if_pos h]
  split <;> rfl
theorem tk_ff_k {q : Int × Int} {P : Prop} {tok kind : Int} (h : ¬ q.2 = 0) : tk_ff q P tok kind = q := by
  unfold tk_ff
  (try dsimp only); rw [if_neg h]
theorem tk_ff_n {q : Int × Int} {P : Prop} {tok kind : Int} (h : ¬ P) : tk_ff q P tok kind = (if q.2 = 0 then tok + 1 else q.1, if q.2 = 0 then kind else q.2) := by
  unfold tk_ff
  by_cases z : q.2 = 0
  · (try dsimp only); rw [if_pos z, if_neg h, if_pos z, if_pos z]
  · (try dsimp only); rw [if_neg z, if_neg z, if_neg z]
theorem tk_R_at {j j' : Nat} {t k v : Int} {b : am_W} (h : tk_R L B stop ln j t k b) (hv : v = (j' : Int)) : tk_R L B stop ln j' t k (am_up b.1 9 0 32 v, b.2) := by
  refine tk_R_f h (mh_fmf mh_fm_r (by decide)) (by (try dsimp only); rw [am_up_s]; exact hv) ?_
  obtain ⟨-, -, -, -, -, f1, f2, f3⟩ := h
  unfold tk_F
  simp (disch := decide) only [am_up_k]
  exact ⟨f1, f2, f3⟩
theorem pX12_fault {d kc ks : Nat} {Q : Option am_V → am_W → Prop} {b : am_W} {j : Nat} {t k tok kind : Int} (hR : tk_R L B stop ln j t k b) (ht : 0 ≤ tok ∧ tok ≤ 4000) (hk : ¬ kind = 0)
    (K : ∀ b', mh_fm [] [2, 3, 4, 32] b b' → tk_R L B stop ln j (if k = 0 then tok + 1 else t) (if k = 0 then kind else k) b' → Q none b') : am_M (mh_G X) SC (d + 1) kc ks mX12_faults [.inr (.inr (some (9, 0))), .inl tok, .inl kind] b Q := by
  have hF := hR.2.2.2.2.2
  refine pX12_faults hF ht hk (fun b' f1 f2 => ?_)
  have f3 : mh_fm [] [2, 3, 4, 32] b b' := mh_fm_m f1 (by simp) (by decide)
  exact K b' f3 (tk_R_f hR f3 ((f1.2.1 32 (by decide)).trans hR.2.2.2.2.1) f2)
theorem tk_at {j : Nat} {t k : Int} {b : am_W} (hR : tk_R L B stop ln j t k b) : b.1 9 0 32 = (j : Int) := hR.2.2.2.2.1
theorem tk_wo_i {j a : Nat} : (¬ tk_wo L B j a = -1) ↔ ((tk_ba a : Int) ≤ tk_cd L B j ∧ tk_cd L B j < (tk_ba a + tk_bn a : Nat)) := by
  unfold tk_wo
  split <;> omega
theorem pX12_needs {d kc ks : Nat} {Q : Option am_V → am_W → Prop} {b : am_W} {j a : Nat} {q : Int × Int} (hX : mh_st X r) (hR : tk_R L B stop ln j q.1 q.2 b) (hj : j ≤ 3900) (ha : a < 5)
    (K : ∀ (b' : am_W) (q' : Int × Int), q' = tk_ff q ((tk_ba a : Int) ≤ tk_cd L B j ∧ tk_cd L B j < (tk_ba a + tk_bn a : Nat)) j 2 → mh_fm [] [2, 3, 4, 32] b b' → tk_R L B stop ln (j + 1) q'.1 q'.2 b' → Q (some (.inl (tk_wo L B j a))) b') : am_M (mh_G X) SC (d + 8) kc ks mX12_needs [.inr (.inr (some (9, 0))), .inr (.inr (some (19, a)))] b Q := by
  refine am_M_of (by decide) (Nat.le_of_ble_eq_true rfl) ?_
  refine bX12_needs_0 (pX12_wordOf hX hR ha ?_)
  refine bX12_needs_5 ⟨fun c => ?_, fun c => ?_⟩
  · refine bX12_needs_20 (K _ q (tk_ff_y (tk_wo_i.mp c)).symm (mh_fmf mh_fm_r (by decide)) (tk_R_at hR ?_))
    (try dsimp only); rw [tk_at hR, am_w_id (z := (j : Int) + 1) (by unfold am_rg; omega)]; rfl
  · (try dsimp only); rw [tk_at hR]
    refine pX12_fault (d := d + 6) hR ⟨by omega, by omega⟩ (by decide) (fun b' f1 R1 => ?_)
    refine bX12_needs_20a (K _ (if q.2 = 0 then (j : Int) + 1 else q.1, if q.2 = 0 then 2 else q.2) (tk_ff_n (fun z => tk_wo_i.mpr z c)).symm (mh_fmf f1 (by decide)) (tk_R_at R1 ?_))
    (try dsimp only); rw [tk_at R1, am_w_id (z := (j : Int) + 1) (by unfold am_rg; omega)]; rfl
theorem pX12_needsw {d kc ks : Nat} {Q : Option am_V → am_W → Prop} {b : am_W} {j sid c : Nat} {q : Int × Int} (hX : mh_st X r) (hR : tk_R L B stop ln j q.1 q.2 b) (hj : j ≤ 3900) (hs : sid < 91) (hc : c < 40) (hsc : mh_tx.getD sid [] = mh_tx.getD c [])
    (K : ∀ (b' : am_W) (q' : Int × Int), q' = tk_ff q (tk_cd L B j = (c : Int)) j 2 → mh_fm [] [2, 3, 4, 32] b b' → tk_R L B stop ln (j + 1) q'.1 q'.2 b' → Q none b') : am_M (mh_G X) SC (d + 7) kc ks mX12_needs_ [.inr (.inr (some (9, 0))), .inr (.inr (some (1000, sid)))] b Q := by
  refine am_M_of (by decide) (Nat.le_of_ble_eq_true rfl) ?_
  refine bX12_needs__0 (pX12_isWord hX hR hs hc hsc (fun v v1 v2 => ?_))
  refine bX12_needs__5 ⟨fun z => ?_, fun z => ?_⟩
  · refine K _ q (tk_ff_y (v2.mp (by omega))).symm (mh_fmf mh_fm_r (by decide)) (tk_R_at hR ?_)
    (try dsimp only); rw [tk_at hR, am_w_id (z := (j : Int) + 1) (by unfold am_rg; omega)]; rfl
  · (try dsimp only); rw [tk_at hR]
    refine pX12_fault (d := d + 5) hR ⟨by omega, by omega⟩ (by decide) (fun b' f1 R1 => ?_)
    refine bX12_needs__17 (K _ (if q.2 = 0 then (j : Int) + 1 else q.1, if q.2 = 0 then 2 else q.2) (tk_ff_n (fun y => by have := v2.mpr y; omega)).symm (mh_fmf f1 (by decide)) (tk_R_at R1 ?_))
    (try dsimp only); rw [tk_at R1, am_w_id (z := (j : Int) + 1) (by unfold am_rg; omega)]; rfl
theorem tk_c46 {B : Nat → Int} {b e : Nat} : ¬ tk_c B b e = 46 := by
  have := tk_w_b (B := B) (b := b) (e := e) (n := 40) (k := 0) rfl
  unfold tk_c
  split
  · omega
  split
  · omega
  split
  · omega
  split
  · omega
  split
  · omega
  split <;> omega
theorem tk_cd46 {j : Nat} : tk_cd L B j = 46 ↔ L.length ≤ j := by
  unfold tk_cd
  by_cases h : j < L.length
  · (try dsimp only); rw [if_pos h]
    exact ⟨fun z => absurd z tk_c46, fun z => by omega⟩
  · (try dsimp only); rw [if_neg h]
    exact ⟨fun _ => by omega, fun _ => rfl⟩
theorem tk_sg0 {B : Nat → Int} {b e : Nat} {s cs : Int} (hs : (s = 58 ∧ cs = 42) ∨ (s = 44 ∧ cs = 43) ∨ (s = 59 ∧ cs = 44) ∨ (s = 46 ∧ cs = 45)) : tk_kd (B b) = s ↔ tk_c B b e = cs := by
  have := tk_w_b (B := B) (b := b) (e := e) (n := 40) (k := 0) rfl
  unfold tk_kd tk_c
  by_cases l : tk_lt (B b)
  · (try dsimp only); rw [if_pos l, if_pos l]; omega
  (try dsimp only); rw [if_neg l, if_neg l]
  by_cases g : tk_dg (B b)
  · (try dsimp only); rw [if_pos g, if_pos g]; omega
  (try dsimp only); rw [if_neg g, if_neg g]
  split
  · omega
  split
  · omega
  split
  · omega
  split <;> omega
theorem tk_sg {j : Nat} {t k s cs : Int} {b : am_W} (hR : tk_R L B stop ln j t k b) (hs : (s = 58 ∧ cs = 42) ∨ (s = 44 ∧ cs = 43) ∨ (s = 59 ∧ cs = 44) ∨ (s = 46 ∧ cs = 45)) :
    (¬ (b.1 9 0 30) ≤ (b.1 9 0 32) ∧ ((b.1 95 0 (b.1 9 0 32).toNat) = s)) ↔ tk_cd L B j = cs := by
  obtain ⟨-, -, a3, a4, a5, -⟩ := hR
  (try dsimp only); rw [a3, a5, Int.toNat_natCast]
  unfold tk_cd
  by_cases h : j < L.length
  · (try dsimp only); rw [if_pos h, (a4 j h).2.2, tk_sg0 hs]
    exact ⟨fun z => z.2, fun z => ⟨by omega, z⟩⟩
  · (try dsimp only); rw [if_neg h]
    exact ⟨fun z => absurd z.1 (by omega), fun z => by omega⟩
theorem tk_o1 {j : Nat} {t k : Int} {b : am_W} (hR : tk_R L B stop ln j t k b) : (¬ (b.1 9 0 30) ≤ (b.1 9 0 32) → 0 ≤ (b.1 9 0 32)) ∧ (¬ (b.1 9 0 30) ≤ (b.1 9 0 32) → (b.1 9 0 32) < 3000) := by
  obtain ⟨⟨-, -, a9⟩, -, a3, -, a5, -⟩ := hR
  (try dsimp only); rw [a3, a5]
  exact ⟨fun _ => by omega, fun _ => by omega⟩
theorem pX12_needss {d kc ks : Nat} {Q : Option am_V → am_W → Prop} {b : am_W} {j : Nat} {q : Int × Int} {s cs : Int} (hR : tk_R L B stop ln j q.1 q.2 b) (hj : j ≤ 3900) (hs : (s = 58 ∧ cs = 42) ∨ (s = 44 ∧ cs = 43) ∨ (s = 59 ∧ cs = 44) ∨ (s = 46 ∧ cs = 45))
    (K : ∀ (b' : am_W) (q' : Int × Int), q' = tk_ff q (tk_cd L B j = cs) j 2 → mh_fm [] [2, 3, 4, 32] b b' → tk_R L B stop ln (j + 1) q'.1 q'.2 b' → Q none b') : am_M (mh_G X) SC (d + 2) kc ks mX12_needs__ [.inr (.inr (some (9, 0))), .inl s] b Q := by
  refine am_M_of (by decide) (Nat.le_of_ble_eq_true rfl) ?_
  refine bX12_needs___0 ⟨(tk_o1 hR).1, (tk_o1 hR).2, fun z => ?_, fun z => ?_⟩
  · refine K _ q (tk_ff_y ((tk_sg hR hs).mp z)).symm (mh_fmf mh_fm_r (by decide)) (tk_R_at hR ?_)
    (try dsimp only); rw [tk_at hR, am_w_id (z := (j : Int) + 1) (by unfold am_rg; omega)]; rfl
  · (try dsimp only); rw [tk_at hR]
    refine pX12_fault (d := d) hR ⟨by omega, by omega⟩ (by decide) (fun b' f1 R1 => ?_)
    refine bX12_needs___17 (K _ (if q.2 = 0 then (j : Int) + 1 else q.1, if q.2 = 0 then 2 else q.2) (tk_ff_n (fun y => z ((tk_sg hR hs).mpr y))).symm (mh_fmf f1 (by decide)) (tk_R_at R1 ?_))
    (try dsimp only); rw [tk_at R1, am_w_id (z := (j : Int) + 1) (by unfold am_rg; omega)]; rfl
theorem pX12_number {d kc ks : Nat} {Q : Option am_V → am_W → Prop} {b : am_W} {j : Nat} {q : Int × Int} {lo hi : Int} (hR : tk_R L B stop ln j q.1 q.2 b) (hj : j ≤ 3900) (hl : 1 ≤ lo ∧ lo ≤ hi ∧ hi ≤ 999)
    (K : ∀ (b' : am_W) (q' : Int × Int) (v : Int), q' = tk_ff (tk_ff q (tk_cd L B j = 41) j 2) (lo ≤ tk_vl L B j ∧ tk_vl L B j ≤ hi) j 3 → (tk_cd L B j = 41 ∧ lo ≤ tk_vl L B j ∧ tk_vl L B j ≤ hi → v = tk_vl L B j) → (-1 ≤ v ∧ v ≤ 100000) → mh_fm [] [2, 3, 4, 32] b b' → tk_R L B stop ln (j + 1) q'.1 q'.2 b' → Q (some (.inl v)) b') :
    am_M (mh_G X) SC (d + 2) kc ks mX12_number [.inr (.inr (some (9, 0))), .inl lo, .inl hi] b Q := by
  have hR0 := hR
  obtain ⟨⟨a0, a1, a9⟩, a2, a3, a4, a5, a6⟩ := hR
  have no : ¬ tk_cd L B j = 41 → am_A (mh_G X) SC (d + 2) mX12_number Q 24 [(0, .inr (.inr (some (9, 0)))), (1, .inl lo)] [] b kc ks := by
    intro z
    refine bX12_number_24 ?_
    (try dsimp only); rw [a5]
    refine pX12_fault (d := d) hR0 ⟨by omega, by omega⟩ (by decide) (fun b' f1 R1 => ?_)
    refine bX12_number_33 (K _ (if q.2 = 0 then (j : Int) + 1 else q.1, if q.2 = 0 then 2 else q.2) lo ?_ (fun y => absurd y.1 z) ⟨by omega, by omega⟩ (mh_fmf f1 (by decide)) (tk_R_at R1 ?_))
    · (try dsimp only); rw [tk_ff_n z, tk_ff_k]
      show ¬ (if q.2 = 0 then (2 : Int) else q.2) = 0
      split <;> omega
    · (try dsimp only); rw [tk_at R1, am_w_id (z := (j : Int) + 1) (by unfold am_rg; omega)]; rfl
  refine am_M_of (by decide) (Nat.le_of_ble_eq_true rfl) ?_
  refine bX12_number_0 ⟨fun c => no (fun z => ?_), fun c => ⟨by omega, by omega, ?_⟩⟩
  · have : tk_cd L B j = 46 := tk_cd46.mpr (by omega)
    omega
  have hj2 : j < L.length := by omega
  obtain ⟨q1, q2, q3, q4⟩ := tk_tok a1 hj2
  obtain ⟨m1, m2, m3⟩ := a4 j hj2
  (try dsimp only); rw [a5, Int.toNat_natCast, m3, m1]
  have c41 : tk_cd L B j = 41 ↔ tk_dg (B (L.getD j (0, 0)).1) := by
    unfold tk_cd
    (try dsimp only); rw [if_pos hj2]
    exact tk_c41
  have vle : tk_vl L B j = tk_v B (L.getD j (0, 0)) := by unfold tk_vl; rw [if_pos hj2]
  obtain ⟨bb, hbb⟩ : ∃ bb, bb = (L.getD j (0, 0)).1 := ⟨_, rfl⟩
  obtain ⟨ee, hee⟩ : ∃ ee, ee = (L.getD j (0, 0)).2 := ⟨_, rfl⟩
  unfold tk_v at vle
  rw [← hbb] at c41 m1 m3 q1 q3 q4 vle ⊢
  rw [← hee] at m2 q1 q2 q4 vle
  have k1 : tk_kd (B bb) = 1 ↔ tk_dg (B bb) := by
    unfold tk_kd
    by_cases l : tk_lt (B bb)
    · (try dsimp only); rw [if_pos l]; omega
    (try dsimp only); rw [if_neg l]
    by_cases g : tk_dg (B bb)
    · (try dsimp only); rw [if_pos g]; omega
    · (try dsimp only); rw [if_neg g]
      refine ⟨fun z => ?_, fun z => absurd z g⟩
      exact absurd ⟨l, g, by omega, by omega, by omega, by omega⟩ q3
  refine ⟨fun c1 => ?_, fun c1 => no (fun z => c1 (k1.mpr (c41.mp z)))⟩
  have dg := k1.mp c1
  have is := c41.mpr dg
  rw [if_pos dg] at vle
  have dgs : ∀ k, bb ≤ k → k < ee → tk_dg (B k) := by
    obtain ⟨-, -, -, t4⟩ := tk_e_b (B := B) (stop := stop) (i := bb) (by omega)
    rw [← q4] at t4
    exact t4 dg
  have Lp : ∀ n i : Nat, n + (bb + i) = ee → tk_n B bb i ≤ 99999 → am_A (mh_G X) SC (d + 2) mX12_number Q 58 [(0, .inr (.inr (some (9, 0)))), (1, .inl lo), (2, .inl hi), (3, .inl (tk_n B bb i)), (4, .inl ((bb + i : Nat) : Int))] [] b kc ks := by
    intro n
    have en : ∀ i, bb + i ≤ ee → tk_n B bb i ≤ 99999 → (bb + i = ee ∨ hi < tk_n B bb i) → am_A (mh_G X) SC (d + 2) mX12_number Q 99 [(0, .inr (.inr (some (9, 0)))), (1, .inl lo), (2, .inl hi), (3, .inl (tk_n B bb i))] [] b kc ks := by
      intro i hi1 h5 hi2
      have p0 := tk_n_b (B := B) (b := bb) (n := i) (fun k h1 h2 => dgs k h1 (by omega))
      have mo : tk_n B bb i ≤ tk_n B bb (ee - bb) := by
        have := tk_n_m (B := B) (b := bb) (n := i) (m := ee - bb - i) (fun k h1 h2 => dgs k h1 (by omega))
        rw [show i + (ee - bb - i) = ee - bb by omega] at this
        exact this
      have same : bb + i = ee → tk_n B bb i = tk_n B bb (ee - bb) := fun z => by rw [show ee - bb = i by omega]
      refine bX12_number_99 ⟨fun c2 => ?_, fun c2 => ?_⟩
      · have e1 := same (by omega)
        refine bX12_number_117 (K _ q _ ?_ (fun _ => by omega) ⟨by omega, by omega⟩ (mh_fmf mh_fm_r (by decide)) (tk_R_at hR0 ?_))
        · (try dsimp only); rw [tk_ff_y (q := q) is, tk_ff_y ⟨by omega, by omega⟩]
        · (try dsimp only); rw [a5, am_w_id (z := (j : Int) + 1) (by unfold am_rg; omega)]; rfl
      · (try dsimp only); rw [a5]
        refine pX12_fault (d := d) hR0 ⟨by omega, by omega⟩ (by decide) (fun b' f1 R1 => ?_)
        have bad : ¬ (lo ≤ tk_vl L B j ∧ tk_vl L B j ≤ hi) := by
          intro z
          rcases hi2 with y | y
          · have := same y; omega
          · omega
        refine bX12_number_117a (K _ (if q.2 = 0 then (j : Int) + 1 else q.1, if q.2 = 0 then 3 else q.2) _ ?_ (fun y => absurd y.2 bad) ⟨by omega, by omega⟩ (mh_fmf f1 (by decide)) (tk_R_at R1 ?_))
        · (try dsimp only); rw [tk_ff_y (q := q) is, tk_ff_n bad]
        · (try dsimp only); rw [tk_at R1, am_w_id (z := (j : Int) + 1) (by unfold am_rg; omega)]; rfl
    induction n with
    | zero =>
      intro i h1 h5
      refine bX12_number_58 ⟨by omega, by omega, fun _ => en i (by omega) h5 (Or.inl (by omega)), fun c => ?_⟩
      rw [a5, Int.toNat_natCast, m2] at c
      exact absurd (by omega) c
    | succ n ih =>
      intro i h1 h5
      refine bX12_number_58 ⟨by omega, by omega, fun c => ?_, fun c => ⟨fun c2 => en i (by omega) h5 (Or.inr c2), fun c2 => ⟨by omega, by omega, fun n7 h7 => ?_⟩⟩⟩
      · rw [a5, Int.toNat_natCast, m2] at c
        exact absurd c (by omega)
      have p0 := tk_n_b (B := B) (b := bb) (n := i) (fun k h1 h2 => dgs k h1 (by omega))
      have dk := dgs (bb + i) (by omega) (by omega)
      have tx := (a2 (bb + i)).2
      have ts : tk_sb (B (bb + i)) = B (bb + i) := by unfold tk_sb; rw [if_pos (by omega)]
      rw [Int.toNat_natCast, tx, ts, am_w_id (z := 10 * tk_n B bb i) (by unfold am_rg; omega), am_w_id (z := 10 * tk_n B bb i + B (bb + i)) (by unfold am_rg; omega), am_w_id (by unfold am_rg; omega)] at h7
      have n1 := tk_n1 (B := B) (b := bb) (n := i)
      (try dsimp only); rw [show n7 = tk_n B bb (i + 1) by omega, am_w_id (z := ((bb + i : Nat) : Int) + 1) (by unfold am_rg; omega)]
      exact ih (i + 1) (by omega) (by omega)
  exact Lp (ee - bb) 0 (by omega) (by show (0 : Int) ≤ 99999; decide)
