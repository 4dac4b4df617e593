-- the reference splits a line, and looks at its tokens
variable {SC : Nat → Nat} {X : mh_X} {r : Option am_I}
theorem mh_fma {ts fs : List Nat} {b b' : am_W} {t j k : Nat} {v : Int} (h : mh_fm ts fs b b') (m : t ∈ ts) (h9 : ¬ t = 9) : mh_fm ts fs b (am_up b'.1 t j k v, b'.2) :=
  ⟨fun t' q r => (am_up_t (f := b'.1) (fun e : t' = t => q (e ▸ m))).trans (h.1 t' q r), fun k' q => by
    show am_up b'.1 t j k v 9 0 k' = b.1 9 0 k'
    (try dsimp only); rw [am_up_t (fun e => h9 e.symm)]; exact h.2.1 k' q, h.2.2⟩
theorem tk_sbl {c : Int} (h : 0 ≤ c ∧ c < 256) : (¬ tk_sb c < 97 ∧ (¬ 122 < tk_sb c)) ↔ tk_lt c := by
  unfold tk_sb
  split <;> omega
theorem tk_sbd {c : Int} (h : 0 ≤ c ∧ c < 256) : (¬ tk_sb c < 48 ∧ (¬ 57 < tk_sb c)) ↔ tk_dg c := by
  unfold tk_sb
  split <;> omega
theorem tk_sbe {c n : Int} (h : 0 ≤ c ∧ c < 256) (hn : 0 ≤ n ∧ n < 128) : tk_sb c = n ↔ c = n := by
  unfold tk_sb
  split <;> omega
theorem pX12_spl {d bc bs : Nat} {Q : Option am_V → am_W → Prop} {w : am_W} {B : Nat → Int} {stop i : Nat} (hi : i < stop) (hs : stop ≤ 3000) (hB : ∀ i, (0 ≤ B i ∧ B i < 256) ∧ w.1 66 0 i = tk_sb (B i)) (hl : tk_lt (B i))
    (K : am_A (mh_G X) SC (d + 2) mX12_splits Q 201 [(0, .inr (.inr (some (9, 0)))), (2, .inl (stop : Int)), (3, .inl (tk_e B stop i : Int))] [] w bc bs) : am_A (mh_G X) SC (d + 2) mX12_splits Q 104 [(0, .inr (.inr (some (9, 0)))), (2, .inl (stop : Int)), (3, .inl (i : Int))] [] w bc bs := by
  have L : ∀ n k : Nat, n + k = stop → tk_e B stop i = tk_rl B stop n k → am_A (mh_G X) SC (d + 2) mX12_splits Q 104 [(0, .inr (.inr (some (9, 0)))), (2, .inl (stop : Int)), (3, .inl (k : Int))] [] w bc bs := by
    intro n
    induction n with
    | zero =>
      intro k hk eq
      rw [eq] at K
      exact bX12_splits_104 ⟨fun _ => K, fun c => absurd (by omega) c⟩
    | succ n ih =>
      intro k hk eq
      rw [tk_rl1] at eq
      refine bX12_splits_104 ⟨fun c => absurd c (by omega), fun _ => ⟨by omega, by omega, ?_⟩⟩
      rw [Int.toNat_natCast, (hB k).2]
      refine ⟨fun c => ?_, fun c => ?_⟩
      · rw [if_neg (fun z => c ((tk_sbl (hB k).1).mpr z.2))] at eq; rw [eq] at K; exact K
      · rw [if_pos ⟨by omega, (tk_sbl (hB k).1).mp c⟩] at eq
        rw [am_w_id (z := (k : Int) + 1) (by unfold am_rg; omega)]
        exact ih (k + 1) (by omega) eq
  refine bX12_splits_104 ⟨fun c => absurd c (by omega), fun _ => ⟨by omega, by omega, ?_⟩⟩
  rw [Int.toNat_natCast, (hB i).2]
  refine ⟨fun c => absurd ((tk_sbl (hB i).1).mpr hl) c, fun _ => ?_⟩
  rw [am_w_id (z := (i : Int) + 1) (by unfold am_rg; omega)]
  refine L (stop - (i + 1)) (i + 1) (by omega) ?_
  unfold tk_e
  rw [if_pos hl]
theorem pX12_spd {d bc bs : Nat} {Q : Option am_V → am_W → Prop} {w : am_W} {B : Nat → Int} {stop i : Nat} (hi : i < stop) (hs : stop ≤ 3000) (hB : ∀ i, (0 ≤ B i ∧ B i < 256) ∧ w.1 66 0 i = tk_sb (B i)) (hl : tk_dg (B i))
    (K : am_A (mh_G X) SC (d + 2) mX12_splits Q 201 [(0, .inr (.inr (some (9, 0)))), (2, .inl (stop : Int)), (3, .inl (tk_e B stop i : Int))] [] w bc bs) : am_A (mh_G X) SC (d + 2) mX12_splits Q 135 [(0, .inr (.inr (some (9, 0)))), (2, .inl (stop : Int)), (3, .inl (i : Int))] [] w bc bs := by
  have L : ∀ n k : Nat, n + k = stop → tk_e B stop i = tk_rd B stop n k → am_A (mh_G X) SC (d + 2) mX12_splits Q 135 [(0, .inr (.inr (some (9, 0)))), (2, .inl (stop : Int)), (3, .inl (k : Int))] [] w bc bs := by
    intro n
    induction n with
    | zero =>
      intro k hk eq
      rw [eq] at K
      exact bX12_splits_135 ⟨fun _ => K, fun c => absurd (by omega) c⟩
    | succ n ih =>
      intro k hk eq
      rw [tk_rd1] at eq
      refine bX12_splits_135 ⟨fun c => absurd c (by omega), fun _ => ⟨by omega, by omega, ?_⟩⟩
      rw [Int.toNat_natCast, (hB k).2]
      refine ⟨fun c => ?_, fun c => ?_⟩
      · rw [if_neg (fun z => c ((tk_sbd (hB k).1).mpr z.2))] at eq; rw [eq] at K; exact K
      · rw [if_pos ⟨by omega, (tk_sbd (hB k).1).mp c⟩] at eq
        rw [am_w_id (z := (k : Int) + 1) (by unfold am_rg; omega)]
        exact ih (k + 1) (by omega) eq
  refine bX12_splits_135 ⟨fun c => absurd c (by omega), fun _ => ⟨by omega, by omega, ?_⟩⟩
  rw [Int.toNat_natCast, (hB i).2]
  refine ⟨fun c => absurd ((tk_sbd (hB i).1).mpr hl) c, fun _ => ?_⟩
  rw [am_w_id (z := (i : Int) + 1) (by unfold am_rg; omega)]
  refine L (stop - (i + 1)) (i + 1) (by omega) ?_
  unfold tk_e
  rw [if_neg (by omega), if_pos hl]
theorem pX12_splits {d kc ks : Nat} {Q : Option am_V → am_W → Prop} {b : am_W} {B : Nat → Int} {start stop : Nat} {ln : Int} (hs : start ≤ stop ∧ stop ≤ 3000) (hB : ∀ i, (0 ≤ B i ∧ B i < 256) ∧ b.1 66 0 i = tk_sb (B i)) (hF : tk_F ln 0 0 b.1)
    (K : ∀ b' : am_W, mh_fm [93, 94, 95] [2, 3, 4, 30] b b' → (¬ tk_f B stop (stop - start) start → b'.1 9 0 30 = ((tk_l B stop (stop - start) start).length : Int) ∧ tk_M (tk_l B stop (stop - start) start) B (tk_l B stop (stop - start) start).length b'.1 ∧ tk_F ln 0 0 b'.1) →
      (tk_f B stop (stop - start) start → tk_F ln ((tk_l B stop (stop - start) start).length + 1) 1 b'.1) → Q none b') : am_M (mh_G X) SC (d + 2) kc ks mX12_splits [.inr (.inr (some (9, 0))), .inl (start : Int), .inl (stop : Int)] b Q := by
  obtain ⟨L, hL⟩ : ∃ L, L = tk_l B stop (stop - start) start := ⟨_, rfl⟩
  obtain ⟨F, hFF⟩ : ∃ F, F = tk_f B stop (stop - start) start := ⟨_, rfl⟩
  rw [← hL, ← hFF] at K
  have Lk := tk_l_ok (B := B) (stop := stop) (n := stop - start) (i := start)
  rw [← hL] at Lk
  have l3 : L.length ≤ 3000 := by omega
  have Bl : ∀ (n i m : Nat) (w1 : am_W), stop ≤ n + i → i ≤ stop → m ≤ i → m ≤ L.length → mh_fm [93, 94, 95] [2, 3, 4, 30] b w1 → w1.1 9 0 30 = (m : Int) → (w1.1 9 0 4 = 0 ∧ w1.1 9 0 3 = 0 ∧ w1.1 9 0 2 = 0) → tk_M L B m w1.1 → tk_l B stop n i = L.drop m → tk_f B stop n i = F →
      am_A (mh_G X) SC (d + 2) mX12_splits Q 7 [(0, .inr (.inr (some (9, 0)))), (2, .inl (stop : Int)), (3, .inl (i : Int))] [] w1 kc ks := by
    intro n
    have fin : ∀ (m : Nat) (w1 : am_W), mh_fm [93, 94, 95] [2, 3, 4, 30] b w1 → w1.1 9 0 30 = (m : Int) → (w1.1 9 0 4 = 0 ∧ w1.1 9 0 3 = 0 ∧ w1.1 9 0 2 = 0) → tk_M L B m w1.1 → ([] : List (Nat × Nat)) = L.drop m → m ≤ L.length → ¬ F → Q none w1 := by
      intro m w1 f h30 h4 hM eL hm nF
      have e1 : m = L.length := by
        have := congrArg List.length eL
        rw [List.length_drop] at this
        have : 0 = L.length - m := this
        omega
      subst e1
      exact K w1 f (fun _ => ⟨h30, hM, (f.2.1 31 (by decide)).trans hF.1, h4.1, fun z => absurd rfl z, fun _ => h4.2⟩) (fun z => absurd z nF)
    induction n with
    | zero =>
      intro i m w1 h1 h2 h0 hm f h30 h4 hM eL eF
      exact bX12_splits_7 ⟨fun _ => fin m w1 f h30 h4 hM eL hm (by rw [← eF]; exact fun z => z), fun c => absurd (by omega) c⟩
    | succ n ih =>
      intro i m w1 h1 h2 h0 hm f h30 h4 hM eL eF
      rw [tk_l1] at eL
      rw [tk_f1] at eF
      have e66 : w1.1 66 = b.1 66 := f.1 66 (by decide) (by decide)
      have fi : ¬ (i < stop ∧ ¬ B i = 35) → Q none w1 := by
        intro z
        rw [if_neg z] at eL eF
        exact fin m w1 f h30 h4 hM eL hm (by rw [← eF]; exact fun z => z)
      have Bi := (hB i).1
      refine bX12_splits_7 ⟨fun c1 => fi (by omega), fun c1 => ⟨by omega, by omega, ?_⟩⟩
      rw [Int.toNat_natCast, e66, (hB i).2, h30, Int.toNat_natCast]
      refine ⟨fun c2 => fi (fun z => z.2 ((tk_sbe Bi (by omega)).mp c2)), fun c2 => ⟨fun c3 => absurd h4.1 c3, fun _ => ⟨fun c3 => ?_, fun c3 => ?_⟩⟩⟩
      · have c2' : ¬ B i = 35 := fun z => c2 ((tk_sbe Bi (by omega)).mpr z)
        have c3' : ¬ B i = 32 := fun z => c3 ((tk_sbe Bi (by omega)).mpr z)
        rw [if_pos ⟨by omega, c2'⟩, if_neg c3'] at eL eF
        have T : ∀ kd : Int, (¬ tk_str (B i) → kd = tk_kd (B i)) → am_A (mh_G X) SC (d + 2) mX12_splits Q 95 [(0, .inr (.inr (some (9, 0)))), (2, .inl (stop : Int)), (3, .inl (i : Int)), (4, .inl (tk_sb (B i)))] [.inl kd, .inl (m : Int), .inr (.inr (some (95, 0)))] (am_up w1.1 93 0 m (i : Int), w1.2) kc ks := by
          intro kd hkd
          have e30 : (am_up (am_up w1.1 93 0 m (i : Int)) 95 0 m kd) 9 0 30 = (m : Int) := by
            (try dsimp only); rw [am_up_t (by decide), am_up_t (by decide)]; exact h30
          have e4 : (am_up (am_up w1.1 93 0 m (i : Int)) 95 0 m kd) 9 0 4 = 0 ∧ (am_up (am_up w1.1 93 0 m (i : Int)) 95 0 m kd) 9 0 3 = 0 ∧ (am_up (am_up w1.1 93 0 m (i : Int)) 95 0 m kd) 9 0 2 = 0 := by
            have e9 : (am_up (am_up w1.1 93 0 m (i : Int)) 95 0 m kd) 9 = w1.1 9 := by rw [am_up_t (by decide), am_up_t (by decide)]
            rw [e9]; exact h4
          have e30' : (am_up w1.1 93 0 m (i : Int)) 9 0 30 = (m : Int) := by
            (try dsimp only); rw [am_up_t (by decide)]; exact h30
          have f2 : mh_fm [93, 94, 95] [2, 3, 4, 30] b (am_up (am_up w1.1 93 0 m (i : Int)) 95 0 m kd, w1.2) := mh_fma (b' := (_, _)) (mh_fma f (by decide) (by decide)) (by decide) (by decide)
          have m3 : (m : Int) < 3000 := by omega
          refine bX12_splits_95 ⟨by omega, m3, ?_⟩
          rw [Int.toNat_natCast]
          dsimp only
          by_cases s : tk_str (B i)
          · rw [if_pos s] at eL eF
            have yF : F := by rw [← eF]; trivial
            have e1 : m = L.length := by
              have := congrArg List.length eL
              rw [List.length_drop] at this
              have : 0 = L.length - m := this
              omega
            obtain ⟨s1, s2, s3, s4, s5, s6⟩ := s
            refine ⟨fun c4 => ⟨fun c5 => ⟨fun c6 => absurd ((tk_sbe Bi (by omega)).mp c6) s3, fun _ => ⟨fun c7 => absurd ((tk_sbe Bi (by omega)).mp c7) s4, fun _ => ⟨fun c8 => absurd ((tk_sbe Bi (by omega)).mp c8) s5, fun _ => ⟨fun _ => ?_, fun c9 => absurd ((tk_sbe Bi (by omega)).mp c9) s6⟩⟩⟩⟩, fun c5 => absurd ((tk_sbd Bi).mp c5) s2⟩, fun c4 => absurd ((tk_sbl Bi).mp c4) s1⟩
            rw [e30']
            refine pX12_faults (ln := ln) (t := 0) (k := 0) ⟨(f2.2.1 31 (by decide)).trans hF.1, e4.1, fun z => absurd rfl z, fun _ => e4.2⟩ ⟨by omega, by omega⟩ (by decide) (fun b' fb tb => ?_)
            rw [if_pos rfl, if_pos rfl] at tb
            have b30 : b'.1 9 0 30 = (m : Int) := (fb.2.1 30 (by decide)).trans e30
            refine bX12_splits_201 ⟨by omega, by omega, ?_⟩
            rw [b30, Int.toNat_natCast, am_w_id (z := (m : Int) + 1) (by unfold am_rg; omega)]
            have ff : mh_fm [93, 94, 95] [2, 3, 4, 30] b (am_up (am_up b'.1 94 0 m (i : Int)) 9 0 30 ((m : Int) + 1), b'.2) :=
              mh_fmf (b' := (_, _)) (mh_fma (mh_fm_t f2 (mh_fm_m fb (by simp) (by decide))) (by decide) (by decide)) (by decide)
            have tf : tk_F ln ((m : Int) + 1) 1 (am_up (am_up b'.1 94 0 m (i : Int)) 9 0 30 ((m : Int) + 1)) := by
              obtain ⟨t1, t2, t3⟩ := tb
              unfold tk_F
              simp (disch := decide) only [am_up_t, am_up_k]
              exact ⟨t1, t2, t3⟩
            have fi2 : Q none (am_up (am_up b'.1 94 0 m (i : Int)) 9 0 30 ((m : Int) + 1), b'.2) := K _ ff (fun z => absurd yF z) (fun _ => by rw [← e1]; exact tf)
            have g66 : (am_up (am_up b'.1 94 0 m (i : Int)) 9 0 30 ((m : Int) + 1)) 66 = b.1 66 := ff.1 66 (by decide) (by decide)
            refine bX12_splits_7 ⟨fun _ => fi2, fun _ => ⟨by omega, by omega, ?_⟩⟩
            dsimp only
            rw [Int.toNat_natCast, g66, (hB i).2]
            refine ⟨fun _ => fi2, fun _ => ⟨fun _ => fi2, fun z => ?_⟩⟩
            have := tf.2.1
            exact absurd (z.symm.trans this) (by decide)
          · have hk2 := hkd s
            rw [if_neg s] at eL eF
            have ml : m < L.length := by
              have := congrArg List.length eL
              rw [List.length_drop, List.length_cons] at this
              omega
            have Lm : L.getD m (0, 0) = (i, tk_e B stop i) := by
              have := congrArg (fun l => l.getD 0 (0, 0)) eL
              rw [List.getD_eq_getElem?_getD, List.getD_eq_getElem?_getD, List.getElem?_drop, Nat.add_zero] at this
              rw [List.getD_eq_getElem?_getD, ← this]
              rfl
            have Ld : tk_l B stop n (tk_e B stop i) = L.drop (m + 1) := by
              have := congrArg List.tail eL
              rw [List.tail_drop] at this
              exact this
            obtain ⟨t1, t2, -, -⟩ := tk_e_b (B := B) (stop := stop) (i := i) (by omega)
            have nx : am_A (mh_G X) SC (d + 2) mX12_splits Q 201 [(0, .inr (.inr (some (9, 0)))), (2, .inl (stop : Int)), (3, .inl (tk_e B stop i : Int))] [] (am_up (am_up w1.1 93 0 m (i : Int)) 95 0 m kd, w1.2) kc ks := by
              refine bX12_splits_201a ?_
              dsimp only
              rw [e30, Int.toNat_natCast, am_w_id (z := (m : Int) + 1) (by unfold am_rg; omega)]
              refine ⟨by omega, by omega, ?_⟩
              refine ih (tk_e B stop i) (m + 1) _ (by omega) t2 (by omega) ml (mh_fmf (b' := (_, _)) (mh_fma f2 (by decide) (by decide)) (by decide)) ?_ ?_ ?_ Ld eF
              · (try dsimp only); rw [am_up_s]; omega
              · dsimp only
                rw [am_up_k (by decide), am_up_k (by decide), am_up_k (by decide), am_up_t (by decide)]; exact e4
              · intro j hj
                simp (disch := decide) only [am_up_t, am_up_a]
                by_cases z : j = m
                · rw [if_pos z, if_pos z, if_pos z, z, Lm]
                  exact ⟨rfl, rfl, hk2⟩
                · rw [if_neg z, if_neg z, if_neg z]; exact hM j (by omega)
            have hB2 : ∀ i', (0 ≤ B i' ∧ B i' < 256) ∧ (am_up (am_up w1.1 93 0 m (i : Int)) 95 0 m kd, w1.2).1 66 0 i' = tk_sb (B i') := fun i' => ⟨(hB i').1, by rw [f2.1 66 (by decide) (by decide)]; exact (hB i').2⟩
            have sg : ¬ tk_lt (B i) → ¬ tk_dg (B i) → am_A (mh_G X) SC (d + 2) mX12_splits Q 186 [(0, .inr (.inr (some (9, 0)))), (2, .inl (stop : Int)), (3, .inl (i : Int))] [] (am_up (am_up w1.1 93 0 m (i : Int)) 95 0 m kd, w1.2) kc ks := by
              intro c4 c5
              refine bX12_splits_186 ?_
              rw [am_w_id (z := (i : Int) + 1) (by unfold am_rg; omega)]
              have e : tk_e B stop i = i + 1 := by unfold tk_e; rw [if_neg c4, if_neg c5]
              rw [e] at nx
              exact nx
            refine ⟨fun c4 => ⟨fun c5 => ?_, fun c5 => pX12_spd (by omega) hs.2 hB2 ((tk_sbd Bi).mp c5) nx⟩, fun c4 => pX12_spl (by omega) hs.2 hB2 ((tk_sbl Bi).mp c4) nx⟩
            have sg := sg (fun z => c4 ((tk_sbl Bi).mpr z)) (fun z => c5 ((tk_sbd Bi).mpr z))
            refine ⟨fun _ => sg, fun d1 => ⟨fun _ => sg, fun d2 => ⟨fun _ => sg, fun d3 => ⟨fun d4 => ?_, fun _ => sg⟩⟩⟩⟩
            exact absurd ⟨fun z => c4 ((tk_sbl Bi).mpr z), fun z => c5 ((tk_sbd Bi).mpr z), fun z => d1 ((tk_sbe Bi (by omega)).mpr z), fun z => d2 ((tk_sbe Bi (by omega)).mpr z), fun z => d3 ((tk_sbe Bi (by omega)).mpr z), fun z => d4 ((tk_sbe Bi (by omega)).mpr z)⟩ s
        have m3 : (m : Int) < 3000 := by omega
        refine ⟨by omega, m3, fun c4 => ⟨fun c5 => T _ (fun s => ?_), fun c5 => T 1 (fun _ => ?_)⟩, fun c4 => T 0 (fun _ => ?_)⟩
        · have a1 : ¬ tk_lt (B i) := fun z => c4 ((tk_sbl Bi).mpr z)
          have a2 : ¬ tk_dg (B i) := fun z => c5 ((tk_sbd Bi).mpr z)
          unfold tk_kd
          rw [if_neg a1, if_neg a2]
          have : B i < 128 := by
            apply Classical.byContradiction
            intro z
            exact s ⟨a1, a2, by omega, by omega, by omega, by omega⟩
          unfold tk_sb
          rw [if_pos this]
        · have a1 : ¬ tk_lt (B i) := fun z => c4 ((tk_sbl Bi).mpr z)
          unfold tk_kd
          rw [if_neg a1, if_pos ((tk_sbd Bi).mp c5)]
        · unfold tk_kd
          rw [if_pos ((tk_sbl Bi).mp c4)]
      · have c2' : ¬ B i = 35 := fun z => c2 ((tk_sbe Bi (by omega)).mpr z)
        have c3' : B i = 32 := (tk_sbe Bi (by omega)).mp c3
        rw [if_pos ⟨by omega, c2'⟩, if_pos c3'] at eL eF
        rw [am_w_id (z := (i : Int) + 1) (by unfold am_rg; omega)]
        exact ih (i + 1) m w1 (by omega) (by omega) (by omega) hm f h30 h4 hM eL eF
  refine am_M_of (by decide) (Nat.le_of_ble_eq_true rfl) ?_
  refine bX12_splits_0 (Bl (stop - start) start 0 _ (by omega) hs.1 (Nat.zero_le _) (Nat.zero_le _) (mh_fmf mh_fm_r (by decide)) ?_ ?_ (fun j hj => absurd hj (Nat.not_lt_zero j)) (by rw [List.drop_zero]; exact hL.symm) hFF.symm)
  · (try dsimp only); rw [am_up_s]; rfl
  · dsimp only
    rw [am_up_k (by decide), am_up_k (by decide), am_up_k (by decide)]; exact ⟨hF.2.1, hF.2.2.2 rfl⟩
