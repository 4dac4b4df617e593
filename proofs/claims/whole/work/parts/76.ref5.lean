-- the reference's mourner: the depth of a day
variable {SC : Nat → Nat} {X : mh_X}
theorem pX12_feastCap {d kc ks : Nat} {Q : Option am_V → am_W → Prop} {I : Nat → Nat → Nat → Int} {w : am_W} {day lw : Int} (hRL : mh_RL I w.1) (hd : -36524 ≤ day ∧ day ≤ 73048) (hl : lw = -1 ∨ (0 ≤ lw ∧ lw < I 4 0 5))
    (K : Q (some (.inl (if lw = -1 then 4 else mh_fcap I lw.toNat (mh_date day % 10000) (I 10 lw.toNat 11).toNat))) w) : am_M (mh_G X) SC (d + 7) kc ks mX12_feastCap [.inr (.inr (some (9, 0))), .inl lw, .inl day] w Q := by
  have db := mh_dated (x := day) (by omega)
  refine am_M_of (by decide) (Nat.le_of_ble_eq_true rfl) ?_
  refine bX12_feastCap_0 ?_
  refine pX12_date2 (by omega) ?_
  refine bX12_feastCap_6 ?_
  rw [Int.tmod_eq_emod_of_nonneg db.1, am_w_id (by unfold am_rg; omega)]
  by_cases c : lw = -1
  · rw [if_pos c] at K
    exact bX12_feastCap_15 ⟨fun _ => K, fun c2 => absurd c c2⟩
  · rw [if_neg c] at K
    obtain ⟨l, rfl⟩ := mh_nat (z := lw) (by omega)
    rw [Int.toNat_natCast] at K
    have l6 := hRL.1
    have La := (hRL.2 l (by omega)).1
    have fe := La.2.2.1
    have B : ∀ n k : Nat, (n + k : Nat) = (I 10 l 11).toNat → am_A (mh_G X) SC (d + 7) mX12_feastCap Q 15 [(0, .inr (.inr (some (9, 0)))), (1, .inl (l : Int)), (3, .inl (mh_fcap I l (mh_date day % 10000) k)), (4, .inl (mh_date day % 10000)), (5, .inl (k : Int))] [] w kc ks := by
      intro n
      induction n with
      | zero =>
        intro k hk
        refine bX12_feastCap_15 ⟨fun c2 => absurd c2 c, fun _ => ⟨by omega, by omega, ?_⟩⟩
        rw [Int.toNat_natCast]
        refine ⟨fun _ => ?_, fun c2 => absurd (show w.1 69 0 l ≤ (k : Int) by omega) c2⟩
        rw [show k = (I 10 l 11).toNat by omega]
        exact K
      | succ n ih =>
        intro k hk
        have q := fe.2 k (by omega)
        have ihk := ih (k + 1) (by omega)
        have e1 : mh_fcap I l (mh_date day % 10000) (k + 1) = if I 151 l k = mh_date day % 10000 then min (mh_fcap I l (mh_date day % 10000) k) (I 152 l k) else mh_fcap I l (mh_date day % 10000) k := rfl
        have go : ∀ v, v = mh_fcap I l (mh_date day % 10000) (k + 1) → am_A (mh_G X) SC (d + 7) mX12_feastCap Q 68 [(0, .inr (.inr (some (9, 0)))), (1, .inl (l : Int)), (3, .inl v), (4, .inl (mh_date day % 10000)), (5, .inl (k : Int))] [] w kc ks := by
          intro v hv
          refine bX12_feastCap_68 ?_
          rw [am_w_id (z := (k : Int) + 1) (by unfold am_rg; omega), hv]
          exact ihk
        refine bX12_feastCap_15 ⟨fun c2 => absurd c2 c, fun _ => ⟨by omega, by omega, ?_⟩⟩
        simp only [Int.toNat_natCast]
        refine ⟨fun c2 => absurd c2 (show ¬ w.1 69 0 l ≤ (k : Int) by omega), fun _ => ⟨by omega, by omega, ?_⟩⟩
        rw [q.1.1, q.2.1]
        refine ⟨fun c2 => go _ ?_, fun c2 => ⟨fun c3 => go _ ?_, fun c3 => go _ ?_⟩⟩
        · rw [e1, if_neg c2]
        · rw [e1, if_pos c2]; omega
        · rw [e1, if_pos c2]; omega
    exact B _ 0 rfl
theorem pX12_heirCap {d kc ks : Nat} {Q : Option am_V → am_W → Prop} {I : Nat → Nat → Nat → Int} {L : Nat → Nat → Nat → Int64} {w : am_W} {a : Nat} {day known lw : Int} (hJ : mh_JR I L w.1) (h63 : w.1 9 0 63 = (a : Int)) (hd : -36524 ≤ day ∧ day ≤ 73048) (hl : lw = -1 ∨ (0 ≤ lw ∧ lw < I 4 0 5))
    (hnow : I 1 0 12 ≤ 73047)
    (K : Q (some (.inl (if lw = -1 then 4 else (if 0 < I 10 lw.toNat 12 ∧ mh_chi I a (day - I 10 lw.toNat 12 + 1) day known (I 5 0 18).toNat = 1 then min 4 (I 10 lw.toNat 13) else 4)))) w) : am_M (mh_G X) SC (d + 2) kc ks mX12_heirCap [.inr (.inr (some (9, 0))), .inl lw, .inl day, .inl known] w Q := by
  obtain ⟨R, RL, RO⟩ := hJ
  have p40 := R.1
  refine am_M_of (by decide) (Nat.le_of_ble_eq_true rfl) ?_
  refine bX12_heirCap_0 ?_
  by_cases c : lw = -1
  · rw [if_pos c] at K
    exact bX12_heirCap_6 ⟨fun _ => K, fun _ => ⟨fun _ => K, fun c2 => absurd c c2⟩⟩
  · rw [if_neg c] at K
    obtain ⟨l, rfl⟩ := mh_nat (z := lw) (by omega)
    rw [Int.toNat_natCast] at K
    have l6 := RL.1
    have La := (RL.2 l (by omega)).1
    obtain ⟨-, -, -, -, hd1, hd2, hd3, -⟩ := La
    by_cases h0 : 0 < I 10 l 12
    · have hd2 := hd2 h0
      have cond : (if 0 < I 10 l 12 ∧ mh_chi I a (day - I 10 l 12 + 1) day known (I 5 0 18).toNat = 1 then min 4 (I 10 l 13) else 4) = if mh_chi I a (day - I 10 l 12 + 1) day known (I 5 0 18).toNat = 1 then I 10 l 13 else 4 := by
        by_cases z : mh_chi I a (day - I 10 l 12 + 1) day known (I 5 0 18).toNat = 1
        · rw [if_pos ⟨h0, z⟩, if_pos z]; omega
        · rw [if_neg (fun y => z y.2), if_neg z]
      rw [cond] at K
      have B : ∀ n k : Nat, (n + k : Nat) = (I 5 0 18).toNat → am_A (mh_G X) SC (d + 2) mX12_heirCap Q 6 [(0, .inr (.inr (some (9, 0)))), (1, .inl (l : Int)), (2, .inl day), (3, .inl known), (4, .inl (if mh_chi I a (day - I 10 l 12 + 1) day known k = 1 then I 10 l 13 else 4)), (5, .inl (k : Int))] [] w kc ks := by
        intro n
        induction n with
        | zero =>
          intro k hk
          refine bX12_heirCap_6 ⟨fun _ => ?_, fun c2 => absurd (show w.1 9 0 42 ≤ (k : Int) by omega) c2⟩
          rw [show k = (I 5 0 18).toNat by omega]
          exact K
        | succ n ih =>
          intro k hk
          have q := R.2.2.1 k (by omega)
          have ihk := ih (k + 1) (by omega)
          have cb := (mh_chi_b (I := I) (a := a) (lo := day - I 10 l 12 + 1) (day := day) (known := known) (n := k)).1
          have en : ¬ ((I 35 0 k = (a : Int) ∨ I 36 0 k = (a : Int)) ∧ I 38 0 k ≤ known ∧ day - I 10 l 12 + 1 ≤ I 37 0 k ∧ I 37 0 k ≤ day) → mh_chi I a (day - I 10 l 12 + 1) day known (k + 1) = mh_chi I a (day - I 10 l 12 + 1) day known k := by
            intro z
            unfold mh_chi
            rw [if_neg z]
            cases k <;> rfl
          have ep : ((I 35 0 k = (a : Int) ∨ I 36 0 k = (a : Int)) ∧ I 38 0 k ≤ known ∧ day - I 10 l 12 + 1 ≤ I 37 0 k ∧ I 37 0 k ≤ day) → mh_chi I a (day - I 10 l 12 + 1) day known (k + 1) = 1 := by
            intro z
            unfold mh_chi
            rw [if_pos z]
          have go : ∀ v, v = (if mh_chi I a (day - I 10 l 12 + 1) day known (k + 1) = 1 then I 10 l 13 else 4) → am_A (mh_G X) SC (d + 2) mX12_heirCap Q 100 [(0, .inr (.inr (some (9, 0)))), (1, .inl (l : Int)), (2, .inl day), (3, .inl known), (4, .inl v), (5, .inl (k : Int))] [] w kc ks := by
            intro v hv
            refine bX12_heirCap_100 ?_
            rw [am_w_id (z := (k : Int) + 1) (by unfold am_rg; omega), hv]
            exact ihk
          refine bX12_heirCap_6 ⟨fun c2 => absurd c2 (show ¬ w.1 9 0 42 ≤ (k : Int) by omega), fun _ => ⟨fun c2 => absurd c2 c, fun _ => ⟨by omega, by omega, ?_⟩⟩⟩
          simp only [Int.toNat_natCast]
          rw [hd1.1, hd2, h63, q.2.2.1.1, q.2.2.2.1.1, q.2.2.2.2.2.1.1, q.2.2.2.2.2.2.1.1, am_w_id (z := day - I 37 0 k) (by unfold am_rg; omega)]
          refine ⟨fun c2 => absurd h0 (by omega), fun _ => ⟨by omega, by omega, fun c2 => go _ ?_, fun c2 => ⟨fun c3 => go _ ?_, fun c3 => ⟨fun c4 => go _ ?_, fun c4 => ⟨fun c5 => go _ ?_, fun c5 => ⟨fun c6 => go _ ?_, fun c6 => go _ ?_⟩⟩⟩⟩⟩⟩
          · rw [en (fun z => c2 z.1)]
          · rw [en (fun z => by omega)]
          · rw [en (fun z => by omega)]
          · rw [en (fun z => by omega)]
          · rw [ep ⟨c2, by omega, by omega, by omega⟩, if_pos rfl]
            split at c6
            · rename_i z; rw [if_pos z]
            · rename_i z; rw [if_neg z]; omega
          · rw [ep ⟨c2, by omega, by omega, by omega⟩, if_pos rfl]
      exact B _ 0 rfl
    · rw [if_neg (fun z => h0 z.1)] at K
      refine bX12_heirCap_6 ⟨fun _ => K, fun _ => ⟨fun _ => K, fun _ => ⟨by omega, by omega, ?_⟩⟩⟩
      simp only [Int.toNat_natCast]
      exact ⟨fun _ => K, fun c2 => absurd (show w.1 88 0 l ≤ 0 by omega) c2⟩
theorem md_mx_cap {f g : Nat → Int} {cap : Int} {p : Nat → Int} {h : Nat → Int} (hc : 0 ≤ cap) (hp : ∀ e, f e = (if p e = 0 then 0 else h e)) (hg : ∀ e, g e = (if p e = 0 then h e else 0)) : ∀ {n : Nat}, (∀ e, e < n → 0 ≤ h e) →
    md_mx (fun e => if p e = 0 then min (h e) cap else h e) n = max (md_mx f n) (min (md_mx g n) cap) ∧ 0 ≤ md_mx f n ∧ 0 ≤ md_mx g n
  | 0, _ => by show (0 : Int) = max 0 (min 0 cap) ∧ (0 : Int) ≤ 0 ∧ (0 : Int) ≤ 0; omega
  | n + 1, hh => by
    have ih := md_mx_cap hc hp hg (n := n) (fun e he => hh e (by omega))
    have hn := hh n (by omega)
    show max (md_mx (fun e => if p e = 0 then min (h e) cap else h e) n) (if p n = 0 then min (h n) cap else h n) = max (max (md_mx f n) (f n)) (min (max (md_mx g n) (g n)) cap) ∧ 0 ≤ max (md_mx f n) (f n) ∧ 0 ≤ max (md_mx g n) (g n)
    rw [ih.1, hp, hg]
    split <;> omega
theorem pX12_depthNow {d kc ks : Nat} {Q : Option am_V → am_W → Prop} {I : Nat → Nat → Nat → Int} {L : Nat → Nat → Nat → Int64} {a : Nat} {known day : Int} {w : am_W} (hC : mh_C I L) (hO : mh_Co I) (hk : known < 2147483647) (ha : (a : Int) < I 5 0 18) (hJ : mh_JR I L w.1)
    (hd : -36524 ≤ day ∧ day ≤ 73047) (hS : mh_RS I a known day w.1)
    (K : Q (some (.inl (mh_dep I a known day))) w) : am_M (mh_G X) SC (d + 8) kc ks mX12_depthNow [.inr (.inr (some (9, 0))), .inl day] w Q := by
  obtain ⟨ok, -⟩ := mh_P_ok hC hk ha
  have hC' := hC
  have nb : I 1 0 12 ≤ 73047 := by obtain ⟨J, R, RL, RN⟩ := hC; unfold mh_RN at RN; omega
  have p40 := hJ.1.1.2
  have n40 : md_n (mh_P I a known) ≤ (I 5 0 18).toNat := mh_dl_n
  obtain ⟨⟨s1, s2, s3⟩, s4, s5⟩ := hS
  have lb := mh_lw_b I day known (I 4 0 5).toNat
  have lb2 : mh_law I day known = -1 ∨ (0 ≤ mh_law I day known ∧ mh_law I day known < ((I 4 0 5).toNat : Int) ∧ I 10 (mh_law I day known).toNat 17 ≤ day ∧ I 10 (mh_law I day known).toNat 17 ≤ known) := lb
  have l6 := hJ.2.1.1
  have hl : mh_law I day known = -1 ∨ (0 ≤ mh_law I day known ∧ mh_law I day known < I 4 0 5) := by omega
  have capb : 0 ≤ mh_cap I a known day := by
    unfold mh_cap
    split
    · omega
    · rename_i z
      have La := (hJ.2.1.2 (mh_law I day known).toNat (by omega)).1
      obtain ⟨-, -, ⟨fe1, fe2⟩, -, hd1, -, hd3, -⟩ := La
      have fb := mh_fcap_b (I := I) (l := (mh_law I day known).toNat) (date := mh_date day % 10000) (fun k hk => (fe2 k hk).2.2.1) (I 10 (mh_law I day known).toNat 11).toNat (by omega)
      split <;> omega
  have cape : min (if mh_law I day known = -1 then 4 else mh_fcap I (mh_law I day known).toNat (mh_date day % 10000) (I 10 (mh_law I day known).toNat 11).toNat)
      (if mh_law I day known = -1 then 4 else (if 0 < I 10 (mh_law I day known).toNat 12 ∧ mh_chi I a (day - I 10 (mh_law I day known).toNat 12 + 1) day known (I 5 0 18).toNat = 1 then min 4 (I 10 (mh_law I day known).toNat 13) else 4)) = mh_cap I a known day := by
    unfold mh_cap
    split
    · rfl
    · rfl
  have mc := md_mx_cap (f := mh_df I a known day) (g := mh_do2 I a known day) (cap := mh_cap I a known day) (p := mh_fi I a known) (h := md_d (mh_P I a known) day (md_S (mh_P I a known) day)) capb (fun e => rfl) (fun e => rfl) (n := md_n (mh_P I a known)) (fun e he => (md_d0 ok day he).1)
  have cob := mh_cou_b hO (day := day) (known := known)
  -- the orders
  have C : ∀ (n k : Nat), (n + k : Nat) = (I 4 0 6).toNat → am_A (mh_G X) SC (d + 8) mX12_depthNow Q 118 [(0, .inr (.inr (some (9, 0)))), (1, .inl day), (2, .inl (mh_law I day known)), (4, .inl (max (md_mx (fun e => if mh_fi I a known e = 0 then min (md_d (mh_P I a known) day (md_S (mh_P I a known) day) e) (mh_cap I a known day) else md_d (mh_P I a known) day (md_S (mh_P I a known) day) e) (md_n (mh_P I a known))) (mh_cou I day known k))), (5, .inl (k : Int))] [] w kc ks := by
    intro n
    induction n with
    | zero =>
      intro k hk2
      obtain rfl : k = (I 4 0 6).toNat := by omega
      have o1 := hJ.2.2.1
      unfold mh_dep at K
      rw [← mc.1] at K
      refine bX12_depthNow_118 ⟨fun _ => ?_, fun c => absurd (show w.1 9 0 52 ≤ ((I 4 0 6).toNat : Int) by omega) c⟩
      refine ⟨fun c => ?_, fun c => ⟨by omega, by omega, ?_⟩⟩
      · rw [if_neg (fun z => z.1 c)] at K
        exact K
      · have La := (hJ.2.1.2 (mh_law I day known).toNat (by omega)).1
        obtain ⟨-, -, -, -, -, -, -, ud1, ud2, ud3, -⟩ := La
        have pa := hJ.1.2.2.1 a ha
        rw [ud1.1, s2, Int.toNat_natCast, pa.2.2.2.2.2.1.1]
        refine ⟨fun c2 => ?_, fun c2 => ⟨by omega, by omega, ?_⟩⟩
        · rw [if_neg (fun z => by omega)] at K
          exact K
        · rw [am_w_id (by unfold am_rg; omega)]
          refine pX12_behind2 (by omega) (by omega) ?_
          rw [Int.mul_comm]
          refine bX12_depthNow_226 ⟨fun c3 => ?_, fun c3 => ⟨by omega, by omega, ?_⟩⟩
          · rw [if_neg (fun z => by omega)] at K
            exact K
          · rw [ud2 (by omega)]
            rw [if_pos ⟨c, by omega, by omega⟩] at K
            exact K
    | succ n ih =>
      intro k hk2
      have o1 := hJ.2.2.1
      have q := hJ.2.2.2 k (by omega)
      have ihk := ih (k + 1) (by omega)
      have e1 : mh_cou I day known (k + 1) = if I 32 0 k ≤ known ∧ I 29 0 k ≤ day ∧ day < I 29 0 k + I 30 0 k then max (mh_cou I day known k) (I 31 0 k) else mh_cou I day known k := rfl
      have go : ∀ v, v = max (md_mx (fun e => if mh_fi I a known e = 0 then min (md_d (mh_P I a known) day (md_S (mh_P I a known) day) e) (mh_cap I a known day) else md_d (mh_P I a known) day (md_S (mh_P I a known) day) e) (md_n (mh_P I a known))) (mh_cou I day known (k + 1)) →
          am_A (mh_G X) SC (d + 8) mX12_depthNow Q 185 [(0, .inr (.inr (some (9, 0)))), (1, .inl day), (2, .inl (mh_law I day known)), (4, .inl v), (5, .inl (k : Int))] [] w kc ks := by
        intro v hv
        refine bX12_depthNow_185 ?_
        rw [am_w_id (z := (k : Int) + 1) (by unfold am_rg; omega), hv]
        exact ihk
      refine bX12_depthNow_118 ⟨fun c => absurd c (show ¬ w.1 9 0 52 ≤ (k : Int) by omega), fun _ => ⟨by omega, by omega, ?_⟩⟩
      rw [Int.toNat_natCast, s3, q.1.1, q.2.1.1, q.2.2.1.1, q.2.2.2, am_w_id (z := day - I 29 0 k) (by unfold am_rg; omega)]
      refine ⟨fun c => go _ ?_, fun c => ⟨fun c2 => go _ ?_, fun c2 => ⟨fun c3 => go _ ?_, fun c3 => go _ ?_⟩⟩⟩
      · rw [e1, if_neg (by omega)]
      · rw [e1, if_neg (by omega)]
      · rw [e1, if_neg (by omega)]
      · rw [e1, if_pos (by omega)]; omega
  -- the entries
  have B : ∀ (n e : Nat), n + e = md_n (mh_P I a known) → am_A (mh_G X) SC (d + 8) mX12_depthNow Q 36 [(0, .inr (.inr (some (9, 0)))), (1, .inl day), (2, .inl (mh_law I day known)), (3, .inl (mh_cap I a known day)), (4, .inl (md_mx (fun e => if mh_fi I a known e = 0 then min (md_d (mh_P I a known) day (md_S (mh_P I a known) day) e) (mh_cap I a known day) else md_d (mh_P I a known) day (md_S (mh_P I a known) day) e) e)), (5, .inl (e : Int))] [] w kc ks := by
    intro n
    induction n with
    | zero =>
      intro e hn
      obtain rfl : e = md_n (mh_P I a known) := by omega
      refine bX12_depthNow_36 ⟨fun _ => ?_, fun c => absurd (show w.1 9 0 62 ≤ (md_n (mh_P I a known) : Int) by rw [s1]; omega) c⟩
      have z := C _ 0 rfl
      have z0 : max (md_mx (fun e => if mh_fi I a known e = 0 then min (md_d (mh_P I a known) day (md_S (mh_P I a known) day) e) (mh_cap I a known day) else md_d (mh_P I a known) day (md_S (mh_P I a known) day) e) (md_n (mh_P I a known))) (mh_cou I day known 0) = md_mx (fun e => if mh_fi I a known e = 0 then min (md_d (mh_P I a known) day (md_S (mh_P I a known) day) e) (mh_cap I a known day) else md_d (mh_P I a known) day (md_S (mh_P I a known) day) e) (md_n (mh_P I a known)) := by
        rw [mc.1]
        show max _ 0 = _
        omega
      rw [z0] at z
      exact z
    | succ n ih =>
      intro e hn
      have he : e < md_n (mh_P I a known) := by omega
      obtain ⟨f1, ⟨f2, f3⟩, f4, f5, f6, f7⟩ := mh_entF hC' hk ha hJ he
      have op := mh_opt (v := mh_eo I a known (mh_D I a known e)) f7.2
      obtain ⟨rs, rg⟩ := s4 e he
      have fie : mh_fi I a known e = mh_eo I a known (mh_D I a known e) / 4 % 2 := rfl
      have mx1 : md_mx (fun e => if mh_fi I a known e = 0 then min (md_d (mh_P I a known) day (md_S (mh_P I a known) day) e) (mh_cap I a known day) else md_d (mh_P I a known) day (md_S (mh_P I a known) day) e) (e + 1) = max (md_mx (fun e => if mh_fi I a known e = 0 then min (md_d (mh_P I a known) day (md_S (mh_P I a known) day) e) (mh_cap I a known day) else md_d (mh_P I a known) day (md_S (mh_P I a known) day) e) e) (if mh_fi I a known e = 0 then min (md_d (mh_P I a known) day (md_S (mh_P I a known) day) e) (mh_cap I a known day) else md_d (mh_P I a known) day (md_S (mh_P I a known) day) e) := rfl
      have ihe := ih (e + 1) (by omega)
      have st : ∀ v : Int, (v = 0 ↔ mh_fi I a known e = 0) → am_A (mh_G X) SC (d + 8) mX12_depthNow Q 75 [(0, .inr (.inr (some (9, 0)))), (1, .inl day), (2, .inl (mh_law I day known)), (3, .inl (mh_cap I a known day)), (4, .inl (md_mx (fun e => if mh_fi I a known e = 0 then min (md_d (mh_P I a known) day (md_S (mh_P I a known) day) e) (mh_cap I a known day) else md_d (mh_P I a known) day (md_S (mh_P I a known) day) e) e)), (5, .inl (e : Int))] [.inl v] w kc ks := by
        intro v hv
        refine bX12_depthNow_75 ?_
        refine pX12_depthOf hC' hk ha hJ he rs rg ?_
        have fin : ∀ z, z = (if mh_fi I a known e = 0 then min (md_d (mh_P I a known) day (md_S (mh_P I a known) day) e) (mh_cap I a known day) else md_d (mh_P I a known) day (md_S (mh_P I a known) day) e) →
            am_A (mh_G X) SC (d + 8) mX12_depthNow Q 104 [(0, .inr (.inr (some (9, 0)))), (1, .inl day), (2, .inl (mh_law I day known)), (3, .inl (mh_cap I a known day)), (5, .inl (e : Int))] [.inl z, .inl (md_mx (fun e => if mh_fi I a known e = 0 then min (md_d (mh_P I a known) day (md_S (mh_P I a known) day) e) (mh_cap I a known day) else md_d (mh_P I a known) day (md_S (mh_P I a known) day) e) e)] w kc ks := by
          intro z hz
          refine bX12_depthNow_104 ?_
          rw [am_w_id (z := (e : Int) + 1) (by unfold am_rg; omega), hz, ← mx1]
          exact ihe
        refine bX12_depthNow_84 ⟨fun c => fin _ ?_, fun c => fin _ ?_⟩
        · rw [if_pos (hv.mp c)]
        · rw [if_neg (fun z => c (hv.mpr z))]
      refine bX12_depthNow_36 ⟨fun c => absurd c (show ¬ w.1 9 0 62 ≤ (e : Int) by rw [s1]; omega), fun _ => ⟨by omega, by omega, ?_⟩⟩
      rw [Int.toNat_natCast, rs.2.2.1, rs.2.2.2.1, Int.toNat_natCast, Int.toNat_natCast, f7.1]
      refine ⟨by omega, by omega, by omega, by omega, fun c => st 0 ⟨fun _ => by rw [fie]; exact op.2.2.1.2.mp c, fun _ => rfl⟩, fun c => st 1 ⟨fun z => absurd z (by decide), fun z => absurd (op.2.2.1.2.mpr (by rw [← fie]; exact z)) c⟩⟩
  refine am_M_of (by decide) (Nat.le_of_ble_eq_true rfl) ?_
  refine bX12_depthNow_0 ?_
  rw [s3]
  refine pX12_lawOf hJ.2.1 ?_
  refine bX12_depthNow_9 ?_
  refine pX12_feastCap hJ.2.1 (by omega) hl ?_
  refine bX12_depthNow_16 ?_
  rw [s3]
  refine pX12_heirCap (a := a) hJ s2 (by omega) hl nb ?_
  refine bX12_depthNow_26 ?_
  rw [cape]
  exact B (md_n (mh_P I a known)) 0 rfl
