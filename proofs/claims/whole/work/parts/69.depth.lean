-- the depth on a day: pure, and the class
variable {SC : Nat → Nat} {X : mh_X}
def mh_fcap (I : Nat → Nat → Nat → Int) (l : Nat) (date : Int) : Nat → Int
  | 0 => 4
  | k + 1 => if I 151 l k = date then min (mh_fcap I l date k) (I 152 l k) else mh_fcap I l date k
def mh_chi (I : Nat → Nat → Nat → Int) (a : Nat) (lo day known : Int) : Nat → Int
  | 0 => 0
  | k + 1 => if (I 35 0 k = (a : Int) ∨ I 36 0 k = (a : Int)) ∧ I 38 0 k ≤ known ∧ lo ≤ I 37 0 k ∧ I 37 0 k ≤ day then 1 else mh_chi I a lo day known k
theorem mh_chi_b {I : Nat → Nat → Nat → Int} {a : Nat} {lo day known : Int} : ∀ {n : Nat}, (mh_chi I a lo day known n = 0 ∨ mh_chi I a lo day known n = 1) ∧ (mh_chi I a lo day known n = 1 ↔ ∃ k, k < n ∧ (I 35 0 k = (a : Int) ∨ I 36 0 k = (a : Int)) ∧ I 38 0 k ≤ known ∧ lo ≤ I 37 0 k ∧ I 37 0 k ≤ day)
  | 0 => ⟨Or.inl rfl, fun h => absurd h (by show ¬ (0 : Int) = 1; decide), fun ⟨k, h, _⟩ => absurd h (Nat.not_lt_zero k)⟩
  | n + 1 => by
    obtain ⟨h1, h2⟩ := mh_chi_b (I := I) (a := a) (lo := lo) (day := day) (known := known) (n := n)
    unfold mh_chi
    by_cases c : (I 35 0 n = (a : Int) ∨ I 36 0 n = (a : Int)) ∧ I 38 0 n ≤ known ∧ lo ≤ I 37 0 n ∧ I 37 0 n ≤ day
    · rw [if_pos c]
      exact ⟨Or.inr rfl, fun _ => ⟨n, by omega, c⟩, fun _ => rfl⟩
    · rw [if_neg c]
      refine ⟨h1, h2.trans ⟨?_, ?_⟩⟩
      · rintro ⟨k, h, g⟩; exact ⟨k, by omega, g⟩
      · rintro ⟨k, h, g⟩
        by_cases e : k = n
        · rw [e] at g; exact absurd g c
        · exact ⟨k, by omega, g⟩
def mh_cou (I : Nat → Nat → Nat → Int) (day known : Int) : Nat → Int
  | 0 => 0
  | k + 1 => if I 32 0 k ≤ known ∧ I 29 0 k ≤ day ∧ day < I 29 0 k + I 30 0 k then max (mh_cou I day known k) (I 31 0 k) else mh_cou I day known k
/-- the most that feasts and heirs leave -/
noncomputable def mh_cap (I : Nat → Nat → Nat → Int) (a : Nat) (known day : Int) : Int :=
  if mh_law I day known = -1 then 4 else
    min (mh_fcap I (mh_law I day known).toNat (mh_date day % 10000) (I 10 (mh_law I day known).toNat 11).toNat)
      (if 0 < I 10 (mh_law I day known).toNat 12 ∧ mh_chi I a (day - I 10 (mh_law I day known).toNat 12 + 1) day known (I 5 0 18).toNat = 1 then min 4 (I 10 (mh_law I day known).toNat 13) else 4)
noncomputable def mh_dep (I : Nat → Nat → Nat → Int) (a : Nat) (known day : Int) : Int :=
  if ¬ mh_law I day known = -1 ∧ 0 < I 10 (mh_law I day known).toNat 14 ∧ day < mh_lat (I 37 0 a) (I 10 (mh_law I day known).toNat 14 * 12) then
    min (max (max (md_mx (mh_df I a known day) (md_n (mh_P I a known))) (min (md_mx (mh_do2 I a known day) (md_n (mh_P I a known))) (mh_cap I a known day))) (mh_cou I day known (I 4 0 6).toNat)) (I 10 (mh_law I day known).toNat 15)
  else max (max (md_mx (mh_df I a known day) (md_n (mh_P I a known))) (min (md_mx (mh_do2 I a known day) (md_n (mh_P I a known))) (mh_cap I a known day))) (mh_cou I day known (I 4 0 6).toNat)
/-- is there, born and alive -/
def mh_ali (I : Nat → Nat → Nat → Int) (a : Nat) (known day : Int) : Prop := I 38 0 a ≤ known ∧ I 37 0 a ≤ day ∧ ¬ (I 40 0 a ≤ known ∧ I 39 0 a < day)
noncomputable def mh_dpt (I : Nat → Nat → Nat → Int) (a : Nat) (known day : Int) : Int := @ite Int (mh_ali I a known day) (Classical.propDecidable _) (mh_dep I a known day) (-1)
/-- orders are sound in the class -/
def mh_Co (I : Nat → Nat → Nat → Int) : Prop := (0 ≤ I 4 0 6 ∧ I 4 0 6 ≤ 10) ∧ ∀ k : Nat, (k : Int) < I 4 0 6 → (-36524 ≤ I 29 0 k ∧ I 29 0 k ≤ 73047) ∧ (1 ≤ I 30 0 k ∧ I 30 0 k ≤ 400) ∧ (1 ≤ I 31 0 k ∧ I 31 0 k ≤ 4)
theorem mh_E_Co {a b : am_W} (e : mh_E a b) : mh_Co a.1 := by
  obtain ⟨e1, e2⟩ := e.2.2.2.2.2.1
  exact ⟨e1.2, fun k hk => ⟨(e2 k hk).1.2, (e2 k hk).2.1.2, (e2 k hk).2.2.1.2⟩⟩
theorem mh_cou_b {I : Nat → Nat → Nat → Int} (h : mh_Co I) {day known : Int} : ∀ n : Nat, (n : Int) ≤ I 4 0 6 → 0 ≤ mh_cou I day known n ∧ mh_cou I day known n ≤ 4
  | 0, _ => by show (0 : Int) ≤ 0 ∧ (0 : Int) ≤ 4; omega
  | n + 1, hn => by
    have := mh_cou_b h (day := day) (known := known) n (by omega)
    have := (h.2 n (by omega)).2.2
    unfold mh_cou
    split <;> omega
theorem pX1_ordered {d kc ks : Nat} {Q : Option am_V → am_W → Prop} {I : Nat → Nat → Nat → Int} {day known : Int} {w : am_W} (hO : mh_Co I) (hd : -36524 ≤ day ∧ day ≤ 73048) (hw : mh_wI I w)
    (K : Q (some (.inl (mh_cou I day known (I 4 0 6).toNat))) w) : am_M (mh_G X) SC (d + 2) kc ks mX1_orderedDepth [.inr (.inr (some (4, 0))), .inl day, .inl known] w Q := by
  have W4 := hw 4 (by decide)
  have W29 := hw 29 (by decide)
  have W30 := hw 30 (by decide)
  have W31 := hw 31 (by decide)
  have W32 := hw 32 (by decide)
  have o10 := hO.1
  have B : ∀ n k : Nat, (n + k : Nat) = (I 4 0 6).toNat → am_A (mh_G X) SC (d + 2) mX1_orderedDepth Q 5 [(0, .inr (.inr (some (4, 0)))), (1, .inl day), (2, .inl known), (3, .inl (mh_cou I day known k)), (4, .inl (k : Int))] [] w kc ks := by
    intro n
    induction n with
    | zero =>
      intro k hk
      refine bX1_orderedDepth_5 ⟨fun _ => ?_, fun c => absurd c (show ¬ ¬ w.1 4 0 6 ≤ (k : Int) by rw [W4]; omega)⟩
      rw [show k = (I 4 0 6).toNat by omega]
      exact K
    | succ n ih =>
      intro k hk
      have q := hO.2 k (by omega)
      have ihk := ih (k + 1) (by omega)
      have e1 : mh_cou I day known (k + 1) = if I 32 0 k ≤ known ∧ I 29 0 k ≤ day ∧ day < I 29 0 k + I 30 0 k then max (mh_cou I day known k) (I 31 0 k) else mh_cou I day known k := rfl
      have go : ∀ v, v = mh_cou I day known (k + 1) → am_A (mh_G X) SC (d + 2) mX1_orderedDepth Q 67 [(0, .inr (.inr (some (4, 0)))), (1, .inl day), (2, .inl known), (3, .inl v), (4, .inl (k : Int))] [] w kc ks := by
        intro v hv
        refine bX1_orderedDepth_67 ?_
        rw [am_w_id (z := (k : Int) + 1) (by unfold am_rg; omega), hv]
        exact ihk
      refine bX1_orderedDepth_5 ⟨fun c => absurd c (show ¬ w.1 4 0 6 ≤ (k : Int) by rw [W4]; omega), fun _ => ⟨by omega, by omega, ?_⟩⟩
      rw [Int.toNat_natCast, W32, W29, W30, W31, am_w_id (z := I 29 0 k + I 30 0 k) (by unfold am_rg; omega)]
      refine ⟨fun c => go _ ?_, fun c => ⟨fun c2 => go _ ?_, fun c2 => ⟨fun c3 => go _ ?_, fun c3 => go _ ?_⟩⟩⟩
      · rw [e1, if_neg (by omega)]
      · rw [e1, if_neg (by omega)]
      · rw [e1, if_neg (by omega)]
      · rw [e1, if_pos (by omega)]
  refine am_M_of (by decide) (Nat.le_of_ble_eq_true rfl) ?_
  exact bX1_orderedDepth_0 (B _ 0 rfl)
theorem pX3_onFeasts {d kc ks : Nat} {Q : Option am_V → am_W → Prop} {w : am_W} {l : Nat} {v date : Int} (hf : 0 ≤ w.1 10 l 11 ∧ w.1 10 l 11 ≤ 8) (hv : 0 ≤ v ∧ v ≤ 4) (hd : 0 ≤ date ∧ date ≤ 100000000)
    (hq : ∀ k : Nat, (k : Int) < w.1 10 l 11 → 0 ≤ w.1 152 l k)
    (K : Q (some (.inl (min v (mh_fcap w.1 l (date % 10000) (w.1 10 l 11).toNat)))) w) : am_M (mh_G X) SC (d + 2) kc ks mX3_onFeasts [.inr (.inr (some (10, l))), .inl v, .inl date] w Q := by
  have em : am_w (Int.tmod date 10000) = date % 10000 := by rw [Int.tmod_eq_emod_of_nonneg hd.1, am_w_id (by unfold am_rg; omega)]
  have B : ∀ n k : Nat, (n + k : Nat) = (w.1 10 l 11).toNat → am_A (mh_G X) SC (d + 2) mX3_onFeasts Q 5 [(0, .inr (.inr (some (10, l)))), (2, .inl date), (3, .inl (min v (mh_fcap w.1 l (date % 10000) k))), (4, .inl (k : Int))] [] w kc ks := by
    intro n
    induction n with
    | zero =>
      intro k hk
      refine bX3_onFeasts_5 ⟨fun _ => ?_, fun c => absurd c (show ¬ ¬ w.1 10 l 11 ≤ (k : Int) by omega)⟩
      rw [show k = (w.1 10 l 11).toNat by omega]
      exact K
    | succ n ih =>
      intro k hk
      have ihk := ih (k + 1) (by omega)
      have e1 : mh_fcap w.1 l (date % 10000) (k + 1) = if w.1 151 l k = date % 10000 then min (mh_fcap w.1 l (date % 10000) k) (w.1 152 l k) else mh_fcap w.1 l (date % 10000) k := rfl
      have go : ∀ z, z = min v (mh_fcap w.1 l (date % 10000) (k + 1)) → am_A (mh_G X) SC (d + 2) mX3_onFeasts Q 41 [(0, .inr (.inr (some (10, l)))), (2, .inl date), (3, .inl z), (4, .inl (k : Int))] [] w kc ks := by
        intro z hz
        refine bX3_onFeasts_41 ?_
        rw [am_w_id (z := (k : Int) + 1) (by unfold am_rg; omega), hz]
        exact ihk
      refine bX3_onFeasts_5 ⟨fun c => absurd c (show ¬ w.1 10 l 11 ≤ (k : Int) by omega), fun _ => ⟨by omega, by omega, ?_⟩⟩
      rw [Int.toNat_natCast, em]
      refine ⟨fun c => go _ ?_, fun c => go _ ?_⟩
      · rw [e1, if_neg c]
      · rw [e1, if_pos c]; omega
  refine am_M_of (by decide) (Nat.le_of_ble_eq_true rfl) ?_
  have z := B _ 0 rfl
  have e0 : min v (mh_fcap w.1 l (date % 10000) 0) = v := by show min v 4 = v; omega
  rw [e0] at z
  exact bX3_onFeasts_0 z
theorem pX2_hasChild {d kc ks : Nat} {Q : Option am_V → am_W → Prop} {w : am_W} {a : Nat} {lo day known : Int} (hF : mh_fa w.1 w.2.1) (ha : (a : Int) < w.1 5 0 18)
    (K : Q (some (.inl (mh_chi w.1 a lo day known (w.1 5 0 18).toNat))) w) : am_M (mh_G X) SC (d + 1) kc ks mX2_hasChildBorn [.inr (.inr (some (5, 0))), .inl (a : Int), .inl lo, .inl day, .inl known] w Q := by
  have p40 := hF.1
  have ch := hF.2.2.1
  have B : ∀ n k : Nat, (n + k : Nat) = (w.1 5 0 18).toNat → mh_chi w.1 a lo day known k = 0 → am_A (mh_G X) SC (d + 1) mX2_hasChildBorn Q 3 [(0, .inr (.inr (some (5, 0)))), (1, .inl (a : Int)), (2, .inl lo), (3, .inl day), (4, .inl known), (5, .inl (k : Int))] [] w kc ks := by
    intro n
    induction n with
    | zero =>
      intro k hk h
      refine bX2_hasChildBorn_3 ⟨fun _ => ?_, fun c => absurd c (show ¬ ¬ w.1 5 0 18 ≤ (k : Int) by omega)⟩
      rw [show k = (w.1 5 0 18).toNat by omega] at h
      rw [h] at K
      exact K
    | succ n ih =>
      intro k hk h
      have bb : k < (w.1 5 0 18).toNat → ((w.1 35 0 k = (a : Int) ∨ w.1 36 0 k = (a : Int)) ∧ w.1 38 0 k ≤ known ∧ lo ≤ w.1 37 0 k ∧ w.1 37 0 k ≤ day) → mh_chi w.1 a lo day known (w.1 5 0 18).toNat = 1 := fun h1 h2 => (mh_chi_b (n := (w.1 5 0 18).toNat)).2.mpr ⟨k, h1, h2⟩
      have skip : ¬ ((w.1 35 0 k = (a : Int) ∨ w.1 36 0 k = (a : Int)) ∧ w.1 38 0 k ≤ known ∧ lo ≤ w.1 37 0 k ∧ w.1 37 0 k ≤ day) → am_A (mh_G X) SC (d + 1) mX2_hasChildBorn Q 76 [(0, .inr (.inr (some (5, 0)))), (1, .inl (a : Int)), (2, .inl lo), (3, .inl day), (4, .inl known), (5, .inl (k : Int))] [] w kc ks := by
        intro c
        refine bX2_hasChildBorn_76 ?_
        rw [am_w_id (z := (k : Int) + 1) (by unfold am_rg; omega)]
        refine ih (k + 1) (by omega) ?_
        unfold mh_chi
        rw [if_neg c]; exact h
      refine bX2_hasChildBorn_3 ⟨fun c => absurd c (show ¬ w.1 5 0 18 ≤ (k : Int) by omega), fun _ => ⟨by omega, by omega, ?_⟩⟩
      rw [mh_bt_test (by omega), Int.toNat_natCast, Int.toNat_natCast, ch]
      refine ⟨fun c => bX2_hasChildBorn_33 ⟨fun _ => skip (fun z => c ⟨by omega, z.1⟩), fun z => absurd rfl z⟩, fun c => ?_⟩
      have c' := Classical.byContradiction c
      refine bX2_hasChildBorn_33 ⟨fun z => absurd z (by decide), fun _ => ⟨by omega, by omega, ?_⟩⟩
      rw [Int.toNat_natCast]
      refine ⟨fun c2 => skip (fun z => by omega), fun c2 => ⟨fun c3 => skip (fun z => by omega), fun c3 => ⟨fun c4 => skip (fun z => by omega), fun c4 => ?_⟩⟩⟩
      rw [bb (by omega) ⟨c'.2, by omega, by omega, by omega⟩] at K
      exact K
  refine am_M_of (by decide) (Nat.le_of_ble_eq_true rfl) ?_
  exact bX2_hasChildBorn_0 (B _ 0 rfl rfl)
theorem bX4_lightened_0n {d bc bs : Nat} {Q : Option am_V → am_W → Prop} {w : am_W} {x2 : Int} (h : Q (some (.inl (w.1 6 0 9))) w) :
    am_A (mh_G X) SC (d + 3) mX4_lightened Q 0 [(0, .inr (.inr (some (6, 0)))), (1, .inr (.inr none)), (2, .inl x2)] [] w bc bs := by
  refine am_aload_n dX4_lightened_0 (List.Mem.tail _ (List.Mem.head _)) ?_
  refine am_ifnull (tgt := 11) dX4_lightened_1 (by decide) (fun _ => ?_) (fun e => absurd rfl e)
  refine am_aload_n dX4_lightened_11 (List.Mem.head _) ?_
  refine am_getf (f := 9) (v := .inl (w.1 6 0 9)) dX4_lightened_12 hc_6 (by decide) wd_447 (by decide) rfl rfl ?_
  exact am_ret (r := some (.inl (w.1 6 0 9))) dX4_lightened_15 (Or.inl rfl) rfl h
theorem bX4_isTooYoung_0n {d bc bs : Nat} {Q : Option am_V → am_W → Prop} {w : am_W} {x2 : Int} (h : Q (some (.inl 0)) w) :
    am_A (mh_G X) SC (d + 3) mX4_isTooYoung Q 0 [(0, .inr (.inr (some (6, 0)))), (1, .inr (.inr none)), (2, .inl x2)] [] w bc bs := by
  refine am_aload_n dX4_isTooYoung_0 (List.Mem.tail _ (List.Mem.head _)) ?_
  refine am_ifnull (tgt := 41) dX4_isTooYoung_1 (by decide) (fun _ => ?_) (fun e => absurd rfl e)
  refine am_iconst dX4_isTooYoung_41 (by unfold am_rg; omega) ?_
  exact am_ret (r := some (.inl 0)) dX4_isTooYoung_42 (Or.inr (Or.inl ⟨rfl, (Or.inl rfl)⟩)) rfl h
