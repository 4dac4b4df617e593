-- the law of a day, the rule by which one mourns
variable {SC : Nat → Nat} {X : mh_X}
def mh_lw (I : Nat → Nat → Nat → Int) (day known : Int) : Nat → Int
  | 0 => -1
  | n + 1 => if I 10 n 17 ≤ day ∧ I 10 n 17 ≤ known then (n : Int) else mh_lw I day known n
def mh_law (I : Nat → Nat → Nat → Int) (day known : Int) : Int := mh_lw I day known (I 4 0 5).toNat
theorem mh_lw_b (I : Nat → Nat → Nat → Int) (day known : Int) : ∀ n : Nat, mh_lw I day known n = -1 ∨ (0 ≤ mh_lw I day known n ∧ mh_lw I day known n < n ∧ I 10 (mh_lw I day known n).toNat 17 ≤ day ∧ I 10 (mh_lw I day known n).toNat 17 ≤ known)
  | 0 => Or.inl rfl
  | n + 1 => by
    have := mh_lw_b I day known n
    unfold mh_lw
    split
    · rename_i h
      exact Or.inr ⟨by omega, by omega, by rw [Int.toNat_natCast]; exact h.1, by rw [Int.toNat_natCast]; exact h.2⟩
    · rcases this with h | h
      · exact Or.inl h
      · exact Or.inr ⟨h.1, by omega, h.2.2⟩
theorem pX1_lawOn {d kc ks : Nat} {Q : Option am_V → am_W → Prop} {w : am_W} {day known : Int} (hl : 0 ≤ w.1 4 0 5 ∧ w.1 4 0 5 ≤ 6)
    (K0 : mh_law w.1 day known = -1 → Q (some (.inr (.inr none))) w) (K1 : ∀ l : Nat, mh_law w.1 day known = (l : Int) → (l : Int) < w.1 4 0 5 → Q (some (.inr (.inr (some (10, l))))) w) :
    am_M (mh_G X) SC (d + 1) kc ks mX1_lawOn [.inr (.inr (some (4, 0))), .inl day, .inl known] w Q := by
  have B : ∀ n : Nat, (n : Int) ≤ w.1 4 0 5 → mh_law w.1 day known = mh_lw w.1 day known n → am_A (mh_G X) SC (d + 1) mX1_lawOn Q 7 [(0, .inr (.inr (some (4, 0)))), (1, .inl day), (2, .inl known), (3, .inl ((n : Int) - 1))] [] w kc ks := by
    intro n
    induction n with
    | zero =>
      intro hn h
      exact bX1_lawOn_7 ⟨fun _ => K0 h, fun c => absurd c (by omega)⟩
    | succ n ih =>
      intro hn h
      rw [show ((n + 1 : Nat) : Int) - 1 = (n : Int) by omega]
      have skip : ¬ (w.1 10 n 17 ≤ day ∧ w.1 10 n 17 ≤ known) → am_A (mh_G X) SC (d + 1) mX1_lawOn Q 45 [(0, .inr (.inr (some (4, 0)))), (1, .inl day), (2, .inl known), (3, .inl (n : Int))] [] w kc ks := by
        intro c
        refine bX1_lawOn_45 ?_
        rw [am_w_id (z := (n : Int) + -1) (by unfold am_rg; omega), show (n : Int) + -1 = (n : Int) - 1 by omega]
        refine ih (by omega) ?_
        rw [h]
        show (if _ then _ else _) = _
        rw [if_neg c]
      refine bX1_lawOn_7 ⟨fun c => absurd c (by omega), fun _ => ⟨by omega, by omega, ?_⟩⟩
      simp only [Int.toNat_natCast]
      refine ⟨fun c => skip (by omega), fun c => ⟨fun c2 => skip (by omega), fun c2 => K1 n ?_ (by omega)⟩⟩
      rw [h]
      show (if _ then _ else _) = _
      rw [if_pos ⟨by omega, by omega⟩]
  refine am_M_of (by decide) (Nat.le_of_ble_eq_true rfl) ?_
  refine bX1_lawOn_0 ?_
  rw [am_w_id (z := w.1 4 0 5 - 1) (by unfold am_rg; omega), show w.1 4 0 5 - 1 = ((w.1 4 0 5).toNat : Int) - 1 by omega]
  exact B _ (by omega) rfl
theorem pX12_lawOf {d kc ks : Nat} {Q : Option am_V → am_W → Prop} {I : Nat → Nat → Nat → Int} {w : am_W} {day known : Int} (hl : mh_RL I w.1)
    (K : Q (some (.inl (mh_law I day known))) w) : am_M (mh_G X) SC (d + 1) kc ks mX12_lawOf [.inr (.inr (some (9, 0))), .inl day, .inl known] w Q := by
  obtain ⟨l1, l2⟩ := hl
  have B : ∀ n k : Nat, (n + k : Nat) = (I 4 0 5).toNat → am_A (mh_G X) SC (d + 1) mX12_lawOf Q 5 [(0, .inr (.inr (some (9, 0)))), (1, .inl day), (2, .inl known), (3, .inl (mh_lw I day known k)), (4, .inl (k : Int))] [] w kc ks := by
    intro n
    induction n with
    | zero =>
      intro k hk
      refine bX12_lawOf_5 ⟨fun _ => ?_, fun c => absurd c (show ¬ ¬ w.1 9 0 21 ≤ (k : Int) by omega)⟩
      unfold mh_law at K
      rw [show k = (I 4 0 5).toNat by omega]
      exact K
    | succ n ih =>
      intro k hk
      have q := l2 k (by omega)
      have ihk := ih (k + 1) (by omega)
      refine bX12_lawOf_5 ⟨fun c => absurd c (show ¬ w.1 9 0 21 ≤ (k : Int) by omega), fun _ => ⟨by omega, by omega, ?_⟩⟩
      simp only [Int.toNat_natCast]
      rw [q.2.1]
      have skip : ¬ (I 10 k 17 ≤ day ∧ I 10 k 17 ≤ known) → am_A (mh_G X) SC (d + 1) mX12_lawOf Q 39 [(0, .inr (.inr (some (9, 0)))), (1, .inl day), (2, .inl known), (3, .inl (mh_lw I day known k)), (4, .inl (k : Int))] [] w kc ks := by
        intro c
        refine bX12_lawOf_39 ?_
        rw [am_w_id (z := (k : Int) + 1) (by unfold am_rg; omega)]
        have e : mh_lw I day known (k + 1) = mh_lw I day known k := by
          show (if _ then _ else _) = _
          rw [if_neg c]
        rw [← e]
        exact ihk
      refine ⟨fun c => skip (by omega), fun c => ⟨fun c2 => skip (by omega), fun c2 => ?_⟩⟩
      refine bX12_lawOf_39 ?_
      rw [am_w_id (z := (k : Int) + 1) (by unfold am_rg; omega)]
      have e : mh_lw I day known (k + 1) = (k : Int) := by
        show (if _ then _ else _) = _
        rw [if_pos ⟨by omega, by omega⟩]
      rw [e] at ihk
      exact ihk
  refine am_M_of (by decide) (Nat.le_of_ble_eq_true rfl) ?_
  exact bX12_lawOf_0 (B _ 0 rfl)
noncomputable def mh_rb (P : Nat → Prop) (c : Nat → Int) : Nat → Int
  | 0 => -1
  | r + 1 => @ite Int ((mh_rb P c r = -1 ∨ c r ≤ c (mh_rb P c r).toNat) ∧ P r) (Classical.propDecidable _) (r : Int) (mh_rb P c r)
theorem mh_rb1 (P : Nat → Prop) (c : Nat → Int) (r : Nat) : mh_rb P c (r + 1) = @ite Int ((mh_rb P c r = -1 ∨ c r ≤ c (mh_rb P c r).toNat) ∧ P r) (Classical.propDecidable _) (r : Int) (mh_rb P c r) := rfl
theorem mh_rb_b (P : Nat → Prop) (c : Nat → Int) : ∀ n : Nat, mh_rb P c n = -1 ∨ (0 ≤ mh_rb P c n ∧ mh_rb P c n < n)
  | 0 => Or.inl rfl
  | n + 1 => by
    have := mh_rb_b P c n
    unfold mh_rb
    split <;> omega
theorem mh_rb_f {P : Nat → Prop} {c : Nat → Int} : ∀ {n : Nat}, (∀ r, r < n → ¬ P r) → mh_rb P c n = -1
  | 0, _ => rfl
  | n + 1, h => by
    unfold mh_rb
    rw [if_neg (fun q => h n (by omega) q.2)]
    exact mh_rb_f (fun r hr => h r (by omega))
/-- d is kin of a by rule r of law l -/
def mh_kk (I : Nat → Nat → Nat → Int) (a d : Nat) (day known : Int) (l r : Nat) : Prop := mh_ks I day known a (mh_wo I l r) (I 144 l r).toNat d
/-- the rule by which a mourns for d -/
noncomputable def mh_rule (I : Nat → Nat → Nat → Int) (a d : Nat) (known : Int) : Int :=
  if I 38 0 a ≤ known ∧ I 40 0 d ≤ known ∧ ¬ mh_law I (I 39 0 d) known = -1 then
    mh_rb (mh_kk I a d (I 39 0 d) known (mh_law I (I 39 0 d) known).toNat) (I 144 (mh_law I (I 39 0 d) known).toNat) (I 10 (mh_law I (I 39 0 d) known).toNat 10).toNat
  else -1
/-- what the class alone keeps of people and laws -/
def mh_C (I : Nat → Nat → Nat → Int) (L : Nat → Nat → Nat → Int64) : Prop := ∃ J, mh_RK I L J ∧ mh_RL I J ∧ mh_RN I J
theorem mh_E_C {a b : am_W} (e : mh_E a b) : mh_C a.1 a.2.1 := ⟨b.1, e.2.2.2.2.1, e.2.2.2.1, e.2.1⟩
theorem pX4_ruleFor {d kc ks : Nat} {Q : Option am_V → am_W → Prop} {w : am_W} {known : Int} {a e : Nat} (hC : mh_C w.1 w.2.1) (ha : (a : Int) < w.1 5 0 18) (he : (e : Int) < w.1 5 0 18) (hk : known < 2147483647)
    (K : ∀ L', (∀ t, t ∉ [5, 48] → L' t = w.2.1 t) → L' 5 0 16 = w.2.1 5 0 16 → Q (some (.inl (mh_rule w.1 a e known))) (w.1, L', w.2.2)) :
    am_M (mh_G X) SC (d + 4) kc ks mX4_ruleFor [.inr (.inr (some (6, 0))), .inl (a : Int), .inl (e : Int), .inl known] w Q := by
  obtain ⟨J, R, RL, RN⟩ := hC
  have fa := mh_RK_fa R
  have hp := R.1.2
  have hm := R.2.1.2
  have hl := RL.1.2
  have no : ¬ (w.1 38 0 a ≤ known ∧ w.1 40 0 e ≤ known ∧ ¬ mh_law w.1 (w.1 39 0 e) known = -1) → Q (some (.inl (-1))) w := by
    intro c
    have k := K w.2.1 (fun _ _ => rfl) rfl
    unfold mh_rule at k
    rw [if_neg c] at k
    exact k
  refine am_M_of (by decide) (Nat.le_of_ble_eq_true rfl) ?_
  refine bX4_ruleFor_0 ⟨by omega, by omega, ?_⟩
  simp only [Int.toNat_natCast]
  refine ⟨fun c => no (fun z => by omega), fun c => ⟨by omega, by omega, fun c2 => ?_, fun c2 => no (fun z => by omega)⟩⟩
  refine pX1_lawOn hl (fun c3 => bX4_ruleFor_45 (no (fun z => z.2.2 c3))) (fun l hlw hll => ?_)
  refine bX4_ruleFor_45a ⟨by omega, by omega, ?_⟩
  simp only [Int.toNat_natCast]
  refine pX2_gather hp hm (fun k hk => (R.2.2.2.2 k hk).1) (fun L' g => ?_)
  refine bX4_ruleFor_71 ?_
  have Fl := RL.2 l hll
  have Fr := Fl.1.1
  have yes : mh_rule w.1 a e known = mh_rb (mh_kk w.1 a e (w.1 39 0 e) known l) (w.1 144 l) (w.1 10 l 10).toNat := by
    unfold mh_rule
    rw [if_pos ⟨by omega, by omega, by omega⟩, hlw, Int.toNat_natCast]
  have B : ∀ n r : Nat, (n + r : Nat) = (w.1 10 l 10).toNat → am_A (mh_G X) SC (d + 4) mX4_ruleFor Q 77 [(0, .inr (.inr (some (6, 0)))), (1, .inl (a : Int)), (2, .inl (e : Int)), (4, .inr (.inr (some (10, l)))), (5, .inl (mh_rb (mh_kk w.1 a e (w.1 39 0 e) known l) (w.1 144 l) r)), (6, .inl (r : Int))] [] (w.1, L', w.2.2) kc ks := by
    intro n
    induction n with
    | zero =>
      intro r hr
      refine bX4_ruleFor_77 ⟨fun _ => ?_, fun c3 => absurd c3 (show ¬ ¬ w.1 10 l 10 ≤ (r : Int) by omega)⟩
      have k := K L' g.1 g.2.1
      rw [yes, ← show r = (w.1 10 l 10).toNat by omega] at k
      exact k
    | succ n ih =>
      intro r hr
      have hb := mh_rb_b (mh_kk w.1 a e (w.1 39 0 e) known l) (w.1 144 l) r
      have Fk := Fl.1.2.1 r (by omega)
      have ihr := ih (r + 1) (by omega)
      have step : ∀ v, v = mh_rb (mh_kk w.1 a e (w.1 39 0 e) known l) (w.1 144 l) (r + 1) → am_A (mh_G X) SC (d + 4) mX4_ruleFor Q 142 [(0, .inr (.inr (some (6, 0)))), (1, .inl (a : Int)), (2, .inl (e : Int)), (4, .inr (.inr (some (10, l)))), (5, .inl v), (6, .inl (r : Int))] [] (w.1, L', w.2.2) kc ks := by
        intro v hv
        refine bX4_ruleFor_142 ?_
        rw [am_w_id (z := (r : Int) + 1) (by unfold am_rg; omega), hv]
        exact ihr
      have near : (mh_rb (mh_kk w.1 a e (w.1 39 0 e) known l) (w.1 144 l) r = -1 ∨ w.1 144 l r ≤ w.1 144 l (mh_rb (mh_kk w.1 a e (w.1 39 0 e) known l) (w.1 144 l) r).toNat) →
          am_A (mh_G X) SC (d + 4) mX4_ruleFor Q 110 [(0, .inr (.inr (some (6, 0)))), (1, .inl (a : Int)), (2, .inl (e : Int)), (4, .inr (.inr (some (10, l)))), (5, .inl (mh_rb (mh_kk w.1 a e (w.1 39 0 e) known l) (w.1 144 l) r)), (6, .inl (r : Int))] [] (w.1, L', w.2.2) kc ks := by
        intro c3
        refine bX4_ruleFor_110 (bX4_ruleFor_115 ⟨fun z => absurd z (by decide), fun _ => ?_⟩)
        refine pX2_isKin (by omega) (mh_fa_ga fa g) (L0 := w.2.1) (day := w.1 39 0 e) (known := known) g Fk.1.2 (fun i hi => (Fk.2.1 i hi).2) ha he (by show w.1 38 0 a ≤ known; omega) (fun h => ?_) (fun h => ?_)
        · refine bX4_ruleFor_135 ⟨fun z => absurd z (by decide), fun _ => step _ ?_⟩
          unfold mh_rb
          rw [if_pos ⟨c3, h⟩]
        · refine bX4_ruleFor_135 ⟨fun _ => step _ ?_, fun z => absurd rfl z⟩
          rw [mh_rb1, if_neg (fun z => h z.2)]
      refine bX4_ruleFor_77 ⟨fun c3 => absurd c3 (show ¬ w.1 10 l 10 ≤ (r : Int) by omega), fun _ => ⟨fun c3 => near (Or.inl c3), fun c3 => ⟨by omega, by omega, by omega, by omega, ?_⟩⟩⟩
      simp only [Int.toNat_natCast]
      refine ⟨fun c4 => bX4_ruleFor_115 ⟨fun _ => step _ ?_, fun z => absurd rfl z⟩, fun c4 => near (Or.inr (by omega))⟩
      rw [mh_rb1, if_neg (fun z => by rcases z.1 with z | z <;> omega)]
  exact B _ 0 rfl
theorem pX12_ruleFor {d kc ks : Nat} {Q : Option am_V → am_W → Prop} {I : Nat → Nat → Nat → Int} {L : Nat → Nat → Nat → Int64} {w : am_W} {known : Int} {a e : Nat} (R : mh_RK I L w.1) (RL : mh_RL I w.1) (ha : (a : Int) < I 5 0 18) (he : (e : Int) < I 5 0 18) (hk : known < 2147483647)
    (K : ∀ w', mh_fm [112, 113] [] w w' → Q (some (.inl (mh_rule I a e known))) w') :
    am_M (mh_G X) SC (d + 4) kc ks mX12_ruleFor [.inr (.inr (some (9, 0))), .inl (a : Int), .inl (e : Int), .inl known] w Q := by
  have hp := R.1.2
  have pa := R.2.2.1 a ha
  have pe := R.2.2.1 e he
  have no : (a = e ∨ ¬ (I 38 0 a ≤ known ∧ I 40 0 e ≤ known ∧ ¬ mh_law I (I 39 0 e) known = -1)) → Q (some (.inl (-1))) w := by
    intro c
    have k := K w mh_fm_r
    have z : mh_rule I a e known = -1 := by
      unfold mh_rule
      by_cases c2 : I 38 0 a ≤ known ∧ I 40 0 e ≤ known ∧ ¬ mh_law I (I 39 0 e) known = -1
      · rw [if_pos c2]
        have ae : a = e := c.resolve_right (fun z => z c2)
        have lb := mh_lw_b I (I 39 0 e) known (I 4 0 5).toNat
        have hll : ((mh_law I (I 39 0 e) known).toNat : Int) < I 4 0 5 := by
          unfold mh_law at c2 ⊢
          omega
        refine mh_rb_f (fun r hr z => ?_)
        have q := (RL.2 _ hll).1.2.1 r (by omega)
        unfold mh_kk at z
        rw [show (I 144 (mh_law I (I 39 0 e) known).toNat r).toNat = ((I 144 (mh_law I (I 39 0 e) known).toNat r).toNat - 1) + 1 by omega] at z
        exact z.2.1 ae.symm
      · rw [if_neg c2]
    rw [z] at k
    exact k
  refine am_M_of (by decide) (Nat.le_of_ble_eq_true rfl) ?_
  refine bX12_ruleFor_0 ⟨fun c => no (Or.inl (by omega)), fun c => ⟨by omega, by omega, ?_⟩⟩
  simp only [Int.toNat_natCast]
  rw [pa.2.2.2.2.2.2.1.1]
  refine ⟨fun c2 => no (Or.inr (fun z => by omega)), fun c2 => ⟨fun c3 => no (Or.inr (fun z => by omega)), fun c3 => ⟨by omega, by omega, fun c4 => ?_, fun c4 => no (Or.inr (fun z => by omega))⟩⟩⟩
  have ed : w.1 102 0 e = I 39 0 e := by omega
  rw [ed]
  refine pX12_lawOf RL ?_
  have lb := mh_lw_b I (I 39 0 e) known (I 4 0 5).toNat
  have l6 := RL.1
  refine bX12_ruleFor_49 ⟨fun c5 => ?_, fun c5 => no (Or.inr (fun z => z.2.2 c5))⟩
  obtain ⟨l, hlw⟩ : ∃ l : Nat, mh_law I (I 39 0 e) known = (l : Int) := ⟨(mh_law I (I 39 0 e) known).toNat, by unfold mh_law at c5 ⊢; omega⟩
  have hll : (l : Int) < I 4 0 5 := by unfold mh_law at hlw c5; omega
  rw [hlw]
  have Fl := RL.2 l hll
  have Fr := Fl.1.1
  have yes : mh_rule I a e known = mh_rb (mh_kk I a e (I 39 0 e) known l) (I 144 l) (I 10 l 10).toNat := by
    unfold mh_rule
    rw [if_pos ⟨by omega, by omega, by omega⟩, hlw, Int.toNat_natCast]
  have B : ∀ (n r : Nat) (w2 : am_W), (n + r : Nat) = (I 10 l 10).toNat → mh_fm [112, 113] [] w w2 → am_A (mh_G X) SC (d + 4) mX12_ruleFor Q 65 [(0, .inr (.inr (some (9, 0)))), (1, .inl (a : Int)), (2, .inl (e : Int)), (3, .inl known), (4, .inl (l : Int)), (5, .inl (mh_rb (mh_kk I a e (I 39 0 e) known l) (I 144 l) r)), (6, .inl (r : Int))] [] w2 kc ks := by
    intro n
    induction n with
    | zero =>
      intro r w2 hr g
      have e68 : w2.1 68 0 l = w.1 68 0 l := by rw [g.1 68 (by decide) (by decide)]
      refine bX12_ruleFor_65 ⟨by omega, by omega, ?_⟩
      simp only [Int.toNat_natCast]
      rw [e68]
      refine ⟨fun _ => ?_, fun c3 => absurd c3 (show ¬ ¬ w.1 68 0 l ≤ (r : Int) by omega)⟩
      have k := K w2 g
      rw [yes, ← show r = (I 10 l 10).toNat by omega] at k
      exact k
    | succ n ih =>
      intro r w2 hr g
      have e68 : w2.1 68 0 l = w.1 68 0 l := by rw [g.1 68 (by decide) (by decide)]
      have hb := mh_rb_b (mh_kk I a e (I 39 0 e) known l) (I 144 l) r
      have Fk := Fl.1.2.1 r (by omega)
      have kf : mh_kf I L w2.1 l l r := mh_kf_s ⟨R, ⟨Fk.1, Fk.2.1⟩, by omega, by omega⟩ g
      have e102 : w2.1 102 0 e = I 39 0 e := by rw [g.1 102 (by decide) (by decide)]; exact ed
      refine bX12_ruleFor_65 ⟨by omega, by omega, ?_⟩
      simp only [Int.toNat_natCast]
      rw [e68, e102]
      refine ⟨fun c3 => absurd c3 (show ¬ w.1 68 0 l ≤ (r : Int) by omega), fun _ => ⟨by omega, by omega, ?_⟩⟩
      have step : ∀ (v : Int) (w3 : am_W), mh_fm [112, 113] [] w2 w3 → v = mh_rb (mh_kk I a e (I 39 0 e) known l) (I 144 l) (r + 1) → am_A (mh_G X) SC (d + 4) mX12_ruleFor Q 133 [(0, .inr (.inr (some (9, 0)))), (1, .inl (a : Int)), (2, .inl (e : Int)), (3, .inl known), (4, .inl (l : Int)), (5, .inl v), (6, .inl (r : Int))] [] w3 kc ks := by
        intro v w3 g3 hv
        refine bX12_ruleFor_133 ?_
        rw [am_w_id (z := (r : Int) + 1) (by unfold am_rg; omega), hv]
        exact ih (r + 1) w3 (by omega) (mh_fm_t g g3)
      refine pX12_isKinBy kf ha he (fun w3 g3 h => ?_) (fun w3 g3 h => ?_)
      · have yes2 : (mh_rb (mh_kk I a e (I 39 0 e) known l) (I 144 l) r = -1 ∨ I 144 l r ≤ I 144 l (mh_rb (mh_kk I a e (I 39 0 e) known l) (I 144 l) r).toNat) →
            am_A (mh_G X) SC (d + 4) mX12_ruleFor Q 129 [(0, .inr (.inr (some (9, 0)))), (1, .inl (a : Int)), (2, .inl (e : Int)), (3, .inl known), (4, .inl (l : Int)), (6, .inl (r : Int))] [] w3 kc ks := by
          intro c6
          refine bX12_ruleFor_129 (step _ w3 g3 ?_)
          unfold mh_rb
          rw [if_pos ⟨c6, h⟩]
        refine bX12_ruleFor_94 ⟨fun _ => ⟨fun c6 => yes2 (Or.inl c6), fun c6 => ⟨by omega, by omega, by omega, by omega, by omega, by omega, ?_⟩⟩, fun z => absurd z (by decide)⟩
        simp only [Int.toNat_natCast]
        have gg := mh_fm_t g g3
        have Fb := Fl.1.2.1 (mh_rb (mh_kk I a e (I 39 0 e) known l) (I 144 l) r).toNat (by omega)
        rw [gg.1 71 (by decide) (by decide), Fk.1.1, Fb.1.1]
        refine ⟨fun c7 => step _ w3 g3 ?_, fun c7 => yes2 (Or.inr (by omega))⟩
        rw [mh_rb1, if_neg (fun z => by rcases z.1 with z | z <;> omega)]
      · refine bX12_ruleFor_94 ⟨fun z => absurd rfl z, fun _ => step _ w3 g3 ?_⟩
        rw [mh_rb1, if_neg (fun z => h z.2)]
  exact B _ 0 w rfl mh_fm_r
