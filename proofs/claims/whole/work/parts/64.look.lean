-- startMourning, nextWedding, lookAhead
variable {SC : Nat → Nat} {X : mh_X}
theorem pX4_startM {d kc ks : Nat} {Q : Option am_V → am_W → Prop} {I : Nat → Nat → Nat → Int} {L : Nat → Nat → Nat → Int64} {a e : Nat} {known : Int} {w : am_W} (hC : mh_C I L) (hk : known < 2147483647) (ha : (a : Int) < I 5 0 18) (hw : mh_wI I w) (he : e < md_n (mh_P I a known))
    (c3 : w.1 6 0 3 = (e : Int)) (c4 : w.1 6 0 4 = (a : Int)) (c5 : w.1 6 0 5 = known)
    (K : ∀ w' : am_W, w'.2 = w.2 → (∀ t, t ∉ [6, 11, 154, 155] → w'.1 t = w.1 t) → mh_oe w.1 w'.1 e → w'.1 6 0 3 = (e : Int) + 1 → (∀ k, ¬ k = 3 → w'.1 6 0 k = w.1 6 0 k) → mh_ms I a known w'.1 e → mh_fresh w'.1 e → Q none w') :
    am_M (mh_G X) SC (d + 5) kc ks mX4_startMourning [.inr (.inr (some (6, 0))), .inl (mh_D I a known e : Int), .inl (mh_er I a known (mh_D I a known e) : Int)] w Q := by
  obtain ⟨h1, h2⟩ := mh_D_m (I := I) (a := a) (known := known) he
  obtain ⟨⟨l1, l2⟩, ⟨r1, r2⟩, d1, d2, d3, b1⟩ := mh_dead hC hk ha (by omega) h2
  have hC' := hC
  obtain ⟨J, R, RL, RN⟩ := hC
  have La := (RL.2 _ l2).1
  have Fr := La.2.1 _ r2
  have r30 : mh_er I a known (mh_D I a known e) < 30 := by have := La.1; omega
  have n40 : md_n (mh_P I a known) ≤ (I 5 0 18).toNat := mh_dl_n
  have p40 := R.1.2
  have W39 := hw 39 (by decide)
  have W40 := hw 40 (by decide)
  have W33 := hw 33 (by decide)
  have W37 := hw 37 (by decide)
  have W150 := hw 150 (by decide)
  have W4 := hw 4 (by decide)
  have op := mh_opt (v := mh_eo I a known (mh_D I a known e)) Fr.2.2.2.2.2
  have ee : I 150 (mh_el I known (mh_D I a known e)) (mh_er I a known (mh_D I a known e)) = mh_eo I a known (mh_D I a known e) := rfl
  have lw : mh_law w.1 (w.1 39 0 (mh_D I a known e)) known = (mh_el I known (mh_D I a known e) : Int) := by
    rw [mh_law_e (mh_wI_ft hw), W39]; exact l1
  refine am_M_of (by decide) (Nat.le_of_ble_eq_true rfl) ?_
  refine bX4_startMourning_0 ⟨by omega, by omega, ?_⟩
  rw [Int.toNat_natCast, c5]
  refine pX1_lawOn (by rw [W4]; exact RL.1.2) (fun c => absurd c (by rw [lw]; omega)) (fun l hl hll => ?_)
  obtain rfl : l = mh_el I known (mh_D I a known e) := by rw [lw] at hl; omega
  refine bX4_startMourning_20a ?_
  rw [c3]
  simp only [Int.toNat_natCast]
  rw [W150, ee, op.2.2.2.1, W39, W40]
  have bg : (a : Int) < 40 := by omega
  have fin : ∀ v hv : Int, max v (I 37 0 a) = md_b (mh_P I a known) e → (hv = 1 ∧ (mh_eo I a known (mh_D I a known e) % 2 = 1 ∧ I 33 0 a = 1)) ∨ (hv = 0 ∧ ¬ (mh_eo I a known (mh_D I a known e) % 2 = 1 ∧ I 33 0 a = 1)) →
      am_A (mh_G X) SC (d + 5) mX4_startMourning Q 102 [(0, .inr (.inr (some (6, 0)))), (1, .inl (mh_D I a known e : Int)), (2, .inl (mh_er I a known (mh_D I a known e) : Int)), (3, .inr (.inr (some (10, mh_el I known (mh_D I a known e))))), (4, .inr (.inr (some (11, e)))), (5, .inl v)] [.inl hv] w kc ks := by
    intro v hv hb hh
    refine bX4_startMourning_102 ?_
    rw [c4, Int.toNat_natCast, W37, hb]
    refine ⟨by omega, bg, ?_⟩
    refine pX5_start hC' hk ha hw he hh (fun w' g1 g2 g3 g4 g5 => ?_)
    refine bX4_startMourning_131 ?_
    have q6 : w'.1 6 = w.1 6 := g2 6 (by decide)
    rw [q6, c3, am_w_id (z := (e : Int) + 1) (by unfold am_rg; omega)]
    refine K _ g1 (fun t ht => ?_) (fun e' ne => ?_) (by simp only [am_up_s]) (fun k hk => ?_) ?_ ?_
    · show am_up _ _ _ _ _ t = _
      rw [am_up_t (fun c => ht (by rw [c]; decide))]
      exact g2 t (fun c => ht (by revert c; simp; omega))
    · simp (disch := decide) only [am_up_t]
      exact g3 e' ne
    · simp only [am_up_k hk]; rw [q6]
    · unfold mh_ms at *
      simp (disch := decide) only [am_up_t]
      exact g4
    · unfold mh_fresh at *
      simp (disch := decide) only [am_up_t]
      exact g5
  have mid : ∀ v : Int, max v (I 37 0 a) = md_b (mh_P I a known) e → am_A (mh_G X) SC (d + 5) mX4_startMourning Q 72 [(0, .inr (.inr (some (6, 0)))), (1, .inl (mh_D I a known e : Int)), (2, .inl (mh_er I a known (mh_D I a known e) : Int)), (3, .inr (.inr (some (10, mh_el I known (mh_D I a known e))))), (4, .inr (.inr (some (11, e))))] [.inl v] w kc ks := by
    intro v hb
    refine bX4_startMourning_72 ⟨by omega, by omega, ?_⟩
    rw [Int.toNat_natCast, W150, ee, op.1.1, c4, Int.toNat_natCast, W33]
    exact ⟨fun c => bX4_startMourning_101 (fin v 0 hb (Or.inr ⟨rfl, by omega⟩)), fun c => ⟨by omega, by omega, fun c2 => bX4_startMourning_101 (fin v 0 hb (Or.inr ⟨rfl, by omega⟩)), fun c2 => fin v 1 hb (Or.inl ⟨rfl, by omega⟩)⟩⟩
  have be : md_b (mh_P I a known) e = mh_eb I a known (mh_D I a known e) := rfl
  refine ⟨by omega, by omega, by omega, by omega, fun c => ⟨by omega, by omega, mid _ ?_⟩, fun c => ⟨by omega, by omega, mid _ ?_⟩⟩
  · rw [be]; unfold mh_eb; rw [if_pos (by omega)]
  · rw [be]; unfold mh_eb; rw [if_neg c]
theorem pX2_nextW {d kc ks : Nat} {Q : Option am_V → am_W → Prop} {I : Nat → Nat → Nat → Int} {a : Nat} {day known : Int} {w : am_W} (hm : 0 ≤ I 5 0 19 ∧ I 5 0 19 ≤ 40) (hd : day < 2147483647) (hb : ∀ k : Nat, (k : Int) < I 5 0 19 → I 46 0 k < 2147483647)
    (hw : ∀ t, t ∈ mh_ft → w.1 t = I t)
    (K : ∀ v, day < v → v ≤ 2147483647 → (∀ s, day < s → s < v → mh_iw I a known s (I 5 0 19).toNat = 0) → (v = 2147483647 ∨ mh_iw I a known v (I 5 0 19).toNat = 1) → Q (some (.inl v)) w) :
    am_M (mh_G X) SC (d + 1) kc ks mX2_nextWedding [.inr (.inr (some (5, 0))), .inl (a : Int), .inl day, .inl known] w Q := by
  have W5 := hw 5 (by decide)
  have W44 := hw 44 (by decide)
  have W45 := hw 45 (by decide)
  have W46 := hw 46 (by decide)
  have W47 := hw 47 (by decide)
  have B : ∀ (n k : Nat) (v : Int), (n + k : Nat) = (I 5 0 19).toNat → (day < v ∧ v ≤ 2147483647 ∧ (∀ s, day < s → s < v → mh_iw I a known s k = 0) ∧ (v = 2147483647 ∨ mh_iw I a known v k = 1)) →
      am_A (mh_G X) SC (d + 1) mX2_nextWedding Q 7 [(0, .inr (.inr (some (5, 0)))), (1, .inl (a : Int)), (2, .inl day), (3, .inl known), (4, .inl v), (5, .inl (k : Int))] [] w kc ks := by
    intro n
    induction n with
    | zero =>
      intro k v hk h
      rw [show k = (I 5 0 19).toNat by omega] at h
      refine bX2_nextWedding_7 ⟨fun _ => K v h.1 h.2.1 h.2.2.1 h.2.2.2, fun c => absurd c (show ¬ ¬ w.1 5 0 19 ≤ (k : Int) by rw [W5]; omega)⟩
    | succ n ih =>
      intro k v hk h
      obtain ⟨h1, h2, h3, h4⟩ := h
      have hbk := hb k (by omega)
      have iw1 : ∀ s, mh_iw I a known s (k + 1) = if (I 44 0 k = (a : Int) ∨ I 45 0 k = (a : Int)) ∧ I 46 0 k = s ∧ I 47 0 k ≤ known then 1 else mh_iw I a known s k := fun s => rfl
      have skip : (¬ ((I 44 0 k = (a : Int) ∨ I 45 0 k = (a : Int)) ∧ I 47 0 k ≤ known ∧ day < I 46 0 k ∧ I 46 0 k < v)) → am_A (mh_G X) SC (d + 1) mX2_nextWedding Q 93 [(0, .inr (.inr (some (5, 0)))), (1, .inl (a : Int)), (2, .inl day), (3, .inl known), (4, .inl v), (5, .inl (k : Int))] [] w kc ks := by
        intro c
        refine bX2_nextWedding_93 ?_
        rw [am_w_id (z := (k : Int) + 1) (by unfold am_rg; omega)]
        refine ih (k + 1) v (by omega) ⟨h1, h2, fun s s1 s2 => ?_, ?_⟩
        · rw [iw1, if_neg (fun z => c ⟨z.1, z.2.2, by omega, by omega⟩)]
          exact h3 s s1 s2
        · rcases h4 with z | z
          · exact Or.inl z
          · refine Or.inr ?_
            rw [iw1]
            split
            · rfl
            · exact z
      have th : (I 44 0 k = (a : Int) ∨ I 45 0 k = (a : Int)) → am_A (mh_G X) SC (d + 1) mX2_nextWedding Q 43 [(0, .inr (.inr (some (5, 0)))), (1, .inl (a : Int)), (2, .inl day), (3, .inl known), (4, .inl v), (5, .inl (k : Int))] [.inl 1] w kc ks := by
        intro ht
        refine bX2_nextWedding_43 ⟨fun z => absurd z (by decide), fun _ => ⟨by omega, by omega, ?_⟩⟩
        rw [Int.toNat_natCast, W46, W47]
        refine ⟨fun c => skip (by omega), fun c => ⟨fun c2 => skip (by omega), fun c2 => ⟨fun c3 => skip (by omega), fun c3 => ?_⟩⟩⟩
        refine bX2_nextWedding_93 ?_
        rw [am_w_id (z := (k : Int) + 1) (by unfold am_rg; omega)]
        refine ih (k + 1) _ (by omega) ⟨by omega, by omega, fun s s1 s2 => ?_, Or.inr ?_⟩
        · rw [iw1, if_neg (fun z => by omega)]
          exact h3 s s1 (by omega)
        · rw [iw1, if_pos ⟨ht, rfl, by omega⟩]
      have ye : (I 44 0 k = (a : Int) ∨ I 45 0 k = (a : Int)) → am_A (mh_G X) SC (d + 1) mX2_nextWedding Q 38 [(0, .inr (.inr (some (5, 0)))), (1, .inl (a : Int)), (2, .inl day), (3, .inl known), (4, .inl v), (5, .inl (k : Int))] [] w kc ks := fun ht => bX2_nextWedding_38 (th ht)
      refine bX2_nextWedding_7 ⟨fun c => absurd c (show ¬ w.1 5 0 19 ≤ (k : Int) by rw [W5]; omega), fun _ => ⟨by omega, by omega, ?_⟩⟩
      rw [Int.toNat_natCast, W44, W45]
      exact ⟨fun c => ye (Or.inl c), fun c => ⟨fun c2 => bX2_nextWedding_43 ⟨fun _ => skip (fun z => by rcases z.1 with y | y <;> omega), fun z => absurd rfl z⟩, fun c2 => ye (Or.inr c2)⟩⟩
  refine am_M_of (by decide) (Nat.le_of_ble_eq_true rfl) ?_
  refine bX2_nextWedding_0 (B _ 0 2147483647 rfl ⟨hd, Int.le_refl _, fun s _ _ => rfl, Or.inl rfl⟩)
/-- how entry e stands on day t -/
def mh_dyn (P : md_P) (t : Int) (W : Nat → Nat → Nat → Int) (e : Nat) : Prop :=
  (W 11 e 7 = 0 ∧ W 11 e 9 = md_S P t e ∧ ¬ md_S P t e = -1 ∧ W 11 e 10 = (md_pt (md_cu P e) (md_S P t e) (md_np P e) : Int) ∧ W 11 e 8 = 2147483647) ∨
  (W 11 e 7 = 1 ∧ md_S P t e = -1 ∧ md_S P (W 11 e 8 + 1) e = -1 ∧ md_b P e ≤ W 11 e 8 + 1 ∧ (∀ s, s ≤ W 11 e 8 → ¬ md_S P s e = -1) ∧ -1 ≤ W 11 e 8 ∧ W 11 e 8 < t)
/-- the depths of the firm ones, and of the others -/
noncomputable def mh_df (I : Nat → Nat → Nat → Int) (a : Nat) (known t : Int) (e : Nat) : Int := if mh_fi I a known e = 0 then 0 else md_d (mh_P I a known) t (md_S (mh_P I a known) t) e
noncomputable def mh_do2 (I : Nat → Nat → Nat → Int) (a : Nat) (known t : Int) (e : Nat) : Int := if mh_fi I a known e = 0 then md_d (mh_P I a known) t (md_S (mh_P I a known) t) e else 0
theorem mh_dmx {I : Nat → Nat → Nat → Int} {a : Nat} {known t : Int} : ∀ {n : Nat}, (∀ e, e < n → 0 ≤ md_d (mh_P I a known) t (md_S (mh_P I a known) t) e) → max (md_mx (mh_df I a known t) n) (md_mx (mh_do2 I a known t) n) = md_mx (md_d (mh_P I a known) t (md_S (mh_P I a known) t)) n ∧ 0 ≤ md_mx (mh_df I a known t) n ∧ 0 ≤ md_mx (mh_do2 I a known t) n
  | 0, _ => ⟨rfl, Int.le_refl _, Int.le_refl _⟩
  | n + 1, h => by
    have ih := mh_dmx (I := I) (a := a) (known := known) (t := t) (n := n) (fun e he => h e (by omega))
    have hn := h n (by omega)
    show max (max _ (mh_df I a known t n)) (max _ (mh_do2 I a known t n)) = max _ _ ∧ 0 ≤ max _ (mh_df I a known t n) ∧ 0 ≤ max _ (mh_do2 I a known t n)
    have e1 : mh_df I a known t n = if mh_fi I a known n = 0 then 0 else md_d (mh_P I a known) t (md_S (mh_P I a known) t) n := rfl
    have e2 : mh_do2 I a known t n = if mh_fi I a known n = 0 then md_d (mh_P I a known) t (md_S (mh_P I a known) t) n else 0 := rfl
    rw [e1, e2]
    split <;> omega
theorem md_d0 {P : md_P} (ok : md_ok P) (t : Int) {e : Nat} (he : e < md_n P) : 0 ≤ md_d P t (md_S P t) e ∧ md_d P t (md_S P t) e ≤ 4 := by
  unfold md_d
  split
  · omega
  · rename_i h
    have := md_in_S ok t e he
    have := md_dpb ok he (f := md_S P t e) (by omega)
    omega
theorem md_pts {P : md_P} (ok : md_ok P) (t : Int) {e : Nat} (he : e < md_n P) (h : ¬ md_S P t e = -1) : md_pt (md_cu P e) (md_S P t e) (md_np P e) < md_np P e ∧ md_S P t e < md_cu P e (md_pt (md_cu P e) (md_S P t e) (md_np P e)) ∧ 0 ≤ md_S P t e := by
  have := md_in_S ok t e he
  have o := ok e he
  have := md_pt_lt (c := md_cu P e) (f := md_S P t e) o.2.1.1 (by omega)
  exact ⟨this.1, this.2, by omega⟩
/-- the class's mourner: all but its look ahead -/
def mh_MS (I : Nat → Nat → Nat → Int) (a : Nat) (known t : Int) (w : am_W) : Prop :=
  mh_wI I w ∧ w.1 6 0 3 = (md_n (mh_P I a known) : Int) ∧ w.1 6 0 4 = (a : Int) ∧ w.1 6 0 5 = known ∧ w.1 6 0 6 = t ∧ ∀ e, e < md_n (mh_P I a known) → mh_ms I a known w.1 e ∧ mh_dyn (mh_P I a known) t w.1 e
/-- and with it -/
def mh_ML (I : Nat → Nat → Nat → Int) (a : Nat) (known t : Int) (w : am_W) : Prop :=
  mh_MS I a known t w ∧ md_qu (mh_P I a known) t (w.1 6 0 7) ∧ w.1 6 0 7 ≤ 73049 ∧ w.1 6 0 8 = md_mx (mh_df I a known t) (md_n (mh_P I a known)) ∧ w.1 6 0 9 = md_mx (mh_do2 I a known t) (md_n (mh_P I a known)) ∧ (0 ≤ w.1 6 0 7 ∨ mh_iw I a known (w.1 6 0 7) (I 5 0 19).toNat = 1)
theorem mh_MS_6 {I : Nat → Nat → Nat → Int} {a : Nat} {known t v : Int} {w : am_W} {k : Nat} (h : mh_MS I a known t w) (hk : ¬ k = 3 ∧ ¬ k = 4 ∧ ¬ k = 5 ∧ ¬ k = 6) : mh_MS I a known t (am_up w.1 6 0 k v, w.2) := by
  obtain ⟨h1, h2, h3, h4, h5, h6⟩ := h
  refine ⟨fun t ht => ?_, ?_, ?_, ?_, ?_, fun e he => ?_⟩
  · show am_up _ _ _ _ _ t = _
    rw [am_up_t (fun c => ht (by rw [c]; decide))]; exact h1 t ht
  · show am_up w.1 6 0 k v 6 0 3 = _
    rw [am_up_k (fun c => hk.1 c.symm)]; exact h2
  · show am_up w.1 6 0 k v 6 0 4 = _
    rw [am_up_k (fun c => hk.2.1 c.symm)]; exact h3
  · show am_up w.1 6 0 k v 6 0 5 = _
    rw [am_up_k (fun c => hk.2.2.1 c.symm)]; exact h4
  · show am_up w.1 6 0 k v 6 0 6 = _
    rw [am_up_k (fun c => hk.2.2.2 c.symm)]; exact h5
  · unfold mh_ms mh_dyn at *
    simp (disch := decide) only [am_up_t]
    exact h6 e he
