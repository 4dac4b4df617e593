-- study of the class: the entries are laid
variable {SC : Nat → Nat} {X : mh_X}
def mh_ft : List Nat := [4, 5, 10, 33, 34, 35, 36, 37, 38, 39, 40, 44, 45, 46, 47, 144, 145, 146, 147, 148, 149, 150, 151, 152, 153]
section
variable {I I' : Nat → Nat → Nat → Int}
theorem mh_sp_e (h : ∀ t, t ∈ mh_ft → I' t = I t) : mh_sp I' = mh_sp I := by
  funext day known K x y
  unfold mh_sp
  simp only [h 44 (by decide), h 45 (by decide), h 46 (by decide), h 47 (by decide)]
theorem mh_rl_e (h : ∀ t, t ∈ mh_ft → I' t = I t) : mh_rl I' = mh_rl I := by
  funext day known word x y
  unfold mh_rl
  simp only [mh_sp_e h, h 5 (by decide), h 33 (by decide), h 35 (by decide), h 36 (by decide)]
theorem mh_ks_e (h : ∀ t, t ∈ mh_ft → I' t = I t) : mh_ks I' = mh_ks I := by
  funext day known a ws i
  induction i with
  | zero => rfl
  | succ i ih =>
    funext x
    unfold mh_ks
    simp only [ih, mh_rl_e h, h 5 (by decide), h 38 (by decide)]
theorem mh_wo_e (h : ∀ t, t ∈ mh_ft → I' t = I t) : mh_wo I' = mh_wo I := by
  funext l r i
  unfold mh_wo
  simp only [h 144 (by decide), h 145 (by decide)]
theorem mh_law_e (h : ∀ t, t ∈ mh_ft → I' t = I t) : mh_law I' = mh_law I := by
  funext day known
  unfold mh_law
  rw [h 4 (by decide)]
  generalize (I 4 0 5).toNat = n
  induction n with
  | zero => rfl
  | succ n ih =>
    unfold mh_lw
    rw [ih, h 10 (by decide)]
theorem mh_rule_e (h : ∀ t, t ∈ mh_ft → I' t = I t) : mh_rule I' = mh_rule I := by
  funext a d known
  have kk : mh_kk I' = mh_kk I := by
    funext a d day known l r
    unfold mh_kk
    rw [mh_ks_e h, mh_wo_e h, h 144 (by decide)]
  unfold mh_rule
  rw [mh_law_e h, kk, h 38 (by decide), h 39 (by decide), h 40 (by decide), h 144 (by decide), h 10 (by decide)]
end
/-- the class's store is I but for the mourner's own cells -/
def mh_wI (I : Nat → Nat → Nat → Int) (w : am_W) : Prop := ∀ t, t ∉ [6, 11, 154, 155] → w.1 t = I t
theorem mh_wI_ft {I : Nat → Nat → Nat → Int} {w : am_W} (h : mh_wI I w) : ∀ t, t ∈ mh_ft → w.1 t = I t := fun t ht => h t (by
  have : ∀ t, t ∈ mh_ft → t ∉ [6, 11, 154, 155] := by decide
  exact this t ht)
/-- and people and laws are sound in it -/
theorem mh_C_w {I : Nat → Nat → Nat → Int} {L : Nat → Nat → Nat → Int64} {w : am_W} (hC : mh_C I L) (h : mh_wI I w) (h1 : ∀ t, t ∈ [41, 42, 43] → w.2.1 t = L t) (h2 : w.2.1 5 0 16 = L 5 0 16) : mh_C w.1 w.2.1 := by
  obtain ⟨J, R, RL, RN⟩ := hC
  have e1 := h 1 (by decide)
  have e4 := h 4 (by decide)
  have e5 := h 5 (by decide)
  refine ⟨J, mh_RK_s R (by rw [e1]; exact Int.le_refl _) (fun k _ => by rw [e5]) (fun t ht => h t ?_) h1 h2 (fun _ _ => rfl) (fun _ _ => rfl), mh_RL_s RL (by rw [e1]; exact Int.le_refl _) (by rw [e4]) (fun t ht => h t ?_) (fun _ _ => rfl) rfl, ?_⟩
  · have : ∀ t, t ∈ [33, 34, 35, 36, 37, 38, 39, 40, 44, 45, 46, 47] → t ∉ [6, 11, 154, 155] := by decide
    exact this t ht
  · have : ∀ t, t ∈ [10, 144, 145, 146, 147, 148, 149, 150, 151, 152, 153] → t ∉ [6, 11, 154, 155] := by decide
    exact this t ht
  · unfold mh_RN at *
    rw [e1]; exact RN
theorem pX3_endOfPart {d kc ks : Nat} {Q : Option am_V → am_W → Prop} {w : am_W} {l r i : Nat} {day : Int} (hr : r < 30) (hi : i < 4) (hd : -36524 ≤ day ∧ day ≤ 1600000) (hn : 1 ≤ w.1 148 l (r * 4 + i) ∧ w.1 148 l (r * 4 + i) ≤ 999) (hu : 17 ≤ w.1 149 l (r * 4 + i) ∧ w.1 149 l (r * 4 + i) ≤ 20)
    (K : Q (some (.inl (mh_rc day (w.1 148 l (r * 4 + i)) (w.1 149 l (r * 4 + i))))) w) : am_M (mh_G X) SC (d + 3) kc ks mX3_endOfPart [.inr (.inr (some (10, l))), .inl (r : Int), .inl (i : Int), .inl day] w Q := by
  have e : ∀ z, z = mh_rc day (w.1 148 l (r * 4 + i)) (w.1 149 l (r * 4 + i)) → Q (some (.inl z)) w := fun z hz => hz ▸ K
  refine am_M_of (by decide) (Nat.le_of_ble_eq_true rfl) ?_
  refine bX3_endOfPart_0 ?_
  rw [am_w_id (z := (r : Int) * 4) (by unfold am_rg; omega), am_w_id (z := (r : Int) * 4 + (i : Int)) (by unfold am_rg; omega), show ((r : Int) * 4 + (i : Int)).toNat = r * 4 + i by omega]
  refine ⟨by omega, by omega, fun c => ?_, fun c => e _ ?_, fun c => e _ ?_, fun c => ?_⟩
  · rw [am_w_id (by unfold am_rg; omega)]
    refine pX0_later2 (by omega) (by omega) ?_
    refine bX3_endOfPart_77 (e _ ?_)
    unfold mh_rc
    rw [if_neg (by omega), if_neg (by omega), if_neg (by omega)]
  · unfold mh_rc
    rw [if_pos c, am_w_id (by unfold am_rg; omega)]
  · unfold mh_rc
    rw [if_neg (by omega), if_pos c, am_w_id (z := w.1 148 l (r * 4 + i) * 7) (by unfold am_rg; omega), am_w_id (by unfold am_rg; omega)]
  · refine pX0_later2 (by omega) (by omega) ?_
    refine bX3_endOfPart_67 (e _ ?_)
    unfold mh_rc
    rw [if_neg (by omega), if_neg (by omega), if_pos c]
/-- what doesn't change of entry e -/
def mh_ms (I : Nat → Nat → Nat → Int) (a : Nat) (known : Int) (W : Nat → Nat → Nat → Int) (e : Nat) : Prop :=
  W 11 e 2 = (md_np (mh_P I a known) e : Int) ∧ W 11 e 3 = (mh_D I a known e : Int) ∧ W 11 e 4 = md_b (mh_P I a known) e ∧ W 11 e 5 = md_wt (mh_P I a known) e ∧ W 11 e 6 = mh_fi I a known e ∧
  ∀ i, i < md_np (mh_P I a known) e → W 154 e i = md_cu (mh_P I a known) e i ∧ W 155 e i = md_de (mh_P I a known) e i
def mh_fresh (W : Nat → Nat → Nat → Int) (e : Nat) : Prop := W 11 e 7 = 0 ∧ W 11 e 8 = 2147483647 ∧ W 11 e 9 = 0 ∧ W 11 e 10 = 0
/-- the other entries are left -/
def mh_oe (W W' : Nat → Nat → Nat → Int) (e : Nat) : Prop := ∀ e', ¬ e' = e → W' 11 e' = W 11 e' ∧ W' 154 e' = W 154 e' ∧ W' 155 e' = W 155 e'
theorem mh_ms_o {I : Nat → Nat → Nat → Int} {a : Nat} {known : Int} {W W' : Nat → Nat → Nat → Int} {e e' : Nat} (h : mh_ms I a known W e') (o : mh_oe W W' e) (n : ¬ e' = e) : mh_ms I a known W' e' := by
  obtain ⟨o1, o2, o3⟩ := o e' n
  unfold mh_ms at *
  rw [o1, o2, o3]
  exact h
theorem mh_fresh_o {W W' : Nat → Nat → Nat → Int} {e e' : Nat} (h : mh_fresh W e') (o : mh_oe W W' e) (n : ¬ e' = e) : mh_fresh W' e' := by
  obtain ⟨o1, o2, o3⟩ := o e' n
  unfold mh_fresh at *
  rw [o1]
  exact h
theorem pX5_start {d kc ks : Nat} {Q : Option am_V → am_W → Prop} {I : Nat → Nat → Nat → Int} {L : Nat → Nat → Nat → Int64} {a e : Nat} {known hv : Int} {w : am_W} (hC : mh_C I L) (hk : known < 2147483647) (ha : (a : Int) < I 5 0 18) (hw : mh_wI I w) (he : e < md_n (mh_P I a known))
    (hh : (hv = 1 ∧ (mh_eo I a known (mh_D I a known e) % 2 = 1 ∧ I 33 0 a = 1)) ∨ (hv = 0 ∧ ¬ (mh_eo I a known (mh_D I a known e) % 2 = 1 ∧ I 33 0 a = 1)))
    (K : ∀ w' : am_W, w'.2 = w.2 → (∀ t, t ∉ [11, 154, 155] → w'.1 t = w.1 t) → mh_oe w.1 w'.1 e → mh_ms I a known w'.1 e → mh_fresh w'.1 e → Q none w') :
    am_M (mh_G X) SC (d + 4) kc ks mX5_start [.inr (.inr (some (11, e))), .inl (mh_D I a known e : Int), .inl (md_b (mh_P I a known) e), .inr (.inr (some (10, mh_el I known (mh_D I a known e)))), .inl (mh_er I a known (mh_D I a known e) : Int), .inl hv] w Q := by
  obtain ⟨ok, fs⟩ := mh_P_ok hC hk ha
  obtain ⟨h1, h2⟩ := mh_D_m (I := I) (a := a) (known := known) he
  obtain ⟨⟨l1, l2⟩, ⟨r1, r2⟩, d1, d2, d3, b1⟩ := mh_dead hC hk ha (by omega) h2
  obtain ⟨J, R, RL, RN⟩ := hC
  have La := (RL.2 _ l2).1
  have Fr := La.2.1 _ r2
  have r30 : mh_er I a known (mh_D I a known e) < 30 := by have := La.1; omega
  have npe : (md_np (mh_P I a known) e : Int) = I 146 (mh_el I known (mh_D I a known e)) (mh_er I a known (mh_D I a known e)) := by
    show ((I 146 (mh_el I known (mh_D I a known e)) (mh_er I a known (mh_D I a known e))).toNat : Int) = _
    have := Fr.2.2.1
    omega
  have o := ok e he
  have W146 := hw 146 (by decide)
  have W147 := hw 147 (by decide)
  have W148 := hw 148 (by decide)
  have W149 := hw 149 (by decide)
  have W150 := hw 150 (by decide)
  have op := mh_opt (v := mh_eo I a known (mh_D I a known e)) Fr.2.2.2.2.2
  have B : ∀ (n i : Nat) (w2 : am_W), n + i = md_np (mh_P I a known) e → w2.2 = w.2 → (∀ t, t ∉ [11, 154, 155] → w2.1 t = w.1 t) → mh_oe w.1 w2.1 e → mh_fresh w2.1 e →
      (w2.1 11 e 2 = (md_np (mh_P I a known) e : Int) ∧ w2.1 11 e 3 = (mh_D I a known e : Int) ∧ w2.1 11 e 4 = md_b (mh_P I a known) e ∧ w2.1 11 e 5 = md_wt (mh_P I a known) e ∧ w2.1 11 e 6 = mh_fi I a known e) →
      (∀ i', i' < i → w2.1 154 e i' = md_cu (mh_P I a known) e i' ∧ w2.1 155 e i' = md_de (mh_P I a known) e i') →
      am_A (mh_G X) SC (d + 4) mX5_start Q 72 [(0, .inr (.inr (some (11, e)))), (3, .inr (.inr (some (10, mh_el I known (mh_D I a known e))))), (4, .inl (mh_er I a known (mh_D I a known e) : Int)), (5, .inl hv), (6, .inl (mh_fs I a known (mh_D I a known e) i)), (7, .inl (mh_cs I a known (mh_D I a known e) i)), (8, .inl (i : Int))] [] w2 kc ks := by
    intro n
    induction n with
    | zero =>
      intro i w2 hi g1 g2 g3 g4 g5 g6
      refine bX5_start_72 ⟨fun _ => K w2 g1 g2 g3 ⟨g5.1, g5.2.1, g5.2.2.1, g5.2.2.2.1, g5.2.2.2.2, fun i' hi' => g6 i' (by omega)⟩ g4, fun c => absurd c (show ¬ ¬ w2.1 11 e 2 ≤ (i : Int) by rw [g5.1]; omega)⟩
    | succ n ih =>
      intro i w2 hi g1 g2 g3 g4 g5 g6
      obtain ⟨f1, f2, f3⟩ := fs e he i (by omega)
      have q := Fr.2.2.2.1 i (by omega)
      have V147 : w2.1 147 = I 147 := (g2 147 (by decide)).trans W147
      have V148 : w2.1 148 = I 148 := (g2 148 (by decide)).trans W148
      have V149 : w2.1 149 = I 149 := (g2 149 (by decide)).trans W149
      have csb : 0 ≤ mh_cs I a known (mh_D I a known e) i ∧ mh_cs I a known (mh_D I a known e) i ≤ 3000000 := by
        by_cases z : i = 0
        · rw [z]; show (0 : Int) ≤ 0 ∧ (0 : Int) ≤ 3000000; omega
        · have t1 := md_tot ok he (i - 1) (by omega)
          have t2 := o.2.2.2.2.2 (i - 1) (by omega)
          have t3 : md_cu (mh_P I a known) e (i - 1) = mh_cs I a known (mh_D I a known e) (i - 1 + 1) := rfl
          rw [show i - 1 + 1 = i by omega] at t3
          omega
      have cu1 : mh_cs I a known (mh_D I a known e) (i + 1) = mh_cs I a known (mh_D I a known e) i + mh_le I a known (mh_D I a known e) i := rfl
      refine bX5_start_72 ⟨fun c => absurd c (show ¬ w2.1 11 e 2 ≤ (i : Int) by rw [g5.1]; omega), fun _ => ?_⟩
      refine pX3_endOfPart r30 (by omega) (by omega) (by rw [V148]; omega) (by rw [V149]; omega) ?_
      rw [V148, V149]
      have fin : ∀ z, z = mh_le I a known (mh_D I a known e) i → am_A (mh_G X) SC (d + 4) mX5_start Q 117 [(0, .inr (.inr (some (11, e)))), (3, .inr (.inr (some (10, mh_el I known (mh_D I a known e))))), (4, .inl (mh_er I a known (mh_D I a known e) : Int)), (5, .inl hv), (8, .inl (i : Int)), (9, .inl (mh_fs I a known (mh_D I a known e) (i + 1)))] [.inl z, .inl (mh_cs I a known (mh_D I a known e) i)] w2 kc ks := by
        intro z hz
        rw [hz]
        refine bX5_start_117 ?_
        rw [am_w_id (z := (mh_er I a known (mh_D I a known e) : Int) * 4) (by unfold am_rg; omega), am_w_id (z := (mh_er I a known (mh_D I a known e) : Int) * 4 + (i : Int)) (by unfold am_rg; omega), show ((mh_er I a known (mh_D I a known e) : Int) * 4 + (i : Int)).toNat = mh_er I a known (mh_D I a known e) * 4 + i by omega,
          am_w_id (z := mh_cs I a known (mh_D I a known e) i + mh_le I a known (mh_D I a known e) i) (by unfold am_rg; omega), ← cu1, am_w_id (z := (i : Int) + 1) (by unfold am_rg; omega), Int.toNat_natCast, V147]
        refine ⟨by omega, by omega, by omega, by omega, ?_⟩
        refine ih (i + 1) _ (by omega) g1 (fun t ht => ?_) (fun e' ne => ?_) ?_ ?_ (fun i' hi' => ?_)
        · show am_up _ _ _ _ _ t = _
          rw [am_up_t (fun c => ht (by rw [c]; decide)), am_up_t (fun c => ht (by rw [c]; decide))]
          exact g2 t ht
        · obtain ⟨o1, o2, o3⟩ := g3 e' ne
          refine ⟨?_, ?_, ?_⟩
          · simp (disch := decide) only [am_up_t]; exact o1
          · simp (disch := decide) only [am_up_t]; rw [am_up_j ne]; exact o2
          · simp only [am_up_j ne]; simp (disch := decide) only [am_up_t]; exact o3
        · unfold mh_fresh at *
          simp (disch := decide) only [am_up_t]
          exact g4
        · simp (disch := decide) only [am_up_t]
          exact g5
        · simp (disch := decide) only [am_up_t, am_up_a]
          by_cases z : i' = i
          · rw [if_pos z, if_pos z, z]; exact ⟨rfl, rfl⟩
          · rw [if_neg z, if_neg z]; exact g6 i' (by omega)
      have fe : mh_rc (mh_fs I a known (mh_D I a known e) i) (I 148 (mh_el I known (mh_D I a known e)) (mh_er I a known (mh_D I a known e) * 4 + i)) (I 149 (mh_el I known (mh_D I a known e)) (mh_er I a known (mh_D I a known e) * 4 + i)) = mh_fs I a known (mh_D I a known e) (i + 1) := rfl
      rw [fe]
      refine bX5_start_91 ?_
      rw [am_w_id (z := mh_fs I a known (mh_D I a known e) (i + 1) - mh_fs I a known (mh_D I a known e) i) (by unfold am_rg; omega), am_w_id (z := mh_fs I a known (mh_D I a known e) (i + 1) - mh_fs I a known (mh_D I a known e) i + 1) (by unfold am_rg; omega), Int.tdiv_eq_ediv_of_nonneg (by omega), am_w_id (by unfold am_rg; omega)]
      refine ⟨fun c => fin _ ?_, fun c => fin _ ?_⟩
      · unfold mh_le
        rw [if_neg (hh.resolve_left (fun z => by omega)).2]
      · unfold mh_le
        rw [if_pos (hh.resolve_right (fun z => c z.1)).2]
  refine am_M_of (by decide) (Nat.le_of_ble_eq_true rfl) ?_
  refine bX5_start_0 ⟨by omega, by omega, ?_⟩
  rw [Int.toNat_natCast]
  refine B (md_np (mh_P I a known) e) 0 _ rfl rfl (fun t ht => ?_) (fun e' ne => ?_) ?_ ?_ (fun i' hi' => absurd hi' (Nat.not_lt_zero i'))
  · show am_up _ _ _ _ _ t = _
    rw [am_up_t (fun c => ht (by rw [c]; decide)), am_up_t (fun c => ht (by rw [c]; decide)), am_up_t (fun c => ht (by rw [c]; decide)), am_up_t (fun c => ht (by rw [c]; decide)), am_up_t (fun c => ht (by rw [c]; decide)), am_up_t (fun c => ht (by rw [c]; decide)), am_up_t (fun c => ht (by rw [c]; decide)), am_up_t (fun c => ht (by rw [c]; decide)), am_up_t (fun c => ht (by rw [c]; decide))]
  · refine ⟨?_, ?_, ?_⟩
    · simp only [am_up_j ne]
    · simp (disch := decide) only [am_up_t]
    · simp (disch := decide) only [am_up_t]
  · unfold mh_fresh
    simp (disch := decide) only [am_up_k, am_up_s]
    exact ⟨trivial, trivial, trivial, trivial⟩
  · simp (disch := decide) only [am_up_k, am_up_s]
    rw [W146, W150, npe]
    have ee : I 150 (mh_el I known (mh_D I a known e)) (mh_er I a known (mh_D I a known e)) = mh_eo I a known (mh_D I a known e) := rfl
    rw [ee, op.2.1.1, op.2.2.1.1]
    refine ⟨rfl, trivial, trivial, ?_, ?_⟩
    · show _ = mh_eo I a known (mh_D I a known e) / 2 % 2
      split <;> omega
    · unfold mh_fi
      split <;> omega
