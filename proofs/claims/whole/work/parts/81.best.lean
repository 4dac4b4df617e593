-- best
variable {SC : Nat → Nat} {X : mh_X}
theorem mh_ML_e {I I' : Nat → Nat → Nat → Int} {a : Nat} {known t : Int} {w w' : am_W} (h : ∀ t, t ∈ mh_ft → I' t = I t) (hw : ∀ t, t ∈ [6, 11, 154, 155] → w'.1 t = w.1 t) (hw2 : mh_wI I' w') (m : mh_ML I a known t w) : mh_ML I' a known t w' := by
  have ms : ∀ e, mh_ms I' a known w'.1 e = mh_ms I a known w.1 e := by
    intro e
    unfold mh_ms
    rw [mh_D_e h, mh_P_e h, mh_fi_e h, hw 11 (by decide), hw 154 (by decide), hw 155 (by decide)]
  have dy : ∀ P e, mh_dyn P t w'.1 e = mh_dyn P t w.1 e := by
    intro P e
    unfold mh_dyn
    rw [hw 11 (by decide)]
  unfold mh_ML mh_MS at *
  rw [mh_P_e h, mh_df_e h, mh_do2_e h, mh_iw_e h, hw 6 (by decide), h 5 (by decide)]
  simp only [ms, dy]
  exact ⟨⟨hw2, m.1.2⟩, m.2⟩
/-- how many of the first n may -/
noncomputable def mh_nal (A : Nat → Prop) : Nat → Int
  | 0 => 0
  | n + 1 => mh_nal A n + @ite Int (A n) (Classical.propDecidable _) 1 0
theorem mh_nal1 {A : Nat → Prop} {n : Nat} : mh_nal A (n + 1) = mh_nal A n + @ite Int (A n) (Classical.propDecidable _) 1 0 := rfl
theorem mh_nalb {A : Nat → Prop} : ∀ n : Nat, 0 ≤ mh_nal A n ∧ mh_nal A n ≤ n
  | 0 => by show (0 : Int) ≤ 0 ∧ (0 : Int) ≤ 0; omega
  | n + 1 => by
    have := mh_nalb (A := A) n
    rw [mh_nal1]
    split <;> omega
/-- the counts while person p is gone through, up to day x -/
def mh_cnt (f : Nat → Int) (A : Nat → Int → Prop) (x2 x3 : Int) (p : Nat) (x : Int) : Prop :=
  ∀ i : Nat, x2 + i ≤ x3 → f i = mh_nal (fun q => A q (x2 + i)) p + @ite Int (x2 + i < x ∧ A p (x2 + i)) (Classical.propDecidable _) 1 0
theorem mh_cnt_n {f : Nat → Int} {A : Nat → Int → Prop} {x2 x3 x : Int} {p : Nat} (h : mh_cnt f A x2 x3 p x) (hx : x3 < x) : mh_cnt f A x2 x3 (p + 1) x2 := by
  intro i hi
  have := h i hi
  rw [mh_nal1, if_neg (fun z => by omega : ¬ (x2 + (i : Int) < x2 ∧ A (p + 1) (x2 + i)))]
  by_cases c : A p (x2 + i)
  · rw [if_pos ⟨by omega, c⟩] at this
    rw [if_pos c]; omega
  · rw [if_neg (fun z => c z.2)] at this
    rw [if_neg c]; omega
theorem mh_cnt_0 {f : Nat → Int} {A : Nat → Int → Prop} {x2 x3 x : Int} {p : Nat} (h : mh_cnt f A x2 x3 p x) (hx : ¬ A p x) : mh_cnt f A x2 x3 p (x + 1) := by
  intro i hi
  rw [h i hi]
  by_cases c : x2 + (i : Int) < x ∧ A p (x2 + i)
  · rw [if_pos c, if_pos ⟨by omega, c.2⟩]
  · rw [if_neg c, if_neg (fun z => ?_)]
    by_cases e : x2 + (i : Int) = x
    · rw [e] at z; exact hx z.2
    · exact c ⟨by omega, z.2⟩
theorem mh_cnt_1 {f : Nat → Int} {A : Nat → Int → Prop} {x2 x3 x : Int} {p j : Nat} (h : mh_cnt f A x2 x3 p x) (hj : x = x2 + j) (hx : A p x) {f' : Nat → Int} (hf : ∀ i, f' i = if i = j then f j + 1 else f i) : mh_cnt f' A x2 x3 p (x + 1) := by
  intro i hi
  rw [hf]
  by_cases e : i = j
  · subst e
    have := h i hi
    rw [if_neg (fun z => by omega : ¬ (x2 + (i : Int) < x ∧ A p (x2 + i)))] at this
    rw [if_pos rfl, if_pos ⟨by omega, by rw [← hj]; exact hx⟩]
    omega
  · rw [if_neg e, h i hi]
    by_cases c : x2 + (i : Int) < x ∧ A p (x2 + i)
    · rw [if_pos c, if_pos ⟨by omega, c.2⟩]
    · rw [if_neg c, if_neg (fun z => c ⟨by omega, z.2⟩)]
/-- the best of the days from the first on -/
def mh_bst (N : Nat → Int) : Nat → Nat
  | 0 => 0
  | n + 1 => if N (n + 1) ≤ N (mh_bst N n) then mh_bst N n else n + 1
theorem mh_bst_b (N : Nat → Int) : ∀ n, mh_bst N n ≤ n
  | 0 => Nat.le_refl _
  | n + 1 => by
    have := mh_bst_b N n
    unfold mh_bst
    split <;> omega
theorem pX11_countAllowed {d kc ks : Nat} {Q : Option am_V → am_W → Prop} {a b0 : am_W} {act : Nat} {x2 x3 : Int} (E : mh_E a b0) (ha : act < 4) (h2 : -36524 ≤ x2) (h3 : x3 ≤ 73047) (h23 : x2 ≤ x3) (h60 : x3 - x2 < 60)
    (K : ∀ w', mh_fc mh_t1 mh_l1 a w' → (∀ i : Nat, x2 + i ≤ x3 → w'.1 23 0 i = mh_nal (fun q => mh_alw a.1 q (a.1 1 0 12) act (x2 + i)) (a.1 5 0 18).toNat) → Q none w') :
    am_M (mh_G X) SC (d + 7) kc ks mX11_countAllowed [.inr (.inr (some (1, 0))), .inl (act : Int), .inl x2, .inl x3] a Q := by
  have n1 := E.2.1.2
  have p1 := E.2.2.2.2.1.1
  have Z : ∀ (n k : Nat) (w : am_W), n + k = 60 → mh_fc mh_t1 mh_l1 a w → (∀ i : Nat, i < k → w.1 23 0 i = 0) → (∀ w', mh_fc mh_t1 mh_l1 a w' → (∀ i : Nat, i < 60 → w'.1 23 0 i = 0) → am_A (mh_G X) SC (d + 7) mX11_countAllowed Q 27 [(0, .inr (.inr (some (1, 0)))), (1, .inl (act : Int)), (2, .inl x2), (3, .inl x3), (4, .inl 0)] [] w' kc ks) →
      am_A (mh_G X) SC (d + 7) mX11_countAllowed Q 3 [(0, .inr (.inr (some (1, 0)))), (1, .inl (act : Int)), (2, .inl x2), (3, .inl x3), (4, .inl (k : Int))] [] w kc ks := by
    intro n
    induction n with
    | zero =>
      intro k w hk f z go
      obtain rfl : k = 60 := by omega
      exact bX11_countAllowed_3 ⟨fun _ => go w f z, fun c => absurd (by decide) c⟩
    | succ n ih =>
      intro k w hk f z go
      refine bX11_countAllowed_3 ⟨fun c => absurd c (by omega), fun _ => ⟨by omega, by omega, ?_⟩⟩
      rw [am_w_id (z := (k : Int) + 1) (by unfold am_rg; omega), Int.toNat_natCast]
      refine ih (k + 1) _ (by omega) ⟨fun t ht => ?_, f.2.1, f.2.2⟩ (fun i hi => ?_) go
      · show am_up _ _ _ _ _ t = _
        rw [am_up_t (fun e => ht (by rw [e]; decide))]
        exact f.1 t ht
      · show am_up _ 23 0 k 0 23 0 i = 0
        rw [am_up_a]
        split
        · rfl
        · exact z i (by omega)
  have D : ∀ (m : Nat) (p : Nat), m + p = (a.1 5 0 18).toNat → ∀ w, mh_fc mh_t1 mh_l1 a w → mh_cnt (w.1 23 0) (fun q x => mh_alw a.1 q (a.1 1 0 12) act x) x2 x3 p x2 →
      am_A (mh_G X) SC (d + 7) mX11_countAllowed Q 27 [(0, .inr (.inr (some (1, 0)))), (1, .inl (act : Int)), (2, .inl x2), (3, .inl x3), (4, .inl (p : Int))] [] w kc ks := by
    intro m
    induction m with
    | zero =>
      intro p hp w f c
      have e5 : w.1 5 0 18 = a.1 5 0 18 := by rw [f.1 5 (by decide)]
      refine bX11_countAllowed_27 ⟨fun _ => K w f (fun i hi => ?_), fun z => absurd (by omega) z⟩
      have := c i hi
      rw [if_neg (fun z => by omega), show p = (a.1 5 0 18).toNat by omega] at this
      rw [this]
      exact Int.add_zero _
    | succ m ih =>
      intro p hp w f c
      have e5 : w.1 5 0 18 = a.1 5 0 18 := by rw [f.1 5 (by decide)]
      have e12 : w.1 1 0 12 = a.1 1 0 12 := by rw [f.1 1 (by decide)]
      refine bX11_countAllowed_27 ⟨fun z => absurd z (by omega), fun _ => ?_⟩
      have Ew := mh_E_s E f (mh_fm_r : mh_fm mh_t2 mh_f2 b0 b0)
      have hC := mh_E_C Ew
      have hO := mh_E_Co Ew
      rw [e12]
      refine pX4_study2 hC (by omega) (by omega) (fun w1 g1 m1 => ?_)
      obtain ⟨t, t0, t1, ml⟩ := m1
      have same : mh_alw w.1 = mh_alw a.1 := mh_alw_e (fun t ht => f.1 t (by
        have : ∀ t, t ∈ mh_fu → t ∉ mh_t1 := by decide
        exact this t ht))
      have N : ∀ (n : Nat) (x : Int) (w2 : am_W), x2 ≤ x → x + n = x3 + 1 → mh_fc mh_t1 mh_l1 a w2 → mh_cnt (w2.1 23 0) (fun q x => mh_alw a.1 q (a.1 1 0 12) act x) x2 x3 p x → (∃ t, -36524 ≤ t ∧ t ≤ x ∧ mh_ML w2.1 p (a.1 1 0 12) t w2) →
          am_A (mh_G X) SC (d + 7) mX11_countAllowed Q 55 [(0, .inr (.inr (some (1, 0)))), (1, .inl (act : Int)), (2, .inl x2), (3, .inl x3), (4, .inl (p : Int)), (5, .inl x)] [] w2 kc ks := by
        intro n
        induction n with
        | zero =>
          intro x w2 h1 h2 f2 c2 m2
          refine bX11_countAllowed_55 ⟨fun _ => ?_, fun c => absurd (by omega) c⟩
          rw [am_w_id (z := (p : Int) + 1) (by unfold am_rg; omega)]
          exact ih (p + 1) (by omega) w2 f2 (mh_cnt_n c2 (by omega))
        | succ n ihn =>
          intro x w2 h1 h2 f2 c2 m2
          refine bX11_countAllowed_55 ⟨fun c => absurd c (by omega), fun _ => ?_⟩
          have E2 := mh_E_s E f2 (mh_fm_r : mh_fm mh_t2 mh_f2 b0 b0)
          have e5' : w2.1 5 0 18 = a.1 5 0 18 := by rw [f2.1 5 (by decide)]
          refine pX4_isAllowed (mh_E_C E2) (mh_E_Co E2) (by omega) (by omega) ha (by omega) ⟨fun _ _ => rfl, rfl⟩ m2 (fun v w3 k1 k2 k3 v1 v2 => ?_)
          have same2 : mh_alw w2.1 = mh_alw a.1 := mh_alw_e (fun t ht => f2.1 t (by
            have : ∀ t, t ∈ mh_fu → t ∉ mh_t1 := by decide
            exact this t ht))
          rw [same2] at v2
          have f3 : mh_fc mh_t1 mh_l1 a w3 := by
            refine ⟨fun t ht => (k2 t (fun c => ht ?_)).trans (f2.1 t ht), by rw [k1]; exact f2.2.1, by rw [k1]; exact f2.2.2⟩
            have : ∀ t, t ∈ [6, 11] → t ∈ mh_t1 := by decide
            exact this t c
          have e23 : w3.1 23 = w2.1 23 := k2 23 (by decide)
          have k2' : ∀ t, t ∈ mh_ft → w3.1 t = w2.1 t := fun t ht => k2 t (by
            have : ∀ t, t ∈ mh_ft → t ∉ [6, 11] := by decide
            exact this t ht)
          have nx : ∀ w4 : am_W, w4.2 = w3.2 → (∀ t, ¬ t = 23 → w4.1 t = w3.1 t) → mh_cnt (w4.1 23 0) (fun q x => mh_alw a.1 q (a.1 1 0 12) act x) x2 x3 p (x + 1) →
              am_A (mh_G X) SC (d + 7) mX11_countAllowed Q 87 [(0, .inr (.inr (some (1, 0)))), (1, .inl (act : Int)), (2, .inl x2), (3, .inl x3), (4, .inl (p : Int)), (5, .inl x)] [] w4 kc ks := by
            intro w4 q2 q1 c4
            refine bX11_countAllowed_87 ?_
            rw [am_w_id (z := x + 1) (by unfold am_rg; omega)]
            obtain ⟨t, t0, t1, m3⟩ := k3
            refine ihn (x + 1) w4 (by omega) (by omega) ⟨fun t ht => (q1 t (fun e => ht (by rw [e]; decide))).trans (f3.1 t ht), by rw [q2]; exact f3.2.1, by rw [q2]; exact f3.2.2⟩ c4 ⟨t, t0, by omega, mh_ML_e (fun t ht => (q1 t (fun e => by rw [e] at ht; revert ht; decide)).trans (k2' t ht)) (fun t ht => q1 t (fun e => by rw [e] at ht; revert ht; decide)) (fun _ _ => rfl) m3⟩
          obtain ⟨j, hj⟩ := mh_nat (z := x - x2) (by omega)
          refine bX11_countAllowed_71 ⟨fun c => ?_, fun c => ?_⟩
          · refine nx w3 rfl (fun _ _ => rfl) ?_
            rw [e23]
            exact mh_cnt_0 c2 (fun z => by have := v2.mpr z; omega)
          · rw [am_w_id (z := x - x2) (by unfold am_rg; omega), hj]
            refine ⟨by omega, by omega, ?_⟩
            have cj : w2.1 23 0 j = mh_nal (fun q => mh_alw a.1 q (a.1 1 0 12) act (x2 + (j : Int))) p + @ite Int (x2 + (j : Int) < x ∧ mh_alw a.1 p (a.1 1 0 12) act (x2 + (j : Int))) (Classical.propDecidable _) 1 0 := c2 j (by omega)
            have nb := mh_nalb (A := fun q => mh_alw a.1 q (a.1 1 0 12) act (x2 + (j : Int))) p
            rw [if_neg (fun z => by omega)] at cj
            rw [Int.toNat_natCast, am_w_id (by rw [e23]; unfold am_rg; omega)]
            refine nx _ rfl (fun t ht => am_up_t ht) ?_
            refine mh_cnt_1 (j := j) c2 (by omega) (v2.mp (by omega)) (fun i => ?_)
            show am_up w3.1 23 0 j _ 23 0 i = _
            rw [am_up_a, e23]
      refine bX11_countAllowed_52 ?_
      have f1 : mh_fc mh_t1 mh_l1 a w1 := mh_fc_t f (mh_sc_fc g1)
      refine N (x3 + 1 - x2).toNat x2 w1 (Int.le_refl _) (by omega) f1 ?_ ⟨t, t0, by omega, mh_ML_e (fun t ht => g1.1 t (by
        have : ∀ t, t ∈ mh_ft → t ∉ [6, 11, 154, 155] := by decide
        exact this t ht)) (fun _ _ => rfl) (fun _ _ => rfl) ml⟩
      rw [g1.1 23 (by decide)]
      exact c
  refine am_M_of (by decide) (Nat.le_of_ble_eq_true rfl) ?_
  refine bX11_countAllowed_0 (Z 60 0 a rfl mh_fc_r (fun i hi => absurd hi (Nat.not_lt_zero i)) (fun w' f z => D _ 0 rfl w' f (fun i hi => ?_)))
  rw [z i (by omega), if_neg (fun z => by omega)]
  rfl
theorem mh_bst1 {N : Nat → Int} {n : Nat} : mh_bst N (n + 1) = if N (n + 1) ≤ N (mh_bst N n) then mh_bst N n else n + 1 := rfl
/-- the counts of the reference, and the frame -/
theorem mh_fmu {ts fs : List Nat} {b b' : am_W} {t j k : Nat} {v : Int} (h : mh_fm ts fs b b') (ht : t ∈ ts) (h9 : ¬ t = 9) : mh_fm ts fs b (am_up b'.1 t j k v, b'.2) := by
  refine ⟨fun t' q q9 => ?_, fun k' q => ?_, h.2.2⟩
  · show am_up _ _ _ _ _ t' = _
    rw [am_up_t (fun e => q (by rw [e]; exact ht))]
    exact h.1 t' q q9
  · show am_up b'.1 t j k v 9 0 k' = _
    rw [am_up_t (fun e => h9 e.symm)]
    exact h.2.1 k' q
theorem mh_JR_s2 {I : Nat → Nat → Nat → Int} {L : Nat → Nat → Nat → Int64} {b b' : am_W} (h : mh_JR I L b.1) (g : mh_fm mh_t2 mh_f2 b b') : mh_JR I L b'.1 := by
  obtain ⟨h1, h2, h3⟩ := h
  have G : ∀ (l : List Nat), (∀ t, t ∈ l → t ∉ mh_t2 ∧ ¬ t = 9) → ∀ t, t ∈ l → b'.1 t = b.1 t := fun l q t ht => g.1 t (q t ht).1 (q t ht).2
  have G9 : ∀ (l : List Nat), (∀ t, t ∈ l → t ∉ mh_f2) → ∀ t, t ∈ l → b'.1 9 0 t = b.1 9 0 t := fun l q t ht => g.2.1 t (q t ht)
  exact ⟨mh_RK_s h1 (Int.le_refl _) (fun _ _ => rfl) (fun _ _ => rfl) (fun _ _ => rfl) rfl (G _ (by decide)) (G9 _ (by decide)),
    mh_RL_s h2 (Int.le_refl _) rfl (fun _ _ => rfl) (G _ (by decide)) (g.2.1 21 (by decide)), mh_RO_s h3 rfl (fun _ _ => rfl) (G _ (by decide)) (g.2.1 52 (by decide))⟩
theorem mh_RS_o {I : Nat → Nat → Nat → Int} {a : Nat} {known s : Int} {J J' : Nat → Nat → Nat → Int} (h : mh_RS I a known s J) (o : ∀ t, ¬ t = 125 → J' t = J t) : mh_RS I a known s J' := by
  unfold mh_RS mh_rs mh_rg at *
  rw [o 9 (by decide), o 114 (by decide), o 115 (by decide), o 116 (by decide), o 117 (by decide), o 118 (by decide), o 120 (by decide), o 121 (by decide)]
  exact h
theorem qX_best {x1 x2 x3 x4 : Int} : mh_q SC X 8 mX11_best [.inr (.inr (some (1, 0))), .inl x1, .inl x2, .inl x3, .inl x4] 11 mX12_best [.inr (.inr (some (9, 0))), .inl x1, .inl x2, .inl x3, .inl x4] := by
  intro a b0 E d kc ks Q h
  have n1 := E.2.1.2
  have p1 := E.2.2.2.2.1.1
  have hC := mh_E_C E
  have hO := mh_E_Co E
  have no : ¬ ((0 ≤ x1 ∧ x1 < 4) ∧ (-36524 ≤ x2 ∧ x2 ≤ 73047) ∧ (-36524 ≤ x3 ∧ x3 ≤ 73047) ∧ (x2 ≤ x3 ∧ x3 - x2 < 60) ∧ 0 ≤ x4 ∧ x4 ≤ 1) → Q (some (.inl (-2147483648))) a := by
    intro c
    refine h _ a (fun _ _ => rfl) ?_
    intro b e d' kc' ks' Q' k
    have K := k b e (fun _ _ => rfl) rfl
    refine am_M_of (by decide) (Nat.le_of_ble_eq_true rfl) ?_
    refine bX12_best_0 ⟨fun _ => K, fun c1 => ⟨fun _ => K, fun c2 => ⟨fun _ => K, fun c3 => ⟨fun _ => K, fun c4 => ?_⟩⟩⟩⟩
    rw [am_w_id (by unfold am_rg; omega)]
    exact ⟨fun _ => K, fun c5 => ⟨fun c6 => absurd ⟨by omega, by omega, by omega, by omega, by omega⟩ c, fun _ => K⟩⟩
  refine am_M_of (by decide) (Nat.le_of_ble_eq_true rfl) ?_
  refine bX11_best_0 ⟨fun c => no (by omega), fun c => ⟨fun c2 => no (fun z => c2 ?_), fun c2 => ?_⟩⟩
  · rw [am_w_id (by unfold am_rg; omega)]; omega
  have c2' := c2.2.2.2
  rw [am_w_id (by unfold am_rg; omega)] at c2'
  refine ⟨fun c3 => no (by omega), fun c3 => ⟨fun c4 => ?_, fun c4 => no (by omega)⟩⟩
  obtain ⟨act, rfl⟩ := mh_nat (z := x1) (by omega)
  obtain ⟨len, hlen⟩ := mh_nat (z := x3 - x2) (by omega)
  refine pX11_countAllowed E (by omega) (by omega) (by omega) (by omega) (by omega) (fun w1 f1 c1 => ?_)
  obtain ⟨N, hN⟩ : ∃ N : Nat → Int, N = fun i : Nat => mh_nal (fun q => mh_alw a.1 q (a.1 1 0 12) act (x2 + i)) (a.1 5 0 18).toNat := ⟨_, rfl⟩
  have c1' : ∀ i : Nat, x2 + i ≤ x3 → w1.1 23 0 i = N i := by rw [hN]; exact c1
  have fin : ∀ z : Int, z = (if x4 = 0 then x2 + (mh_bst N len : Int) else N (mh_bst N len)) → Q (some (.inl z)) w1 := by
    intro z hz
    refine h z w1 (mh_fc_w f1.1 (by decide)) ?_
    intro b e d' kc' ks' Q' k
    have p2 := e.2.2.2.2.1.1.1
    have n2 := e.2.1.1
    have JR := mh_E_JR e
    have R : ∀ (n k' : Nat) (w2 : am_W), n + k' = len → mh_fm mh_t2 mh_f2 b w2 → (∀ i : Nat, x2 + i ≤ x3 → w2.1 125 0 i = N i) →
        am_A (mh_G X) SC (d' + 11) mX12_best Q' 168 [(0, .inr (.inr (some (9, 0)))), (2, .inl x2), (3, .inl x3), (4, .inl x4), (5, .inl (mh_bst N k' : Int)), (6, .inl ((k' : Int) + 1))] [] w2 kc' ks' := by
      intro n
      induction n with
      | zero =>
        intro k' w2 hk f2 c2
        have K := k w2 (mh_E_s e f1 f2) (mh_fm_w f2 (by decide)).1 (mh_fm_w f2 (by decide)).2
        have bb := mh_bst_b N k'
        obtain rfl : k' = len := by omega
        refine bX12_best_168 ?_
        rw [am_w_id (z := x3 - x2) (by unfold am_rg; omega), am_w_id (z := x2 + (mh_bst N k' : Int)) (by unfold am_rg; omega)]
        refine ⟨fun _ => ⟨fun c => ⟨by omega, by omega, ?_⟩, fun c => ?_⟩, fun c => absurd (by omega) c⟩
        · rw [if_neg c] at hz
          rw [Int.toNat_natCast, c2 _ (by omega), ← hz]
          exact K
        · rw [if_pos c] at hz
          rw [← hz]
          exact K
      | succ n ih =>
        intro k' w2 hk f2 c2
        have bb := mh_bst_b N k'
        have e1 := mh_bst1 (N := N) (n := k')
        refine bX12_best_168 ?_
        rw [am_w_id (z := x3 - x2) (by unfold am_rg; omega), Int.toNat_natCast, show ((k' : Int) + 1).toNat = k' + 1 by omega, c2 _ (by omega), c2 _ (by omega)]
        refine ⟨fun c => absurd c (by omega), fun _ => ⟨by omega, by omega, by omega, by omega, fun c => bX12_best_197 ?_, fun c => bX12_best_197 ?_⟩⟩
        · rw [if_pos c] at e1
          rw [am_w_id (z := (k' : Int) + 1 + 1) (by unfold am_rg; omega)]
          have := ih (k' + 1) w2 (by omega) f2 c2
          rw [e1, show ((k' + 1 : Nat) : Int) = (k' : Int) + 1 by omega] at this
          exact this
        · rw [if_neg c] at e1
          rw [am_w_id (z := (k' : Int) + 1 + 1) (by unfold am_rg; omega)]
          have := ih (k' + 1) w2 (by omega) f2 c2
          rw [e1, show ((k' + 1 : Nat) : Int) = (k' : Int) + 1 by omega] at this
          exact this
    have D : ∀ (m : Nat) (p : Nat), m + p = (a.1 5 0 18).toNat → ∀ w, mh_fm mh_t2 mh_f2 b w → mh_cnt (w.1 125 0) (fun q x => mh_alw a.1 q (a.1 1 0 12) act x) x2 x3 p x2 →
        am_A (mh_G X) SC (d' + 11) mX12_best Q' 75 [(0, .inr (.inr (some (9, 0)))), (1, .inl (act : Int)), (2, .inl x2), (3, .inl x3), (4, .inl x4), (5, .inl (p : Int))] [] w kc' ks' := by
      intro m
      induction m with
      | zero =>
        intro p hp w f c
        have e42 : w.1 9 0 42 = a.1 5 0 18 := by rw [f.2.1 42 (by decide)]; exact p2
        refine bX12_best_75 ⟨fun _ => R len 0 w rfl f (fun i hi => ?_), fun z => absurd (by omega) z⟩
        have ci : w.1 125 0 i = mh_nal (fun q => mh_alw a.1 q (a.1 1 0 12) act (x2 + (i : Int))) p + @ite Int (x2 + (i : Int) < x2 ∧ mh_alw a.1 p (a.1 1 0 12) act (x2 + (i : Int))) (Classical.propDecidable _) 1 0 := c i hi
        rw [if_neg (fun z => by omega), show p = (a.1 5 0 18).toNat by omega] at ci
        rw [ci, hN]
        exact Int.add_zero _
      | succ m ih =>
        intro p hp w f c
        have e42 : w.1 9 0 42 = a.1 5 0 18 := by rw [f.2.1 42 (by decide)]; exact p2
        have e33 : w.1 9 0 33 = a.1 1 0 12 := by rw [f.2.1 33 (by decide)]; exact n2
        refine bX12_best_75 ⟨fun z => absurd z (by omega), fun _ => ?_⟩
        rw [e33]
        have up : ∀ {u v : am_W}, mh_fm mh_tn mh_fn u v → mh_fm mh_t2 mh_f2 u v := fun g => mh_fm_m g (by decide) (by decide)
        refine pX12_prepares hC (by omega) (by omega) (mh_JR_s2 JR f) (fun w1' g1 s1 => ?_)
        have NN : ∀ (n : Nat) (x : Int) (w2 : am_W), x2 ≤ x → x + n = x3 + 1 → mh_fm mh_t2 mh_f2 b w2 → mh_cnt (w2.1 125 0) (fun q x => mh_alw a.1 q (a.1 1 0 12) act x) x2 x3 p x → (∃ t, t ≤ x ∧ mh_RS a.1 p (a.1 1 0 12) t w2.1) →
            am_A (mh_G X) SC (d' + 11) mX12_best Q' 97 [(0, .inr (.inr (some (9, 0)))), (1, .inl (act : Int)), (2, .inl x2), (3, .inl x3), (4, .inl x4), (5, .inl (p : Int)), (6, .inl x)] [] w2 kc' ks' := by
          intro n
          induction n with
          | zero =>
            intro x w2 h1 h2 f2 c2 m2
            refine bX12_best_97 ⟨fun _ => ?_, fun c => absurd (by omega) c⟩
            rw [am_w_id (z := (p : Int) + 1) (by unfold am_rg; omega)]
            exact ih (p + 1) (by omega) w2 f2 (mh_cnt_n c2 (by omega))
          | succ n ihn =>
            intro x w2 h1 h2 f2 c2 m2
            obtain ⟨s, sc, s2⟩ := m2
            refine bX12_best_97 ⟨fun c => absurd c (by omega), fun _ => ?_⟩
            rw [show w2.1 9 0 33 = a.1 1 0 12 by rw [f2.2.1 33 (by decide)]; exact n2]
            have nx : ∀ w4 : am_W, mh_fm mh_t2 mh_f2 b w4 → (∃ t, t ≤ x ∧ mh_RS a.1 p (a.1 1 0 12) t w4.1) → mh_cnt (w4.1 125 0) (fun q x => mh_alw a.1 q (a.1 1 0 12) act x) x2 x3 p (x + 1) →
                am_A (mh_G X) SC (d' + 11) mX12_best Q' 150 [(0, .inr (.inr (some (9, 0)))), (1, .inl (act : Int)), (2, .inl x2), (3, .inl x3), (4, .inl x4), (5, .inl (p : Int)), (6, .inl x)] [] w4 kc' ks' := by
              intro w4 f4 s4 c4
              refine bX12_best_150 ?_
              rw [am_w_id (z := x + 1) (by unfold am_rg; omega)]
              obtain ⟨t, t1, m3⟩ := s4
              exact ihn (x + 1) w4 (by omega) (by omega) f4 c4 ⟨t, by omega, m3⟩
            refine pX12_isAlive hC (by omega) (mh_JR_s2 JR f2) (by omega) (fun al => ?_) (fun al => ?_)
            · refine bX12_best_115 ⟨fun _ => ?_, fun c => absurd c (by decide)⟩
              refine pX12_goesTo hC (by omega) (by omega) (mh_JR_s2 JR f2) sc (by omega) s2 (fun w6 f6 s6 => ?_)
              have f7 := mh_fm_t f2 (up f6)
              have e125 : w6.1 125 = w2.1 125 := f6.1 125 (by decide) (by decide)
              refine bX12_best_127 ?_
              refine pX12_mayBe hC hO (by omega) (by omega) (mh_JR_s2 JR f7) (by omega) (by omega) s6 (fun y => ?_) (fun y => ?_)
              · obtain ⟨j, hj⟩ := mh_nat (z := x - x2) (by omega)
                refine bX12_best_134 ⟨fun c => absurd c (by decide), fun _ => ?_⟩
                rw [am_w_id (z := x - x2) (by unfold am_rg; omega), hj]
                refine ⟨by omega, by omega, ?_⟩
                have cj : w2.1 125 0 j = mh_nal (fun q => mh_alw a.1 q (a.1 1 0 12) act (x2 + (j : Int))) p + @ite Int (x2 + (j : Int) < x ∧ mh_alw a.1 p (a.1 1 0 12) act (x2 + (j : Int))) (Classical.propDecidable _) 1 0 := c2 j (by omega)
                have nb := mh_nalb (A := fun q => mh_alw a.1 q (a.1 1 0 12) act (x2 + (j : Int))) p
                rw [if_neg (fun z => by omega)] at cj
                rw [Int.toNat_natCast, am_w_id (by rw [e125]; unfold am_rg; omega)]
                refine nx _ (mh_fmu f7 (by decide) (by decide)) ⟨x, Int.le_refl _, mh_RS_o s6 (fun t ht => am_up_t ht)⟩ ?_
                refine mh_cnt_1 (j := j) c2 (by omega) ⟨al, y⟩ (fun i => ?_)
                show am_up w6.1 125 0 j _ 125 0 i = _
                rw [am_up_a, e125]
              · refine bX12_best_134 ⟨fun _ => nx w6 f7 ⟨x, Int.le_refl _, s6⟩ ?_, fun c => absurd rfl c⟩
                rw [e125]
                exact mh_cnt_0 c2 (fun z => y z.2)
            · refine bX12_best_115 ⟨fun c => absurd rfl c, fun _ => nx w2 f2 ⟨s, sc, s2⟩ (mh_cnt_0 c2 (fun z => al z.1))⟩
        refine bX12_best_94 ?_
        refine NN (x3 + 1 - x2).toNat x2 w1' (Int.le_refl _) (by omega) (mh_fm_t f (up g1)) ?_ ⟨_, by omega, s1⟩
        rw [g1.1 125 (by decide) (by decide)]
        exact c
    have Z : ∀ (n k' : Nat) (w : am_W), n + k' = 60 → mh_fm mh_t2 mh_f2 b w → (∀ i : Nat, i < k' → w.1 125 0 i = 0) →
        am_A (mh_G X) SC (d' + 11) mX12_best Q' 51 [(0, .inr (.inr (some (9, 0)))), (1, .inl (act : Int)), (2, .inl x2), (3, .inl x3), (4, .inl x4), (5, .inl (k' : Int))] [] w kc' ks' := by
      intro n
      induction n with
      | zero =>
        intro k' w hk f z
        obtain rfl : k' = 60 := by omega
        refine bX12_best_51 ⟨fun _ => D _ 0 rfl w f (fun i hi => ?_), fun c => absurd (by decide) c⟩
        rw [z i (by omega), if_neg (fun z => by omega)]
        rfl
      | succ n ih =>
        intro k' w hk f z
        refine bX12_best_51 ⟨fun c => absurd c (by omega), fun _ => ⟨by omega, by omega, ?_⟩⟩
        rw [am_w_id (z := (k' : Int) + 1) (by unfold am_rg; omega), Int.toNat_natCast]
        refine ih (k' + 1) _ (by omega) (mh_fmu f (by decide) (by decide)) (fun i hi => ?_)
        show am_up w.1 125 0 k' 0 125 0 i = 0
        rw [am_up_a]
        split
        · rfl
        · exact z i (by omega)
    refine am_M_of (by decide) (Nat.le_of_ble_eq_true rfl) ?_
    refine bX12_best_0 ⟨fun c => absurd ⟨by omega, by omega⟩ c, fun _ => ⟨fun c => absurd ⟨by omega, by omega⟩ c, fun _ => ⟨fun c => absurd ⟨by omega, by omega⟩ c, fun _ => ⟨fun c => absurd c (by omega), fun _ => ?_⟩⟩⟩⟩
    rw [am_w_id (z := x3 - x2) (by unfold am_rg; omega)]
    exact ⟨fun c => absurd c (by omega), fun _ => ⟨fun _ => Z 60 0 b rfl mh_fm_r (fun i hi => absurd hi (Nat.not_lt_zero i)), fun c => absurd ⟨by omega, by omega⟩ c⟩⟩
  have B : ∀ (n k : Nat), n + k = len → am_A (mh_G X) SC (d + 8) mX11_best Q 44 [(0, .inr (.inr (some (1, 0)))), (2, .inl x2), (3, .inl x3), (4, .inl x4), (5, .inl (x2 + (mh_bst N k : Int))), (6, .inl (x2 + (k : Int) + 1))] [] w1 kc ks := by
    intro n
    induction n with
    | zero =>
      intro k hk
      have bb := mh_bst_b N k
      obtain rfl : k = len := by omega
      refine bX11_best_44 ?_
      rw [am_w_id (z := x2 + (mh_bst N k : Int) - x2) (by unfold am_rg; omega), show x2 + (mh_bst N k : Int) - x2 = (mh_bst N k : Int) by omega, Int.toNat_natCast, c1' _ (by omega)]
      refine ⟨fun _ => ⟨fun c => ⟨by omega, by omega, fin _ ?_⟩, fun c => fin _ ?_⟩, fun c => absurd (by omega) c⟩
      · rw [if_neg c]
      · rw [if_pos c]
    | succ n ih =>
      intro k hk
      have bb := mh_bst_b N k
      have e1 := mh_bst1 (N := N) (n := k)
      refine bX11_best_44 ⟨fun c => absurd c (by omega), fun _ => ?_⟩
      rw [am_w_id (z := x2 + (mh_bst N k : Int) - x2) (by unfold am_rg; omega), show x2 + (mh_bst N k : Int) - x2 = (mh_bst N k : Int) by omega, Int.toNat_natCast, c1' (mh_bst N k) (by omega),
        am_w_id (z := x2 + (k : Int) + 1 - x2) (by unfold am_rg; omega), show (x2 + (k : Int) + 1 - x2).toNat = k + 1 by omega, c1' (k + 1) (by omega)]
      refine ⟨by omega, by omega, by omega, by omega, fun c => bX11_best_75 ?_, fun c => bX11_best_75 ?_⟩
      · rw [if_pos c] at e1
        rw [am_w_id (z := x2 + (k : Int) + 1 + 1) (by unfold am_rg; omega)]
        have := ih (k + 1) (by omega)
        rw [e1, show x2 + ((k + 1 : Nat) : Int) + 1 = x2 + (k : Int) + 1 + 1 by omega] at this
        exact this
      · rw [if_neg c] at e1
        rw [am_w_id (z := x2 + (k : Int) + 1 + 1) (by unfold am_rg; omega)]
        have := ih (k + 1) (by omega)
        rw [e1, show x2 + ((k + 1 : Nat) : Int) + 1 = x2 + (k : Int) + 1 + 1 by omega, show x2 + ((k + 1 : Nat) : Int) = x2 + (k : Int) + 1 by omega] at this
        exact this
  refine bX11_best_36 ?_
  rw [am_w_id (z := x2 + 1) (by unfold am_rg; omega)]
  have := B len 0 rfl
  rw [show x2 + ((0 : Nat) : Int) + 1 = x2 + 1 by omega, show x2 + (mh_bst N 0 : Int) = x2 by show x2 + ((0 : Nat) : Int) = x2; omega] at this
  exact this
