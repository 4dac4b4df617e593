-- study
variable {SC : Nat → Nat} {X : mh_X}
theorem pX4_study {d kc ks : Nat} {Q : Option am_V → am_W → Prop} {a : Nat} {known : Int} {w : am_W} (hC : mh_C w.1 w.2.1) (hk : known < 2147483647) (ha : (a : Int) < w.1 5 0 18)
    (K : ∀ w' : am_W, (∀ t, t ∉ [6, 11, 154, 155] → w'.1 t = w.1 t) → (∀ t, t ∉ [5, 48] → w'.2.1 t = w.2.1 t) → w'.2.1 5 0 16 = w.2.1 5 0 16 → w'.2.2 = w.2.2 → mh_ML w.1 a known (-36524) w' → Q none w') :
    am_M (mh_G X) SC (d + 6) kc ks mX4_study [.inr (.inr (some (6, 0))), .inl (a : Int), .inl known] w Q := by
  obtain ⟨ok, -⟩ := mh_P_ok hC hk ha
  have p40 : 0 ≤ w.1 5 0 18 ∧ w.1 5 0 18 ≤ 40 := by obtain ⟨J, R, -⟩ := hC; exact R.1.2
  have B : ∀ (n i : Nat) (w2 : am_W), (n + i : Nat) = (w.1 5 0 18).toNat → mh_wI w.1 w2 → (∀ t, t ∉ [5, 48] → w2.2.1 t = w.2.1 t) → w2.2.1 5 0 16 = w.2.1 5 0 16 → w2.2.2 = w.2.2 →
      w2.1 6 0 3 = ((mh_dl w.1 a known i).length : Int) → w2.1 6 0 4 = (a : Int) → w2.1 6 0 5 = known → (∀ e, e < (mh_dl w.1 a known i).length → mh_ms w.1 a known w2.1 e ∧ mh_fresh w2.1 e) →
      am_A (mh_G X) SC (d + 6) mX4_study Q 17 [(0, .inr (.inr (some (6, 0)))), (1, .inl (a : Int)), (2, .inl known), (3, .inl (i : Int))] [] w2 kc ks := by
    intro n
    induction n with
    | zero =>
      intro i w2 hi g1 g2 g3 g4 g5 g6 g7 g8
      obtain rfl : i = (w.1 5 0 18).toNat := by omega
      have q5 := g1 5 (by decide)
      have fin : am_A (mh_G X) SC (d + 6) mX4_study Q 65 [(0, .inr (.inr (some (6, 0))))] [] w2 kc ks := by
        refine bX4_study_65 ?_
        have hM : mh_MS w.1 a known (-36524) (am_up w2.1 6 0 6 (-36524), w2.2) := by
          refine ⟨fun t ht => ?_, ?_, ?_, ?_, ?_, fun e he => ?_⟩
          · show am_up _ _ _ _ _ t = _
            rw [am_up_t (fun y => ht (by rw [y]; decide))]; exact g1 t ht
          · simp (disch := decide) only [am_up_k]; exact g5
          · simp (disch := decide) only [am_up_k]; exact g6
          · simp (disch := decide) only [am_up_k]; exact g7
          · simp only [am_up_s]
          · obtain ⟨ms, f1, f2, f3, f4⟩ := g8 e he
            have o := ok e he
            have s0 : md_S (mh_P w.1 a known) (-36524) e = 0 := md_S_no ok he (by decide)
            have p0 : md_pt (md_cu (mh_P w.1 a known) e) 0 (md_np (mh_P w.1 a known) e) = 0 := md_pt_is o.2.2.2.1 (by omega) (by omega) (Or.inl rfl)
            refine ⟨?_, Or.inl ?_⟩
            · unfold mh_ms at *
              simp (disch := decide) only [am_up_t]
              exact ms
            · simp (disch := decide) only [am_up_t]
              rw [s0, p0]
              exact ⟨f1, f3, by decide, f4, f2⟩
        refine pX4_lookAhead hC hk ha (by omega) hM (fun w3 k1 k2 k3 => ?_)
        refine bX4_study_75 (K w3 (fun t ht => ?_) ?_ ?_ ?_ k3)
        · rw [k2 t (fun y => ht (by rw [y]; decide))]
          show am_up _ _ _ _ _ t = _
          rw [am_up_t (fun y => ht (by rw [y]; decide))]; exact g1 t ht
        · rw [k1]; exact g2
        · rw [k1]; exact g3
        · rw [k1]; exact g4
      exact bX4_study_17 ⟨fun _ => fin, fun c => ⟨fun _ => fin, fun c2 => absurd c (show ¬ ¬ w2.1 5 0 18 ≤ ((w.1 5 0 18).toNat : Int) by rw [q5]; omega)⟩⟩
    | succ n ih =>
      intro i w2 hi g1 g2 g3 g4 g5 g6 g7 g8
      have q5 := g1 5 (by decide)
      have len := mh_dl_n (I := w.1) (a := a) (known := known) (n := i)
      have hC2 : mh_C w2.1 w2.2.1 := mh_C_w hC g1 (fun t ht => g2 t (by revert ht; revert t; decide)) g3
      refine bX4_study_17 ⟨fun c => absurd c (show ¬ w2.1 5 0 18 ≤ (i : Int) by rw [q5]; omega), fun _ => ⟨fun c => absurd c (by omega), fun _ => ?_⟩⟩
      refine pX4_ruleFor hC2 (by rw [q5]; exact ha) (by rw [q5]; omega) hk (fun L' l1 l2 => ?_)
      rw [mh_rule_e (mh_wI_ft g1)]
      have h1 : ∀ t, t ∉ [5, 48] → L' t = w.2.1 t := fun t ht => (l1 t ht).trans (g2 t ht)
      have h2 : L' 5 0 16 = w.2.1 5 0 16 := l2.trans g3
      have e1 := mh_dl1 (I := w.1) (a := a) (known := known) (n := i)
      refine bX4_study_44 ⟨fun c => ?_, fun c => ?_⟩
      · rw [if_pos c] at e1
        refine bX4_study_59 ?_
        rw [am_w_id (z := (i : Int) + 1) (by unfold am_rg; omega)]
        exact ih (i + 1) (w2.1, L', w2.2.2) (by omega) g1 h1 h2 g4 (by rw [e1]; exact g5) g6 g7 (by rw [e1]; exact g8)
      · rw [if_neg c] at e1
        have len2 : (mh_dl w.1 a known (i + 1)).length = (mh_dl w.1 a known i).length + 1 := by rw [e1, List.length_append]; rfl
        have leN : (mh_dl w.1 a known (i + 1)).length ≤ md_n (mh_P w.1 a known) := by
          have : ∀ k, (mh_dl w.1 a known (i + 1)).length ≤ (mh_dl w.1 a known (i + 1 + k)).length := by
            intro k
            induction k with
            | zero => exact Nat.le_refl _
            | succ k ihk =>
              rw [show i + 1 + (k + 1) = i + 1 + k + 1 by omega, mh_dl1 (n := i + 1 + k)]
              split
              · exact ihk
              · rw [List.length_append]; omega
          have := this n
          rw [show i + 1 + n = (w.1 5 0 18).toNat by omega] at this
          exact this
        have he : (mh_dl w.1 a known i).length < md_n (mh_P w.1 a known) := by omega
        have De : mh_D w.1 a known (mh_dl w.1 a known i).length = i := by
          unfold mh_D
          have := mh_D_p (I := w.1) (a := a) (known := known) n (i + 1) (e := (mh_dl w.1 a known i).length) (by omega)
          rw [show i + 1 + n = (w.1 5 0 18).toNat by omega] at this
          rw [this, e1, List.getD_eq_getElem?_getD, List.getElem?_append_right (Nat.le_refl _), Nat.sub_self]
          rfl
        have rn : mh_rule w.1 a i known = (mh_er w.1 a known i : Int) := (mh_dead hC hk ha (by omega) c).2.1.1
        have K2 := pX4_startM (SC := SC) (X := X) (d := d) (kc := 0) (ks := 0) (L := w.2.1) (w := (w2.1, L', w2.2.2)) (Q := fun r w1 => am_A (mh_G X) SC (d + 6) mX4_study Q 59 [(4, .inl (mh_rule w.1 a i known)), (0, .inr (.inr (some (6, 0)))), (1, .inl (a : Int)), (2, .inl known), (3, .inl (i : Int))] (r.toList ++ []) w1 kc ks) hC hk ha g1 he g5 g6 g7 (fun w3 k1 k2 k3 k4 k5 k6 k7 => by
          refine bX4_study_59a ?_
          rw [am_w_id (z := (i : Int) + 1) (by unfold am_rg; omega)]
          refine ih (i + 1) w3 (by omega) (fun t ht => (k2 t ht).trans (g1 t ht)) (by rw [k1]; exact h1) (by rw [k1]; exact h2) (by rw [k1]; exact g4) (by rw [k4, len2]; omega) ((k5 4 (by decide)).trans g6) ((k5 5 (by decide)).trans g7) (fun e hle => ?_)
          by_cases z : e = (mh_dl w.1 a known i).length
          · rw [z]; exact ⟨k6, k7⟩
          · obtain ⟨u1, u2⟩ := g8 e (by omega)
            exact ⟨mh_ms_o u1 k3 z, mh_fresh_o u2 k3 z⟩)
        rw [De] at K2
        rw [rn]
        rw [rn] at K2
        exact K2
  refine am_M_of (by decide) (Nat.le_of_ble_eq_true rfl) ?_
  refine bX4_study_0 ?_
  refine B (w.1 5 0 18).toNat 0 _ (by omega) (fun t ht => ?_) (fun _ _ => rfl) rfl rfl ?_ ?_ ?_ (fun e he => absurd he (Nat.not_lt_zero e))
  · show am_up _ _ _ _ _ t = _
    rw [am_up_t (fun y => ht (by rw [y]; decide)), am_up_t (fun y => ht (by rw [y]; decide)), am_up_t (fun y => ht (by rw [y]; decide))]
  · simp only [am_up_s]; rfl
  · simp (disch := decide) only [am_up_k, am_up_s]
  · simp (disch := decide) only [am_up_k, am_up_s]
