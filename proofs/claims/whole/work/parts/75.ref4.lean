-- the reference's mourner: advances, goesTo
variable {SC : Nat → Nat} {X : mh_X}
theorem pX12_advances {d kc ks : Nat} {Q : Option am_V → am_W → Prop} {I : Nat → Nat → Nat → Int} {L : Nat → Nat → Nat → Int64} {a : Nat} {known s : Int} {G : Nat → Int} {w : am_W} (hC : mh_C I L) (hk : known < 2147483647) (ha : (a : Int) < I 5 0 18) (hJ : mh_JR I L w.1)
    (h62 : w.1 9 0 62 = (md_n (mh_P I a known) : Int)) (hG : md_in (mh_P I a known) G) (hr : ∀ e, e < md_n (mh_P I a known) → mh_rs I a known w.1 e ∧ mh_rg (mh_P I a known) G w.1 e)
    (K : ∀ w', mh_fm [116] [] w w' → (∀ e, e < md_n (mh_P I a known) → mh_rs I a known w'.1 e ∧ mh_rg (mh_P I a known) (md_adv (mh_P I a known) s G) w'.1 e) → Q none w') :
    am_M (mh_G X) SC (d + 2) kc ks mX12_advances [.inr (.inr (some (9, 0))), .inl s] w Q := by
  obtain ⟨ok, -⟩ := mh_P_ok hC hk ha
  have p40 := hJ.1.1.2
  have n40 : md_n (mh_P I a known) ≤ (I 5 0 18).toNat := mh_dl_n
  have dd : ∀ e, e < md_n (mh_P I a known) → 0 ≤ md_d (mh_P I a known) s G e := by
    intro e he
    unfold md_d
    split
    · exact Int.le_refl _
    · have i := hG e he
      have := md_dpb ok he (f := G e) (by omega)
      omega
  have B : ∀ (n e : Nat) (w2 : am_W), n + e = md_n (mh_P I a known) → mh_fm [116] [] w w2 →
      (∀ e', e' < md_n (mh_P I a known) → mh_rs I a known w2.1 e' ∧ (e' < e → mh_rg (mh_P I a known) (md_adv (mh_P I a known) s G) w2.1 e') ∧ (e ≤ e' → mh_rg (mh_P I a known) G w2.1 e')) →
      am_A (mh_G X) SC (d + 2) mX12_advances Q 37 [(0, .inr (.inr (some (9, 0)))), (1, .inl s), (2, .inl (md_mx (md_d (mh_P I a known) s G) (md_n (mh_P I a known)))), (3, .inl (e : Int))] [] w2 kc ks := by
    intro n
    induction n with
    | zero =>
      intro e w2 hn g1 g2
      have q62 : w2.1 9 0 62 = w.1 9 0 62 := g1.2.1 62 (by decide)
      refine bX12_advances_37 ⟨fun _ => K w2 g1 (fun e' he' => ⟨(g2 e' he').1, (g2 e' he').2.1 (by omega)⟩), fun y => absurd (show w2.1 9 0 62 ≤ (e : Int) by rw [q62, h62]; omega) y⟩
    | succ n ih =>
      intro e w2 hn g1 g2
      have he : e < md_n (mh_P I a known) := by omega
      have q62 : w2.1 9 0 62 = w.1 9 0 62 := g1.2.1 62 (by decide)
      have J2 : mh_JR I L w2.1 := mh_JR_s hJ (mh_fm_m g1 (by decide) (by decide))
      obtain ⟨f1, ⟨f2, f3⟩, f4, f5, f6, f7⟩ := mh_entF hC hk ha J2 he
      have op := mh_opt (v := mh_eo I a known (mh_D I a known e)) f7.2
      obtain ⟨rs, -, rg⟩ := g2 e he
      have rg := rg (Nat.le_refl _)
      have i := hG e he
      have o := ok e he
      have wte : md_wt (mh_P I a known) e = mh_eo I a known (mh_D I a known e) / 2 % 2 := rfl
      have nx : ∀ w3 : am_W, mh_fm [116] [] w w3 → mh_or w2.1 w3.1 e → mh_rs I a known w3.1 e → mh_rg (mh_P I a known) (md_adv (mh_P I a known) s G) w3.1 e → am_A (mh_G X) SC (d + 2) mX12_advances Q 97 [(0, .inr (.inr (some (9, 0)))), (1, .inl s), (2, .inl (md_mx (md_d (mh_P I a known) s G) (md_n (mh_P I a known)))), (3, .inl (e : Int))] [] w3 kc ks := by
        intro w3 k1 k2 k3 k4
        refine bX12_advances_97 ?_
        rw [am_w_id (z := (e : Int) + 1) (by unfold am_rg; omega)]
        refine ih (e + 1) w3 (by omega) k1 (fun e' he' => ?_)
        by_cases y : e' = e
        · rw [y]; exact ⟨k3, fun _ => k4, fun u => absurd u (by omega)⟩
        · obtain ⟨u1, u2, u3⟩ := g2 e' he'
          exact ⟨mh_rs_o u1 k2 y, fun u => mh_rg_o (u2 (by omega)) k2 y rfl, fun u => mh_rg_o (u3 (by omega)) k2 y rfl⟩
      have keep : md_adv (mh_P I a known) s G e = G e → am_A (mh_G X) SC (d + 2) mX12_advances Q 97 [(0, .inr (.inr (some (9, 0)))), (1, .inl s), (2, .inl (md_mx (md_d (mh_P I a known) s G) (md_n (mh_P I a known)))), (3, .inl (e : Int))] [] w2 kc ks :=
        fun y => nx w2 g1 mh_or_r rs (mh_rg_c rg y)
      have step : ¬ (G e = -1 ∨ s < md_b (mh_P I a known) e) → (md_wt (mh_P I a known) e = 0 ∨ md_dp (mh_P I a known) e (G e) = md_mx (md_d (mh_P I a known) s G) (md_n (mh_P I a known))) →
          am_A (mh_G X) SC (d + 2) mX12_advances Q 87 [(0, .inr (.inr (some (9, 0)))), (1, .inl s), (2, .inl (md_mx (md_d (mh_P I a known) s G) (md_n (mh_P I a known)))), (3, .inl (e : Int))] [] w2 kc ks := by
        intro y1 y2
        refine bX12_advances_87 ⟨by omega, by omega, ?_⟩
        rw [Int.toNat_natCast]
        have rb := rg.1
        rw [am_w_id (z := w2.1 116 0 e + 1) (by unfold am_rg; omega)]
        obtain ⟨z1, z2, z3⟩ := rg.2.resolve_left (fun z => y1 (Or.inl z.1))
        refine nx _ (mh_fm_t g1 (mh_fm_v mh_fm_i (by decide) (by decide))) (mh_or_u (by decide)) ?_ ?_
        · unfold mh_rs at *
          simp (disch := decide) only [am_up_t]
          exact rs
        · have tb := o.2.2.2.2.2 (md_np (mh_P I a known) e - 1) (by omega)
          have ae : md_adv (mh_P I a known) s G e = if md_cu (mh_P I a known) e (md_np (mh_P I a known) e - 1) ≤ G e + 1 then -1 else G e + 1 := by
            unfold md_adv
            rw [if_neg y1, if_pos y2]
          unfold mh_rg
          simp (disch := decide) only [am_up_t, am_up_s]
          rw [ae]
          by_cases t : md_cu (mh_P I a known) e (md_np (mh_P I a known) e - 1) ≤ G e + 1
          · rw [if_pos t]
            exact ⟨by omega, Or.inl ⟨rfl, Or.inl z1, Or.inr (by omega)⟩⟩
          · rw [if_neg t]
            exact ⟨by omega, Or.inr ⟨z1, by omega, by omega⟩⟩
      refine bX12_advances_37 ⟨fun y => absurd y (show ¬ w2.1 9 0 62 ≤ (e : Int) by rw [q62, h62]; omega), fun _ => ?_⟩
      refine pX12_depthOf hC hk ha J2 he rs rg ?_
      refine bX12_advances_51 ?_
      by_cases on : G e = -1 ∨ s < md_b (mh_P I a known) e
      · have dv : md_d (mh_P I a known) s G e = 0 := by unfold md_d; rw [if_pos on]
        rw [dv]
        refine ⟨fun _ => keep ?_, fun c => absurd (Int.le_refl 0) c⟩
        unfold md_adv
        rw [if_pos on]
      · have dv : md_d (mh_P I a known) s G e = md_dp (mh_P I a known) e (G e) := by unfold md_d; rw [if_neg on]
        have dpb := md_dpb ok he (f := G e) (by omega)
        rw [dv]
        refine ⟨fun c => absurd c (by omega), fun _ => ⟨by omega, by omega, ?_⟩⟩
        rw [Int.toNat_natCast, rs.2.2.1, rs.2.2.2.1, Int.toNat_natCast, Int.toNat_natCast, f7.1]
        refine ⟨by omega, by omega, by omega, by omega, fun c => step on (Or.inl (by rw [wte]; exact op.2.1.2.mp c)), fun c => ⟨fun c2 => keep ?_, fun c2 => step on (Or.inr c2)⟩⟩
        unfold md_adv
        rw [if_neg on, if_neg (fun z => by
          rcases z with z | z
          · rw [wte] at z; exact c (op.2.1.2.mpr z)
          · exact c2 z)]
  have A : ∀ (n e : Nat), n + e = md_n (mh_P I a known) → am_A (mh_G X) SC (d + 2) mX12_advances Q 4 [(0, .inr (.inr (some (9, 0)))), (1, .inl s), (2, .inl (md_mx (md_d (mh_P I a known) s G) e)), (3, .inl (e : Int))] [] w kc ks := by
    intro n
    induction n with
    | zero =>
      intro e hn
      obtain rfl : e = md_n (mh_P I a known) := by omega
      refine bX12_advances_4 ⟨fun _ => ?_, fun y => absurd (show w.1 9 0 62 ≤ (md_n (mh_P I a known) : Int) by rw [h62]; omega) y⟩
      exact B (md_n (mh_P I a known)) 0 w rfl mh_fm_r (fun e' he' => ⟨(hr e' he').1, fun u => absurd u (Nat.not_lt_zero e'), fun _ => (hr e' he').2⟩)
    | succ n ih =>
      intro e hn
      have he : e < md_n (mh_P I a known) := by omega
      have mx1 : md_mx (md_d (mh_P I a known) s G) (e + 1) = max (md_mx (md_d (mh_P I a known) s G) e) (md_d (mh_P I a known) s G e) := rfl
      have nx : ∀ v, v = md_mx (md_d (mh_P I a known) s G) (e + 1) → am_A (mh_G X) SC (d + 2) mX12_advances Q 29 [(0, .inr (.inr (some (9, 0)))), (1, .inl s), (2, .inl v), (3, .inl (e : Int))] [] w kc ks := by
        intro v hv
        refine bX12_advances_29 ?_
        rw [am_w_id (z := (e : Int) + 1) (by unfold am_rg; omega), hv]
        exact ih (e + 1) (by omega)
      refine bX12_advances_4 ⟨fun y => absurd y (show ¬ w.1 9 0 62 ≤ (e : Int) by rw [h62]; omega), fun _ => ?_⟩
      refine pX12_depthOf hC hk ha hJ he (hr e he).1 (hr e he).2 ?_
      refine bX12_advances_18 ⟨fun c => nx _ (by omega), fun c => ?_⟩
      refine pX12_depthOf hC hk ha hJ he (hr e he).1 (hr e he).2 ?_
      exact bX12_advances_28 (nx _ (by omega))
  refine am_M_of (by decide) (Nat.le_of_ble_eq_true rfl) ?_
  exact bX12_advances_0 (A (md_n (mh_P I a known)) 0 rfl)
theorem md_S_early {P : md_P} (ok : md_ok P) : ∀ (n : Nat), (∀ e, e < md_n P → (n : Int) ≤ md_b P e) → ∀ e, e < md_n P → md_S P ((n : Int) - 1) e = 0
  | 0, _, e, he => md_S_no ok he (by decide)
  | n + 1, h, e, he => by
    have ih := md_S_early ok n (fun e he => by have := h e he; omega) e he
    have b := h e he
    have s1 := md_S1 ok ((n : Int) - 1) he
    rw [show (n : Int) - 1 + 1 = ((n + 1 : Nat) : Int) - 1 by omega] at s1
    rw [s1]
    have ad : md_adv P ((n : Int) - 1) (md_S P ((n : Int) - 1)) e = 0 := by
      unfold md_adv
      rw [if_pos (Or.inr (by omega)), ih]
    unfold md_wed
    rw [ad, if_neg (fun z => by omega)]
theorem md_S_bef {P : md_P} (ok : md_ok P) {s : Int} (h : ∀ e, e < md_n P → s < md_b P e) : ∀ e, e < md_n P → md_S P s e = 0 := by
  intro e he
  by_cases c : s < 0
  · exact md_S_no ok he c
  · have := md_S_early ok (s + 1).toNat (fun e he => by have := h e he; omega) e he
    rw [show (((s + 1).toNat : Nat) : Int) - 1 = s by omega] at this
    exact this
theorem pX12_goesTo {d kc ks : Nat} {Q : Option am_V → am_W → Prop} {I : Nat → Nat → Nat → Int} {L : Nat → Nat → Nat → Int64} {a : Nat} {known s day : Int} {w : am_W} (hC : mh_C I L) (hk : known < 2147483647) (ha : (a : Int) < I 5 0 18) (hJ : mh_JR I L w.1)
    (hs : s ≤ day) (hd : day ≤ 73048) (hS : mh_RS I a known s w.1)
    (K : ∀ w', mh_fm mh_tn mh_fn w w' → mh_RS I a known day w'.1 → Q none w') : am_M (mh_G X) SC (d + 3) kc ks mX12_goesTo [.inr (.inr (some (9, 0))), .inl day] w Q := by
  obtain ⟨ok, -⟩ := mh_P_ok hC hk ha
  have p40 := hJ.1.1.2
  have n40 : md_n (mh_P I a known) ≤ (I 5 0 18).toNat := mh_dl_n
  have B : ∀ (n : Nat) (c : Int) (w2 : am_W), 0 < md_n (mh_P I a known) → c + n = day → 0 ≤ c → mh_fm mh_tn mh_fn w w2 → (w2.1 9 0 62 = (md_n (mh_P I a known) : Int) ∧ w2.1 9 0 63 = (a : Int) ∧ w2.1 9 0 64 = known ∧ w2.1 9 0 66 = 1 ∧ w2.1 9 0 65 = c) →
      (∀ e, e < md_n (mh_P I a known) → mh_rs I a known w2.1 e ∧ mh_rg (mh_P I a known) (md_S (mh_P I a known) c) w2.1 e) → am_A (mh_G X) SC (d + 3) mX12_goesTo Q 45 [(0, .inr (.inr (some (9, 0)))), (1, .inl day)] [] w2 kc ks := by
    intro n
    induction n with
    | zero =>
      intro c w2 np hc c0 g1 g2 g3
      obtain rfl : c = day := by omega
      refine bX12_goesTo_45 ⟨fun _ => K w2 g1 ⟨⟨g2.1, g2.2.1, g2.2.2.1⟩, g3, Or.inl ⟨g2.2.2.2.1, g2.2.2.2.2, c0, np⟩⟩, fun y => absurd (show c ≤ w2.1 9 0 65 by omega) y⟩
    | succ n ih =>
      intro c w2 np hc c0 g1 g2 g3
      have J2 : mh_JR I L w2.1 := mh_JR_s hJ g1
      refine bX12_goesTo_45 ⟨fun y => absurd y (by omega), fun _ => ?_⟩
      rw [g2.2.2.2.2]
      refine pX12_advances hC hk ha J2 g2.1 (md_in_S ok c) g3 (fun w3 k1 k2 => ?_)
      refine bX12_goesTo_61 ?_
      have N : ∀ k, w3.1 9 0 k = w2.1 9 0 k := fun k => k1.2.1 k (by simp)
      rw [N, g2.2.2.2.2, am_w_id (z := c + 1) (by unfold am_rg; omega), am_up_s]
      have g4 : mh_fm mh_tn mh_fn w (am_up w3.1 9 0 65 (c + 1), w3.2) := mh_fm_t g1 (mh_fm_t (mh_fm_m k1 (by decide) (by decide)) (mh_fm_f mh_fm_i (by decide)))
      refine pX12_weds (G := md_adv (mh_P I a known) c (md_S (mh_P I a known) c)) hC hk ha (mh_JR_s hJ g4) ?_ ?_ ?_ (md_in_adv (md_in_S ok c)) ?_ (fun w4 l1 l2 => ?_)
      · simp (disch := decide) only [am_up_k]; rw [N]; exact g2.1
      · simp (disch := decide) only [am_up_k]; rw [N]; exact g2.2.1
      · simp (disch := decide) only [am_up_k]; rw [N]; exact g2.2.2.1
      · intro e he
        unfold mh_rs mh_rg
        simp (disch := decide) only [am_up_t]
        exact k2 e he
      · refine bX12_goesTo_79 ?_
        have N2 : ∀ k, w4.1 9 0 k = am_up w3.1 9 0 65 (c + 1) 9 0 k := fun k => l1.2.1 k (by simp)
        refine ih (c + 1) w4 np (by omega) (by omega) (mh_fm_t g4 (mh_fm_m l1 (by decide) (by decide))) ?_ (fun e he => ⟨(l2 e he).1, mh_rg_c (l2 e he).2 (md_S1 ok c he)⟩)
        rw [N2, N2, N2, N2, N2]
        simp (disch := decide) only [am_up_k, am_up_s]
        rw [N, N, N, N]
        exact ⟨g2.1, g2.2.1, g2.2.2.1, g2.2.2.2.1, trivial⟩
  obtain ⟨⟨s1, s2, s3⟩, s4, s5⟩ := hS
  have hb : ∀ e, e < md_n (mh_P I a known) → w.1 115 0 e = md_b (mh_P I a known) e := fun e he => (s4 e he).1.2.1
  refine am_M_of (by decide) (Nat.le_of_ble_eq_true rfl) ?_
  refine bX12_goesTo_0 ⟨fun c => ⟨fun c2 => ?_, fun c2 => ?_⟩, fun c => ?_⟩
  · obtain ⟨u1, u2, u3, u4⟩ := s5.resolve_right (fun z => c2 z.1)
    exact B (day - s).toNat s w u4 (by omega) u3 mh_fm_r ⟨s1, s2, s3, u1, u2⟩ s4
  · have nb := (s5.resolve_left (fun z => by omega)).2
    refine pX12_firstBegin (by omega) s1 hb (fun v v1 v2 v3 => ?_)
    refine bX12_goesTo_20 ⟨fun c3 => ?_, fun c3 => K w mh_fm_r ⟨⟨s1, s2, s3⟩, fun e he => ⟨(s4 e he).1, mh_rg_c (s4 e he).2 ?_⟩, Or.inr ⟨c2, fun e he => by have := v1 e he; clear v2; omega⟩⟩⟩
    · refine pX12_firstBegin (by omega) s1 hb (fun v' v1' v2' v3' => ?_)
      have vv : v' = v := by
        rcases v2 with z | ⟨e, he, z⟩
        · exact absurd c3 (by omega)
        · rcases v2' with z' | ⟨e', he', z'⟩
          · have := v1' e he
            omega
          · have := v1 e' he'
            have := v1' e he
            omega
      have b0 : 0 ≤ v := by
        rcases v2 with z | ⟨e, he, z⟩
        · omega
        · have := (ok e he).1
          omega
      rw [vv]
      refine bX12_goesTo_29 ?_
      simp (disch := decide) only [am_up_k, am_up_s]
      have g4 : mh_fm mh_tn mh_fn w (am_up (am_up w.1 9 0 65 v) 9 0 66 1, w.2) := mh_fm_f (mh_fm_f mh_fm_i (by decide)) (by decide)
      refine pX12_weds (G := md_adv (mh_P I a known) (v - 1) (md_S (mh_P I a known) (v - 1))) hC hk ha (mh_JR_s hJ g4) ?_ ?_ ?_ (md_in_adv (md_in_S ok (v - 1))) ?_ (fun w4 l1 l2 => ?_)
      · simp (disch := decide) only [am_up_k]; exact s1
      · simp (disch := decide) only [am_up_k]; exact s2
      · simp (disch := decide) only [am_up_k]; exact s3
      · intro e he
        have z := s4 e he
        have e0 : md_S (mh_P I a known) s e = 0 := md_S_bef ok nb e he
        have e1 : md_S (mh_P I a known) (v - 1) e = 0 := md_S_bef ok (fun e he => by have := v1 e he; clear v2 v2'; omega) e he
        have e2 : md_adv (mh_P I a known) (v - 1) (md_S (mh_P I a known) (v - 1)) e = 0 := by
          unfold md_adv
          rw [if_pos (Or.inr (by have := v1 e he; clear v2 v2'; omega)), e1]
        unfold mh_rs mh_rg at *
        simp (disch := decide) only [am_up_t]
        rw [e2]
        rw [e0] at z
        exact z
      · have N2 : ∀ k, w4.1 9 0 k = am_up (am_up w.1 9 0 65 v) 9 0 66 1 9 0 k := fun k => l1.2.1 k (by simp)
        refine B (day - v).toNat v w4 (by clear v2 v2'; omega) (by clear v2 v2'; omega) b0 (mh_fm_t g4 (mh_fm_m l1 (by decide) (by decide))) ?_ (fun e he => ⟨(l2 e he).1, mh_rg_c (l2 e he).2 ?_⟩)
        · rw [N2, N2, N2, N2, N2]
          simp (disch := decide) only [am_up_k, am_up_s]
          exact ⟨s1, s2, s3, trivial, trivial⟩
        · have := md_S1 ok (v - 1) he
          rw [show v - 1 + 1 = v by omega] at this
          exact this
    · rw [md_S_bef ok (fun e he => by have := v1 e he; clear v2; omega) e he, md_S_bef ok nb e he]
  · have n0 : md_n (mh_P I a known) = 0 := by omega
    refine K w mh_fm_r ⟨⟨s1, s2, s3⟩, fun e he => absurd he (by omega), ?_⟩
    rcases s5 with ⟨u1, u2, u3, u4⟩ | ⟨u1, u2⟩
    · omega
    · exact Or.inr ⟨u1, fun e he => absurd he (by omega)⟩
