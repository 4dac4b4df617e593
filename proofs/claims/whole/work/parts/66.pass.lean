-- passDays, endByWedding
variable {SC : Nat → Nat} {X : mh_X}
theorem md_pt_lo {c : Nat → Int} {f : Int} : ∀ k, md_pt c f k = 0 ∨ c (md_pt c f k - 1) ≤ f
  | 0 => Or.inl rfl
  | k + 1 => by
    by_cases y : c k ≤ f
    · have : md_pt c f (k + 1) = k + 1 := by show (if _ then _ else _) = _; rw [if_pos y]
      rw [this]; exact Or.inr y
    · have : md_pt c f (k + 1) = md_pt c f k := by show (if _ then _ else _) = _; rw [if_neg y]
      rw [this]; exact md_pt_lo k
theorem md_adv_c {P : md_P} (ok : md_ok P) {t c : Int} (q : md_qu P t c) {e : Nat} (he : e < md_n P) :
    (¬ md_go P t e → md_adv P (c - 1) (md_S P (c - 1)) e = md_S P t e) ∧
    (md_go P t e → md_adv P (c - 1) (md_S P (c - 1)) e = (if md_cu P e (md_np P e - 1) ≤ md_S P t e + (c - t) then -1 else md_S P t e + (c - t)) ∧ ¬ md_S P (c - 1) e = -1) := by
  have t0 := q.1
  have j := md_jump ok q (c - 1 - t).toNat (by omega)
  rw [show t + (((c - 1 - t).toNat : Nat) : Int) = c - 1 by omega] at j
  have mx : md_mx (md_d P (c - 1) (md_S P (c - 1))) (md_n P) = md_mx (md_d P t (md_S P t)) (md_n P) := md_mxc (fun e he => (j e he).2.2)
  obtain ⟨j1, j2, j3⟩ := j e he
  have inn := md_in_S ok t e he
  constructor
  · intro ng
    have s1 := j2 ng
    unfold md_adv
    by_cases a1 : md_S P t e = -1
    · rw [if_pos (Or.inl (by rw [s1]; exact a1)), s1]
    · by_cases a2 : t < md_b P e
      · have := q.2.2.1 e he a2
        rw [if_pos (Or.inr (by omega)), s1]
      · rw [if_neg (by omega), mx, s1, if_neg (fun z => ng ⟨a1, by omega, z⟩)]
  · intro g
    have s1 := j1 g
    have b1 := g.2.1
    have a1 := g.1
    have on : ¬ (md_S P (c - 1) e = -1 ∨ c - 1 < md_b P e) := by omega
    have dpe : md_dp P e (md_S P (c - 1) e) = md_dp P e (md_S P t e) := by
      have := j3
      unfold md_d at this
      rw [if_neg on, if_neg (by omega)] at this
      exact this
    refine ⟨?_, by omega⟩
    unfold md_adv
    rw [if_neg on, mx, dpe, if_pos g.2.2, s1, show md_S P t e + (((c - 1 - t).toNat : Nat) : Int) + 1 = md_S P t e + (c - t) by omega]
/-- how entry e stands ahead of the wedding of day c -/
def mh_dynA (P : md_P) (c : Int) (W : Nat → Nat → Nat → Int) (e : Nat) : Prop :=
  (W 11 e 7 = 0 ∧ W 11 e 9 = md_adv P (c - 1) (md_S P (c - 1)) e ∧ ¬ md_adv P (c - 1) (md_S P (c - 1)) e = -1 ∧ W 11 e 10 = (md_pt (md_cu P e) (md_adv P (c - 1) (md_S P (c - 1)) e) (md_np P e) : Int) ∧ W 11 e 8 = 2147483647) ∨
  (W 11 e 7 = 1 ∧ md_adv P (c - 1) (md_S P (c - 1)) e = -1 ∧ md_S P (W 11 e 8 + 1) e = -1 ∧ md_b P e ≤ W 11 e 8 + 1 ∧ (∀ s, s ≤ W 11 e 8 → ¬ md_S P s e = -1) ∧ -1 ≤ W 11 e 8 ∧ W 11 e 8 < c)
theorem md_Sc {P : md_P} (ok : md_ok P) (c : Int) {e : Nat} (he : e < md_n P) : md_S P c e = md_wed P c (md_adv P (c - 1) (md_S P (c - 1))) e := by
  have := md_S1 ok (c - 1) he
  rw [show c - 1 + 1 = c by omega] at this
  exact this
theorem mh_dynA_0 {P : md_P} (ok : md_ok P) {c : Int} {W : Nat → Nat → Nat → Int} {e : Nat} (he : e < md_n P) (h : mh_dynA P c W e) (hw : ¬ (¬ md_adv P (c - 1) (md_S P (c - 1)) e = -1 ∧ md_b P e ≤ c ∧ md_dp P e (md_adv P (c - 1) (md_S P (c - 1)) e) ≤ md_wd P c)) : mh_dyn P c W e := by
  have s : md_S P c e = md_adv P (c - 1) (md_S P (c - 1)) e := by
    rw [md_Sc ok c he]
    unfold md_wed
    rw [if_neg hw]
  unfold mh_dyn
  rw [s]
  exact h
theorem md_wd0 {P : md_P} (ok : md_ok P) {c : Int} {e : Nat} (he : e < md_n P) (hw : md_wd P c ≤ 0) : ¬ (¬ md_adv P (c - 1) (md_S P (c - 1)) e = -1 ∧ md_b P e ≤ c ∧ md_dp P e (md_adv P (c - 1) (md_S P (c - 1)) e) ≤ md_wd P c) := by
  rintro ⟨z1, z2, z3⟩
  have i := md_in_adv (s := c - 1) (md_in_S ok (c - 1)) e he
  have := md_dpb ok he (f := md_adv P (c - 1) (md_S P (c - 1)) e) (by omega)
  omega
def mh_MA (I : Nat → Nat → Nat → Int) (a : Nat) (known c : Int) (w : am_W) : Prop :=
  mh_wI I w ∧ w.1 6 0 3 = (md_n (mh_P I a known) : Int) ∧ w.1 6 0 4 = (a : Int) ∧ w.1 6 0 5 = known ∧ w.1 6 0 6 = c ∧ ∀ e, e < md_n (mh_P I a known) → mh_ms I a known w.1 e ∧ mh_dynA (mh_P I a known) c w.1 e
theorem mh_dyn_oe {P : md_P} {c : Int} {W W' : Nat → Nat → Nat → Int} {e e' : Nat} (o : mh_oe W W' e) (n : ¬ e' = e) (h : mh_dyn P c W e') : mh_dyn P c W' e' := by
  unfold mh_dyn at *
  rw [(o e' n).1]
  exact h
theorem mh_dynA_oe {P : md_P} {c : Int} {W W' : Nat → Nat → Nat → Int} {e e' : Nat} (o : mh_oe W W' e) (n : ¬ e' = e) (h : mh_dynA P c W e') : mh_dynA P c W' e' := by
  unfold mh_dynA at *
  rw [(o e' n).1]
  exact h
/-- cells of entry e in tag 11 are written, but those that don't change -/
theorem mh_oe_u {W : Nat → Nat → Nat → Int} {e k : Nat} {v : Int} : mh_oe W (am_up W 11 e k v) e := fun e' n => ⟨am_up_j n, by rw [am_up_t (by decide)], by rw [am_up_t (by decide)]⟩
theorem mh_oe_t {W W' W'' : Nat → Nat → Nat → Int} {e : Nat} (h : mh_oe W W' e) (g : mh_oe W' W'' e) : mh_oe W W'' e := fun e' n => ⟨(g e' n).1.trans (h e' n).1, (g e' n).2.1.trans (h e' n).2.1, (g e' n).2.2.trans (h e' n).2.2⟩
theorem mh_ms_u {I : Nat → Nat → Nat → Int} {a e k : Nat} {known v : Int} {W : Nat → Nat → Nat → Int} (h : mh_ms I a known W e) (hk : ¬ 2 = k ∧ ¬ 3 = k ∧ ¬ 4 = k ∧ ¬ 5 = k ∧ ¬ 6 = k) : mh_ms I a known (am_up W 11 e k v) e := by
  unfold mh_ms at *
  rw [am_up_k hk.1, am_up_k hk.2.1, am_up_k hk.2.2.1, am_up_k hk.2.2.2.1, am_up_k hk.2.2.2.2, am_up_t (by decide), am_up_t (by decide)]
  exact h
theorem pX4_endW {d kc ks : Nat} {Q : Option am_V → am_W → Prop} {I : Nat → Nat → Nat → Int} {L : Nat → Nat → Nat → Int64} {a : Nat} {known c : Int} {w : am_W} (hC : mh_C I L) (hk : known < 2147483647) (ha : (a : Int) < I 5 0 18) (hc : -36524 ≤ c ∧ c ≤ 73048) (hM : mh_MA I a known c w)
    (K : ∀ w' : am_W, w'.2 = w.2 → (∀ t, ¬ t = 11 → w'.1 t = w.1 t) → mh_MS I a known c w' → Q none w') :
    am_M (mh_G X) SC (d + 2) kc ks mX4_endByWedding [.inr (.inr (some (6, 0)))] w Q := by
  obtain ⟨ok, -⟩ := mh_P_ok hC hk ha
  obtain ⟨J, R, RL, RN⟩ := hC
  have n40 : md_n (mh_P I a known) ≤ (I 5 0 18).toNat := mh_dl_n
  have p40 := R.1.2
  have m40 := R.2.1.2
  unfold mh_RN at RN
  obtain ⟨m1, m2, m3, m4, m5, m6⟩ := hM
  have W4 := m1 4 (by decide)
  have W10 := m1 10 (by decide)
  have stay : md_wd (mh_P I a known) c ≤ 0 → Q none w := fun z => K w rfl (fun _ _ => rfl) ⟨m1, m2, m3, m4, m5, fun e he => ⟨(m6 e he).1, mh_dynA_0 ok he (m6 e he).2 (md_wd0 ok he z)⟩⟩
  have wde : md_wd (mh_P I a known) c = mh_wf I a known c := rfl
  refine am_M_of (by decide) (Nat.le_of_ble_eq_true rfl) ?_
  refine bX4_endByWedding_0 ?_
  rw [m5, m4]
  refine pX1_lawOn (by rw [W4]; exact RL.1.2) (fun z => ?_) (fun l hl hll => ?_)
  · rw [mh_law_e (mh_wI_ft m1)] at z
    refine bX4_endByWedding_15 (stay ?_)
    rw [wde]; unfold mh_wf
    rw [if_neg (fun y => y.2 z)]
    exact Int.le_refl _
  · rw [mh_law_e (mh_wI_ft m1)] at hl
    rw [W4] at hll
    have wfe : mh_iw I a known c (I 5 0 19).toNat = 1 → md_wd (mh_P I a known) c = I 10 l 16 := by
      intro z
      rw [wde]; unfold mh_wf
      rw [if_pos ⟨z, by omega⟩, hl, Int.toNat_natCast]
    have wf0 : ¬ mh_iw I a known c (I 5 0 19).toNat = 1 → md_wd (mh_P I a known) c ≤ 0 := by
      intro z
      rw [wde]; unfold mh_wf
      rw [if_neg (fun y => z y.1)]
      exact Int.le_refl _
    refine bX4_endByWedding_15a ?_
    rw [W10, m3, m4, m5, am_w_id (z := c - 1) (by unfold am_rg; omega)]
    refine ⟨fun z => stay ?_, fun z => ?_⟩
    · by_cases y : mh_iw I a known c (I 5 0 19).toNat = 1
      · rw [wfe y, z]; exact Int.le_refl _
      · exact wf0 y
    · refine pX2_nextW (I := I) m40 (by omega) (fun k hk => by have := R.2.2.2.2 k hk; omega) (mh_wI_ft m1) (fun v v1 v2 v3 v4 => ?_)
      refine bX4_endByWedding_48 ?_
      rw [m5]
      refine ⟨fun vc => ?_, fun vc => stay (wf0 (fun y => ?_))⟩
      · have iwc : mh_iw I a known c (I 5 0 19).toNat = 1 := by rw [vc] at v4; exact v4.resolve_left (by omega)
        have wdl := wfe iwc
        have B : ∀ (n e : Nat) (w2 : am_W), n + e = md_n (mh_P I a known) → w2.2 = w.2 → (∀ t, ¬ t = 11 → w2.1 t = w.1 t) →
            (∀ e', e' < md_n (mh_P I a known) → mh_ms I a known w2.1 e' ∧ (e' < e → mh_dyn (mh_P I a known) c w2.1 e') ∧ (e ≤ e' → mh_dynA (mh_P I a known) c w2.1 e')) →
            am_A (mh_G X) SC (d + 2) mX4_endByWedding Q 58 [(0, .inr (.inr (some (6, 0)))), (1, .inr (.inr (some (10, l)))), (2, .inl (e : Int))] [] w2 kc ks := by
          intro n
          induction n with
          | zero =>
            intro e w2 hn g1 g2 g3
            have q6 : w2.1 6 = w.1 6 := g2 6 (by decide)
            refine bX4_endByWedding_58 ⟨fun _ => K w2 g1 g2 ⟨fun t ht => (g2 t (fun y => ht (by rw [y]; decide))).trans (m1 t ht), by rw [q6]; exact m2, by rw [q6]; exact m3, by rw [q6]; exact m4, by rw [q6]; exact m5, fun e' he' => ⟨(g3 e' he').1, (g3 e' he').2.1 (by omega)⟩⟩, fun y => absurd y (show ¬ ¬ w2.1 6 0 3 ≤ (e : Int) by rw [q6, m2]; omega)⟩
          | succ n ih =>
            intro e w2 hn g1 g2 g3
            have he : e < md_n (mh_P I a known) := by omega
            have q6 : w2.1 6 = w.1 6 := g2 6 (by decide)
            have q10 : w2.1 10 = I 10 := (g2 10 (by decide)).trans W10
            obtain ⟨ms, -, dA⟩ := g3 e he
            have dA := dA (Nat.le_refl _)
            have go : ∀ w3 : am_W, w3.2 = w.2 → (∀ t, ¬ t = 11 → w3.1 t = w.1 t) → mh_oe w2.1 w3.1 e → mh_ms I a known w3.1 e → mh_dyn (mh_P I a known) c w3.1 e →
                am_A (mh_G X) SC (d + 2) mX4_endByWedding Q 105 [(0, .inr (.inr (some (6, 0)))), (1, .inr (.inr (some (10, l)))), (2, .inl (e : Int))] [] w3 kc ks := by
              intro w3 k1 k2 k3 k4 k5
              refine bX4_endByWedding_105 ?_
              rw [am_w_id (z := (e : Int) + 1) (by unfold am_rg; omega)]
              refine ih (e + 1) w3 (by omega) k1 k2 (fun e' he' => ?_)
              by_cases y : e' = e
              · rw [y]; exact ⟨k4, fun _ => k5, fun u => absurd u (by omega)⟩
              · obtain ⟨u1, u2, u3⟩ := g3 e' he'
                exact ⟨mh_ms_o u1 k3 y, fun u => mh_dyn_oe k3 y (u2 (by omega)), fun u => mh_dynA_oe k3 y (u3 (by omega))⟩
            have keep : ¬ (¬ md_adv (mh_P I a known) (c - 1) (md_S (mh_P I a known) (c - 1)) e = -1 ∧ md_b (mh_P I a known) e ≤ c ∧ md_dp (mh_P I a known) e (md_adv (mh_P I a known) (c - 1) (md_S (mh_P I a known) (c - 1)) e) ≤ md_wd (mh_P I a known) c) →
                am_A (mh_G X) SC (d + 2) mX4_endByWedding Q 105 [(0, .inr (.inr (some (6, 0)))), (1, .inr (.inr (some (10, l)))), (2, .inl (e : Int))] [] w2 kc ks :=
              fun y => go w2 g1 g2 (fun _ _ => ⟨rfl, rfl, rfl⟩) ms (mh_dynA_0 ok he dA y)
            refine bX4_endByWedding_58 ⟨fun y => absurd y (show ¬ w2.1 6 0 3 ≤ (e : Int) by rw [q6, m2]; omega), fun _ => ⟨by omega, by omega, ?_⟩⟩
            rw [Int.toNat_natCast, q6, m5, ms.2.2.1, q10]
            refine ⟨fun y => keep (fun u => y ?_), fun y => ?_⟩
            · rcases dA with dA | dA
              · exact ⟨dA.1, by omega⟩
              · exact absurd dA.2.1 u.1
            · obtain ⟨a1, a2, a3, a4, a5⟩ := dA.resolve_right (fun u => by omega)
              have inn := md_in_adv (s := c - 1) (md_in_S ok (c - 1)) e he
              have o := ok e he
              have pl := md_pt_lt (c := md_cu (mh_P I a known) e) (f := md_adv (mh_P I a known) (c - 1) (md_S (mh_P I a known) (c - 1)) e) o.2.1.1 (by omega)
              rw [a4, Int.toNat_natCast]
              have dep := (ms.2.2.2.2.2 _ pl.1).2
              rw [dep]
              have dpe : md_dp (mh_P I a known) e (md_adv (mh_P I a known) (c - 1) (md_S (mh_P I a known) (c - 1)) e) = md_de (mh_P I a known) e (md_pt (md_cu (mh_P I a known) e) (md_adv (mh_P I a known) (c - 1) (md_S (mh_P I a known) (c - 1)) e) (md_np (mh_P I a known) e)) := rfl
              refine ⟨by omega, by omega, fun u => keep (fun u2 => ?_), fun u => ?_⟩
              · rw [dpe, wdl] at u2; omega
              · have sc : md_S (mh_P I a known) c e = -1 := by
                  rw [md_Sc ok c he]
                  unfold md_wed
                  rw [if_pos ⟨a3, by omega, by rw [dpe, wdl]; omega⟩]
                rw [am_w_id (z := c - 1) (by unfold am_rg; omega)]
                refine go _ g1 (fun t ht => ?_) (mh_oe_t mh_oe_u mh_oe_u) (mh_ms_u (mh_ms_u ms (by decide)) (by decide)) ?_
                · show am_up _ _ _ _ _ t = _
                  rw [am_up_t ht, am_up_t ht]; exact g2 t ht
                · have sp : ¬ md_S (mh_P I a known) (c - 1) e = -1 := by
                    intro v
                    apply a3
                    unfold md_adv
                    rw [if_pos (Or.inl v)]; exact v
                  refine Or.inr ?_
                  simp (disch := decide) only [am_up_k, am_up_s]
                  rw [show c - 1 + 1 = c by omega]
                  have := o.1
                  exact ⟨trivial, sc, sc, by omega, fun s hs => md_S_le ok he sp hs, by omega, by omega⟩
        exact B (md_n (mh_P I a known)) 0 w rfl rfl (fun _ _ => rfl) (fun e' he' => ⟨(m6 e' he').1, fun u => absurd u (Nat.not_lt_zero e'), fun _ => (m6 e' he').2⟩)
      · by_cases u : c < v
        · have := v3 c (by omega) u
          omega
        · omega
