-- the reference's mourner: prepares, and the days
variable {SC : Nat → Nat} {X : mh_X}
theorem mh_rg_c {P : md_P} {G G' : Nat → Int} {J : Nat → Nat → Nat → Int} {e : Nat} (h : mh_rg P G J e) (g : G' e = G e) : mh_rg P G' J e := by
  unfold mh_rg at *
  rw [g]
  exact h
/-- the reference's mourner on day s -/
def mh_RS (I : Nat → Nat → Nat → Int) (a : Nat) (known s : Int) (J : Nat → Nat → Nat → Int) : Prop :=
  (J 9 0 62 = (md_n (mh_P I a known) : Int) ∧ J 9 0 63 = (a : Int) ∧ J 9 0 64 = known) ∧ (∀ e, e < md_n (mh_P I a known) → mh_rs I a known J e ∧ mh_rg (mh_P I a known) (md_S (mh_P I a known) s) J e) ∧
  ((J 9 0 66 = 1 ∧ J 9 0 65 = s ∧ 0 ≤ s ∧ 0 < md_n (mh_P I a known)) ∨ (J 9 0 66 = 0 ∧ ∀ e, e < md_n (mh_P I a known) → s < md_b (mh_P I a known) e))
theorem mh_fm_kf {b b' : am_W} (g : mh_fm [112, 113] [] b b') : mh_fm mh_tn mh_fn b b' := mh_fm_m g (by decide) (by decide)
theorem pX12_prepares {d kc ks : Nat} {Q : Option am_V → am_W → Prop} {I : Nat → Nat → Nat → Int} {L : Nat → Nat → Nat → Int64} {a : Nat} {known : Int} {w : am_W} (hC : mh_C I L) (hk : known < 2147483647) (ha : (a : Int) < I 5 0 18) (hJ : mh_JR I L w.1)
    (K : ∀ w', mh_fm mh_tn mh_fn w w' → mh_RS I a known (-36524) w'.1 → Q none w') :
    am_M (mh_G X) SC (d + 10) kc ks mX12_prepares [.inr (.inr (some (9, 0))), .inl (a : Int), .inl known] w Q := by
  obtain ⟨ok, -⟩ := mh_P_ok hC hk ha
  have p40 := hJ.1.1.2
  have B : ∀ (n i : Nat) (w2 : am_W), (n + i : Nat) = (I 5 0 18).toNat → mh_fm mh_tn mh_fn w w2 → w2.1 9 0 62 = ((mh_dl I a known i).length : Int) → w2.1 9 0 63 = (a : Int) → w2.1 9 0 64 = known → w2.1 9 0 66 = 0 →
      (∀ e, e < (mh_dl I a known i).length → mh_rs I a known w2.1 e ∧ mh_rg (mh_P I a known) (fun _ => 0) w2.1 e) →
      am_A (mh_G X) SC (d + 10) mX12_prepares Q 22 [(0, .inr (.inr (some (9, 0)))), (1, .inl (a : Int)), (2, .inl known), (3, .inl (i : Int))] [] w2 kc ks := by
    intro n
    induction n with
    | zero =>
      intro i w2 hi g1 g2 g3 g4 g5 g6
      obtain rfl : i = (I 5 0 18).toNat := by omega
      have J2 := mh_JR_s hJ g1
      refine bX12_prepares_22 ⟨fun _ => K w2 g1 ⟨⟨g2, g3, g4⟩, fun e he => ⟨(g6 e he).1, mh_rg_c (g6 e he).2 (md_S_no ok he (by decide))⟩, Or.inr ⟨g5, fun e he => by have := (ok e he).1; omega⟩⟩, fun c => absurd c (show ¬ ¬ w2.1 9 0 42 ≤ ((I 5 0 18).toNat : Int) by have := J2.1.1.1; omega)⟩
    | succ n ih =>
      intro i w2 hi g1 g2 g3 g4 g5 g6
      have J2 := mh_JR_s hJ g1
      refine bX12_prepares_22 ⟨fun c => absurd c (show ¬ w2.1 9 0 42 ≤ (i : Int) by have := J2.1.1.1; omega), fun _ => ?_⟩
      refine pX12_ruleFor J2.1 J2.2.1 ha (by omega) hk (fun w3 k1 => ?_)
      have e1 := mh_dl1 (I := I) (a := a) (known := known) (n := i)
      have F : ∀ k, k ∉ ([] : List Nat) → w3.1 9 0 k = w2.1 9 0 k := k1.2.1
      have T : ∀ t, t ∈ [114, 115, 116, 117, 118, 120, 121] → w3.1 t = w2.1 t := fun t ht => k1.1 t (by revert ht; revert t; decide) (by revert ht; revert t; decide)
      have g6' : ∀ e, e < (mh_dl I a known i).length → mh_rs I a known w3.1 e ∧ mh_rg (mh_P I a known) (fun _ => 0) w3.1 e := by
        intro e he
        unfold mh_rs mh_rg
        rw [T 114 (by decide), T 115 (by decide), T 116 (by decide), T 117 (by decide), T 118 (by decide), T 120 (by decide), T 121 (by decide)]
        exact g6 e he
      have N : ∀ k, w3.1 9 0 k = w2.1 9 0 k := fun k => F k (by simp)
      refine bX12_prepares_37 ⟨fun c => ?_, fun c => ?_⟩
      · rw [if_pos c] at e1
        refine bX12_prepares_54 ?_
        rw [am_w_id (z := (i : Int) + 1) (by unfold am_rg; omega)]
        exact ih (i + 1) w3 (by omega) (mh_fm_t g1 (mh_fm_kf k1)) (by rw [N, e1]; exact g2) (by rw [N]; exact g3) (by rw [N]; exact g4) (by rw [N]; exact g5) (by rw [e1]; exact g6')
      · rw [if_neg c] at e1
        have len2 : (mh_dl I a known (i + 1)).length = (mh_dl I a known i).length + 1 := by rw [e1, List.length_append]; rfl
        have leN : (mh_dl I a known (i + 1)).length ≤ md_n (mh_P I a known) := by
          have : ∀ k, (mh_dl I a known (i + 1)).length ≤ (mh_dl I a known (i + 1 + k)).length := by
            intro k
            induction k with
            | zero => exact Nat.le_refl _
            | succ k ihk =>
              rw [show i + 1 + (k + 1) = i + 1 + k + 1 by omega, mh_dl1 (n := i + 1 + k)]
              split
              · exact ihk
              · rw [List.length_append]; omega
          have := this n
          rw [show i + 1 + n = (I 5 0 18).toNat by omega] at this
          exact this
        have he : (mh_dl I a known i).length < md_n (mh_P I a known) := by omega
        have De : mh_D I a known (mh_dl I a known i).length = i := by
          unfold mh_D
          have := mh_D_p (I := I) (a := a) (known := known) n (i + 1) (e := (mh_dl I a known i).length) (by omega)
          rw [show i + 1 + n = (I 5 0 18).toNat by omega] at this
          rw [this, e1, List.getD_eq_getElem?_getD, List.getElem?_append_right (Nat.le_refl _), Nat.sub_self]
          rfl
        have rn : mh_rule I a i known = (mh_er I a known i : Int) := (mh_dead hC hk ha (by omega) c).2.1.1
        have K2 := pX12_enters (SC := SC) (X := X) (d := d) (kc := 0) (ks := 0) (L := L) (w := w3) (Q := fun r w1 => am_A (mh_G X) SC (d + 10) mX12_prepares Q 54 [(4, .inl (mh_rule I a i known)), (0, .inr (.inr (some (9, 0)))), (1, .inl (a : Int)), (2, .inl known), (3, .inl (i : Int))] (r.toList ++ []) w1 kc ks) hC hk ha (mh_JR_s J2 (mh_fm_kf k1)) he (by rw [N]; exact g2) (fun w4 l1 l2 l3 l4 l5 => by
          refine bX12_prepares_54a ?_
          rw [am_w_id (z := (i : Int) + 1) (by unfold am_rg; omega)]
          refine ih (i + 1) w4 (by omega) (mh_fm_t g1 (mh_fm_t (mh_fm_kf k1) (mh_fm_m l1 (fun _ h => h) (by decide)))) (by rw [l3, len2]; omega) (by rw [l1.2.1 63 (by decide), N]; exact g3) (by rw [l1.2.1 64 (by decide), N]; exact g4) (by rw [l1.2.1 66 (by decide), N]; exact g5) (fun e hle => ?_)
          by_cases z : e = (mh_dl I a known i).length
          · rw [z]; exact ⟨l4, l5⟩
          · obtain ⟨u1, u2⟩ := g6' e (by omega)
            exact ⟨mh_rs_o u1 l2 z, mh_rg_o u2 l2 z rfl⟩)
        rw [De] at K2
        rw [rn]
        rw [rn] at K2
        exact K2
  refine am_M_of (by decide) (Nat.le_of_ble_eq_true rfl) ?_
  refine bX12_prepares_0 ?_
  refine B (I 5 0 18).toNat 0 _ (by omega) (mh_fm_f (mh_fm_f (mh_fm_f (mh_fm_f mh_fm_i (by decide)) (by decide)) (by decide)) (by decide)) ?_ ?_ ?_ ?_ (fun e he => absurd he (Nat.not_lt_zero e))
  · simp (disch := decide) only [am_up_k, am_up_s]; rfl
  · simp (disch := decide) only [am_up_k, am_up_s]
  · simp (disch := decide) only [am_up_k, am_up_s]
  · simp only [am_up_s]
theorem pX12_firstBegin {d kc ks : Nat} {Q : Option am_V → am_W → Prop} {P : md_P} {w : am_W} (hn : md_n P ≤ 40) (h62 : w.1 9 0 62 = (md_n P : Int)) (hb : ∀ e, e < md_n P → w.1 115 0 e = md_b P e)
    (K : ∀ v, (∀ e, e < md_n P → v ≤ md_b P e) → (v = 2147483647 ∨ ∃ e, e < md_n P ∧ md_b P e = v) → v ≤ 2147483647 → Q (some (.inl v)) w) : am_M (mh_G X) SC (d + 1) kc ks mX12_firstBegin [.inr (.inr (some (9, 0)))] w Q := by
  have B : ∀ (n e : Nat) (v : Int), n + e = md_n P → (∀ e', e' < e → v ≤ md_b P e') → (v = 2147483647 ∨ ∃ e', e' < md_n P ∧ md_b P e' = v) → v ≤ 2147483647 → am_A (mh_G X) SC (d + 1) mX12_firstBegin Q 6 [(0, .inr (.inr (some (9, 0)))), (1, .inl v), (2, .inl (e : Int))] [] w kc ks := by
    intro n
    induction n with
    | zero =>
      intro e v he h1 h2 h3
      refine bX12_firstBegin_6 ⟨fun _ => K v (fun e' he' => h1 e' (by omega)) h2 h3, fun c => absurd (show w.1 9 0 62 ≤ (e : Int) by rw [h62]; omega) c⟩
    | succ n ih =>
      intro e v he h1 h2 h3
      refine bX12_firstBegin_6 ⟨fun c => absurd c (show ¬ w.1 9 0 62 ≤ (e : Int) by rw [h62]; omega), fun _ => ⟨by clear h2; omega, by clear h2; omega, ?_⟩⟩
      rw [Int.toNat_natCast, hb e (by omega)]
      refine ⟨fun c => ?_, fun c => ?_⟩
      · refine bX12_firstBegin_31 ?_
        rw [am_w_id (z := (e : Int) + 1) (by clear h2; unfold am_rg; omega)]
        refine ih (e + 1) v (by omega) (fun e' he' => ?_) h2 h3
        by_cases z : e' = e
        · rw [z]; exact c
        · exact h1 e' (by omega)
      · refine bX12_firstBegin_31 ?_
        rw [am_w_id (z := (e : Int) + 1) (by clear h2; unfold am_rg; omega)]
        refine ih (e + 1) _ (by omega) (fun e' he' => ?_) (Or.inr ⟨e, by omega, rfl⟩) (by clear h2; omega)
        by_cases z : e' = e
        · rw [z]; exact Int.le_refl _
        · have := h1 e' (by omega)
          clear h2
          omega
  refine am_M_of (by decide) (Nat.le_of_ble_eq_true rfl) ?_
  exact bX12_firstBegin_0 (B _ 0 2147483647 rfl (fun e' he' => absurd he' (Nat.not_lt_zero e')) (Or.inl rfl) (Int.le_refl _))
theorem pX12_weds {d kc ks : Nat} {Q : Option am_V → am_W → Prop} {I : Nat → Nat → Nat → Int} {L : Nat → Nat → Nat → Int64} {a : Nat} {known s : Int} {G : Nat → Int} {w : am_W} (hC : mh_C I L) (hk : known < 2147483647) (ha : (a : Int) < I 5 0 18) (hJ : mh_JR I L w.1)
    (h62 : w.1 9 0 62 = (md_n (mh_P I a known) : Int)) (h63 : w.1 9 0 63 = (a : Int)) (h64 : w.1 9 0 64 = known) (hG : md_in (mh_P I a known) G) (hr : ∀ e, e < md_n (mh_P I a known) → mh_rs I a known w.1 e ∧ mh_rg (mh_P I a known) G w.1 e)
    (K : ∀ w', mh_fm [121] [] w w' → (∀ e, e < md_n (mh_P I a known) → mh_rs I a known w'.1 e ∧ mh_rg (mh_P I a known) (md_wed (mh_P I a known) s G) w'.1 e) → Q none w') :
    am_M (mh_G X) SC (d + 2) kc ks mX12_weds [.inr (.inr (some (9, 0))), .inl s] w Q := by
  obtain ⟨ok, -⟩ := mh_P_ok hC hk ha
  have p40 := hJ.1.1.2
  have m40 := hJ.1.2.1.2
  have n40 : md_n (mh_P I a known) ≤ (I 5 0 18).toNat := mh_dl_n
  have wde : md_wd (mh_P I a known) s = mh_wf I a known s := rfl
  have stay : md_wd (mh_P I a known) s ≤ 0 → Q none w := by
    intro z
    refine K w mh_fm_r (fun e he => ⟨(hr e he).1, mh_rg_c (hr e he).2 ?_⟩)
    unfold md_wed
    refine if_neg (fun y => ?_)
    have i := hG e he
    have := md_dpb ok he (f := G e) (by omega)
    omega
  refine am_M_of (by decide) (Nat.le_of_ble_eq_true rfl) ?_
  refine bX12_weds_0 ?_
  rw [h64]
  refine pX12_lawOf hJ.2.1 ?_
  have lb := mh_lw_b I s known (I 4 0 5).toNat
  have lb2 : mh_law I s known = -1 ∨ (0 ≤ mh_law I s known ∧ mh_law I s known < ((I 4 0 5).toNat : Int) ∧ I 10 (mh_law I s known).toNat 17 ≤ s ∧ I 10 (mh_law I s known).toNat 17 ≤ known) := lb
  have l6 := hJ.2.1.1
  refine bX12_weds_9 ⟨fun z => stay ?_, fun z => ⟨by omega, by omega, ?_⟩⟩
  · rw [wde]; unfold mh_wf
    rw [if_neg (fun y => y.2 z)]
    exact Int.le_refl _
  obtain ⟨l, hl⟩ := mh_nat (z := mh_law I s known) (by omega)
  rw [hl, Int.toNat_natCast]
  have La := (hJ.2.1.2 l (by omega)).1
  have wdl := La.2.2.2.2.2.2.2.2.2.2
  have wfe : mh_iw I a known s (I 5 0 19).toNat = 1 → md_wd (mh_P I a known) s = I 10 l 16 := by
    intro z
    rw [wde]; unfold mh_wf
    rw [if_pos ⟨z, by omega⟩, hl, Int.toNat_natCast]
  have wf0 : ¬ mh_iw I a known s (I 5 0 19).toNat = 1 → md_wd (mh_P I a known) s ≤ 0 := by
    intro z
    rw [wde]; unfold mh_wf
    rw [if_neg (fun y => z y.1)]
    exact Int.le_refl _
  refine ⟨fun c => ?_, fun c => stay ?_⟩
  · -- is it a wedding
    have C : ∀ (v : Int), (v = 0 ∨ v = 1) → (v = 1 ↔ mh_iw I a known s (I 5 0 19).toNat = 1) → ∀ (n e : Nat) (w2 : am_W), n + e = md_n (mh_P I a known) → mh_fm [121] [] w w2 →
        (∀ e', e' < md_n (mh_P I a known) → mh_rs I a known w2.1 e' ∧ (e' < e → mh_rg (mh_P I a known) (md_wed (mh_P I a known) s G) w2.1 e') ∧ (e ≤ e' → mh_rg (mh_P I a known) G w2.1 e')) →
        am_A (mh_G X) SC (d + 2) mX12_weds Q 112 [(0, .inr (.inr (some (9, 0)))), (1, .inl s), (2, .inl (l : Int)), (3, .inl v), (4, .inl (e : Int))] [] w2 kc ks := by
      intro v hv hvi n
      induction n with
      | zero =>
        intro e w2 hn g1 g2
        have q62 : w2.1 9 0 62 = w.1 9 0 62 := g1.2.1 62 (by decide)
        refine bX12_weds_112 ⟨fun _ => K w2 g1 (fun e' he' => ⟨(g2 e' he').1, (g2 e' he').2.1 (by omega)⟩), fun y => absurd (show w2.1 9 0 62 ≤ (e : Int) by rw [q62, h62]; omega) y⟩
      | succ n ih =>
        intro e w2 hn g1 g2
        have he : e < md_n (mh_P I a known) := by omega
        have q62 : w2.1 9 0 62 = w.1 9 0 62 := g1.2.1 62 (by decide)
        have J2 : mh_JR I L w2.1 := mh_JR_s hJ (mh_fm_m g1 (by decide) (by decide))
        obtain ⟨rs, -, rg⟩ := g2 e he
        have rg := rg (Nat.le_refl _)
        have nx : ∀ w3 : am_W, mh_fm [121] [] w w3 → mh_or w2.1 w3.1 e → mh_rs I a known w3.1 e → mh_rg (mh_P I a known) (md_wed (mh_P I a known) s G) w3.1 e → am_A (mh_G X) SC (d + 2) mX12_weds Q 160 [(0, .inr (.inr (some (9, 0)))), (1, .inl s), (2, .inl (l : Int)), (3, .inl v), (4, .inl (e : Int))] [] w3 kc ks := by
          intro w3 k1 k2 k3 k4
          refine bX12_weds_160 ?_
          rw [am_w_id (z := (e : Int) + 1) (by unfold am_rg; omega)]
          refine ih (e + 1) w3 (by omega) k1 (fun e' he' => ?_)
          by_cases y : e' = e
          · rw [y]; exact ⟨k3, fun _ => k4, fun u => absurd u (by omega)⟩
          · obtain ⟨u1, u2, u3⟩ := g2 e' he'
            exact ⟨mh_rs_o u1 k2 y, fun u => mh_rg_o (u2 (by omega)) k2 y rfl, fun u => mh_rg_o (u3 (by omega)) k2 y rfl⟩
        have keep : ¬ (¬ G e = -1 ∧ md_b (mh_P I a known) e ≤ s ∧ md_dp (mh_P I a known) e (G e) ≤ md_wd (mh_P I a known) s) → am_A (mh_G X) SC (d + 2) mX12_weds Q 160 [(0, .inr (.inr (some (9, 0)))), (1, .inl s), (2, .inl (l : Int)), (3, .inl v), (4, .inl (e : Int))] [] w2 kc ks := by
          intro y
          refine nx w2 g1 mh_or_r rs (mh_rg_c rg ?_)
          unfold md_wed
          exact if_neg y
        refine bX12_weds_112 ⟨fun y => absurd y (show ¬ w2.1 9 0 62 ≤ (e : Int) by rw [q62, h62]; omega), fun _ => ⟨fun y => ?_, fun y => ⟨by omega, by omega, ?_⟩⟩⟩
        · have z := wf0 (fun u => by have := hvi.mpr u; omega)
          refine K w2 g1 (fun e' he' => ⟨(g2 e' he').1, ?_⟩)
          by_cases u : e' < e
          · exact (g2 e' he').2.1 u
          · refine mh_rg_c ((g2 e' he').2.2 (by omega)) ?_
            unfold md_wed
            refine if_neg (fun x => ?_)
            have i := hG e' he'
            have := md_dpb ok he' (f := G e') (by omega)
            omega
        · have iw1 := hvi.mp (by omega)
          have wd1 := wfe iw1
          rw [Int.toNat_natCast, rs.2.1]
          refine ⟨fun u => keep (fun x => by omega), fun u => ?_⟩
          refine pX12_depthOf hC hk ha J2 he rs rg ?_
          have e92 : w2.1 92 = w.1 92 := g1.1 92 (by decide) (by decide)
          refine bX12_weds_143 ⟨by omega, by omega, ?_⟩
          rw [Int.toNat_natCast, e92]
          have dv : md_d (mh_P I a known) s G e = if G e = -1 then 0 else md_dp (mh_P I a known) e (G e) := by
            unfold md_d
            by_cases x : G e = -1
            · rw [if_pos (Or.inl x), if_pos x]
            · rw [if_neg (by omega), if_neg x]
          rw [dv]
          have i := hG e he
          refine ⟨fun x => keep (fun t => ?_), fun x => ⟨by omega, by omega, ?_⟩⟩
          · rw [if_neg t.1] at x
            omega
          · rw [Int.toNat_natCast]
            refine nx _ (mh_fm_t g1 (mh_fm_v mh_fm_i (by decide) (by decide))) (mh_or_u (by decide)) ?_ ?_
            · unfold mh_rs at *
              simp (disch := decide) only [am_up_t]
              exact rs
            · have we : md_wed (mh_P I a known) s G e = -1 := by
                unfold md_wed
                by_cases t : G e = -1
                · rw [if_neg (fun r => r.1 t)]; exact t
                · rw [if_neg t] at x
                  have := md_dpb ok he (f := G e) (by omega)
                  rw [if_pos ⟨t, by omega, by omega⟩]
              unfold mh_rg at *
              simp (disch := decide) only [am_up_t, am_up_s]
              rw [we]
              exact ⟨rg.1, Or.inl ⟨rfl, Or.inr trivial, Or.inl trivial⟩⟩
    have D0 : ∀ (n k : Nat), (n + k : Nat) = (I 5 0 19).toNat → am_A (mh_G X) SC (d + 2) mX12_weds Q 31 [(0, .inr (.inr (some (9, 0)))), (1, .inl s), (2, .inl (l : Int)), (3, .inl (mh_iw I a known s k)), (4, .inl (k : Int))] [] w kc ks := by
      intro n
      induction n with
      | zero =>
        intro k hk2
        have m1 := hJ.1.2.1.1
        have ib := (mh_iw_b (I := I) (a := a) (known := known) (s := s) (n := k)).1
        refine bX12_weds_31 ⟨fun _ => ?_, fun y => absurd (show w.1 9 0 47 ≤ (k : Int) by omega) y⟩
        refine C _ ib (by rw [show k = (I 5 0 19).toNat by omega]) (md_n (mh_P I a known)) 0 w rfl mh_fm_r (fun e' he' => ⟨(hr e' he').1, fun u => absurd u (Nat.not_lt_zero e'), fun _ => (hr e' he').2⟩)
      | succ n ih =>
        intro k hk2
        have m1 := hJ.1.2.1.1
        have q := hJ.1.2.2.2.2 k (by omega)
        have ib := (mh_iw_b (I := I) (a := a) (known := known) (s := s) (n := k)).1
        have ihk := ih (k + 1) (by omega)
        have iw1 : mh_iw I a known s (k + 1) = if (I 44 0 k = (a : Int) ∨ I 45 0 k = (a : Int)) ∧ I 46 0 k = s ∧ I 47 0 k ≤ known then 1 else mh_iw I a known s k := rfl
        have go : ∀ v, v = mh_iw I a known s (k + 1) → am_A (mh_G X) SC (d + 2) mX12_weds Q 102 [(0, .inr (.inr (some (9, 0)))), (1, .inl s), (2, .inl (l : Int)), (4, .inl (k : Int))] [.inl v] w kc ks := by
          intro v hv
          refine bX12_weds_102 ?_
          rw [am_w_id (z := (k : Int) + 1) (by unfold am_rg; omega), hv]
          exact ihk
        have yes : mh_iw I a known s (k + 1) = 1 → am_A (mh_G X) SC (d + 2) mX12_weds Q 97 [(0, .inr (.inr (some (9, 0)))), (1, .inl s), (2, .inl (l : Int)), (4, .inl (k : Int))] [] w kc ks := fun y => bX12_weds_97 (go 1 y.symm)
        have nope : mh_iw I a known s (k + 1) = 0 → am_A (mh_G X) SC (d + 2) mX12_weds Q 101 [(0, .inr (.inr (some (9, 0)))), (1, .inl s), (2, .inl (l : Int)), (4, .inl (k : Int))] [] w kc ks := fun y => bX12_weds_101 (go 0 y.symm)
        have mid : mh_iw I a known s k = 0 → (I 44 0 k = (a : Int) ∨ I 45 0 k = (a : Int)) → am_A (mh_G X) SC (d + 2) mX12_weds Q 72 [(0, .inr (.inr (some (9, 0)))), (1, .inl s), (2, .inl (l : Int)), (4, .inl (k : Int))] [] w kc ks := by
          intro y0 y
          refine bX12_weds_72 ⟨by omega, by omega, ?_⟩
          rw [Int.toNat_natCast, h64]
          refine ⟨fun u => nope ?_, fun u => ⟨fun u2 => nope ?_, fun u2 => yes ?_⟩⟩
          · rw [iw1, if_neg (by omega)]; exact y0
          · rw [iw1, if_neg (by omega)]; exact y0
          · rw [iw1, if_pos ⟨y, by omega, by omega⟩]
        refine bX12_weds_31 ⟨fun y => absurd y (show ¬ w.1 9 0 47 ≤ (k : Int) by omega), fun _ => ⟨fun y => ?_, fun y => ⟨by omega, by omega, ?_⟩⟩⟩
        · refine yes ?_
          rw [iw1]
          split
          · rfl
          · omega
        · rw [Int.toNat_natCast, h63]
          refine ⟨fun u => mid y (by omega), fun u => ⟨fun u2 => nope ?_, fun u2 => mid y (by omega)⟩⟩
          rw [iw1, if_neg (by omega)]; exact y
    exact D0 _ 0 rfl
  · by_cases y : mh_iw I a known s (I 5 0 19).toNat = 1
    · rw [wfe y]
      omega
    · exact wf0 y
