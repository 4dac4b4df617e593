-- the class's other lines
variable {SC : Nat → Nat} {X : mh_X} {r : Option am_I} {L : List (Nat × Nat)} {B : Nat → Int} {ln : Int}
theorem tk_CLx {ts : List Nat} {l : Nat} {w w' : am_W} (f : ∀ ts l, 2 ∉ ts → tk_CL ts l w w') (t : Nat) (h : ¬ t = 2) : w'.1 t = w.1 t := (f [] 0 (by simp)).1 t h (by simp)
theorem pX8_readWedding {d kc ks : Nat} {Q : Option am_V → am_W → Prop} {w : am_W} {l p : Nat} (hK : tk_K L B ln p w) (c0 : tk_cd L B 0 = 38)
    (K : ∀ (v : Int) (w' : am_W), tk_CL [10] l w w' → tk_oc ln (tk_lw (tk_cd L B) (tk_vl L B) ++ [(tk_cd L B 3 = 46, 4, 2)]) (fun w' => w'.1 10 l 16 = tk_cd L B 2 - 12 ∧ ∀ k, ¬ k = 16 → w'.1 10 l k = w.1 10 l k) v w' → Q (some (.inl v)) w') :
    am_M (mh_G X) SC (d + 4) kc ks mX8_readWedding [.inr (.inr (some (2, 0))), .inr (.inr (some (10, l)))] w Q := by
  have f1 : tk_CL [10] l w (am_up w.1 2 0 9 1, w.2) := tk_CL_2 tk_CL_r (by decide) (by decide)
  have K1 : tk_K L B ln 1 (am_up w.1 2 0 9 1, w.2) := tk_K_9 hK rfl
  have eE : tk_lw (tk_cd L B) (tk_vl L B) ++ [(tk_cd L B 3 = 46, (4 : Int), (2 : Int))] = [(tk_cd L B 0 = 38, 1, 2), (tk_cd L B 1 = 39, 2, 2), (tk_st (tk_cd L B 2), 3, 2), (tk_cd L B 3 = 46, 4, 2)] := rfl
  rw [eE] at K
  refine am_M_of (by decide) (Nat.le_of_ble_eq_true rfl) ?_
  refine bX8_readWedding_0 (pX8_expect (d := d + 1) (p := 1) K1 (by decide) (fun w3 f3 c3 k3 => bX8_readWedding_11 ⟨fun z => absurd z (by decide), fun _ => ?_⟩) (fun w3 f3 c3 g3 => bX8_readWedding_11 ⟨fun _ => K 0 w3 (tk_CL_t f1 (f3 _ _ (by decide))) (tk_oc_n (by rw [tk_ch_y c0, tk_ch_n c3]; rfl) (by decide) g3), fun z => absurd rfl z⟩))
  have F3 := tk_CL_t f1 (f3 [10] l (by decide))
  refine pX8_expectStuff (d := d) k3 (by decide) (fun w4 f4 c4 c5 k4 => bX8_readWedding_18 ⟨fun _ => ?_, fun z => absurd z (by decide)⟩) (fun w4 t f4 al g4 => bX8_readWedding_18 ⟨fun z => absurd rfl z, fun _ => K 0 w4 (tk_CL_t F3 (f4 _ _ (by decide))) ?_⟩)
  · have F4 := tk_CL_t F3 (f4 [10] l (by decide))
    refine ⟨fun _ _ _ => by decide, fun _ _ _ => by decide, ?_⟩
    (try dsimp only); rw [k4.2.1, tk_cy (x := 2) (p := 2) (by decide) rfl (tk_Kc k4 2 (by decide))]
    have st : tk_st (tk_cd L B 2) := c4
    unfold tk_st at st
    (try dsimp only); rw [am_w_id (z := tk_cd L B 2 - 12) (by unfold am_rg; omega)]
    have e10 : w4.1 10 = w.1 10 := by
      (try dsimp only); rw [tk_CLx (ts := []) (l := 0) f4 10 (by decide), tk_CLx (ts := []) (l := 0) f3 10 (by decide)]
      (try dsimp only); rw [am_up_t (by decide)]
    refine K 1 _ (tk_CL_u F4 (by decide) (by decide)) (Or.inl ⟨rfl, by rw [tk_ch_y c0, tk_ch_y c3, tk_ch_y c4, tk_ch_y c5]; rfl, (fun k hk => by dsimp only; simp (disch := decide) only [am_up_t]; exact k4.2.2.1.2 k hk), (by (try dsimp only); rw [am_up_s]), fun k hk => ?_⟩)
    dsimp only
    (try dsimp only); rw [am_up_k hk, e10]
  · rcases al with ⟨a1, a2⟩ | ⟨a1, a2, a3⟩
    · subst a2
      exact tk_oc_n (by rw [tk_ch_y c0, tk_ch_y c3, tk_ch_n a1]; rfl) (by decide) g4
    · subst a3
      exact tk_oc_n (by rw [tk_ch_y c0, tk_ch_y c3, tk_ch_y a1, tk_ch_n a2]; rfl) (by decide) g4
theorem pX8_readUnder {d kc ks : Nat} {Q : Option am_V → am_W → Prop} {w : am_W} {l p : Nat} (hK : tk_K L B ln p w)
    (K : ∀ (v : Int) (w' : am_W), tk_CL [10] l w w' → tk_oc ln (tk_lu (tk_cd L B) (tk_vl L B) ++ [(tk_cd L B 4 = 46, 5, 2)]) (fun w' => (w'.1 10 l 14 = tk_vl L B 1 ∧ w'.1 10 l 15 = tk_cd L B 3 - 12) ∧ ∀ k, ¬ k = 14 → ¬ k = 15 → w'.1 10 l k = w.1 10 l k) v w' → Q (some (.inl v)) w') :
    am_M (mh_G X) SC (d + 4) kc ks mX8_readUnder [.inr (.inr (some (2, 0))), .inr (.inr (some (10, l)))] w Q := by
  have f1 : tk_CL [10] l w (am_up w.1 2 0 9 1, w.2) := tk_CL_2 tk_CL_r (by decide) (by decide)
  have K1 : tk_K L B ln 1 (am_up w.1 2 0 9 1, w.2) := tk_K_9 hK rfl
  have eE : tk_lu (tk_cd L B) (tk_vl L B) ++ [(tk_cd L B 4 = 46, (5 : Int), (2 : Int))] = [(tk_cd L B 1 = 41, 2, 2), (1 ≤ tk_vl L B 1 ∧ tk_vl L B 1 ≤ 30, 2, 3), (tk_cd L B 2 = 35, 3, 2), (tk_st (tk_cd L B 3), 4, 2), (tk_cd L B 4 = 46, 5, 2)] := rfl
  rw [eE] at K
  refine am_M_of (by decide) (Nat.le_of_ble_eq_true rfl) ?_
  refine bX8_readUnder_0 (pX8_expectNumber (d := d + 1) (p := 1) K1 (by decide) (fun w2 f2 c1 c2 k2 => bX8_readUnder_12 ⟨fun z => absurd z (by decide), fun _ => ?_⟩) (fun w2 k f2 al g2 => bX8_readUnder_12 ⟨fun _ => K 0 w2 (tk_CL_t f1 (f2 _ _ (by decide))) ?_, fun z => absurd rfl z⟩))
  · have F2 := tk_CL_t f1 (f2 [10] l (by decide))
    refine pX8_expect (d := d + 1) (p := 2) k2 (by decide) (fun w3 f3 c3 k3 => bX8_readUnder_21 ⟨fun z => absurd z (by decide), fun _ => ?_⟩) (fun w3 f3 c3 g3 => bX8_readUnder_21 ⟨fun _ => K 0 w3 (tk_CL_t F2 (f3 _ _ (by decide))) (tk_oc_n (by rw [tk_ch_y c1, tk_ch_y c2, tk_ch_n c3]; rfl) (by decide) g3), fun z => absurd rfl z⟩)
    have F3 := tk_CL_t F2 (f3 [10] l (by decide))
    refine pX8_expectStuff (d := d) k3 (by decide) (fun w4 f4 c4 c5 k4 => bX8_readUnder_28 ⟨fun _ => ?_, fun z => absurd z (by decide)⟩) (fun w4 t f4 al g4 => bX8_readUnder_28 ⟨fun z => absurd rfl z, fun _ => K 0 w4 (tk_CL_t F3 (f4 _ _ (by decide))) ?_⟩)
    · have F4 := tk_CL_t F3 (f4 [10] l (by decide))
      refine ⟨fun _ _ _ => by decide, fun _ _ _ => by decide, ?_⟩
      have hl : 1 < L.length := by
        apply Classical.byContradiction
        intro z
        have := (tk_cd46 (B := B)).mpr (by omega : L.length ≤ 1)
        omega
      (try dsimp only); rw [k4.2.1, tk_cy (x := 3) (p := 3) (by decide) rfl (tk_Kc k4 3 (by decide)), tk_Kv k4 1 (by decide) hl]
      have st : tk_st (tk_cd L B 3) := c4
      unfold tk_st at st
      (try dsimp only); rw [am_w_id (z := tk_cd L B 3 - 12) (by unfold am_rg; omega)]
      have e10 : w4.1 10 = w.1 10 := by
        (try dsimp only); rw [tk_CLx (ts := []) (l := 0) f4 10 (by decide), tk_CLx (ts := []) (l := 0) f3 10 (by decide), tk_CLx (ts := []) (l := 0) f2 10 (by decide)]
        (try dsimp only); rw [am_up_t (by decide)]
      refine K 1 _ (tk_CL_u (b := (_, _)) (tk_CL_u F4 (by decide) (by decide)) (by decide) (by decide)) (Or.inl ⟨rfl, by rw [tk_ch_y c1, tk_ch_y c2, tk_ch_y c3, tk_ch_y c4, tk_ch_y c5]; rfl, (fun k hk => by dsimp only; simp (disch := decide) only [am_up_t]; exact k4.2.2.1.2 k hk), ⟨?_, (by (try dsimp only); rw [am_up_s])⟩, fun k hk hk2 => ?_⟩)
      · dsimp only
        (try dsimp only); rw [am_up_k (by decide), am_up_s]
      · dsimp only
        (try dsimp only); rw [am_up_k hk2, am_up_k hk, e10]
    · rcases al with ⟨a1, a2⟩ | ⟨a1, a2, a3⟩
      · subst a2
        exact tk_oc_n (by rw [tk_ch_y c1, tk_ch_y c2, tk_ch_y c3, tk_ch_n a1]; rfl) (by decide) g4
      · subst a3
        exact tk_oc_n (by rw [tk_ch_y c1, tk_ch_y c2, tk_ch_y c3, tk_ch_y a1, tk_ch_n a2]; rfl) (by decide) g4
  · rcases al with ⟨a1, a2⟩ | ⟨a1, a2, a3⟩
    · subst a2
      exact tk_oc_n (by rw [tk_ch_n a1]; rfl) (by decide) g2
    · subst a3
      exact tk_oc_n (by rw [tk_ch_y a1, tk_ch_n a2]; rfl) (by decide) g2
theorem pX8_readHeir {d kc ks : Nat} {Q : Option am_V → am_W → Prop} {w : am_W} {l p : Nat} (hK : tk_K L B ln p w)
    (K : ∀ (v : Int) (w' : am_W), tk_CL [10] l w w' → tk_oc ln (tk_lh (tk_cd L B) (tk_vl L B) ++ [(tk_cd L B 5 = 46, 6, 2)]) (fun w' => (w'.1 10 l 12 = tk_vl L B 1 ∧ w'.1 10 l 13 = tk_cd L B 4 - 12) ∧ ∀ k, ¬ k = 12 → ¬ k = 13 → w'.1 10 l k = w.1 10 l k) v w' → Q (some (.inl v)) w') :
    am_M (mh_G X) SC (d + 4) kc ks mX8_readHeir [.inr (.inr (some (2, 0))), .inr (.inr (some (10, l)))] w Q := by
  have f1 : tk_CL [10] l w (am_up w.1 2 0 9 1, w.2) := tk_CL_2 tk_CL_r (by decide) (by decide)
  have K1 : tk_K L B ln 1 (am_up w.1 2 0 9 1, w.2) := tk_K_9 hK rfl
  have eE : tk_lh (tk_cd L B) (tk_vl L B) ++ [(tk_cd L B 5 = 46, (6 : Int), (2 : Int))] = [(tk_cd L B 1 = 41, 2, 2), (1 ≤ tk_vl L B 1 ∧ tk_vl L B 1 ≤ 400, 2, 3), (tk_cd L B 2 = 17, 3, 2), (tk_cd L B 3 = 35, 4, 2), (tk_st (tk_cd L B 4), 5, 2), (tk_cd L B 5 = 46, 6, 2)] := rfl
  rw [eE] at K
  refine am_M_of (by decide) (Nat.le_of_ble_eq_true rfl) ?_
  refine bX8_readHeir_0 (pX8_expectNumber (d := d + 1) (p := 1) K1 (by decide) (fun w2 f2 c1 c2 k2 => bX8_readHeir_13 ⟨fun z => absurd z (by decide), fun _ => ?_⟩) (fun w2 k f2 al g2 => bX8_readHeir_13 ⟨fun _ => K 0 w2 (tk_CL_t f1 (f2 _ _ (by decide))) ?_, fun z => absurd rfl z⟩))
  · have F2 := tk_CL_t f1 (f2 [10] l (by decide))
    refine pX8_expect (d := d + 1) (p := 2) k2 (by decide) (fun w6 f6 c6 k6 => bX8_readHeir_22 ⟨fun z => absurd z (by decide), fun _ => ?_⟩) (fun w6 f6 c6 g6 => bX8_readHeir_22 ⟨fun _ => K 0 w6 (tk_CL_t F2 (f6 _ _ (by decide))) (tk_oc_n (by rw [tk_ch_y c1, tk_ch_y c2, tk_ch_n c6]; rfl) (by decide) g6), fun z => absurd rfl z⟩)
    have F6 := tk_CL_t F2 (f6 [10] l (by decide))
    refine pX8_expect (d := d + 1) (p := 3) k6 (by decide) (fun w3 f3 c3 k3 => bX8_readHeir_31 ⟨fun z => absurd z (by decide), fun _ => ?_⟩) (fun w3 f3 c3 g3 => bX8_readHeir_31 ⟨fun _ => K 0 w3 (tk_CL_t F6 (f3 _ _ (by decide))) (tk_oc_n (by rw [tk_ch_y c1, tk_ch_y c2, tk_ch_y c6, tk_ch_n c3]; rfl) (by decide) g3), fun z => absurd rfl z⟩)
    have F3 := tk_CL_t F6 (f3 [10] l (by decide))
    refine pX8_expectStuff (d := d) k3 (by decide) (fun w4 f4 c4 c5 k4 => bX8_readHeir_38 ⟨fun _ => ?_, fun z => absurd z (by decide)⟩) (fun w4 t f4 al g4 => bX8_readHeir_38 ⟨fun z => absurd rfl z, fun _ => K 0 w4 (tk_CL_t F3 (f4 _ _ (by decide))) ?_⟩)
    · have F4 := tk_CL_t F3 (f4 [10] l (by decide))
      refine ⟨fun _ _ _ => by decide, fun _ _ _ => by decide, ?_⟩
      have hl : 1 < L.length := by
        apply Classical.byContradiction
        intro z
        have := (tk_cd46 (B := B)).mpr (by omega : L.length ≤ 1)
        omega
      (try dsimp only); rw [k4.2.1, tk_cy (x := 4) (p := 4) (by decide) rfl (tk_Kc k4 4 (by decide)), tk_Kv k4 1 (by decide) hl]
      have st : tk_st (tk_cd L B 4) := c4
      unfold tk_st at st
      (try dsimp only); rw [am_w_id (z := tk_cd L B 4 - 12) (by unfold am_rg; omega)]
      have e10 : w4.1 10 = w.1 10 := by
        (try dsimp only); rw [tk_CLx (ts := []) (l := 0) f4 10 (by decide), tk_CLx (ts := []) (l := 0) f3 10 (by decide), tk_CLx (ts := []) (l := 0) f6 10 (by decide), tk_CLx (ts := []) (l := 0) f2 10 (by decide)]
        (try dsimp only); rw [am_up_t (by decide)]
      refine K 1 _ (tk_CL_u (b := (_, _)) (tk_CL_u F4 (by decide) (by decide)) (by decide) (by decide)) (Or.inl ⟨rfl, by rw [tk_ch_y c1, tk_ch_y c2, tk_ch_y c6, tk_ch_y c3, tk_ch_y c4, tk_ch_y c5]; rfl, (fun k hk => by dsimp only; simp (disch := decide) only [am_up_t]; exact k4.2.2.1.2 k hk), ⟨?_, (by (try dsimp only); rw [am_up_s])⟩, fun k hk hk2 => ?_⟩)
      · dsimp only
        (try dsimp only); rw [am_up_k (by decide), am_up_s]
      · dsimp only
        (try dsimp only); rw [am_up_k hk2, am_up_k hk, e10]
    · rcases al with ⟨a1, a2⟩ | ⟨a1, a2, a3⟩
      · subst a2
        exact tk_oc_n (by rw [tk_ch_y c1, tk_ch_y c2, tk_ch_y c6, tk_ch_y c3, tk_ch_n a1]; rfl) (by decide) g4
      · subst a3
        exact tk_oc_n (by rw [tk_ch_y c1, tk_ch_y c2, tk_ch_y c6, tk_ch_y c3, tk_ch_y a1, tk_ch_n a2]; rfl) (by decide) g4
  · rcases al with ⟨a1, a2⟩ | ⟨a1, a2, a3⟩
    · subst a2
      exact tk_oc_n (by rw [tk_ch_n a1]; rfl) (by decide) g2
    · subst a3
      exact tk_oc_n (by rw [tk_ch_y a1, tk_ch_n a2]; rfl) (by decide) g2
theorem pX8_readFeast {d kc ks : Nat} {Q : Option am_V → am_W → Prop} {w : am_W} {l fe : Nat} (hK : tk_K L B ln 0 w) (hfe : fe ≤ 8) (h11 : w.1 10 l 11 = (fe : Int))
    (K : ∀ (v : Int) (w' : am_W), tk_CL [10, 151, 152] l w w' → tk_oc ln (tk_lf (tk_cd L B) (tk_vl L B) fe ++ [(tk_cd L B 6 = 46, 7, 2)]) (fun w' => (w'.1 10 l 11 = (fe : Int) + 1 ∧ ∀ k, ¬ k = 11 → w'.1 10 l k = w.1 10 l k) ∧ (∀ i, w'.1 151 l i = if i = fe then 100 * tk_vl L B 1 + tk_vl L B 3 else w.1 151 l i) ∧ ∀ i, w'.1 152 l i = if i = fe then tk_cd L B 5 - 12 else w.1 152 l i) v w' → Q (some (.inl v)) w') :
    am_M (mh_G X) SC (d + 4) kc ks mX8_readFeast [.inr (.inr (some (2, 0))), .inr (.inr (some (10, l)))] w Q := by
  have eE : tk_lf (tk_cd L B) (tk_vl L B) fe ++ [(tk_cd L B 6 = 46, (7 : Int), (2 : Int))] = [(¬ fe = 8, 1, 6), (tk_cd L B 1 = 41, 2, 2), (1 ≤ tk_vl L B 1 ∧ tk_vl L B 1 ≤ 12, 2, 3), (tk_cd L B 2 = 45, 3, 2), (tk_cd L B 3 = 41, 4, 2), (1 ≤ tk_vl L B 3 ∧ tk_vl L B 3 ≤ tk_len (tk_vl L B 1), 4, 3), (tk_cd L B 4 = 35, 5, 2), (tk_st (tk_cd L B 5), 6, 2), (tk_cd L B 6 = 46, 7, 2)] := rfl
  rw [eE] at K
  refine am_M_of (by decide) (Nat.le_of_ble_eq_true rfl) ?_
  refine bX8_readFeast_0 ?_
  (try dsimp only); rw [h11]
  refine ⟨fun c => ?_, fun c => ?_⟩
  · have c0 : ¬ fe = 8 := by omega
    have f1 : tk_CL [10, 151, 152] l w (am_up w.1 2 0 9 1, w.2) := tk_CL_2 tk_CL_r (by decide) (by decide)
    have K1 : tk_K L B ln 1 (am_up w.1 2 0 9 1, w.2) := tk_K_9 hK rfl
    refine pX8_expectNumber (d := d + 1) (p := 1) K1 (by decide) (fun w2 f2 c1 c2 k2 => bX8_readFeast_26 ⟨fun _ => ?_, fun z => absurd z (by decide)⟩) (fun w2 k f2 al g2 => bX8_readFeast_26 ⟨fun z => absurd rfl z, fun _ => K 0 w2 (tk_CL_t f1 (f2 _ _ (by decide))) ?_⟩)
    · have F2 := tk_CL_t f1 (f2 [10, 151, 152] l (by decide))
      have hl : 1 < L.length := by
        apply Classical.byContradiction
        intro z
        have := (tk_cd46 (B := B)).mpr (by omega : L.length ≤ 1)
        omega
      (try dsimp only); rw [tk_Kv k2 1 (by decide) hl]
      have lb := tk_len_b (tk_vl L B 1)
      refine pX8_expect (d := d + 1) (p := 2) k2 (by decide) (fun w6 f6 c6 k6 => bX8_readFeast_44 ⟨fun z => absurd z (by decide), fun _ => ?_⟩) (fun w6 f6 c6 g6 => bX8_readFeast_44 ⟨fun _ => K 0 w6 (tk_CL_t F2 (f6 _ _ (by decide))) (tk_oc_n (by rw [tk_ch_y c0, tk_ch_y c1, tk_ch_y c2, tk_ch_n c6]; rfl) (by decide) g6), fun z => absurd rfl z⟩)
      have F6 := tk_CL_t F2 (f6 [10, 151, 152] l (by decide))
      refine sX0_lengthOf (d := d + 2) ?_
      have le : ∀ m : Int, 1 ≤ m ∧ m ≤ 12 → (if m = 11 then (30 : Int) else (if m = 10 then 31 else (if m = 9 then 30 else (if m = 8 then 31 else (if m = 7 then 31 else (if m = 6 then 30 else (if m = 5 then 31 else (if m = 4 then 30 else (if m = 3 then 31 else (if m = 2 then (if (am_w (Int.tmod 0 4)) = 0 then (if (am_w (Int.tmod 0 100)) = 0 then (if (am_w (Int.tmod 0 400)) = 0 then 29 else 28) else 29) else 28) else 31)))))))))) = tk_len m := by
        intro m hm
        obtain ⟨k, rfl⟩ := mh_nat (show 0 ≤ m by omega)
        have : ∀ k : Nat, k < 13 → (if (k : Int) = 11 then (30 : Int) else (if (k : Int) = 10 then 31 else (if (k : Int) = 9 then 30 else (if (k : Int) = 8 then 31 else (if (k : Int) = 7 then 31 else (if (k : Int) = 6 then 30 else (if (k : Int) = 5 then 31 else (if (k : Int) = 4 then 30 else (if (k : Int) = 3 then 31 else (if (k : Int) = 2 then (if (am_w (Int.tmod 0 4)) = 0 then (if (am_w (Int.tmod 0 100)) = 0 then (if (am_w (Int.tmod 0 400)) = 0 then 29 else 28) else 29) else 28) else 31)))))))))) = tk_len (k : Int) := by decide +kernel
        exact this k (by omega)
      (try dsimp only); rw [le _ c2]
      refine bX8_readFeast_54 (pX8_expectNumber (d := d + 1) (p := 3) k6 (by decide) (fun w7 f7 c7 c8 k7 => bX8_readFeast_57 ⟨fun z => absurd z (by decide), fun _ => ?_⟩) (fun w7 k f7 al g7 => bX8_readFeast_57 ⟨fun _ => K 0 w7 (tk_CL_t F6 (f7 _ _ (by decide))) ?_, fun z => absurd rfl z⟩))
      · have F7 := tk_CL_t F6 (f7 [10, 151, 152] l (by decide))
        refine pX8_expect (d := d + 1) (p := 4) k7 (by decide) (fun w3 f3 c3 k3 => bX8_readFeast_66 ⟨fun z => absurd z (by decide), fun _ => ?_⟩) (fun w3 f3 c3 g3 => bX8_readFeast_66 ⟨fun _ => K 0 w3 (tk_CL_t F7 (f3 _ _ (by decide))) (tk_oc_n (by rw [tk_ch_y c0, tk_ch_y c1, tk_ch_y c2, tk_ch_y c6, tk_ch_y c7, tk_ch_y c8, tk_ch_n c3]; rfl) (by decide) g3), fun z => absurd rfl z⟩)
        have F3 := tk_CL_t F7 (f3 [10, 151, 152] l (by decide))
        refine pX8_expectStuff (d := d) k3 (by decide) (fun w4 f4 c4 c5 k4 => bX8_readFeast_73 ⟨fun _ => ?_, fun z => absurd z (by decide)⟩) (fun w4 t f4 al g4 => bX8_readFeast_73 ⟨fun z => absurd rfl z, fun _ => K 0 w4 (tk_CL_t F3 (f4 _ _ (by decide))) ?_⟩)
        · have F4 := tk_CL_t F3 (f4 [10, 151, 152] l (by decide))
          have eT : ∀ t, ¬ t = 2 → w4.1 t = w.1 t := fun t ht => by
            (try dsimp only); rw [tk_CLx (ts := []) (l := 0) f4 t ht, tk_CLx (ts := []) (l := 0) f3 t ht, tk_CLx (ts := []) (l := 0) f7 t ht, tk_CLx (ts := []) (l := 0) f6 t ht, tk_CLx (ts := []) (l := 0) f2 t ht]
            (try dsimp only); rw [am_up_t ht]
          have hl3 : 3 < L.length := by
            apply Classical.byContradiction
            intro z
            have := (tk_cd46 (B := B)).mpr (by omega : L.length ≤ 3)
            omega
          refine ⟨fun _ _ _ => by decide, fun _ _ _ => by decide, ?_⟩
          (try dsimp only); rw [eT 10 (by decide), h11]
          refine ⟨by omega, by omega, ?_⟩
          have st : tk_st (tk_cd L B 5) := c4
          unfold tk_st at st
          (try dsimp only); rw [k4.2.1, tk_cy (x := 5) (p := 5) (by decide) rfl (tk_Kc k4 5 (by decide)), tk_Kv k4 3 (by decide) hl3, am_w_id (z := tk_vl L B 1 * 100) (by unfold am_rg; omega), am_w_id (z := tk_vl L B 1 * 100 + tk_vl L B 3) (by unfold am_rg; omega), am_w_id (z := tk_cd L B 5 - 12) (by unfold am_rg; omega), am_w_id (z := (fe : Int) + 1) (by unfold am_rg; omega), Int.toNat_natCast]
          refine K 1 _ (tk_CL_u (b := (_, _)) (tk_CL_u (b := (_, _)) (tk_CL_u F4 (by decide) (by decide)) (by decide) (by decide)) (by decide) (by decide)) (Or.inl ⟨rfl, by rw [tk_ch_y c0, tk_ch_y c1, tk_ch_y c2, tk_ch_y c6, tk_ch_y c7, tk_ch_y c8, tk_ch_y c3, tk_ch_y c4, tk_ch_y c5]; rfl, (fun k hk => by dsimp only; simp (disch := decide) only [am_up_t]; exact k4.2.2.1.2 k hk), ⟨(by (try dsimp only); rw [am_up_s]), fun k hk => ?_⟩, fun i => ?_, fun i => ?_⟩)
          · dsimp only
            (try dsimp only); rw [am_up_k hk, am_up_t (by decide), am_up_t (by decide), eT 10 (by decide)]
          · dsimp only
            (try dsimp only); rw [am_up_t (by decide), am_up_t (by decide), am_up_a, eT 151 (by decide), Int.mul_comm]
          · dsimp only
            (try dsimp only); rw [am_up_t (by decide), am_up_a, am_up_t (by decide), eT 152 (by decide)]
        · rcases al with ⟨a1, a2⟩ | ⟨a1, a2, a3⟩
          · subst a2
            exact tk_oc_n (by rw [tk_ch_y c0, tk_ch_y c1, tk_ch_y c2, tk_ch_y c6, tk_ch_y c7, tk_ch_y c8, tk_ch_y c3, tk_ch_n a1]; rfl) (by decide) g4
          · subst a3
            exact tk_oc_n (by rw [tk_ch_y c0, tk_ch_y c1, tk_ch_y c2, tk_ch_y c6, tk_ch_y c7, tk_ch_y c8, tk_ch_y c3, tk_ch_y a1, tk_ch_n a2]; rfl) (by decide) g4
      · rcases al with ⟨a1, a2⟩ | ⟨a1, a2, a3⟩
        · subst a2
          exact tk_oc_n (by rw [tk_ch_y c0, tk_ch_y c1, tk_ch_y c2, tk_ch_y c6, tk_ch_n a1]; rfl) (by decide) g7
        · subst a3
          exact tk_oc_n (by rw [tk_ch_y c0, tk_ch_y c1, tk_ch_y c2, tk_ch_y c6, tk_ch_y a1, tk_ch_n a2]; rfl) (by decide) g7
    · rcases al with ⟨a1, a2⟩ | ⟨a1, a2, a3⟩
      · subst a2
        exact tk_oc_n (by rw [tk_ch_y c0, tk_ch_n a1]; rfl) (by decide) g2
      · subst a3
        exact tk_oc_n (by rw [tk_ch_y c0, tk_ch_y a1, tk_ch_n a2]; rfl) (by decide) g2
  · have c0 : ¬ ¬ fe = 8 := by omega
    have G := tk_fl1 (k := 6) hK (by decide) [10, 151, 152] l (by decide)
    exact K 0 _ G.1 (tk_oc_n (by rw [tk_ch_n c0]; rfl) (by decide) G.2)
