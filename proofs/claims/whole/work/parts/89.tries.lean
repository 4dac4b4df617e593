-- takes, tries
variable {SC : Nat → Nat} {X : mh_X}
def pl_MS (SC : Nat → Nat) (X : mh_X) (I : Nat → Nat → Nat → Int) (cnt : Nat) (P : pl_X) (n D : Nat) : Prop :=
  ∀ (k : Nat) (w d : Nat → Int) (tk : Nat → Bool) (us : Nat → Int) (b : pl_B) (W : am_W) (kc ks : Nat) (Q : Option am_V → am_W → Prop), n + k = cnt → pl_PM I cnt P k w d tk us b W.1 →
    (∀ W', mh_fm pl_ft pl_ff W W' → pl_PM I cnt P k w d tk us (pl_T P n k w d tk us b) W'.1 → Q none W') → am_M (mh_G X) SC D kc ks mX12_tries [.inr (.inr (some (9, 0))), .inl (k : Int)] W Q
theorem pl_PM_u {I : Nat → Nat → Nat → Int} {cnt : Nat} {P : pl_X} {k : Nat} {w d : Nat → Int} {tk : Nat → Bool} {us : Nat → Int} {b : pl_B} {J : Nat → Nat → Nat → Int} {how dr : Int}
    (h : pl_PM I cnt P k w d tk us b J) : pl_PM I cnt P (k + 1) (pl_u w k how) (pl_u d k dr) tk us b (am_up (am_up J 135 0 k how) 136 0 k dr) := by
  unfold pl_PM pl_bm mh_We at *
  simp (disch := decide) only [am_up_t, am_up_a]
  obtain ⟨p1, p2, p4, p5, p6, p7, p8⟩ := h
  refine ⟨p1, p2, p4, fun j hj => ?_, p6, p7, p8⟩
  unfold pl_u
  by_cases e : j = k
  · rw [if_pos e, if_pos e, if_pos e, if_pos e]; exact ⟨rfl, rfl⟩
  · rw [if_neg e, if_neg e, if_neg e, if_neg e]; exact p5 j (by omega)
theorem pl_PM_d {I : Nat → Nat → Nat → Int} {cnt : Nat} {P : pl_X} {k : Nat} {w d : Nat → Int} {tk : Nat → Bool} {us : Nat → Int} {b : pl_B} {J : Nat → Nat → Nat → Int} {how dr : Int}
    (h : pl_PM I cnt P (k + 1) (pl_u w k how) (pl_u d k dr) tk us b J) : pl_PM I cnt P k w d tk us b J := by
  obtain ⟨p1, p2, p4, p5, p6, p7, p8⟩ := h
  refine ⟨p1, p2, p4, fun j hj => ?_, p6, p7, p8⟩
  have := p5 j (by omega)
  rw [pl_uo (by omega), pl_uo (by omega)] at this
  exact this
theorem pl_PM_t {I : Nat → Nat → Nat → Int} {cnt : Nat} {P : pl_X} {k : Nat} {w d : Nat → Int} {tk tk' : Nat → Bool} {us : Nat → Int} {b : pl_B} {J : Nat → Nat → Nat → Int} {j0 : Nat} {v : Int}
    (h : pl_PM I cnt P k w d tk us b J) (ht : ∀ j, j < 40 → (if j = j0 then v else if tk j = true then 1 else 0) = if tk' j = true then 1 else 0) : pl_PM I cnt P k w d tk' us b (am_up J 139 0 j0 v) := by
  unfold pl_PM pl_bm mh_We at *
  simp (disch := decide) only [am_up_t, am_up_a]
  obtain ⟨p1, p2, p4, p5, p6, p7, p8⟩ := h
  refine ⟨p1, p2, p4, p5, p6, fun j hj => ?_, p8⟩
  rw [p7 j hj]
  exact ht j hj
theorem pX12_takes {I : Nat → Nat → Nat → Int} {cnt : Nat} {P : pl_X} {n D : Nat} (h5 : cnt ≤ 5) (IH : pl_MS SC X I cnt P n (D + 3)) {k : Nat} {w d : Nat → Int} {tk : Nat → Bool} {us : Nat → Int} {b : pl_B} {W : am_W} {kc ks : Nat} {Q : Option am_V → am_W → Prop} {how dr : Int}
    (hn : n + 1 + k = cnt) (hP : pl_PM I cnt P k w d tk us b W.1) (hdr : dr = -1 ∨ (0 ≤ dr ∧ dr < 40 ∧ tk dr.toNat = false))
    (K : ∀ W', mh_fm pl_ft pl_ff W W' → pl_PM I cnt P k w d tk us (pl_go (pl_T P n) k w d tk us how dr b) W'.1 → Q none W') :
    am_M (mh_G X) SC (D + 4) kc ks mX12_takes [.inr (.inr (some (9, 0))), .inl (k : Int), .inl how, .inl dr] W Q := by
  refine am_M_of (by decide) (Nat.le_of_ble_eq_true rfl) ?_
  refine bX12_takes_0 ⟨by omega, by omega, fun c => ?_, fun c => ⟨by omega, by omega, ?_⟩⟩
  · rw [Int.toNat_natCast]
    refine bX12_takes_26 ?_
    rw [am_w_id (z := (k : Int) + 1) (by unfold am_rg; omega)]
    refine IH (k + 1) _ _ _ _ _ _ 0 0 _ (by omega) (pl_PM_u (how := how) (dr := dr) hP) (fun W' f' P' => ?_)
    refine bX12_takes_33 ⟨fun _ => K W' (mh_fm_t (mh_fmu (b' := (_, _)) (mh_fmu mh_fm_r (by decide) (by decide)) (by decide) (by decide)) f') ?_, fun z => absurd c z⟩
    unfold pl_go pl_tk
    rw [if_pos c]
    exact pl_PM_d P'
  · have d0 : 0 ≤ dr ∧ dr < 40 ∧ tk dr.toNat = false := by
      rcases hdr with h | h
      · exact absurd h c
      · exact h
    rw [Int.toNat_natCast]
    refine bX12_takes_26 ?_
    rw [am_w_id (z := (k : Int) + 1) (by unfold am_rg; omega)]
    have tkd : pl_tk tk dr = pl_u tk dr.toNat true := by unfold pl_tk; rw [if_neg c]
    refine IH (k + 1) _ _ (pl_tk tk dr) _ _ _ 0 0 _ (by omega) (pl_PM_t (pl_PM_u (how := how) (dr := dr) hP) (fun j hj => ?_)) (fun W' f' P' => ?_)
    · rw [tkd]
      unfold pl_u
      by_cases e : j = dr.toNat
      · rw [if_pos e, if_pos e]; rfl
      · rw [if_neg e, if_neg e]
    · refine bX12_takes_33 ⟨fun z => absurd z c, fun _ => ⟨by omega, by omega, ?_⟩⟩
      refine K _ (mh_fmu (mh_fm_t (mh_fmu (b' := (_, _)) (mh_fmu (b' := (_, _)) (mh_fmu mh_fm_r (by decide) (by decide)) (by decide) (by decide)) (by decide) (by decide)) f') (by decide) (by decide)) ?_
      refine pl_PM_t (pl_PM_d P') (fun j hj => ?_)
      rw [tkd]
      unfold pl_u
      by_cases e : j = dr.toNat
      · rw [if_pos e, e, d0.2.2]; rfl
      · rw [if_neg e, if_neg e]
theorem pX12_tries {I : Nat → Nat → Nat → Int} {cnt : Nat} {P : pl_X} (hX : pl_XM I cnt P) : ∀ (n D : Nat), pl_MS SC X I cnt P n (D + 2 * n + 3)
  | 0, D => by
    intro k w d tk us b W kc ks Q hn hP K
    obtain rfl : k = cnt := by omega
    have p2 := hP.2.1.1
    refine am_M_of (by decide) (Nat.le_of_ble_eq_true rfl) ?_
    refine bX12_tries_0 ⟨fun c => absurd (by omega) c, fun _ => ?_⟩
    refine pX12_looks hX hP (fun W' f' P' => bX12_tries_12 (K W' f' P'))
  | n + 1, D => by
    intro k w d tk us b W kc ks Q hn hP K
    have IH : pl_MS SC X I cnt P n (D + 2 * n + 3) := pX12_tries hX n D
    obtain ⟨⟨-, -, -, xn, xc, xs, h5, xd⟩, xw, -⟩ := hX
    have xnk := xn k (by omega)
    have p2 := hP.2.1.1
    have q3 := hP.2.2.1 k (by omega)
    rw [show D + 2 * (n + 1) + 3 = D + 2 * n + 2 + 3 by omega]
    rw [pl_T1] at K
    have lsb : ∀ s st, pl_lst P s st tk = -1 ∨ (0 ≤ pl_lst P s st tk ∧ pl_lst P s st tk < 40 ∧ tk (pl_lst P s st tk).toNat = false) := fun s st => by rw [xs]; exact mh_ls_b xd
    have lse : ∀ s st, mh_ls I s st tk = pl_lst P s st tk := fun s st => by rw [xs]
    refine am_M_of (by decide) (Nat.le_of_ble_eq_true rfl) ?_
    refine bX12_tries_0 ⟨fun _ => ⟨by omega, by omega, ?_⟩, fun c => absurd c (by omega)⟩
    rw [Int.toNat_natCast, q3.2.1, q3.2.2]
    refine ⟨fun c => ⟨by omega, by omega, ?_⟩, fun c => ?_⟩
    · rw [if_neg c] at K
      -- bought
      have Bu : ∀ (W1 : am_W) (b1 : pl_B), mh_fm pl_ft pl_ff W W1 → pl_PM I cnt P k w d tk us b1 W1.1 → (∀ W', mh_fm pl_ft pl_ff W W' → pl_PM I cnt P k w d tk us (pl_go (pl_T P n) k w d tk us 4 (-1) b1) W'.1 → Q none W') →
          am_A (mh_G X) SC (D + 2 * n + 2 + 3) mX12_tries Q 177 [(0, .inr (.inr (some (9, 0)))), (1, .inl (k : Int))] [] W1 kc ks := by
        intro W1 b1 f1 P1 K
        refine bX12_tries_177 ?_
        exact pX12_takes h5 IH hn P1 (Or.inl rfl) (fun W' f' P' => bX12_tries_184 (K W' (mh_fm_t f1 f') P'))
      -- dyed, then made
      have Dy : ∀ (m : Nat) (W1 : am_W) (b1 : pl_B), m ≤ 4 → mh_fm pl_ft pl_ff W W1 → pl_PM I cnt P k w d tk us b1 W1.1 →
          (∀ W', mh_fm pl_ft pl_ff W W' → pl_PM I cnt P k w d tk us (pl_go (pl_T P n) k w d tk us 4 (-1) (pl_d3 P (pl_T P n) k w d tk us (pl_dy (fun s => pl_d1 P (pl_T P n) k w d tk us 2 (s : Int)) m b1))) W'.1 → Q none W') →
          am_A (mh_G X) SC (D + 2 * n + 2 + 3) mX12_tries Q 83 [(0, .inr (.inr (some (9, 0)))), (1, .inl (k : Int)), (2, .inl (pl_sz P k)), (3, .inl ((m : Int) - 1))] [] W1 kc ks := by
        intro m
        induction m with
        | zero =>
          intro W1 b1 _ f1 P1 K
          have q3 := P1.2.2.1 k (by omega)
          have q5 := P1.2.2.2.2.1 (pl_nd P k).toNat (by omega)
          have q1 := P1.1.2.2.2.1 (pl_nd P k).toNat
          have xck := xc (pl_nd P k).toNat
          refine bX12_tries_83 ⟨fun _ => ⟨by omega, by omega, ?_⟩, fun c => absurd (by omega) c⟩
          rw [Int.toNat_natCast, q3.2.2, q5.1, q1]
          refine ⟨by omega, by omega, fun c => ?_, fun c => ?_⟩
          · refine Bu W1 b1 f1 P1 (fun W' f' P' => K W' f' ?_)
            have e : pl_d3 P (pl_T P n) k w d tk us b1 = b1 := by unfold pl_d3; rw [if_neg (by omega)]
            show pl_PM I cnt P k w d tk us (pl_go (pl_T P n) k w d tk us 4 (-1) (pl_d3 P (pl_T P n) k w d tk us b1)) W'.1
            rw [e]
            exact P'
          · rw [am_w_id (z := us (pl_nd P k).toNat + 1) (by unfold am_rg; omega)]
            have P1' : pl_PM I cnt P k w d tk (pl_u us (pl_nd P k).toNat (us (pl_nd P k).toNat + 1)) b1 (am_up W1.1 140 0 (pl_nd P k).toNat (us (pl_nd P k).toNat + 1)) := by
              unfold pl_PM pl_bm mh_We at *
              simp (disch := decide) only [am_up_t, am_up_a]
              obtain ⟨p1, p2, p4, p5, p6, p7, p8⟩ := P1
              refine ⟨p1, p2, p4, p5, fun s hs => ?_, p7, p8⟩
              unfold pl_u
              by_cases e : s = (pl_nd P k).toNat
              · rw [if_pos e, if_pos e]; exact ⟨rfl, by omega, by omega⟩
              · rw [if_neg e, if_neg e]; exact p6 s hs
            refine pX12_takes (how := 3) (dr := -1) h5 IH hn P1' (Or.inl rfl) (fun W2 f2 P2 => ?_)
            have q3' := P2.2.2.1 k (by omega)
            have q5' := P2.2.2.2.2.1 (pl_nd P k).toNat (by omega)
            rw [pl_us] at q5'
            refine bX12_tries_162 ⟨by omega, by omega, ?_⟩
            rw [Int.toNat_natCast, q3'.2.2, q5'.1, am_w_id (z := us (pl_nd P k).toNat + 1 - 1) (by unfold am_rg; omega), show us (pl_nd P k).toNat + 1 - 1 = us (pl_nd P k).toNat by omega]
            refine ⟨by omega, by omega, Bu _ (pl_d3 P (pl_T P n) k w d tk us b1) (mh_fmu (mh_fm_t (mh_fmu f1 (by decide) (by decide)) f2) (by decide) (by decide)) ?_ K⟩
            unfold pl_d3
            rw [if_pos (by omega)]
            unfold pl_PM pl_bm mh_We at P2 ⊢
            simp (disch := decide) only [am_up_t, am_up_a]
            obtain ⟨p1, p2, p4, p5, p6, p7, p8⟩ := P2
            refine ⟨p1, p2, p4, p5, fun s hs => ?_, p7, p8⟩
            by_cases e : s = (pl_nd P k).toNat
            · rw [if_pos e, e]; exact ⟨rfl, q5.2⟩
            · have := p6 s hs
              rw [pl_uo e] at this
              rw [if_neg e]; exact this
        | succ m ih =>
          intro W1 b1 hm f1 P1 K
          have nx : ∀ W', mh_fm pl_ft pl_ff W W' → pl_PM I cnt P k w d tk us (pl_d1 P (pl_T P n) k w d tk us 2 (m : Int) b1) W'.1 → am_A (mh_G X) SC (D + 2 * n + 2 + 3) mX12_tries Q 109 [(0, .inr (.inr (some (9, 0)))), (1, .inl (k : Int)), (2, .inl (pl_sz P k)), (3, .inl (m : Int))] [] W' kc ks := by
            intro W' f' P'
            refine bX12_tries_109 ?_
            rw [am_w_id (z := (m : Int) + (-1)) (by unfold am_rg; omega)]
            exact ih W' _ (by omega) f' P' K
          rw [show ((m + 1 : Nat) : Int) - 1 = (m : Int) by omega]
          refine bX12_tries_83 ⟨fun c => absurd c (by omega), fun _ => ?_⟩
          refine pX12_least xw P1.1 P1.2.2.2.2.2.1 ?_
          rw [lse]
          refine bX12_tries_93 ⟨fun c2 => nx W1 f1 ?_, fun c2 => ?_⟩
          · unfold pl_d1
            rw [if_pos c2]
            exact P1
          · refine pX12_least xw P1.1 P1.2.2.2.2.2.1 ?_
            rw [lse]
            refine bX12_tries_106 ?_
            refine pX12_takes h5 IH hn P1 (lsb _ _) (fun W' f' P' => nx W' (mh_fm_t f1 f') ?_)
            unfold pl_d1
            rw [if_neg c2]
            exact P'
      have D0 : ∀ (W1 : am_W) (b1 : pl_B), mh_fm pl_ft pl_ff W W1 → pl_PM I cnt P k w d tk us b1 W1.1 → b1 = pl_d1 P (pl_T P n) k w d tk us 1 (pl_nd P k) b →
          am_A (mh_G X) SC (D + 2 * n + 2 + 3) mX12_tries Q 83 [(0, .inr (.inr (some (9, 0)))), (1, .inl (k : Int)), (2, .inl (pl_sz P k)), (3, .inl (am_w (pl_nd P k - 1)))] [] W1 kc ks := by
        intro W1 b1 f1 P1 e
        rw [am_w_id (z := pl_nd P k - 1) (by unfold am_rg; omega), show pl_nd P k - 1 = ((pl_nd P k).toNat : Int) - 1 by omega]
        rw [← e] at K
        exact Dy (pl_nd P k).toNat W1 b1 (by omega) f1 P1 K
      refine pX12_least xw hP.1 hP.2.2.2.2.2.1 ?_
      rw [lse]
      refine bX12_tries_53 ⟨fun c2 => bX12_tries_74 ⟨by omega, by omega, ?_⟩, fun c2 => ⟨by omega, by omega, ?_⟩⟩
      · rw [Int.toNat_natCast, q3.2.2]
        refine D0 W b mh_fm_r hP ?_
        unfold pl_d1
        rw [if_pos c2]
      · rw [Int.toNat_natCast, q3.2.2]
        refine pX12_least xw hP.1 hP.2.2.2.2.2.1 ?_
        rw [lse]
        refine bX12_tries_71 ?_
        refine pX12_takes h5 IH hn hP (lsb _ _) (fun W' f' P' => ?_)
        have q3' := P'.2.2.1 k (by omega)
        refine bX12_tries_74a ⟨by omega, by omega, ?_⟩
        rw [Int.toNat_natCast, q3'.2.2]
        refine D0 W' _ f' P' ?_
        unfold pl_d1
        rw [if_neg c2]
    · rw [if_pos c] at K
      exact pX12_takes h5 IH hn hP (Or.inl rfl) (fun W' f' P' => bX12_tries_29 (K W' f' P'))
