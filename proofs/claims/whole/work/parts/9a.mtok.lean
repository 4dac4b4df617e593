-- the reference's tokens, words, signs, numbers and faults
variable {SC : Nat → Nat} {X : mh_X} {r : Option am_I}
/-- code and value of token j; 46: the line is over -/
noncomputable def tk_cd (L : List (Nat × Nat)) (B : Nat → Int) (j : Nat) : Int := if j < L.length then tk_c B (L.getD j (0, 0)).1 (L.getD j (0, 0)).2 else 46
noncomputable def tk_vl (L : List (Nat × Nat)) (B : Nat → Int) (j : Nat) : Int := if j < L.length then tk_v B (L.getD j (0, 0)) else 0
def tk_kd (c : Int) : Int := if tk_lt c then 0 else if tk_dg c then 1 else c
def tk_sb (c : Int) : Int := if c < 128 then c else c - 256
/-- the first m tokens stand in the reference -/
def tk_M (L : List (Nat × Nat)) (B : Nat → Int) (m : Nat) (J : Nat → Nat → Nat → Int) : Prop := ∀ j, j < m → J 93 0 j = ((L.getD j (0, 0)).1 : Int) ∧ J 94 0 j = ((L.getD j (0, 0)).2 : Int) ∧ J 95 0 j = tk_kd (B (L.getD j (0, 0)).1)
/-- line and fault: t, k (k = 0: none) -/
def tk_F (ln t k : Int) (J : Nat → Nat → Nat → Int) : Prop := J 9 0 31 = ln ∧ J 9 0 4 = k ∧ (¬ k = 0 → J 9 0 3 = t ∧ J 9 0 2 = ln) ∧ (k = 0 → J 9 0 3 = 0 ∧ J 9 0 2 = 0)
theorem pX12_faults {d kc ks : Nat} {Q : Option am_V → am_W → Prop} {b : am_W} {ln t k tok kind : Int} (hF : tk_F ln t k b.1) (ht : 0 ≤ tok ∧ tok ≤ 4000) (hk : ¬ kind = 0)
    (K : ∀ b', mh_fm [] [2, 3, 4] b b' → tk_F ln (if k = 0 then tok + 1 else t) (if k = 0 then kind else k) b'.1 → Q none b') : am_M (mh_G X) SC (d + 1) kc ks mX12_faults [.inr (.inr (some (9, 0))), .inl tok, .inl kind] b Q := by
  obtain ⟨f1, f2, f3⟩ := hF
  refine am_M_of (by decide) (Nat.le_of_ble_eq_true rfl) ?_
  refine bX12_faults_0 ⟨fun c => ?_, fun c => ?_⟩
  · rw [am_w_id (z := tok + 1) (by unfold am_rg; omega)]
    refine K _ (mh_fmf (b' := (_, _)) (mh_fmf (b' := (_, _)) (mh_fmf mh_fm_r (by decide)) (by decide)) (by decide)) ?_
    rw [if_pos (by omega), if_pos (by omega)]
    unfold tk_F
    simp (disch := decide) only [am_up_k, am_up_s]
    exact ⟨f1, trivial, fun _ => ⟨trivial, f1⟩, fun z => absurd z hk⟩
  · refine K b mh_fm_r ?_
    rw [if_neg (by omega), if_neg (by omega)]
    exact ⟨f1, f2, f3⟩
/-- what the primitives need: L, B: the line; the reference's at is j -/
def tk_R (L : List (Nat × Nat)) (B : Nat → Int) (stop : Nat) (ln : Int) (j : Nat) (t k : Int) (b : am_W) : Prop :=
  (stop ≤ 3000 ∧ (∀ q ∈ L, tk_ok B stop q) ∧ L.length ≤ 3000) ∧ (∀ i, (0 ≤ B i ∧ B i < 256) ∧ b.1 66 0 i = tk_sb (B i)) ∧ b.1 9 0 30 = (L.length : Int) ∧ tk_M L B L.length b.1 ∧ b.1 9 0 32 = (j : Int) ∧ tk_F ln t k b.1
theorem tk_R_f {L : List (Nat × Nat)} {B : Nat → Int} {stop j j' : Nat} {ln t k t' k' : Int} {b b' : am_W} (h : tk_R L B stop ln j t k b) (g : mh_fm [] [2, 3, 4, 32] b b') (h1 : b'.1 9 0 32 = (j' : Int)) (h2 : tk_F ln t' k' b'.1) : tk_R L B stop ln j' t' k' b' := by
  obtain ⟨a1, a2, a3, a4, -, -⟩ := h
  have T : ∀ t, ¬ t = 9 → b'.1 t = b.1 t := fun t ht => g.1 t (by simp) ht
  refine ⟨a1, fun i => ?_, ?_, fun j hj => ?_, h1, h2⟩
  · rw [T 66 (by decide)]; exact a2 i
  · rw [g.2.1 30 (by decide)]; exact a3
  · rw [T 93 (by decide), T 94 (by decide), T 95 (by decide)]; exact a4 j hj
theorem tk_tok {L : List (Nat × Nat)} {B : Nat → Int} {stop j : Nat} (h : ∀ q ∈ L, tk_ok B stop q) (hj : j < L.length) : tk_ok B stop (L.getD j (0, 0)) := by
  rw [List.getD_eq_getElem?_getD, List.getElem?_eq_getElem hj, Option.getD_some]
  exact h _ (List.getElem_mem hj)
theorem tk_w0 : ∀ c, c < 40 → 0 < (mh_tx.getD c []).length ∧ tk_lt ((mh_tx.getD c []).getD 0 0) := by decide +kernel
theorem tk_m_lt {B : Nat → Int} {c b e : Nat} (hc : c < 40) (h : tk_m B c b e) : tk_lt (B b) := by
  obtain ⟨h0, h1⟩ := tk_w0 c hc
  have := h.2 0 h0
  rw [Nat.add_zero] at this
  rw [this]; exact h1
/-- the reference's words are the class's -/
theorem pX12_isWord {d kc ks : Nat} {Q : Option am_V → am_W → Prop} {b : am_W} {L : List (Nat × Nat)} {B : Nat → Int} {stop j sid c : Nat} {ln t k : Int} (hX : mh_st X r) (hR : tk_R L B stop ln j t k b) (hs : sid < 91) (hc : c < 40) (hsc : mh_tx.getD sid [] = mh_tx.getD c [])
    (K : ∀ v : Int, (v = 0 ∨ v = 1) → (v = 1 ↔ tk_cd L B j = (c : Int)) → Q (some (.inl v)) b) : am_M (mh_G X) SC (d + 6) kc ks mX12_isWord [.inr (.inr (some (9, 0))), .inr (.inr (some (1000, sid)))] b Q := by
  obtain ⟨⟨a0, a1, a9⟩, a2, a3, a4, a5, a6⟩ := hR
  refine am_M_of (by decide) (Nat.le_of_ble_eq_true rfl) ?_
  refine bX12_isWord_0 ⟨fun c1 => ?_, fun c1 => ⟨by omega, by omega, ?_⟩⟩
  · refine K 0 (Or.inl rfl) ⟨fun z => absurd z (by decide), fun z => ?_⟩
    unfold tk_cd at z
    rw [if_neg (by omega)] at z
    omega
  · have hj : j < L.length := by omega
    obtain ⟨q1, q2, q3, q4⟩ := tk_tok a1 hj
    obtain ⟨m1, m2, m3⟩ := a4 j hj
    have cdw : tk_cd L B j = (c : Int) ↔ tk_m B c (L.getD j (0, 0)).1 (L.getD j (0, 0)).2 := by
      unfold tk_cd
      rw [if_pos hj]
      exact tk_c_w hc (tk_m_lt hc)
    rw [a5, Int.toNat_natCast, m3, m1, m2]
    obtain ⟨bb, hbb⟩ : ∃ bb, bb = (L.getD j (0, 0)).1 := ⟨_, rfl⟩
    obtain ⟨ee, hee⟩ : ∃ ee, ee = (L.getD j (0, 0)).2 := ⟨_, rfl⟩
    rw [← hbb, ← hee] at cdw
    rw [← hbb] at m1 m3 q1 q3 ⊢
    rw [← hee] at m2 q1 q2 ⊢
    have no : ¬ tk_m B c bb ee → Q (some (.inl 0)) b := fun z => K 0 (Or.inl rfl) ⟨fun z => absurd z (by decide), fun y => absurd (cdw.mp y) z⟩
    refine ⟨fun c2 => no (fun z => c2 ?_), fun c2 => ⟨by decide, rfl, pJ0_len hX hs ?_⟩⟩
    · unfold tk_kd; rw [if_pos (tk_m_lt hc z)]
    rw [am_w_id (z := (ee : Int) - (bb : Int)) (by unfold am_rg; omega)]
    refine bX12_isWord_46 ⟨fun c3 => ?_, fun c3 => no (fun z => c3 (by rw [hsc]; exact z.1))⟩
    have Lp : ∀ n i : Nat, n + i = (mh_tx.getD sid []).length → (∀ q, q < i → B (bb + q) = (mh_tx.getD sid []).getD q 0) → am_A (mh_G X) SC (d + 6) mX12_isWord Q 53 [(0, .inr (.inr (some (9, 0)))), (1, .inr (.inr (some (1000, sid)))), (2, .inl (i : Int))] [] b kc ks := by
      intro n
      induction n with
      | zero =>
        intro i hi h
        refine bX12_isWord_53 ⟨by decide, rfl, pJ0_len hX hs ?_⟩
        refine bX12_isWord_58 ⟨fun _ => K 1 (Or.inr rfl) ⟨fun _ => cdw.mpr ⟨by rw [← hsc]; exact c3, fun q hq => ?_⟩, fun _ => rfl⟩, fun z => absurd (by omega) z⟩
        rw [← hsc] at hq ⊢
        exact h q (by omega)
      | succ n ih =>
        intro i hi h
        have ch := mh_tx_c (k := sid) (i := i) hs (by omega)
        have b2 := a2 (bb + i)
        refine bX12_isWord_53 ⟨by decide, rfl, pJ0_len hX hs ?_⟩
        refine bX12_isWord_58 ⟨fun z => absurd z (by omega), fun _ => ⟨by omega, by omega, ?_⟩⟩
        rw [a5, Int.toNat_natCast, m1, am_w_id (z := (bb : Int) + (i : Int)) (by unfold am_rg; omega), show ((bb : Int) + (i : Int)).toNat = bb + i by omega, b2.2]
        refine ⟨by omega, by omega, by decide, rfl, pJ0_chr hX hs (by omega) ?_⟩
        refine bX12_isWord_82 ⟨fun c4 => ?_, fun c4 => no (fun z => c4 ?_)⟩
        · rw [am_w_id (z := (i : Int) + 1) (by unfold am_rg; omega)]
          refine ih (i + 1) (by omega) (fun q hq => ?_)
          by_cases e : q = i
          · rw [e]
            unfold tk_sb at c4
            split at c4 <;> omega
          · exact h q (by omega)
        · have := z.2 i (by rw [← hsc]; omega)
          rw [← hsc] at this
          rw [this]
          unfold tk_sb
          rw [if_pos (by omega)]
    exact Lp _ 0 rfl (fun q hq => absurd hq (Nat.not_lt_zero q))
/-- where the words of list a begin, and how many they are -/
def tk_ba (a : Nat) : Nat := [0, 12, 17, 21, 25].getD a 0
def tk_bn (a : Nat) : Nat := [12, 5, 4, 4, 4].getD a 0
theorem tk_sa : ∀ a, a < 5 → ∀ q, q < tk_bn a → ((mh_sa.getD a []).getD q 0 < 91 ∧ mh_tx.getD ((mh_sa.getD a []).getD q 0) [] = mh_tx.getD (tk_ba a + q) []) ∧ tk_ba a + q < 40 := by decide +kernel
noncomputable def tk_wo (L : List (Nat × Nat)) (B : Nat → Int) (j a : Nat) : Int := if (tk_ba a : Int) ≤ tk_cd L B j ∧ tk_cd L B j < (tk_ba a + tk_bn a : Nat) then tk_cd L B j - tk_ba a else -1
theorem pX12_wordOf {d kc ks : Nat} {Q : Option am_V → am_W → Prop} {b : am_W} {L : List (Nat × Nat)} {B : Nat → Int} {stop j a : Nat} {ln t k : Int} (hX : mh_st X r) (hR : tk_R L B stop ln j t k b) (ha : a < 5)
    (K : Q (some (.inl (tk_wo L B j a))) b) : am_M (mh_G X) SC (d + 7) kc ks mX12_wordOf [.inr (.inr (some (9, 0))), .inr (.inr (some (19, a)))] b Q := by
  have ln : am_ln (mh_G X) b 19 a = tk_bn a := by
    have : ∀ a, a < 5 → mh_LN X.2.1 19 a = tk_bn a := by
      intro a ha
      have : ∀ a, a < 5 → [12, 5, 4, 4, 4].getD a 0 = tk_bn a := by decide
      exact this a ha
    exact this a ha
  have bn : ∀ a, a < 5 → tk_bn a ≤ 12 := by decide
  have bna := bn a ha
  have Lp : ∀ n i : Nat, n + i = tk_bn a → (∀ q, q < i → ¬ tk_cd L B j = ((tk_ba a + q : Nat) : Int)) → am_A (mh_G X) SC (d + 7) mX12_wordOf Q 2 [(0, .inr (.inr (some (9, 0)))), (1, .inr (.inr (some (19, a)))), (2, .inl (i : Int))] [] b kc ks := by
    intro n
    induction n with
    | zero =>
      intro i hi h
      refine bX12_wordOf_2 ?_
      rw [ln]
      refine ⟨(by unfold am_rg; omega), fun _ => ?_, fun z => absurd (by omega) z⟩
      unfold tk_wo at K
      rw [if_neg (fun z => h (tk_cd L B j - tk_ba a).toNat (by omega) (by omega))] at K
      exact K
    | succ n ih =>
      intro i hi h
      obtain ⟨⟨s1, s2⟩, s3⟩ := tk_sa a ha i (by omega)
      refine bX12_wordOf_2 ?_
      rw [ln, Int.toNat_natCast]
      refine ⟨(by unfold am_rg; omega), fun z => absurd z (by omega), fun _ => ⟨by omega, by omega, pX12_isWord hX hR s1 s3 s2 (fun v v1 v2 => ?_)⟩⟩
      refine bX12_wordOf_15 ⟨fun c => ?_, fun c => ?_⟩
      · rw [am_w_id (z := (i : Int) + 1) (by unfold am_rg; omega)]
        refine ih (i + 1) (by omega) (fun q hq => ?_)
        by_cases e : q = i
        · rw [e]; exact fun z => by have := v2.mpr z; omega
        · exact h q (by omega)
      · have := v2.mp (by omega)
        unfold tk_wo at K
        rw [if_pos (by omega), this] at K
        rw [show ((tk_ba a + i : Nat) : Int) - (tk_ba a : Int) = (i : Int) by omega] at K
        exact K
  refine am_M_of (by decide) (Nat.le_of_ble_eq_true rfl) ?_
  exact bX12_wordOf_0 (Lp _ 0 rfl (fun q hq => absurd hq (Nat.not_lt_zero q)))
