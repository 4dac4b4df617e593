-- the reference's other lines, and a line whole
variable {SC : Nat → Nat} {X : mh_X} {r : Option am_I} {L : List (Nat × Nat)} {B : Nat → Int} {stop : Nat} {ln : Int}
/-- the first of these that doesn't hold tells the fault -/
noncomputable def tk_ch : List (Prop × Int × Int) → Int × Int
  | [] => (0, 0)
  | x :: l => @ite (Int × Int) x.1 (Classical.propDecidable _) (tk_ch l) x.2
theorem tk_ch_y {P : Prop} {t k : Int} {l : List (Prop × Int × Int)} (h : P) : tk_ch ((P, t, k) :: l) = tk_ch l := by
  show @ite (Int × Int) P (Classical.propDecidable _) (tk_ch l) (t, k) = _
  (try dsimp only); rw [if_pos h]
theorem tk_ch_n {P : Prop} {t k : Int} {l : List (Prop × Int × Int)} (h : ¬ P) : tk_ch ((P, t, k) :: l) = (t, k) := by
  show @ite (Int × Int) P (Classical.propDecidable _) (tk_ch l) (t, k) = _
  (try dsimp only); rw [if_neg h]
theorem tk_ch_z {l : List (Prop × Int × Int)} (h : ∀ x ∈ l, ¬ x.2.2 = 0) : (tk_ch l).2 = 0 ↔ ∀ x ∈ l, x.1 := by
  induction l with
  | nil => exact ⟨fun _ x hx => absurd hx List.not_mem_nil, fun _ => rfl⟩
  | cons x l ih =>
    by_cases p : x.1
    · (try dsimp only); rw [show tk_ch (x :: l) = tk_ch l from tk_ch_y p, ih (fun y hy => h y (List.mem_cons_of_mem _ hy))]
      exact ⟨fun z y hy => (List.mem_cons.mp hy).elim (fun e => e ▸ p) (z y), fun z y hy => z y (List.mem_cons_of_mem _ hy)⟩
    · (try dsimp only); rw [show tk_ch (x :: l) = x.2 from tk_ch_n p]
      exact ⟨fun z => absurd z (h x List.mem_cons_self), fun z => absurd (z x List.mem_cons_self) p⟩
theorem tk_ch_f {P : Prop} {tok kind : Int} {l : List (Prop × Int × Int)} (h : ∀ x ∈ l, ¬ x.2.2 = 0) : tk_ff (tk_ch l) P tok kind = tk_ch (l ++ [(P, tok + 1, kind)]) := by
  induction l with
  | nil =>
    by_cases p : P
    · (try dsimp only); rw [tk_ff_y p]; exact (tk_ch_y p).symm
    · (try dsimp only); rw [tk_ff_n p]; exact (tk_ch_n p).symm
  | cons x l ih =>
    by_cases p : x.1
    · (try dsimp only); rw [show tk_ch (x :: l) = tk_ch l from tk_ch_y p, ih (fun y hy => h y (List.mem_cons_of_mem _ hy))]
      exact (show tk_ch (x :: (l ++ [(P, tok + 1, kind)])) = _ from tk_ch_y p).symm
    · (try dsimp only); rw [show tk_ch (x :: l) = x.2 from tk_ch_n p, tk_ff_k (h x List.mem_cons_self)]
      exact (show tk_ch (x :: (l ++ [(P, tok + 1, kind)])) = _ from tk_ch_n p).symm
def tk_st (x : Int) : Prop := 12 ≤ x ∧ x ≤ 16
def tk_len (m : Int) : Int := if m = 2 then 29 else if m = 4 then 30 else if m = 6 then 30 else if m = 9 then 30 else if m = 11 then 30 else 31
theorem tk_len_b (m : Int) : 1 ≤ tk_len m ∧ tk_len m ≤ 31 := by
  unfold tk_len
  split
  · omega
  split
  · omega
  split
  · omega
  split
  · omega
  split <;> omega
def tk_lm (c v : Nat → Int) : List (Prop × Int × Int) := [(21 ≤ c 1 ∧ c 1 ≤ 24, 2, 2), (c 2 = 33, 3, 2), (tk_st (c 3), 4, 2)]
def tk_lh (c v : Nat → Int) : List (Prop × Int × Int) := [(c 1 = 41, 2, 2), (1 ≤ v 1 ∧ v 1 ≤ 400, 2, 3), (c 2 = 17, 3, 2), (c 3 = 35, 4, 2), (tk_st (c 4), 5, 2)]
def tk_lu (c v : Nat → Int) : List (Prop × Int × Int) := [(c 1 = 41, 2, 2), (1 ≤ v 1 ∧ v 1 ≤ 30, 2, 3), (c 2 = 35, 3, 2), (tk_st (c 3), 4, 2)]
def tk_lw (c v : Nat → Int) : List (Prop × Int × Int) := [(c 0 = 38, 1, 2), (c 1 = 39, 2, 2), (tk_st (c 2), 3, 2)]
def tk_lf (c v : Nat → Int) (fe : Nat) : List (Prop × Int × Int) := [(¬ fe = 8, 1, 6), (c 1 = 41, 2, 2), (1 ≤ v 1 ∧ v 1 ≤ 12, 2, 3), (c 2 = 45, 3, 2), (c 3 = 41, 4, 2), (1 ≤ v 3 ∧ v 3 ≤ tk_len (v 1), 4, 3), (c 4 = 35, 5, 2), (tk_st (c 5), 6, 2)]
theorem tk_w1s {j : Nat} : ((tk_ba 1 : Int) ≤ tk_cd L B j ∧ tk_cd L B j < (tk_ba 1 + tk_bn 1 : Nat)) = tk_st (tk_cd L B j) := propext tk_w1'
theorem tk_w3s {j : Nat} : ((tk_ba 3 : Int) ≤ tk_cd L B j ∧ tk_cd L B j < (tk_ba 3 + tk_bn 3 : Nat)) = (21 ≤ tk_cd L B j ∧ tk_cd L B j ≤ 24) := propext tk_w3
theorem tk_wst {j : Nat} (h : tk_st (tk_cd L B j)) : tk_wo L B j 1 = tk_cd L B j - 12 := tk_wv (tk_k1.mpr h)
/-- the row of the new law keeps the rest -/
def tk_f6 (t : Nat) (b b' : am_W) : Prop := (∀ m, ¬ m = 6 → b'.1 t m = b.1 t m) ∧ ∀ m, ¬ m = 6 → b'.1 t 0 m = b.1 t 0 m
theorem tk_f6_0 {t : Nat} {b b' : am_W} {ts fs : List Nat} (h : mh_fm ts fs b b') (ht : t ∉ ts) (h9 : ¬ t = 9) : tk_f6 t b b' := ⟨fun m _ => by rw [h.1 t ht h9], fun m _ => by rw [h.1 t ht h9]⟩
theorem pX12_others {d kc ks : Nat} {Q : Option am_V → am_W → Prop} {b : am_W} (hX : mh_st X r) (hR : tk_R L B stop ln 0 0 0 b)
    (KM : tk_cd L B 0 = 32 → ∀ (b' : am_W) (q : Int × Int), mh_fm [83] [2, 3, 4, 32] b b' → (∀ m, ¬ m = 6 → b'.1 83 m = b.1 83 m) → tk_R L B stop ln 4 q.1 q.2 b' → q = tk_ch (tk_lm (tk_cd L B) (tk_vl L B)) → (q.2 = 0 → ∀ i, b'.1 83 6 i = if i = (tk_cd L B 1 - 21).toNat then tk_cd L B 3 - 12 else b.1 83 6 i) → Q none b')
    (KH : tk_cd L B 0 = 36 → ∀ (b' : am_W) (q : Int × Int), mh_fm [88, 89] [2, 3, 4, 32] b b' → (∀ m, ¬ m = 6 → b'.1 88 0 m = b.1 88 0 m ∧ b'.1 89 0 m = b.1 89 0 m) → tk_R L B stop ln 5 q.1 q.2 b' → q = tk_ch (tk_lh (tk_cd L B) (tk_vl L B)) → (q.2 = 0 → b'.1 88 0 6 = tk_vl L B 1 ∧ b'.1 89 0 6 = tk_cd L B 4 - 12) → Q none b')
    (KU : tk_cd L B 0 = 37 → ∀ (b' : am_W) (q : Int × Int), mh_fm [90, 91] [2, 3, 4, 32] b b' → (∀ m, ¬ m = 6 → b'.1 90 0 m = b.1 90 0 m ∧ b'.1 91 0 m = b.1 91 0 m) → tk_R L B stop ln 4 q.1 q.2 b' → q = tk_ch (tk_lu (tk_cd L B) (tk_vl L B)) → (q.2 = 0 → b'.1 90 0 6 = tk_vl L B 1 ∧ b'.1 91 0 6 = tk_cd L B 3 - 12) → Q none b')
    (KW : ¬ tk_cd L B 0 = 32 → ¬ tk_cd L B 0 = 36 → ¬ tk_cd L B 0 = 37 → ∀ (b' : am_W) (q : Int × Int), mh_fm [92] [2, 3, 4, 32] b b' → (∀ m, ¬ m = 6 → b'.1 92 0 m = b.1 92 0 m) → tk_R L B stop ln 3 q.1 q.2 b' → q = tk_ch (tk_lw (tk_cd L B) (tk_vl L B)) → (q.2 = 0 → b'.1 92 0 6 = tk_cd L B 2 - 12) → Q none b') :
    am_M (mh_G X) SC (d + 9) kc ks mX12_others [.inr (.inr (some (9, 0)))] b Q := by
  refine am_M_of (by decide) (Nat.le_of_ble_eq_true rfl) ?_
  refine bX12_others_0 (pX12_isWord (d := d + 2) (c := 32) hX hR (by decide) (by decide) (by decide +kernel) (fun v1 y1 z1 => bX12_others_7 ⟨fun c1 => ?_, fun c1 => ?_⟩))
  · have n1 : ¬ tk_cd L B 0 = 32 := fun x => by have := z1.mpr x; omega
    refine pX12_isWord (d := d + 2) (c := 36) hX hR (by decide) (by decide) (by decide +kernel) (fun v2 y2 z2 => bX12_others_72 ⟨fun c2 => ?_, fun c2 => ?_⟩)
    · have n2 : ¬ tk_cd L B 0 = 36 := fun x => by have := z2.mpr x; omega
      refine pX12_isWord (d := d + 2) (c := 37) hX hR (by decide) (by decide) (by decide +kernel) (fun v3 y3 z3 => bX12_others_142 ⟨fun c3 => ?_, fun c3 => ?_⟩)
      · have n3 : ¬ tk_cd L B 0 = 37 := fun x => by have := z3.mpr x; omega
        refine pX12_needsw (d := d + 1) (q := tk_ch []) (c := 38) hX hR (by omega) (by decide) (by decide) (by decide +kernel) (fun b1 q1 e1 f1 R1 => bX12_others_205 ?_)
        refine pX12_needsw (d := d + 1) (c := 39) hX R1 (by omega) (by decide) (by decide) (by decide +kernel) (fun b2 q2 e2 f2 R2 => bX12_others_212 ?_)
        refine pX12_needs (d := d) hX R2 (by omega) (by decide) (fun b3 q3 e3 f3 R3 => bX12_others_226 ⟨by decide, by decide, ?_⟩)
        have F3 := mh_fm_t (mh_fm_t f1 f2) f3
        rw [tk_w1s] at e3
        rw [tk_ch_f (by simp)] at e1
        subst e1
        rw [tk_ch_f (by simp)] at e2
        subst e2
        rw [tk_ch_f (by simp)] at e3
        have e4 : q3 = tk_ch (tk_lw (tk_cd L B) (tk_vl L B)) := e3
        refine KW n1 n2 n3 _ q3 (mh_fma (mh_fm_m F3 (by simp) (by simp)) (by decide) (by decide)) (fun m hm => ?_) (tk_R_r R3 (by decide) rfl) e4 (fun hz => ?_)
        · dsimp only
          (try dsimp only); rw [show (6 : Int).toNat = 6 from rfl, am_up_k hm, F3.1 92 (by simp) (by decide)]
        · rw [e4, tk_ch_z (by unfold tk_lw; simp)] at hz
          have := tk_wst (L := L) (B := B) (j := 2) (hz (tk_st (tk_cd L B 2), 3, 2) (by unfold tk_lw; simp))
          dsimp only
          (try dsimp only); rw [show (6 : Int).toNat = 6 from rfl, am_up_s]; exact this
      · have w0 := z3.mp (by omega)
        (try dsimp only); rw [tk_at hR, am_w_id (z := ((0 : Nat) : Int) + 1) (by unfold am_rg; omega)]
        have f0 : mh_fm [] [2, 3, 4, 32] b (am_up b.1 9 0 32 (((0 : Nat) : Int) + 1), b.2) := mh_fmf mh_fm_r (by decide)
        refine pX12_number (d := d + 6) (q := tk_ch []) (tk_R_at (j' := 1) hR (by omega)) (by omega) ⟨by decide, by decide, by decide⟩ (fun b1 q1 v e1 hv hvr f1 R1 => bX12_others_162 ?_)
        refine pX12_needsw (d := d + 1) (c := 35) hX R1 (by omega) (by decide) (by decide) (by decide +kernel) (fun b2 q2 e2 f2 R2 => bX12_others_170 ?_)
        refine pX12_needs (d := d) hX R2 (by omega) (by decide) (fun b3 q3 e3 f3 R3 => bX12_others_178 ?_)
        have F3 := mh_fm_t (mh_fm_t (mh_fm_t f0 f1) f2) f3
        rw [tk_w1s] at e3
        rw [tk_ch_f (by simp), tk_ch_f (by simp)] at e1
        subst e1
        rw [tk_ch_f (by simp)] at e2
        subst e2
        rw [tk_ch_f (by simp)] at e3
        have e4 : q3 = tk_ch (tk_lu (tk_cd L B) (tk_vl L B)) := e3
        refine KU w0 _ q3 (mh_fma (b' := (_, _)) (mh_fma (mh_fm_m F3 (by simp) (by simp)) (by decide) (by decide)) (by decide) (by decide)) (fun m hm => ?_) (tk_R_r (tk_R_r R3 (by decide) rfl) (by decide) rfl) e4 (fun hz => ?_)
        · dsimp only
          (try dsimp only); rw [am_up_t (by decide), am_up_k hm, am_up_k hm, am_up_t (by decide), F3.1 90 (by simp) (by decide), F3.1 91 (by simp) (by decide)]
          exact ⟨rfl, rfl⟩
        · rw [e4, tk_ch_z (by unfold tk_lu; simp)] at hz
          have h1 := tk_wst (L := L) (B := B) (j := 3) (hz (tk_st (tk_cd L B 3), 4, 2) (by unfold tk_lu; simp))
          have h2 := hv ⟨hz (tk_cd L B 1 = 41, 2, 2) (by unfold tk_lu; simp), hz (1 ≤ tk_vl L B 1 ∧ tk_vl L B 1 ≤ 30, 2, 3) (by unfold tk_lu; simp)⟩
          dsimp only
          (try dsimp only); rw [am_up_t (by decide), am_up_s, am_up_s]
          exact ⟨h2, h1⟩
    · have w0 := z2.mp (by omega)
      (try dsimp only); rw [tk_at hR, am_w_id (z := ((0 : Nat) : Int) + 1) (by unfold am_rg; omega)]
      have f0 : mh_fm [] [2, 3, 4, 32] b (am_up b.1 9 0 32 (((0 : Nat) : Int) + 1), b.2) := mh_fmf mh_fm_r (by decide)
      refine pX12_number (d := d + 6) (q := tk_ch []) (tk_R_at (j' := 1) hR (by omega)) (by omega) ⟨by decide, by decide, by decide⟩ (fun b1 q1 v e1 hv hvr f1 R1 => bX12_others_93 ?_)
      refine pX12_needsw (d := d + 1) (c := 17) hX R1 (by omega) (by decide) (by decide) (by decide +kernel) (fun b2 q2 e2 f2 R2 => bX12_others_100 ?_)
      refine pX12_needsw (d := d + 1) (c := 35) hX R2 (by omega) (by decide) (by decide) (by decide +kernel) (fun b4 q4 e4 f4 R4 => bX12_others_107 ?_)
      refine pX12_needs (d := d) hX R4 (by omega) (by decide) (fun b3 q3 e3 f3 R3 => bX12_others_115 ?_)
      have F3 := mh_fm_t (mh_fm_t (mh_fm_t (mh_fm_t f0 f1) f2) f4) f3
      rw [tk_w1s] at e3
      rw [tk_ch_f (by simp), tk_ch_f (by simp)] at e1
      subst e1
      rw [tk_ch_f (by simp)] at e2
      subst e2
      rw [tk_ch_f (by simp)] at e4
      subst e4
      rw [tk_ch_f (by simp)] at e3
      have e5 : q3 = tk_ch (tk_lh (tk_cd L B) (tk_vl L B)) := e3
      refine KH w0 _ q3 (mh_fma (b' := (_, _)) (mh_fma (mh_fm_m F3 (by simp) (by simp)) (by decide) (by decide)) (by decide) (by decide)) (fun m hm => ?_) (tk_R_r (tk_R_r R3 (by decide) rfl) (by decide) rfl) e5 (fun hz => ?_)
      · dsimp only
        (try dsimp only); rw [am_up_t (by decide), am_up_k hm, am_up_k hm, am_up_t (by decide), F3.1 88 (by simp) (by decide), F3.1 89 (by simp) (by decide)]
        exact ⟨rfl, rfl⟩
      · rw [e5, tk_ch_z (by unfold tk_lh; simp)] at hz
        have h1 := tk_wst (L := L) (B := B) (j := 4) (hz (tk_st (tk_cd L B 4), 5, 2) (by unfold tk_lh; simp))
        have h2 := hv ⟨hz (tk_cd L B 1 = 41, 2, 2) (by unfold tk_lh; simp), hz (1 ≤ tk_vl L B 1 ∧ tk_vl L B 1 ≤ 400, 2, 3) (by unfold tk_lh; simp)⟩
        dsimp only
        (try dsimp only); rw [am_up_t (by decide), am_up_s, am_up_s]
        exact ⟨h2, h1⟩
  · have w0 := z1.mp (by omega)
    (try dsimp only); rw [tk_at hR, am_w_id (z := ((0 : Nat) : Int) + 1) (by unfold am_rg; omega)]
    have f0 : mh_fm [] [2, 3, 4, 32] b (am_up b.1 9 0 32 (((0 : Nat) : Int) + 1), b.2) := mh_fmf mh_fm_r (by decide)
    refine pX12_needs (d := d) (q := tk_ch []) hX (tk_R_at (j' := 1) hR (by omega)) (by omega) (by decide) (fun b1 q1 e1 f1 R1 => bX12_others_28 ?_)
    refine pX12_needsw (d := d + 1) (c := 33) hX R1 (by omega) (by decide) (by decide) (by decide +kernel) (fun b2 q2 e2 f2 R2 => bX12_others_36 ?_)
    refine pX12_needs (d := d) hX R2 (by omega) (by decide) (fun b3 q3 e3 f3 R3 => bX12_others_44 ?_)
    have F3 := mh_fm_t (mh_fm_t (mh_fm_t f0 f1) f2) f3
    rw [tk_w3s] at e1
    rw [tk_w1s] at e3
    rw [tk_ch_f (by simp)] at e1
    subst e1
    rw [tk_ch_f (by simp)] at e2
    subst e2
    rw [tk_ch_f (by simp)] at e3
    have e5 : q3 = tk_ch (tk_lm (tk_cd L B) (tk_vl L B)) := e3
    (try dsimp only); rw [tk_fk R3]
    refine ⟨fun y => KM w0 b3 q3 (mh_fm_m F3 (by simp) (by simp)) (fun m _ => by rw [F3.1 83 (by simp) (by decide)]) R3 e5 (fun z => absurd z y), fun y => ?_⟩
    have hz := y
    rw [e5, tk_ch_z (by unfold tk_lm; simp)] at hz
    have h1 := tk_wst (L := L) (B := B) (j := 3) (hz (tk_st (tk_cd L B 3), 4, 2) (by unfold tk_lm; simp))
    have h3 : 21 ≤ tk_cd L B 1 ∧ tk_cd L B 1 ≤ 24 := hz (21 ≤ tk_cd L B 1 ∧ tk_cd L B 1 ≤ 24, 2, 2) (by unfold tk_lm; simp)
    have h2 : tk_wo L B 1 3 = tk_cd L B 1 - 21 := tk_wv (tk_k3.mpr h3)
    (try dsimp only); rw [show tk_wo L B (0 + 1) 3 = tk_cd L B 1 - 21 from h2]
    refine ⟨by omega, by omega, KM w0 _ q3 (mh_fma (mh_fm_m F3 (by simp) (by simp)) (by decide) (by decide)) (fun m hm => ?_) (tk_R_r R3 (by decide) rfl) e5 (fun _ i => ?_)⟩
    · dsimp only
      (try dsimp only); rw [am_up_j hm, F3.1 83 (by simp) (by decide)]
    · dsimp only
      (try dsimp only); rw [am_up_a, F3.1 83 (by simp) (by decide)]
      by_cases z : i = (tk_cd L B 1 - 21).toNat
      · (try dsimp only); rw [if_pos z, if_pos z]; exact h1
      · (try dsimp only); rw [if_neg z, if_neg z]
