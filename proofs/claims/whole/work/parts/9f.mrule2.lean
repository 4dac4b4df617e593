-- the reference's rule, whole
variable {SC : Nat → Nat} {X : mh_X} {r : Option am_I} {L : List (Nat × Nat)} {B : Nat → Int} {stop : Nat} {ln : Int}
theorem tk_cw_f {rr n : Nat} {b b' : am_W} (h : tk_cw L B rr n b) (e1 : b'.1 71 = b.1 71) (e2 : b'.1 78 = b.1 78) : tk_cw L B rr n b' := by
  unfold tk_cw at *
  (try dsimp only); rw [e1, e2]; exact h
theorem tk_cp_f {rr s n : Nat} {b b' : am_W} (h : tk_cp L B rr s n b) (e1 : b'.1 73 = b.1 73) (e2 : b'.1 81 = b.1 81) : tk_cp L B rr s n b' := by
  unfold tk_cp at *
  (try dsimp only); rw [e1, e2]; exact h
theorem tk_kl {d bc bs : Nat} {Q : Option am_V → am_W → Prop} {rr : Nat} (hX : mh_st X r) (hr : rr < 30) : ∀ (f n : Nat) (b : am_W), f + n = 5 → n ≤ 4 → tk_R L B stop ln (2 * n + 1) 0 0 b → tk_cw L B rr n b →
    (∀ (b' : am_W) (q' : Int × Int) (j' : Nat), j' ≤ 20 → tk_fr 71 78 rr b b' → tk_R L B stop ln j' q'.1 q'.2 b' → q' = (tk_pk (tk_cd L B) f n).1 → (q'.2 = 0 → j' = 2 * (tk_pk (tk_cd L B) f n).2 ∧ tk_cw L B rr (tk_pk (tk_cd L B) f n).2 b') → am_A (mh_G X) SC (d + 10) mX12_rule Q 92 [(0, .inr (.inr (some (9, 0)))), (1, .inl (rr : Int))] [] b' bc bs) →
    ∀ (C : Option am_V → am_W → Prop), (∀ w1, am_A (mh_G X) SC (d + 10) mX12_rule Q 57 [(0, .inr (.inr (some (9, 0)))), (1, .inl (rr : Int))] [] w1 bc bs → C none w1) → am_M (mh_G X) SC (d + 9) 0 0 mX12_word [.inr (.inr (some (9, 0))), .inl (rr : Int)] b C
  | 0, n, b, h1, h2, _, _, _, _, _ => by omega
  | f + 1, n, b, h1, h2, hR, hc, K, C, hC => by
    refine pX12_word (d := d + 1) hX hR hr h2 hc (fun b' q F R' al => hC b' ?_)
    refine bX12_rule_57a ?_
    (try dsimp only); rw [tk_fk R']
    rcases al with ⟨k, e⟩ | ⟨k, n4, e⟩ | ⟨k, n4, e, cw⟩
    · subst e
      exact ⟨fun _ => K b' _ (2 * n + 2) (by omega) F R' (by rw [tk_pk1, if_pos k]) (fun z => absurd z (by show ¬ (2 : Int) = 0; decide)), fun z => absurd z (by show ¬ (2 : Int) = 0; decide)⟩
    · subst e
      exact ⟨fun _ => K b' _ (2 * n + 2) (by omega) F R' (by rw [tk_pk1, if_neg (fun z => z k), if_pos n4]) (fun z => absurd z (by show ¬ (6 : Int) = 0; decide)), fun z => absurd z (by show ¬ (6 : Int) = 0; decide)⟩
    · subst e
      refine ⟨fun z => absurd rfl z, fun _ => ?_⟩
      refine pX12_isWord (d := d + 3) (c := 31) hX R' (by decide) (by decide) (by decide +kernel) (fun v v1 v2 => ?_)
      have e2 : 2 * n + 2 = 2 * (n + 1) := by omega
      rw [e2] at v2 R'
      refine bX12_rule_71a ⟨fun z => ?_, fun z => ?_⟩
      · have no : ¬ tk_cd L B (2 * (n + 1)) = 31 := fun y => by have := v2.mpr y; omega
        have E : tk_pk (tk_cd L B) (f + 1) n = ((0, 0), n + 1) := by rw [tk_pk1, if_neg (fun z => z k), if_neg n4, if_neg no]
        exact K b' (0, 0) (2 * (n + 1)) (by omega) F R' (by rw [E]) (fun _ => by rw [E]; exact ⟨rfl, cw⟩)
      · have E : tk_pk (tk_cd L B) (f + 1) n = tk_pk (tk_cd L B) f (n + 1) := by rw [tk_pk1, if_neg (fun z => z k), if_neg n4, if_pos (show tk_cd L B (2 * (n + 1)) = 31 from v2.mp (by omega))]
        rw [E] at K
        (try dsimp only); rw [tk_at R', am_w_id (z := ((2 * (n + 1) : Nat) : Int) + 1) (by unfold am_rg; omega)]
        have f9 : mh_fm [] [2, 3, 4, 32] b' (am_up b'.1 9 0 32 (((2 * (n + 1) : Nat) : Int) + 1), b'.2) := mh_fmf mh_fm_r (by decide)
        refine tk_kl hX hr f (n + 1) _ (by omega) (by omega) (tk_R_at R' (by omega)) (tk_cw_f cw (f9.1 71 (by simp) (by decide)) (f9.1 78 (by simp) (by decide))) (fun b2 q2 j2 l2 F2 R2 a2 c2 => K b2 q2 j2 l2 (tk_fr_t F (tk_fr_t (tk_fr_0 f9 (by decide) (by decide)) F2)) R2 a2 c2) _ (fun w1 h => bX12_rule_89a h)
theorem tk_pl {d bc bs : Nat} {Q : Option am_V → am_W → Prop} {rr s : Nat} (hX : mh_st X r) (hr : rr < 30) (hs : s ≤ 20) : ∀ (f m : Nat) (b : am_W), f + m = 5 → m ≤ 4 → tk_R L B stop ln (s + 4 * m) 0 0 b → tk_cp L B rr s m b →
    (∀ (b' : am_W) (q' : Int × Int) (j' : Nat), j' ≤ 100 → tk_fr 73 81 rr b b' → tk_R L B stop ln j' q'.1 q'.2 b' → q' = (tk_pp (tk_cd L B) (tk_vl L B) s f m).1 → (q'.2 = 0 → j' + 1 = s + 4 * (tk_pp (tk_cd L B) (tk_vl L B) s f m).2 ∧ tk_cp L B rr s (tk_pp (tk_cd L B) (tk_vl L B) s f m).2 b') → am_A (mh_G X) SC (d + 10) mX12_rule Q 145 [(0, .inr (.inr (some (9, 0)))), (1, .inl (rr : Int))] [] b' bc bs) →
    ∀ (C : Option am_V → am_W → Prop), (∀ w1, am_A (mh_G X) SC (d + 10) mX12_rule Q 111 [(0, .inr (.inr (some (9, 0)))), (1, .inl (rr : Int))] [] w1 bc bs → C none w1) → am_M (mh_G X) SC (d + 9) 0 0 mX12_stage [.inr (.inr (some (9, 0))), .inl (rr : Int)] b C
  | 0, m, b, h1, h2, _, _, _, _, _ => by omega
  | f + 1, m, b, h1, h2, hR, hc, K, C, hC => by
    refine pX12_stage (d := d) hX hR hr h2 hs hc (fun b' q j F1 F R' e ok => hC b' ?_)
    refine bX12_rule_111 ?_
    (try dsimp only); rw [tk_fk R']
    by_cases z : q.2 = 0
    · obtain ⟨ej, cp⟩ := ok z
      have z2 := z
      rw [e] at z2
      obtain ⟨-, -, p0, -⟩ := tk_pp1z z2
      have q0 : q = (0, 0) := e.trans p0
      subst q0
      subst ej
      refine ⟨fun y => absurd rfl y, fun _ => ⟨(tk_o1 R').1, (tk_o1 R').2, fun y => ?_, fun y => ?_⟩⟩
      · have no : ¬ tk_cd L B (s + 4 * m + 3) = 43 := fun x => y ((tk_sg R' (Or.inr (Or.inl ⟨rfl, rfl⟩))).mpr x)
        have E : tk_pp (tk_cd L B) (tk_vl L B) s (f + 1) m = ((0, 0), m + 1) := by rw [tk_pp2, if_pos z2, if_neg no]
        exact K b' (0, 0) _ F1 F R' (by rw [E]) (fun _ => by rw [E]; exact ⟨by show s + 4 * m + 3 + 1 = s + 4 * (m + 1); omega, cp⟩)
      · have ys := (tk_sg R' (Or.inr (Or.inl ⟨rfl, rfl⟩))).mp y
        have E : tk_pp (tk_cd L B) (tk_vl L B) s (f + 1) m = tk_pp (tk_cd L B) (tk_vl L B) s f (m + 1) := by rw [tk_pp2, if_pos z2, if_pos ys]
        have m4 : ¬ m = 4 := (tk_pp1z z2).2.1
        rw [E] at K
        (try dsimp only); rw [tk_at R', am_w_id (z := ((s + 4 * m + 3 : Nat) : Int) + 1) (by unfold am_rg; omega)]
        have f9 : mh_fm [] [2, 3, 4, 32] b' (am_up b'.1 9 0 32 (((s + 4 * m + 3 : Nat) : Int) + 1), b'.2) := mh_fmf mh_fm_r (by decide)
        refine tk_pl hX hr hs f (m + 1) _ (by omega) (by omega) (tk_R_at R' (by omega)) (tk_cp_f cp (f9.1 73 (by simp) (by decide)) (f9.1 81 (by simp) (by decide))) (fun b2 q2 j2 l2 F2 R2 a2 c2 => K b2 q2 j2 l2 (tk_fr_t F (tk_fr_t (tk_fr_0 f9 (by decide) (by decide)) F2)) R2 a2 c2) _ (fun w1 h => bX12_rule_142 h)
    · have z2 := z
      rw [e] at z2
      have E : tk_pp (tk_cd L B) (tk_vl L B) s (f + 1) m = (tk_pp1 (tk_cd L B) (tk_vl L B) s m, m) := by rw [tk_pp2, if_neg z2]
      exact ⟨fun _ => K b' q j F1 F R' (by rw [E]; exact e) (fun y => absurd y z), fun y => absurd y z⟩
theorem tk_ol {d bc bs : Nat} {Q : Option am_V → am_W → Prop} {rr : Nat} (hX : mh_st X r) (hr : rr < 30) : ∀ (f : Nat) (fl : Int) (j : Nat) (b : am_W), f + tk_pc fl = 5 → (0 ≤ fl ∧ fl ≤ 15) → j ≤ 30 + 3 * tk_pc fl → tk_R L B stop ln j 0 0 b → b.1 75 6 rr = fl →
    (∀ (b' : am_W) (q' : Int × Int) (j' : Nat), j' ≤ 100 → tk_fr 75 70 rr b b' → tk_R L B stop ln j' q'.1 q'.2 b' → tk_ff q' (tk_cd L B j' = 46) j' 2 = (tk_po (tk_cd L B) f fl j).1 → ((tk_po (tk_cd L B) f fl j).1.2 = 0 → b'.1 75 6 rr = (tk_po (tk_cd L B) f fl j).2) → am_A (mh_G X) SC (d + 10) mX12_rule Q 179 [(0, .inr (.inr (some (9, 0))))] [] b' bc bs) →
    am_A (mh_G X) SC (d + 10) mX12_rule Q 145 [(0, .inr (.inr (some (9, 0)))), (1, .inl (rr : Int))] [] b bc bs
  | 0, fl, j, b, h1, h2, _, _, _, _ => by
    have := (tk_fl (o := 0) h2 ⟨by decide, by decide⟩).2.2.2
    omega
  | f + 1, fl, j, b, h1, h2, h3, hR, h75, K => by
    have pc4 := (tk_fl (o := 0) h2 ⟨by decide, by decide⟩).2.2.2
    refine bX12_rule_145 ?_
    (try dsimp only); rw [tk_fk hR]
    refine ⟨fun y => absurd rfl y, fun _ => ⟨(tk_o1 hR).1, (tk_o1 hR).2, fun y => ?_, fun y => ?_⟩⟩
    · have no : ¬ tk_cd L B j = 44 := fun x => y ((tk_sg hR (Or.inr (Or.inr (Or.inl ⟨rfl, rfl⟩)))).mpr x)
      by_cases e : tk_cd L B j = 46
      · have E : tk_po (tk_cd L B) (f + 1) fl j = ((0, 0), fl) := by rw [tk_po1, if_neg no, if_pos e]
        exact K b (0, 0) j (by omega) (tk_fr_0 mh_fm_r (by decide) (by decide)) hR (by rw [E, tk_ff_y e]) (fun _ => by rw [E]; exact h75)
      · have E : tk_po (tk_cd L B) (f + 1) fl j = (((j : Int) + 1, 2), fl) := by rw [tk_po1, if_neg no, if_neg e]
        exact K b (0, 0) j (by omega) (tk_fr_0 mh_fm_r (by decide) (by decide)) hR (by rw [E, tk_ff_n e]; rfl) (fun z => by rw [E] at z; exact absurd z (by show ¬ (2 : Int) = 0; decide))
    · have ys := (tk_sg hR (Or.inr (Or.inr (Or.inl ⟨rfl, rfl⟩)))).mp y
      (try dsimp only); rw [tk_at hR, am_w_id (z := (j : Int) + 1) (by unfold am_rg; omega)]
      have f9 : mh_fm [] [2, 3, 4, 32] b (am_up b.1 9 0 32 ((j : Int) + 1), b.2) := mh_fmf mh_fm_r (by decide)
      have g75 : (am_up b.1 9 0 32 ((j : Int) + 1)) 75 6 rr = fl := by (try dsimp only); rw [am_up_t (by decide)]; exact h75
      refine pX12_option (d := d) hX (tk_R_at (j' := j + 1) hR (by omega)) hr (by omega) g75 (fun b2 q2 j2 l2 F2 R2 al => bX12_rule_176 ?_)
      have F3 := tk_fr_t (tk_fr_0 f9 (by decide) (by decide)) F2
      have E := tk_po1 (c := tk_cd L B) (f := f) (j := j) (fl := fl)
      rw [if_pos ys] at E
      have bad : ¬ q2.2 = 0 → (tk_po (tk_cd L B) (f + 1) fl j).1 = q2 → am_A (mh_G X) SC (d + 10) mX12_rule Q 145 [(0, .inr (.inr (some (9, 0)))), (1, .inl (rr : Int))] [] b2 bc bs := by
        intro z e
        refine bX12_rule_145 ?_
        (try dsimp only); rw [tk_fk R2]
        exact ⟨fun _ => K b2 q2 j2 (by omega) F3 R2 (by rw [e, tk_ff_k z]) (fun x => by rw [e] at x; exact absurd x z), fun x => absurd x z⟩
      rcases al with ⟨k, e⟩ | ⟨k, ⟨s, e⟩ | ⟨s, e75, a⟩⟩
      · rw [if_pos k] at E
        subst e
        refine bad (by show ¬ (2 : Int) = 0; decide) ?_
        (try dsimp only); rw [E]
        refine Prod.ext ?_ rfl
        show (j : Int) + 2 = ((j + 1 : Nat) : Int) + 1
        omega
      · rw [if_neg (fun z => z k), if_pos s] at E
        subst e
        refine bad (by show ¬ (5 : Int) = 0; decide) ?_
        (try dsimp only); rw [E]
        refine Prod.ext ?_ rfl
        show (j : Int) + 2 = ((j + 1 : Nat) : Int) + 1
        omega
      · rw [if_neg (fun z => z k), if_neg s] at E
        obtain ⟨-, b15, pc1, -⟩ := tk_fl (o := tk_cd L B (j + 1) - 25) h2 (by omega)
        have pc2 := pc1 s
        rcases a with ⟨a1, a2, a3⟩ | ⟨a1, a2, a3, a4⟩ | ⟨a1, a2, a3⟩
        · rw [if_neg a1] at E
          subst a2
          subst a3
          rw [E] at K
          exact tk_ol hX hr f _ (j + 2) b2 (by omega) b15 (by omega) R2 e75 (fun b4 q4 j4 l4 F4 R4 a4 c4 => K b4 q4 j4 l4 (tk_fr_t F3 F4) R4 a4 c4)
        · rw [if_pos a1, if_pos a2] at E
          subst a3
          subst a4
          rw [E] at K
          exact tk_ol hX hr f _ (j + 3) b2 (by omega) b15 (by omega) R2 e75 (fun b4 q4 j4 l4 F4 R4 a4 c4 => K b4 q4 j4 l4 (tk_fr_t F3 F4) R4 a4 c4)
        · rw [if_pos a1, if_neg a2] at E
          subst a3
          refine bad (by show ¬ (2 : Int) = 0; decide) ?_
          (try dsimp only); rw [E]
          refine Prod.ext ?_ rfl
          show (j : Int) + 3 = ((j + 1 : Nat) : Int) + 2
          omega
/-- what a rule's line tells -/
def tk_rn (c : Nat → Int) : Nat := (tk_pk c 5 0).2
def tk_rm (c v : Nat → Int) : Nat := (tk_pp c v (2 * tk_rn c + 1) 5 0).2
noncomputable def tk_ro (c v : Nat → Int) : (Int × Int) × Int := tk_po c 5 0 (2 * tk_rn c + 4 * tk_rm c v)
noncomputable def tk_ru (c v : Nat → Int) (rr : Nat) : Int × Int :=
  if rr = 30 then (1, 6) else if ¬ (tk_pk c 5 0).1.2 = 0 then (tk_pk c 5 0).1 else if ¬ c (2 * tk_rn c) = 42 then ((2 * tk_rn c : Nat) + 1, 2) else if ¬ (tk_pp c v (2 * tk_rn c + 1) 5 0).1.2 = 0 then (tk_pp c v (2 * tk_rn c + 1) 5 0).1 else (tk_ro c v).1
theorem tk_ru1 {c v : Nat → Int} {rr : Nat} : tk_ru c v rr =
  if rr = 30 then (1, 6) else if ¬ (tk_pk c 5 0).1.2 = 0 then (tk_pk c 5 0).1 else if ¬ c (2 * tk_rn c) = 42 then ((2 * tk_rn c : Nat) + 1, 2) else if ¬ (tk_pp c v (2 * tk_rn c + 1) 5 0).1.2 = 0 then (tk_pp c v (2 * tk_rn c + 1) 5 0).1 else (tk_ro c v).1 := rfl
def tk_fR (rr : Nat) (b b' : am_W) : Prop := mh_fm [70, 68, 71, 73, 75, 78, 81] [2, 3, 4, 32] b b' ∧ (∀ m, ¬ m = 6 → b'.1 68 0 m = b.1 68 0 m ∧ b'.1 71 m = b.1 71 m ∧ b'.1 73 m = b.1 73 m ∧ b'.1 75 m = b.1 75 m) ∧ (∀ a, ¬ a = rr → b'.1 71 6 a = b.1 71 6 a ∧ b'.1 73 6 a = b.1 73 6 a ∧ b'.1 75 6 a = b.1 75 6 a) ∧ ∀ a, ¬ a = 30 * 6 + rr → b'.1 78 a = b.1 78 a ∧ b'.1 81 a = b.1 81 a
theorem tk_fR_t {rr : Nat} {a b c : am_W} (h : tk_fR rr a b) (g : tk_fR rr b c) : tk_fR rr a c := by
  refine ⟨mh_fm_t h.1 g.1, fun m q => ?_, fun m q => ?_, fun m q => ?_⟩
  · obtain ⟨a1, a2, a3, a4⟩ := h.2.1 m q
    obtain ⟨b1, b2, b3, b4⟩ := g.2.1 m q
    exact ⟨b1.trans a1, b2.trans a2, b3.trans a3, b4.trans a4⟩
  · obtain ⟨a1, a2, a3⟩ := h.2.2.1 m q
    obtain ⟨b1, b2, b3⟩ := g.2.2.1 m q
    exact ⟨b1.trans a1, b2.trans a2, b3.trans a3⟩
  · obtain ⟨a1, a2⟩ := h.2.2.2 m q
    obtain ⟨b1, b2⟩ := g.2.2.2 m q
    exact ⟨b1.trans a1, b2.trans a2⟩
theorem tk_fR_0 {rr : Nat} {b b' : am_W} (h : mh_fm [] [2, 3, 4, 32] b b') : tk_fR rr b b' :=
  ⟨mh_fm_m h (by simp) (by simp), fun m _ => ⟨by rw [h.1 68 (by simp) (by decide)], by rw [h.1 71 (by simp) (by decide)], by rw [h.1 73 (by simp) (by decide)], by rw [h.1 75 (by simp) (by decide)]⟩, fun m _ => ⟨by rw [h.1 71 (by simp) (by decide)], by rw [h.1 73 (by simp) (by decide)], by rw [h.1 75 (by simp) (by decide)]⟩, fun m _ => ⟨by rw [h.1 78 (by simp) (by decide)], by rw [h.1 81 (by simp) (by decide)]⟩⟩
theorem tk_fR_k {rr : Nat} {b b' : am_W} (h : tk_fr 71 78 rr b b') : tk_fR rr b b' :=
  ⟨mh_fm_m h.1 (by decide) (by simp), fun m q => ⟨by rw [h.1.1 68 (by decide) (by decide)], h.2.1 m q, by rw [h.1.1 73 (by decide) (by decide)], by rw [h.1.1 75 (by decide) (by decide)]⟩, fun m q => ⟨h.2.2.1 m q, by rw [h.1.1 73 (by decide) (by decide)], by rw [h.1.1 75 (by decide) (by decide)]⟩, fun m q => ⟨h.2.2.2 m q, by rw [h.1.1 81 (by decide) (by decide)]⟩⟩
theorem tk_fR_p {rr : Nat} {b b' : am_W} (h : tk_fr 73 81 rr b b') : tk_fR rr b b' :=
  ⟨mh_fm_m h.1 (by decide) (by simp), fun m q => ⟨by rw [h.1.1 68 (by decide) (by decide)], by rw [h.1.1 71 (by decide) (by decide)], h.2.1 m q, by rw [h.1.1 75 (by decide) (by decide)]⟩, fun m q => ⟨by rw [h.1.1 71 (by decide) (by decide)], h.2.2.1 m q, by rw [h.1.1 75 (by decide) (by decide)]⟩, fun m q => ⟨by rw [h.1.1 78 (by decide) (by decide)], h.2.2.2 m q⟩⟩
theorem tk_fR_o {rr : Nat} {b b' : am_W} (h : tk_fr 75 70 rr b b') : tk_fR rr b b' :=
  ⟨mh_fm_m h.1 (by decide) (by simp), fun m q => ⟨by rw [h.1.1 68 (by decide) (by decide)], by rw [h.1.1 71 (by decide) (by decide)], by rw [h.1.1 73 (by decide) (by decide)], h.2.1 m q⟩, fun m q => ⟨by rw [h.1.1 71 (by decide) (by decide)], by rw [h.1.1 73 (by decide) (by decide)], h.2.2.1 m q⟩, fun m q => ⟨by rw [h.1.1 78 (by decide) (by decide)], by rw [h.1.1 81 (by decide) (by decide)]⟩⟩
theorem tk_fR_8 {rr : Nat} {b b' : am_W} {v : Int} (h : tk_fR rr b b') : tk_fR rr b (am_up b'.1 68 0 6 v, b'.2) := by
  refine ⟨mh_fma h.1 (by decide) (by decide), fun m q => ?_, fun m q => ?_, fun m q => ?_⟩
  · obtain ⟨a1, a2, a3, a4⟩ := h.2.1 m q
    dsimp only
    (try dsimp only); rw [am_up_k q, am_up_t (by decide), am_up_t (by decide), am_up_t (by decide)]
    exact ⟨a1, a2, a3, a4⟩
  · dsimp only
    (try dsimp only); rw [am_up_t (by decide), am_up_t (by decide), am_up_t (by decide)]
    exact h.2.2.1 m q
  · dsimp only
    (try dsimp only); rw [am_up_t (by decide), am_up_t (by decide)]
    exact h.2.2.2 m q
theorem pX12_rule {d kc ks : Nat} {Q : Option am_V → am_W → Prop} {b : am_W} {rr : Nat} (hX : mh_st X r) (hR : tk_R L B stop ln 1 0 0 b) (h68 : b.1 68 0 6 = (rr : Int)) (hr : rr ≤ 30)
    (K : ∀ (b' : am_W) (q' : Int × Int) (j' : Nat), j' ≤ 100 → tk_fR rr b b' → tk_R L B stop ln j' q'.1 q'.2 b' → tk_ff q' (tk_cd L B j' = 46) j' 2 = tk_ru (tk_cd L B) (tk_vl L B) rr →
      ((tk_ru (tk_cd L B) (tk_vl L B) rr).2 = 0 → rr < 30 ∧ b'.1 68 0 6 = (rr : Int) + 1 ∧ tk_cw L B rr (tk_rn (tk_cd L B)) b' ∧ tk_cp L B rr (2 * tk_rn (tk_cd L B) + 1) (tk_rm (tk_cd L B) (tk_vl L B)) b' ∧ b'.1 75 6 rr = (tk_ro (tk_cd L B) (tk_vl L B)).2) → Q none b') :
    am_M (mh_G X) SC (d + 10) kc ks mX12_rule [.inr (.inr (some (9, 0)))] b Q := by
  have E := tk_ru1 (c := tk_cd L B) (v := tk_vl L B) (rr := rr)
  refine am_M_of (by decide) (Nat.le_of_ble_eq_true rfl) ?_
  refine bX12_rule_0 ?_
  (try dsimp only); rw [h68, Int.toNat_natCast]
  refine ⟨fun c => ⟨by omega, by omega, ?_⟩, fun c => ?_⟩
  · have hr2 : rr < 30 := by omega
    rw [if_neg (by omega : ¬ rr = 30)] at E
    have R0 : tk_R L B stop ln (2 * 0 + 1) 0 0 (am_up (am_up (am_up b.1 71 6 rr 0) 73 6 rr 0) 75 6 rr 0, b.2) := tk_R_r (tk_R_r (tk_R_r hR (by decide) rfl) (by decide) rfl) (by decide) rfl
    have F0 : tk_fR rr b (am_up (am_up (am_up b.1 71 6 rr 0) 73 6 rr 0) 75 6 rr 0, b.2) :=
      tk_fR_t (tk_fR_t (tk_fR_k (tk_fr_v (tk_fr_0 mh_fm_r (by decide) (by decide)) (by decide) (by decide))) (tk_fR_p (tk_fr_v (b' := (_, _)) (tk_fr_0 mh_fm_r (by decide) (by decide)) (by decide) (by decide)))) (tk_fR_o (tk_fr_v (b' := (_, _)) (tk_fr_0 mh_fm_r (by decide) (by decide)) (by decide) (by decide)))
    have b71 : (am_up (am_up (am_up b.1 71 6 rr 0) 73 6 rr 0) 75 6 rr 0) 71 6 rr = ((0 : Nat) : Int) := by (try dsimp only); rw [am_up_t (by decide), am_up_t (by decide), am_up_s]; rfl
    have b73 : (am_up (am_up (am_up b.1 71 6 rr 0) 73 6 rr 0) 75 6 rr 0) 73 6 rr = ((0 : Nat) : Int) := by (try dsimp only); rw [am_up_t (by decide), am_up_s]; rfl
    have b75 : (am_up (am_up (am_up b.1 71 6 rr 0) 73 6 rr 0) 75 6 rr 0) 75 6 rr = 0 := am_up_s
    obtain ⟨b0, hb0⟩ : ∃ b0 : am_W, b0 = (am_up (am_up (am_up b.1 71 6 rr 0) 73 6 rr 0) 75 6 rr 0, b.2) := ⟨_, rfl⟩
    rw [← hb0] at R0 F0 ⊢
    have c71 : b0.1 71 6 rr = ((0 : Nat) : Int) := by rw [hb0]; exact b71
    have c73 : b0.1 73 6 rr = ((0 : Nat) : Int) := by rw [hb0]; exact b73
    have c75 : b0.1 75 6 rr = 0 := by rw [hb0]; exact b75
    refine tk_kl (d := d) hX hr2 5 0 b0 rfl (by decide) R0 ⟨c71, fun i hi => absurd hi (Nat.not_lt_zero i)⟩ (fun b1 q1 j1 l1 F1 R1 e1 c1 => ?_) _ (fun w1 h => am_sub [1, 0] rfl h)
    have G1 := tk_fR_t F0 (tk_fR_k F1)
    refine bX12_rule_92 (pX12_needss (d := d + 7) R1 (by omega) (Or.inl ⟨rfl, rfl⟩) (fun b2 q2 e2 f2 R2 => ?_))
    have G2 := tk_fR_t G1 (tk_fR_0 (rr := rr) f2)
    refine bX12_rule_98 ?_
    (try dsimp only); rw [tk_fk R2]
    refine ⟨fun z => ?_, fun z => ?_⟩
    · have z1 : q1.2 = 0 := by
        apply Classical.byContradiction
        intro y
        rw [tk_ff_k y] at e2
        rw [e2] at z; exact y z
      obtain ⟨ej, cw⟩ := c1 z1
      rw [e1] at z1
      rw [if_neg (fun y => y z1)] at E
      have col : tk_cd L B j1 = 42 := by
        apply Classical.byContradiction
        intro y
        rw [tk_ff_n y] at e2
        rw [← e1] at z1
        rw [e2, if_pos z1, if_pos z1] at z
        exact absurd z (by show ¬ (2 : Int) = 0; decide)
      have q1e : q1 = (0, 0) := by
        (try dsimp only); rw [e1]
        have : ∀ (f n : Nat), (tk_pk (tk_cd L B) f n).1.2 = 0 → (tk_pk (tk_cd L B) f n).1 = (0, 0) := by
          intro f
          induction f with
          | zero => intro n _; rfl
          | succ f ih =>
            intro n hz
            rw [tk_pk1] at hz ⊢
            split at hz
            · exact absurd hz (by show ¬ (2 : Int) = 0; decide)
            split at hz
            · exact absurd hz (by show ¬ (6 : Int) = 0; decide)
            rename_i h1 h2
            (try dsimp only); rw [if_neg h1, if_neg h2]
            split at hz
            · rename_i h3
              (try dsimp only); rw [if_pos h3]; exact ih _ hz
            · rename_i h3
              (try dsimp only); rw [if_neg h3]
        exact this 5 0 z1
      rw [tk_ff_y col] at e2
      rw [q1e] at e2
      subst e2
      have ej' : j1 = 2 * tk_rn (tk_cd L B) := ej
      have cw' : tk_cw L B rr (tk_rn (tk_cd L B)) b1 := cw
      rw [ej'] at col R2
      rw [if_neg (fun y => y col)] at E
      have b4 := (tk_pk_b (f := 5) (n := 0) rfl z1 (fun i hi => absurd hi (Nat.not_lt_zero i)) (by decide)).1
      have nle : tk_rn (tk_cd L B) ≤ 4 := b4.2
      have d73 : b2.1 73 6 rr = ((0 : Nat) : Int) := by rw [f2.1 73 (by simp) (by decide), F1.1.1 73 (by decide) (by decide)]; exact c73
      have d75 : b2.1 75 6 rr = 0 := by rw [f2.1 75 (by simp) (by decide), F1.1.1 75 (by decide) (by decide)]; exact c75
      refine tk_pl (d := d) (s := 2 * tk_rn (tk_cd L B) + 1) hX hr2 (by omega) 5 0 b2 rfl (by decide) R2 ⟨d73, fun i hi => absurd hi (Nat.not_lt_zero i)⟩ (fun b3 q3 j3 l3 F3 R3 e3 c3 => ?_) _ (fun w1 h => h)
      have G3 := tk_fR_t G2 (tk_fR_p F3)
      by_cases z3 : q3.2 = 0
      · obtain ⟨ej3, cp⟩ := c3 z3
        have z3' := z3
        rw [e3] at z3'
        rw [if_neg (fun y => y z3')] at E
        have q3e : q3 = (0, 0) := by
          (try dsimp only); rw [e3]
          have : ∀ (f m : Nat), (tk_pp (tk_cd L B) (tk_vl L B) (2 * tk_rn (tk_cd L B) + 1) f m).1.2 = 0 → (tk_pp (tk_cd L B) (tk_vl L B) (2 * tk_rn (tk_cd L B) + 1) f m).1 = (0, 0) := by
            intro f
            induction f with
            | zero => intro n _; rfl
            | succ f ih =>
              intro m hz
              rw [tk_pp2] at hz ⊢
              split at hz
              · rename_i h1
                (try dsimp only); rw [if_pos h1]
                split at hz
                · rename_i h3
                  (try dsimp only); rw [if_pos h3]; exact ih _ hz
                · rename_i h3
                  (try dsimp only); rw [if_neg h3]
              · rename_i h1
                exact absurd hz h1
          exact this 5 0 z3'
        subst q3e
        have mm := (tk_pp_b (f := 5) (m := 0) rfl z3' (fun i hi => absurd hi (Nat.not_lt_zero i)) (by decide)).1
        have mle : tk_rm (tk_cd L B) (tk_vl L B) ≤ 4 := mm.2
        have ej4 : j3 = 2 * tk_rn (tk_cd L B) + 4 * tk_rm (tk_cd L B) (tk_vl L B) := by
          have : j3 + 1 = 2 * tk_rn (tk_cd L B) + 1 + 4 * tk_rm (tk_cd L B) (tk_vl L B) := ej3
          omega
        subst ej4
        have g75 : b3.1 75 6 rr = 0 := by rw [F3.1.1 75 (by decide) (by decide)]; exact d75
        refine tk_ol (d := d) hX hr2 5 0 _ b3 (by decide) ⟨by decide, by decide⟩ (by omega) R3 g75 (fun b5 q5 j5 l5 F5 R5 e5 c5 => ?_)
        have G5 := tk_fR_t G3 (tk_fR_o F5)
        have h68' : b5.1 68 0 6 = (rr : Int) := by
          have a1 : b5.1 68 = b3.1 68 := F5.1.1 68 (by decide) (by decide)
          have a2 : b3.1 68 = b2.1 68 := F3.1.1 68 (by decide) (by decide)
          have a3 : b2.1 68 = b1.1 68 := f2.1 68 (by simp) (by decide)
          have a4 : b1.1 68 = b0.1 68 := F1.1.1 68 (by decide) (by decide)
          (try dsimp only); rw [a1, a2, a3, a4, hb0]
          dsimp only
          (try dsimp only); rw [am_up_t (by decide), am_up_t (by decide), am_up_t (by decide)]; exact h68
        refine bX12_rule_179 ?_
        (try dsimp only); rw [h68', am_w_id (z := (rr : Int) + 1) (by unfold am_rg; omega)]
        refine K _ q5 j5 l5 (tk_fR_8 G5) (tk_R_r R5 (by decide) rfl) (by rw [E]; exact e5) (fun y => ⟨hr2, (by (try dsimp only); rw [am_up_s]), ?_, ?_, ?_⟩)
        · refine tk_cw_f (b := b1) cw' ?_ ?_
          · dsimp only
            (try dsimp only); rw [am_up_t (by decide), F5.1.1 71 (by decide) (by decide), F3.1.1 71 (by decide) (by decide), f2.1 71 (by simp) (by decide)]
          · dsimp only
            (try dsimp only); rw [am_up_t (by decide), F5.1.1 78 (by decide) (by decide), F3.1.1 78 (by decide) (by decide), f2.1 78 (by simp) (by decide)]
        · refine tk_cp_f (b := b3) cp ?_ ?_
          · dsimp only
            (try dsimp only); rw [am_up_t (by decide), F5.1.1 73 (by decide) (by decide)]
          · dsimp only
            (try dsimp only); rw [am_up_t (by decide), F5.1.1 81 (by decide) (by decide)]
        · rw [E] at y
          dsimp only
          (try dsimp only); rw [am_up_t (by decide)]
          exact c5 y
      · have z3' := z3
        rw [e3] at z3'
        rw [if_pos z3'] at E
        refine bX12_rule_145 ?_
        (try dsimp only); rw [tk_fk R3]
        refine ⟨fun _ => bX12_rule_179 (K _ q3 j3 l3 (tk_fR_8 G3) (tk_R_r R3 (by decide) rfl) (by rw [E, tk_ff_k z3]; exact e3) (fun y => ?_)), fun y => absurd y z3⟩
        rw [E] at y; exact absurd y z3'
    · refine K b2 q2 (j1 + 1) (by omega) G2 R2 ?_ ?_
      · (try dsimp only); rw [tk_ff_k z, E]
        by_cases z1 : q1.2 = 0
        · obtain ⟨ej, -⟩ := c1 z1
          have ej' : j1 = 2 * tk_rn (tk_cd L B) := ej
          have z1' := z1
          rw [e1] at z1'
          have col : ¬ tk_cd L B j1 = 42 := by
            intro y
            rw [tk_ff_y y] at e2
            rw [e2] at z; exact z z1
          rw [tk_ff_n col, if_pos z1, if_pos z1] at e2
          (try dsimp only); rw [if_neg (fun y => y z1'), ← ej', if_pos col]
          exact e2
        · rw [tk_ff_k z1] at e2
          have z1' := z1
          rw [e1] at z1'
          (try dsimp only); rw [if_pos z1', e2]
          exact e1
      · intro y
        exfalso
        rw [E] at y
        by_cases z1 : q1.2 = 0
        · obtain ⟨ej, -⟩ := c1 z1
          have ej' : j1 = 2 * tk_rn (tk_cd L B) := ej
          have z1' := z1
          rw [e1] at z1'
          have col : ¬ tk_cd L B j1 = 42 := by
            intro y
            rw [tk_ff_y y] at e2
            rw [e2] at z; exact z z1
          rw [if_neg (fun y => y z1'), ← ej', if_pos col] at y
          exact absurd y (by show ¬ (2 : Int) = 0; decide)
        · have z1' := z1
          rw [e1] at z1'
          rw [if_pos z1'] at y
          exact z1' y
  · rw [if_pos (by omega : rr = 30)] at E
    refine pX12_fault (d := d + 8) hR ⟨by omega, by omega⟩ (by decide) (fun b1 f1 R1 => ?_)
    rw [if_pos rfl, if_pos rfl] at R1
    refine bX12_rule_21 (K b1 (0 + 1, 6) 1 (by omega) (tk_fR_0 f1) R1 (by rw [tk_ff_k (by show ¬ (6 : Int) = 0; decide), E]; rfl) (fun y => ?_))
    rw [E] at y
    exact absurd y (by show ¬ (6 : Int) = 0; decide)
