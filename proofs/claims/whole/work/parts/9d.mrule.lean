-- a line that begins with for: what it tells, pure; and the reference's rule
variable {SC : Nat → Nat} {X : mh_X} {r : Option am_I} {L : List (Nat × Nat)} {B : Nat → Int} {stop : Nat} {ln : Int}
theorem tk_k0 {j : Nat} : (¬ tk_wo L B j 0 = -1) ↔ (0 ≤ tk_cd L B j ∧ tk_cd L B j ≤ 11) := by
  (try dsimp only); rw [tk_wo_i, show tk_ba 0 = 0 from rfl, show tk_bn 0 = 12 from rfl]; omega
theorem tk_k1 {j : Nat} : (¬ tk_wo L B j 1 = -1) ↔ (12 ≤ tk_cd L B j ∧ tk_cd L B j ≤ 16) := by
  (try dsimp only); rw [tk_wo_i, show tk_ba 1 = 12 from rfl, show tk_bn 1 = 5 from rfl]; omega
theorem tk_k2 {j : Nat} : (¬ tk_wo L B j 2 = -1) ↔ (17 ≤ tk_cd L B j ∧ tk_cd L B j ≤ 20) := by
  (try dsimp only); rw [tk_wo_i, show tk_ba 2 = 17 from rfl, show tk_bn 2 = 4 from rfl]; omega
theorem tk_k3 {j : Nat} : (¬ tk_wo L B j 3 = -1) ↔ (21 ≤ tk_cd L B j ∧ tk_cd L B j ≤ 24) := by
  (try dsimp only); rw [tk_wo_i, show tk_ba 3 = 21 from rfl, show tk_bn 3 = 4 from rfl]; omega
theorem tk_k4 {j : Nat} : (¬ tk_wo L B j 4 = -1) ↔ (25 ≤ tk_cd L B j ∧ tk_cd L B j ≤ 28) := by
  (try dsimp only); rw [tk_wo_i, show tk_ba 4 = 25 from rfl, show tk_bn 4 = 4 from rfl]; omega
theorem tk_wv {j a : Nat} (h : ¬ tk_wo L B j a = -1) : tk_wo L B j a = tk_cd L B j - tk_ba a := by
  have := tk_wo_i.mp h
  unfold tk_wo
  (try dsimp only); rw [if_pos this]
/-- words: f fuel, n so far -/
def tk_pk (c : Nat → Int) : Nat → Nat → (Int × Int) × Nat
  | 0, n => ((0, 0), n)
  | f + 1, n => if ¬ (0 ≤ c (2 * n + 1) ∧ c (2 * n + 1) ≤ 11) then ((2 * n + 2, 2), n) else if n = 4 then ((2 * n + 2, 6), n) else if c (2 * (n + 1)) = 31 then tk_pk c f (n + 1) else ((0, 0), n + 1)
theorem tk_pk1 {c : Nat → Int} {f n : Nat} : tk_pk c (f + 1) n = if ¬ (0 ≤ c (2 * n + 1) ∧ c (2 * n + 1) ≤ 11) then (((2 * n + 2 : Int), 2), n) else if n = 4 then ((2 * n + 2, 6), n) else if c (2 * (n + 1)) = 31 then tk_pk c f (n + 1) else ((0, 0), n + 1) := rfl
theorem tk_pk_b {c : Nat → Int} : ∀ {f n : Nat}, f + n = 5 → (tk_pk c f n).1.2 = 0 → (∀ i, i < n → 0 ≤ c (2 * i + 1) ∧ c (2 * i + 1) ≤ 11) → n ≤ 4 → (1 ≤ (tk_pk c f n).2 ∧ (tk_pk c f n).2 ≤ 4) ∧ ∀ i, i < (tk_pk c f n).2 → 0 ≤ c (2 * i + 1) ∧ c (2 * i + 1) ≤ 11
  | 0, n, h, _, _, h4 => by omega
  | f + 1, n, h, hz, hk, h4 => by
    rw [tk_pk1] at hz ⊢
    by_cases k : 0 ≤ c (2 * n + 1) ∧ c (2 * n + 1) ≤ 11
    · rw [if_neg (fun z => z k)] at hz ⊢
      by_cases e : n = 4
      · rw [if_pos e] at hz; exact absurd hz (by dsimp only; decide)
      · rw [if_neg e] at hz ⊢
        have hk2 : ∀ i, i < n + 1 → 0 ≤ c (2 * i + 1) ∧ c (2 * i + 1) ≤ 11 := fun i hi => by
          by_cases z : i = n
          · (try dsimp only); rw [z]; exact k
          · exact hk i (by omega)
        by_cases o : c (2 * (n + 1)) = 31
        · rw [if_pos o] at hz ⊢
          exact tk_pk_b (by omega) hz hk2 (by omega)
        · (try dsimp only); rw [if_neg o]
          exact ⟨⟨by show 1 ≤ n + 1; omega, by show n + 1 ≤ 4; omega⟩, hk2⟩
    · rw [if_pos k] at hz; exact absurd hz (by dsimp only; decide)
/-- one part, at s + 4 m -/
def tk_pp1 (c v : Nat → Int) (s m : Nat) : Int × Int :=
  if ¬ (13 ≤ c (s + 4 * m) ∧ c (s + 4 * m) ≤ 16) then (((s + 4 * m : Nat) : Int) + 1, 2) else if m = 4 then (((s + 4 * m : Nat) : Int) + 1, 6) else if ¬ m = 0 ∧ c (s + 4 * (m - 1)) ≤ c (s + 4 * m) then (((s + 4 * m : Nat) : Int) + 1, 4)
  else if ¬ c (s + 4 * m + 1) = 41 then (((s + 4 * m : Nat) : Int) + 2, 2) else if ¬ (1 ≤ v (s + 4 * m + 1) ∧ v (s + 4 * m + 1) ≤ 999) then (((s + 4 * m : Nat) : Int) + 2, 3) else if ¬ (17 ≤ c (s + 4 * m + 2) ∧ c (s + 4 * m + 2) ≤ 20) then (((s + 4 * m : Nat) : Int) + 3, 2) else (0, 0)
def tk_pp (c v : Nat → Int) (s : Nat) : Nat → Nat → (Int × Int) × Nat
  | 0, m => ((0, 0), m)
  | f + 1, m => if (tk_pp1 c v s m).2 = 0 then (if c (s + 4 * m + 3) = 43 then tk_pp c v s f (m + 1) else ((0, 0), m + 1)) else (tk_pp1 c v s m, m)
theorem tk_pp2 {c v : Nat → Int} {s f m : Nat} : tk_pp c v s (f + 1) m = if (tk_pp1 c v s m).2 = 0 then (if c (s + 4 * m + 3) = 43 then tk_pp c v s f (m + 1) else ((0, 0), m + 1)) else (tk_pp1 c v s m, m) := rfl
def tk_pok (c v : Nat → Int) (s i : Nat) : Prop := (13 ≤ c (s + 4 * i) ∧ c (s + 4 * i) ≤ 16) ∧ (1 ≤ v (s + 4 * i + 1) ∧ v (s + 4 * i + 1) ≤ 999) ∧ 17 ≤ c (s + 4 * i + 2) ∧ c (s + 4 * i + 2) ≤ 20
theorem tk_pp1z {c v : Nat → Int} {s m : Nat} (h : (tk_pp1 c v s m).2 = 0) : tk_pok c v s m ∧ ¬ m = 4 ∧ tk_pp1 c v s m = (0, 0) ∧ c (s + 4 * m + 1) = 41 ∧ ¬ (¬ m = 0 ∧ c (s + 4 * (m - 1)) ≤ c (s + 4 * m)) := by
  unfold tk_pp1 at h ⊢
  by_cases c1 : ¬ (13 ≤ c (s + 4 * m) ∧ c (s + 4 * m) ≤ 16)
  · rw [if_pos c1] at h; exact absurd h (by dsimp only; decide)
  rw [if_neg c1] at h ⊢
  by_cases c2 : m = 4
  · rw [if_pos c2] at h; exact absurd h (by dsimp only; decide)
  rw [if_neg c2] at h ⊢
  by_cases c3 : ¬ m = 0 ∧ c (s + 4 * (m - 1)) ≤ c (s + 4 * m)
  · rw [if_pos c3] at h; exact absurd h (by dsimp only; decide)
  rw [if_neg c3] at h ⊢
  by_cases c4 : ¬ c (s + 4 * m + 1) = 41
  · rw [if_pos c4] at h; exact absurd h (by dsimp only; decide)
  rw [if_neg c4] at h ⊢
  by_cases c5 : ¬ (1 ≤ v (s + 4 * m + 1) ∧ v (s + 4 * m + 1) ≤ 999)
  · rw [if_pos c5] at h; exact absurd h (by dsimp only; decide)
  rw [if_neg c5] at h ⊢
  by_cases c6 : ¬ (17 ≤ c (s + 4 * m + 2) ∧ c (s + 4 * m + 2) ≤ 20)
  · rw [if_pos c6] at h; exact absurd h (by dsimp only; decide)
  (try dsimp only); rw [if_neg c6]
  exact ⟨⟨Classical.not_not.mp c1, Classical.not_not.mp c5, Classical.not_not.mp c6⟩, c2, rfl, Classical.not_not.mp c4, c3⟩
theorem tk_pp_b {c v : Nat → Int} {s : Nat} : ∀ {f m : Nat}, f + m = 5 → (tk_pp c v s f m).1.2 = 0 → (∀ i, i < m → tk_pok c v s i) → m ≤ 4 → (1 ≤ (tk_pp c v s f m).2 ∧ (tk_pp c v s f m).2 ≤ 4) ∧ ∀ i, i < (tk_pp c v s f m).2 → tk_pok c v s i
  | 0, n, h, _, _, h4 => by omega
  | f + 1, m, h, hz, hk, h4 => by
    rw [tk_pp2] at hz ⊢
    by_cases k : (tk_pp1 c v s m).2 = 0
    · rw [if_pos k] at hz ⊢
      obtain ⟨p1, p2, -⟩ := tk_pp1z k
      have hk2 : ∀ i, i < m + 1 → tk_pok c v s i := fun i hi => by
        by_cases z : i = m
        · (try dsimp only); rw [z]; exact p1
        · exact hk i (by omega)
      by_cases o : c (s + 4 * m + 3) = 43
      · rw [if_pos o] at hz ⊢
        exact tk_pp_b (by omega) hz hk2 (by omega)
      · (try dsimp only); rw [if_neg o]
        exact ⟨⟨by show 1 ≤ m + 1; omega, by show m + 1 ≤ 4; omega⟩, hk2⟩
    · rw [if_neg k] at hz; exact absurd hz k
/-- flags -/
def tk_bs (fl o : Int) : Prop := am_and (am_shr fl o) 1 = 1
def tk_pc (fl : Int) : Nat := (fl % 2 + fl / 2 % 2 + fl / 4 % 2 + fl / 8 % 2).toNat
theorem tk_flN : ∀ fl : Nat, fl < 16 → ∀ o : Nat, o < 4 → (am_and (fl : Int) (am_shl 1 (o : Int)) = 0 ↔ ¬ am_and (am_shr (fl : Int) (o : Int)) 1 = 1) ∧ (0 ≤ am_or (fl : Int) (am_shl 1 (o : Int)) ∧ am_or (fl : Int) (am_shl 1 (o : Int)) ≤ 15) ∧ (¬ am_and (am_shr (fl : Int) (o : Int)) 1 = 1 → tk_pc (am_or (fl : Int) (am_shl 1 (o : Int))) = tk_pc (fl : Int) + 1) ∧ tk_pc (fl : Int) ≤ 4 := by decide +kernel
theorem tk_fl {fl o : Int} (h : 0 ≤ fl ∧ fl ≤ 15) (ho : 0 ≤ o ∧ o ≤ 3) : (am_and fl (am_shl 1 o) = 0 ↔ ¬ tk_bs fl o) ∧ (0 ≤ am_or fl (am_shl 1 o) ∧ am_or fl (am_shl 1 o) ≤ 15) ∧ (¬ tk_bs fl o → tk_pc (am_or fl (am_shl 1 o)) = tk_pc fl + 1) ∧ tk_pc fl ≤ 4 := by
  obtain ⟨n, rfl⟩ := mh_nat h.1
  obtain ⟨k, rfl⟩ := mh_nat ho.1
  exact tk_flN n (by omega) k (by omega)
/-- options: fuel, flags, place -/
noncomputable def tk_po (c : Nat → Int) : Nat → Int → Nat → (Int × Int) × Int
  | 0, fl, _ => ((0, 0), fl)
  | f + 1, fl, j => if c j = 44 then (if ¬ (25 ≤ c (j + 1) ∧ c (j + 1) ≤ 28) then (((j : Int) + 2, 2), fl) else @ite ((Int × Int) × Int) (tk_bs fl (c (j + 1) - 25)) (Classical.propDecidable _) (((j : Int) + 2, 5), fl) (if c (j + 1) = 25 then (if c (j + 2) = 29 then tk_po c f (am_or fl (am_shl 1 (c (j + 1) - 25))) (j + 3) else (((j : Int) + 3, 2), fl)) else tk_po c f (am_or fl (am_shl 1 (c (j + 1) - 25))) (j + 2))) else if c j = 46 then ((0, 0), fl) else (((j : Int) + 1, 2), fl)
theorem tk_po1 {c : Nat → Int} {f j : Nat} {fl : Int} : tk_po c (f + 1) fl j = if c j = 44 then (if ¬ (25 ≤ c (j + 1) ∧ c (j + 1) ≤ 28) then (((j : Int) + 2, 2), fl) else @ite ((Int × Int) × Int) (tk_bs fl (c (j + 1) - 25)) (Classical.propDecidable _) (((j : Int) + 2, 5), fl) (if c (j + 1) = 25 then (if c (j + 2) = 29 then tk_po c f (am_or fl (am_shl 1 (c (j + 1) - 25))) (j + 3) else (((j : Int) + 3, 2), fl)) else tk_po c f (am_or fl (am_shl 1 (c (j + 1) - 25))) (j + 2))) else if c j = 46 then ((0, 0), fl) else (((j : Int) + 1, 2), fl) := rfl
/-- frames of the rule's row -/
def tk_fr (t t2 r : Nat) (b b' : am_W) : Prop := mh_fm [t, t2] [2, 3, 4, 32] b b' ∧ (∀ m, ¬ m = 6 → b'.1 t m = b.1 t m) ∧ (∀ a, ¬ a = r → b'.1 t 6 a = b.1 t 6 a) ∧ ∀ a, ¬ a = 30 * 6 + r → b'.1 t2 a = b.1 t2 a
theorem tk_fr_t {t t2 r : Nat} {a b c : am_W} (h : tk_fr t t2 r a b) (g : tk_fr t t2 r b c) : tk_fr t t2 r a c :=
  ⟨mh_fm_t h.1 g.1, fun m q => (g.2.1 m q).trans (h.2.1 m q), fun m q => (g.2.2.1 m q).trans (h.2.2.1 m q), fun m q => (g.2.2.2 m q).trans (h.2.2.2 m q)⟩
theorem tk_fr_0 {t t2 r : Nat} {b b' : am_W} (h : mh_fm [] [2, 3, 4, 32] b b') (ht : ¬ t = 9) (ht2 : ¬ t2 = 9) : tk_fr t t2 r b b' :=
  ⟨mh_fm_m h (by simp) (by simp), fun m _ => by rw [h.1 t (by simp) ht], fun m _ => by rw [h.1 t (by simp) ht], fun m _ => by rw [h.1 t2 (by simp) ht2]⟩
theorem tk_fr_u {t t2 r k1 : Nat} {b b' : am_W} {v1 : Int} (h : tk_fr t t2 r b b') (ht : ¬ t = 9) (ht2 : ¬ t2 = 9) (hne : ¬ t2 = t) : tk_fr t t2 r b (am_up b'.1 t2 (30 * 6 + r) k1 v1, b'.2) :=
  ⟨mh_fma h.1 (by simp) ht2, fun m q => by
    show am_up b'.1 t2 _ _ _ t m = _
    (try dsimp only); rw [am_up_t (fun e => hne e.symm)]; exact h.2.1 m q, fun m q => by
    show am_up b'.1 t2 _ _ _ t 6 m = _
    (try dsimp only); rw [am_up_t (fun e => hne e.symm)]; exact h.2.2.1 m q, fun m q => by
    show am_up b'.1 t2 _ _ _ t2 m = _
    (try dsimp only); rw [am_up_j q]; exact h.2.2.2 m q⟩
theorem tk_fr_v {t t2 r : Nat} {b b' : am_W} {v1 : Int} (h : tk_fr t t2 r b b') (ht : ¬ t = 9) (hne : ¬ t2 = t) : tk_fr t t2 r b (am_up b'.1 t 6 r v1, b'.2) :=
  ⟨mh_fma h.1 (by simp) ht, fun m q => by
    show am_up b'.1 t _ _ _ t m = _
    (try dsimp only); rw [am_up_j q]; exact h.2.1 m q, fun m q => by
    show am_up b'.1 t _ _ _ t 6 m = _
    (try dsimp only); rw [am_up_k q]; exact h.2.2.1 m q, fun m q => by
    show am_up b'.1 t _ _ _ t2 m = _
    (try dsimp only); rw [am_up_t hne]; exact h.2.2.2 m q⟩
theorem tk_R_r {j : Nat} {t k : Int} {t1 : Nat} {b b' : am_W} (h : tk_R L B stop ln j t k b) (hs : ¬ t1 = 66 ∧ ¬ t1 = 9 ∧ ¬ t1 = 93 ∧ ¬ t1 = 94 ∧ ¬ t1 = 95) {jj kk : Nat} {v : Int} (e : b' = (am_up b.1 t1 jj kk v, b.2)) : tk_R L B stop ln j t k b' := by
  obtain ⟨a1, a2, a3, a4, a5, a6⟩ := h
  subst e
  have T : ∀ t', ¬ t' = t1 → am_up b.1 t1 jj kk v t' = b.1 t' := fun t' q => am_up_t q
  refine ⟨a1, fun i => ?_, ?_, fun i hi => ?_, ?_, ?_⟩
  · show _ ∧ am_up b.1 t1 jj kk v 66 0 i = _
    (try dsimp only); rw [T 66 (by omega)]; exact a2 i
  · show am_up b.1 t1 jj kk v 9 0 30 = _
    (try dsimp only); rw [T 9 (by omega)]; exact a3
  · show am_up b.1 t1 jj kk v 93 0 i = _ ∧ am_up b.1 t1 jj kk v 94 0 i = _ ∧ am_up b.1 t1 jj kk v 95 0 i = _
    (try dsimp only); rw [T 93 (by omega), T 94 (by omega), T 95 (by omega)]; exact a4 i hi
  · show am_up b.1 t1 jj kk v 9 0 32 = _
    (try dsimp only); rw [T 9 (by omega)]; exact a5
  · unfold tk_F at a6 ⊢
    show am_up b.1 t1 jj kk v 9 0 31 = _ ∧ am_up b.1 t1 jj kk v 9 0 4 = _ ∧ (_ → am_up b.1 t1 jj kk v 9 0 3 = _ ∧ am_up b.1 t1 jj kk v 9 0 2 = _) ∧ (_ → am_up b.1 t1 jj kk v 9 0 3 = _ ∧ am_up b.1 t1 jj kk v 9 0 2 = _)
    (try dsimp only); rw [T 9 (by omega)]; exact a6
theorem tk_fk {j : Nat} {t k : Int} {b : am_W} (hR : tk_R L B stop ln j t k b) : b.1 9 0 4 = k := hR.2.2.2.2.2.2.1
/-- the words so far -/
def tk_cw (L : List (Nat × Nat)) (B : Nat → Int) (r n : Nat) (b : am_W) : Prop := b.1 71 6 r = (n : Int) ∧ ∀ i, i < n → b.1 78 (30 * 6 + r) i = tk_cd L B (2 * i + 1)
theorem pX12_word {d kc ks : Nat} {Q : Option am_V → am_W → Prop} {b : am_W} {n rr : Nat} (hX : mh_st X r) (hR : tk_R L B stop ln (2 * n + 1) 0 0 b) (hr : rr < 30) (hn : n ≤ 4) (hc : tk_cw L B rr n b)
    (K : ∀ (b' : am_W) (q : Int × Int), tk_fr 71 78 rr b b' → tk_R L B stop ln (2 * n + 2) q.1 q.2 b' → ((¬ (0 ≤ tk_cd L B (2 * n + 1) ∧ tk_cd L B (2 * n + 1) ≤ 11) ∧ q = (2 * (n : Int) + 2, 2)) ∨ ((0 ≤ tk_cd L B (2 * n + 1) ∧ tk_cd L B (2 * n + 1) ≤ 11) ∧ n = 4 ∧ q = (2 * (n : Int) + 2, 6)) ∨ ((0 ≤ tk_cd L B (2 * n + 1) ∧ tk_cd L B (2 * n + 1) ≤ 11) ∧ ¬ n = 4 ∧ q = (0, 0) ∧ tk_cw L B rr (n + 1) b')) → Q none b') :
    am_M (mh_G X) SC (d + 8) kc ks mX12_word [.inr (.inr (some (9, 0))), .inl (rr : Int)] b Q := by
  obtain ⟨h71, h78⟩ := hc
  have fin : ∀ (b1 : am_W) (q : Int × Int), mh_fm [] [2, 3, 4, 32] b b1 → tk_R L B stop ln (2 * n + 1) q.1 q.2 b1 → ¬ q.2 = 0 → ((¬ (0 ≤ tk_cd L B (2 * n + 1) ∧ tk_cd L B (2 * n + 1) ≤ 11) ∧ q = (2 * (n : Int) + 2, 2)) ∨ ((0 ≤ tk_cd L B (2 * n + 1) ∧ tk_cd L B (2 * n + 1) ≤ 11) ∧ n = 4 ∧ q = (2 * (n : Int) + 2, 6))) →
      am_A (mh_G X) SC (d + 8) mX12_word Q 51 [(0, .inr (.inr (some (9, 0)))), (1, .inl (rr : Int)), (2, .inl (n : Int)), (3, .inl (tk_wo L B (2 * n + 1) 0))] [] b1 kc ks := by
    intro b1 q f1 R1 z al
    refine bX12_word_51 ?_
    (try dsimp only); rw [am_up_k (by decide), tk_fk R1]
    refine ⟨fun y => absurd y z, fun _ => ?_⟩
    (try dsimp only); rw [tk_at R1, am_w_id (z := ((2 * n + 1 : Nat) : Int) + 1) (by unfold am_rg; omega)]
    exact K _ q (tk_fr_0 (mh_fmf f1 (by decide)) (by decide) (by decide)) (tk_R_at R1 (by omega)) (al.elim Or.inl (fun y => Or.inr (Or.inl y)))
  refine am_M_of (by decide) (Nat.le_of_ble_eq_true rfl) ?_
  refine bX12_word_0 ⟨by omega, by omega, ?_⟩
  (try dsimp only); rw [Int.toNat_natCast, h71]
  refine pX12_wordOf hX hR (by decide) ?_
  refine bX12_word_18 ⟨fun c => ⟨fun c2 => ?_, fun c2 => ?_⟩, fun c => ?_⟩
  · have ki := tk_k0.mp c
    have wv := tk_wv c
    have n4 : ¬ n = 4 := by omega
    refine bX12_word_51 ?_
    (try dsimp only); rw [am_up_k (by decide), tk_fk hR]
    refine ⟨fun _ => ⟨by omega, by omega, by omega, by omega, ?_⟩, fun y => absurd rfl y⟩
    (try dsimp only); rw [tk_at hR, am_w_id (z := ((2 * n + 1 : Nat) : Int) + 1) (by unfold am_rg; omega), Int.toNat_natCast, Int.toNat_natCast, h71, am_w_id (z := (n : Int) + 1) (by unfold am_rg; omega)]
    have R1 := tk_R_at (j' := 2 * n + 2) (v := ((2 * n + 1 : Nat) : Int) + 1) hR (by omega)
    refine K _ (0, 0) (tk_fr_v (b' := (_, _)) (tk_fr_u (b' := (_, _)) (tk_fr_0 (mh_fmf mh_fm_r (by decide)) (by decide) (by decide)) (by decide) (by decide) (by decide)) (by decide) (by decide)) (tk_R_r (tk_R_r R1 (by decide) rfl) (by decide) rfl) (Or.inr (Or.inr ⟨ki, n4, rfl, ?_, fun i hi => ?_⟩))
    · dsimp only
      (try dsimp only); rw [am_up_s]; omega
    · dsimp only
      (try dsimp only); rw [am_up_t (by decide), am_up_a]
      by_cases z : i = n
      · (try dsimp only); rw [if_pos z, wv, z, show tk_ba 0 = 0 from rfl]; omega
      · (try dsimp only); rw [if_neg z, am_up_t (by decide)]; exact h78 i (by omega)
  · have ki := tk_k0.mp c
    (try dsimp only); rw [tk_at hR]
    refine pX12_fault (d := d + 6) hR ⟨by omega, by omega⟩ (by decide) (fun b1 f1 R1 => ?_)
    rw [if_pos rfl, if_pos rfl] at R1
    refine am_sub [2, 3, 1, 0] rfl (fin b1 (((2 * n + 1 : Nat) : Int) + 1, 6) f1 R1 (by dsimp only; decide) (Or.inr ⟨ki, by omega, ?_⟩))
    (try dsimp only); rw [show ((2 * n + 1 : Nat) : Int) + 1 = 2 * (n : Int) + 2 by omega]
  · have ki : ¬ (0 ≤ tk_cd L B (2 * n + 1) ∧ tk_cd L B (2 * n + 1) ≤ 11) := fun z => tk_k0.mpr z c
    (try dsimp only); rw [tk_at hR]
    refine pX12_fault (d := d + 6) hR ⟨by omega, by omega⟩ (by decide) (fun b1 f1 R1 => ?_)
    rw [if_pos rfl, if_pos rfl] at R1
    refine bX12_word_33 (fin b1 (((2 * n + 1 : Nat) : Int) + 1, 2) f1 R1 (by dsimp only; decide) (Or.inl ⟨ki, ?_⟩))
    (try dsimp only); rw [show ((2 * n + 1 : Nat) : Int) + 1 = 2 * (n : Int) + 2 by omega]
