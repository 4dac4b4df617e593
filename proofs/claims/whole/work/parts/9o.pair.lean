-- a line, class and reference
variable {SC : Nat → Nat} {X : mh_X} {r : Option am_I}
def tk_JT : List Nat := [70, 68, 69, 71, 73, 75, 78, 81, 83, 85, 87, 88, 89, 90, 91, 92, 93, 94, 95]
def tk_JF (b b' : am_W) : Prop := mh_fm tk_JT [2, 3, 4, 30, 32] b b' ∧ (∀ t m, t ∈ [68, 69, 88, 89, 90, 91, 92] → m < 6 → b'.1 t 0 m = b.1 t 0 m) ∧ (∀ t m, t ∈ [71, 73, 75, 83, 85, 87] → m < 6 → b'.1 t m = b.1 t m) ∧ ∀ t a, t ∈ [78, 81] → a < 180 → b'.1 t a = b.1 t a
theorem tk_JF_t {a b c : am_W} (h : tk_JF a b) (g : tk_JF b c) : tk_JF a c :=
  ⟨mh_fm_t h.1 g.1, fun t m q s => (g.2.1 t m q s).trans (h.2.1 t m q s), fun t m q s => (g.2.2.1 t m q s).trans (h.2.2.1 t m q s), fun t m q s => (g.2.2.2 t m q s).trans (h.2.2.2 t m q s)⟩
theorem tk_JF_ls {ts : List Nat} {b b' : am_W} (h : tk_ls ts b b') (hts : ∀ t, t ∈ ts → t ∈ tk_JT) (h1 : ∀ t m, t ∈ [68, 69, 88, 89, 90, 91, 92] → t ∈ ts → m < 6 → b'.1 t 0 m = b.1 t 0 m) (h2 : ∀ t m, t ∈ [71, 73, 75, 83, 85, 87] → t ∈ ts → m < 6 → b'.1 t m = b.1 t m) (h3 : ∀ t a, t ∈ [78, 81] → t ∈ ts → a < 180 → b'.1 t a = b.1 t a) : tk_JF b b' := by
  have n1 : ∀ t, t ∈ [68, 69, 88, 89, 90, 91, 92, 71, 73, 75, 83, 85, 87, 78, 81] → ¬ t = 93 ∧ ¬ t = 94 ∧ ¬ t = 95 ∧ ¬ t = 9 := by decide
  have no : ∀ t, t ∈ [68, 69, 88, 89, 90, 91, 92, 71, 73, 75, 83, 85, 87, 78, 81] → t ∉ ts → b'.1 t = b.1 t := fun t ht z => by
    obtain ⟨a1, a2, a3, a4⟩ := n1 t ht
    exact h.1 t (by simp only [List.mem_cons, not_or]; exact ⟨a1, a2, a3, z⟩) a4
  have s1 : ∀ t, t ∈ [68, 69, 88, 89, 90, 91, 92] → t ∈ [68, 69, 88, 89, 90, 91, 92, 71, 73, 75, 83, 85, 87, 78, 81] := by decide
  have s2 : ∀ t, t ∈ [71, 73, 75, 83, 85, 87] → t ∈ [68, 69, 88, 89, 90, 91, 92, 71, 73, 75, 83, 85, 87, 78, 81] := by decide
  have s3 : ∀ t, t ∈ [78, 81] → t ∈ [68, 69, 88, 89, 90, 91, 92, 71, 73, 75, 83, 85, 87, 78, 81] := by decide
  refine ⟨mh_fm_m h (fun t ht => ?_) (fun k hk => hk), fun t m ht hm => ?_, fun t m ht hm => ?_, fun t m ht hm => ?_⟩
  · rcases List.mem_cons.mp ht with e | ht
    · rw [e]; decide
    rcases List.mem_cons.mp ht with e | ht
    · rw [e]; decide
    rcases List.mem_cons.mp ht with e | ht
    · rw [e]; decide
    exact hts t ht
  · by_cases z : t ∈ ts
    · exact h1 t m ht z hm
    · rw [no t (s1 t ht) z]
  · by_cases z : t ∈ ts
    · exact h2 t m ht z hm
    · rw [no t (s2 t ht) z]
  · by_cases z : t ∈ ts
    · exact h3 t m ht z hm
    · rw [no t (s3 t ht) z]
theorem tk_JF_R {rr : Nat} {b b0 b1 b' : am_W} (f0 : mh_fm [93, 94, 95] [2, 3, 4, 30, 32] b b0) (fR : tk_fR rr b0 b1) (f2 : mh_fm [] [2, 3, 4, 32] b1 b') : tk_JF b b' := by
  have L1 : tk_JF b b0 := tk_JF_ls (ts := []) f0 (by simp) (fun _ _ _ h _ => absurd h (by simp)) (fun _ _ _ h _ => absurd h (by simp)) (fun _ _ _ h _ => absurd h (by simp))
  have L3 : tk_JF b1 b' := tk_JF_ls (ts := []) (mh_fm_m f2 (by simp) (by decide)) (by simp) (fun _ _ _ h _ => absurd h (by simp)) (fun _ _ _ h _ => absurd h (by simp)) (fun _ _ _ h _ => absurd h (by simp))
  have L2 : tk_JF b0 b1 := by
    obtain ⟨g1, g2, g3, g4⟩ := fR
    refine tk_JF_ls (ts := [70, 68, 71, 73, 75, 78, 81]) (mh_fm_m g1 (fun t ht => by revert ht; revert t; decide) (by decide)) (by decide) (fun t m h1 h2 h3 => ?_) (fun t m h1 h2 h3 => ?_) (fun t m h1 h2 h3 => ?_)
    · have : t = 68 := by revert h2; revert h1; revert t; decide
      rw [this]; exact (g2 m (by omega)).1
    · have : t = 71 ∨ t = 73 ∨ t = 75 := by revert h2; revert h1; revert t; decide
      obtain ⟨-, k1, k2, k3⟩ := g2 m (by omega)
      rcases this with e | e | e <;> rw [e] <;> assumption
    · have : t = 78 ∨ t = 81 := by revert h1; revert h2; revert t; decide
      obtain ⟨k1, k2⟩ := g4 m (by omega)
      rcases this with e | e <;> rw [e] <;> assumption
  exact tk_JF_t L1 (tk_JF_t L2 L3)
def tk_IT : List Nat := [10, 144, 145, 146, 147, 148, 149, 150, 151, 152, 153]
def tk_IF (l : Nat) (a a' : am_W) : Prop := (∀ t, t ∉ 2 :: 25 :: 26 :: tk_IT → a'.1 t = a.1 t) ∧ a'.2 = a.2 ∧ (∀ k, k ∉ [4, 5, 6, 8, 9] → a'.1 2 0 k = a.1 2 0 k) ∧ ∀ t, t ∈ tk_IT → ∀ j, ¬ j = l → a'.1 t j = a.1 t j
theorem tk_IF_t {l : Nat} {a b c : am_W} (h : tk_IF l a b) (g : tk_IF l b c) : tk_IF l a c :=
  ⟨fun t q => (g.1 t q).trans (h.1 t q), g.2.1.trans h.2.1, fun k q => (g.2.2.1 k q).trans (h.2.2.1 k q), fun t q j s => (g.2.2.2 t q j s).trans (h.2.2.2 t q j s)⟩
theorem tk_IF_c {ts : List Nat} {l : Nat} {a a0 w1 w' : am_W} (h0 : a0 = (am_up a.1 2 0 9 0, a.2)) (h : tk_Cf a0 w1) (g : tk_CL ts l w1 w') (hts : ∀ t, t ∈ ts → t ∈ tk_IT) : tk_IF l a w' := by
  have e0 : ∀ t, ¬ t = 2 → a0.1 t = a.1 t := fun t ht => by rw [h0]; dsimp only; rw [am_up_t ht]
  have nt : ∀ t, t ∈ tk_IT → ¬ t = 2 ∧ t ∉ [2, 25, 26] := by decide
  have sk : ∀ k, k ∈ [4, 5, 6, 9] → k ∈ [4, 5, 6, 8, 9] := by decide
  refine ⟨fun t ht => ?_, ?_, fun k hk => ?_, fun t ht j hj => ?_⟩
  · simp only [List.mem_cons, not_or] at ht
    obtain ⟨t1, t2, t3, t4⟩ := ht
    rw [g.1 t t1 (fun z => t4 (hts t z)), h.1 t (by simp only [List.mem_cons, not_or]; exact ⟨t1, t2, t3, by simp⟩), e0 t t1]
  · rw [g.2.2.1, h.2.1, h0]
  · rw [g.2.2.2 k (fun z => hk (sk k z)), h.2.2 k (fun z => hk (by rw [z]; decide)), h0]
    dsimp only
    rw [am_up_k (fun z => hk (by rw [z]; decide))]
  · obtain ⟨t1, t2⟩ := nt t ht
    by_cases z : t ∈ ts
    · rw [g.2.1 t z j hj, h.1 t t2, e0 t t1]
    · rw [g.1 t t1 z, h.1 t t2, e0 t t1]
theorem tk_F0 {ln t k : Int} {J : Nat → Nat → Nat → Int} (h : tk_F ln t k J) (z : k = 0) : tk_F ln 0 0 J := ⟨h.1, h.2.1.trans z, fun y => absurd rfl y, fun _ => h.2.2.2 z⟩
theorem tk_fl2 {L : List (Nat × Nat)} {B : Nat → Int} {ln : Int} {p : Nat} {w : am_W} {k : Int} (h : tk_K L B ln p w) (hp : p ≤ 3000) (ts : List Nat) (l : Nat) (h2 : 2 ∉ ts) :
    tk_CL ts l w (am_up (am_up (am_up w.1 2 0 4 (w.1 2 0 7)) 2 0 5 (am_w (((am_up w.1 2 0 4 (w.1 2 0 7)) 2 0 9) + 1))) 2 0 6 k, w.2) ∧ tk_G ln ((p : Int) + 1) k (am_up (am_up (am_up w.1 2 0 4 (w.1 2 0 7)) 2 0 5 (am_w (((am_up w.1 2 0 4 (w.1 2 0 7)) 2 0 9) + 1))) 2 0 6 k, w.2) := by
  obtain ⟨a1, a2, a3, -⟩ := h
  refine ⟨tk_CL_2 (b := (_, _)) (tk_CL_2 (b := (_, _)) (tk_CL_2 tk_CL_r (by decide) h2) (by decide) h2) (by decide) h2, ?_, ?_, (by (try dsimp only); rw [am_up_s])⟩
  · dsimp only
    rw [am_up_k (by decide), am_up_k (by decide), am_up_s]; exact a3.1
  · dsimp only
    rw [am_up_k (by decide), am_up_s, am_up_k (by decide), a1, am_w_id (z := (p : Int) + 1) (by unfold am_rg; omega)]
/-- what is wanted of a line -/
def tk_ln (SC : Nat → Nat) (X : mh_X) (l start stop : Nat) (ln : Int) (a a' : am_W) (v : Int) : Prop :=
  tk_IF l a a' ∧ (v = 0 ∨ v = 1) ∧ (v = 1 → tk_Z a' ∧ ∃ rr' fe' : Nat, (a'.1 10 l 10 = (rr' : Int) ∧ rr' ≤ 30) ∧ a'.1 10 l 11 = (fe' : Int) ∧ fe' ≤ 8) ∧
  ∀ b : am_W, mh_La a.1 b.1 l 6 → (∀ i, b.1 66 0 i = tk_sb (a.1 24 0 i)) → tk_F ln 0 0 b.1 → ∀ (d' kc' ks' : Nat) (Q' : Option am_V → am_W → Prop), (∀ b' : am_W, tk_JF b b' → (v = 0 → ∃ t k, ¬ k = 0 ∧ tk_F ln t k b'.1 ∧ tk_G ln t k a') → (v = 1 → tk_F ln 0 0 b'.1 ∧ mh_La a'.1 b'.1 l 6) → Q' none b') → am_M (mh_G X) SC (d' + 11) kc' ks' mX12_reads [.inr (.inr (some (9, 0))), .inl (start : Int), .inl (stop : Int)] b Q'
theorem pX8_readLine {d kc ks : Nat} {Q : Option am_V → am_W → Prop} {a : am_W} {l start stop rr fe : Nat} {ln : Int} (hX : mh_st X r) (hs : start ≤ stop ∧ stop ≤ 3000) (hB : ∀ i, 0 ≤ a.1 24 0 i ∧ a.1 24 0 i < 256) (hZ : tk_Z a) (h7 : a.1 2 0 7 = ln) (h10 : a.1 10 l 10 = (rr : Int)) (hr : rr ≤ 30) (h11 : a.1 10 l 11 = (fe : Int)) (hfe : fe ≤ 8)
    (K : ∀ (v : Int) (a' : am_W), tk_ln SC X l start stop ln a a' v → Q (some (.inl v)) a') : am_M (mh_G X) SC (d + 10) kc ks mX8_readLine [.inr (.inr (some (2, 0))), .inr (.inr (some (10, l))), .inl (start : Int), .inl (stop : Int)] a Q := by
  obtain ⟨a0, ha0⟩ : ∃ a0 : am_W, a0 = (am_up a.1 2 0 9 0, a.2) := ⟨_, rfl⟩
  have e0 : ∀ t, ¬ t = 2 → a0.1 t = a.1 t := fun t ht => by rw [ha0]; dsimp only; rw [am_up_t ht]
  refine am_M_of (by decide) (Nat.le_of_ble_eq_true rfl) ?_
  refine bX8_readLine_0 ?_
  rw [← ha0]
  refine pX8_findTokens (d := d) hX hs (fun v w1 f1 c1 v01 vF => ?_)
  rw [e0 24 (by decide)] at c1 vF
  obtain ⟨B, hBB⟩ : ∃ B, B = a.1 24 0 := ⟨_, rfl⟩
  rw [← hBB] at c1 vF hB
  obtain ⟨L, hL⟩ : ∃ L, L = tk_l B stop (stop - start) start := ⟨_, rfl⟩
  rw [← hL] at c1
  have Lk := tk_l_ok (B := B) (stop := stop) (n := stop - start) (i := start)
  rw [← hL] at Lk
  have l3 : L.length ≤ 3000 := by omega
  have L0 : L.length = 0 → tk_cd L B 0 = 46 := fun h => tk_cd46.mpr (by omega)
  have cK : ∀ p : Nat, w1.1 2 0 9 = (p : Int) → tk_K L B ln p w1 := fun p hp => by
    refine ⟨hp, c1.1, ⟨?_, fun k q => ?_⟩, fun j hj h64 => ?_⟩
    · rw [f1.2.2 7 (by decide), ha0]; dsimp only; rw [am_up_k (by decide)]; exact h7
    · rw [f1.2.2 k (fun e => by rw [e] at q; revert q; decide), ha0]; dsimp only; rw [am_up_k (fun e : k = 9 => by rw [e] at q; revert q; decide)]; exact hZ k q
    · obtain ⟨x1, x2⟩ := c1.2 j hj h64
      rw [x1, x2]
      unfold tk_cd tk_vl
      rw [if_pos hj, if_pos hj]
      exact ⟨rfl, rfl⟩
  have w9 : w1.1 2 0 9 = ((0 : Nat) : Int) := by rw [f1.2.2 9 (by decide), ha0]; dsimp only; rw [am_up_s]; rfl
  have K0 := cK 0 w9
  have wI : ∀ t, t ∈ tk_IT → w1.1 t = a.1 t := fun t ht => by
    have nt : ∀ t, t ∈ tk_IT → ¬ t = 2 ∧ t ∉ [2, 25, 26] := by decide
    rw [f1.1 t (nt t ht).2, e0 t (nt t ht).1]
  have w10 : w1.1 10 l 10 = (rr : Int) := by rw [wI 10 (by decide)]; exact h10
  have w11 : w1.1 10 l 11 = (fe : Int) := by rw [wI 10 (by decide)]; exact h11
  have La1 : ∀ b : am_W, mh_La a.1 b.1 l 6 → mh_La w1.1 b.1 l 6 := fun b h => mh_La_s (l' := l) (m' := 6) h (fun t ht => wI t ht) (fun _ _ => rfl)
  have B6 : ∀ b : am_W, (∀ i, b.1 66 0 i = tk_sb (a.1 24 0 i)) → ∀ i, (0 ≤ B i ∧ B i < 256) ∧ b.1 66 0 i = tk_sb (B i) := fun b h i => ⟨hB i, by rw [hBB]; exact h i⟩
  have r68 : ∀ b : am_W, mh_La a.1 b.1 l 6 → b.1 68 0 6 = (rr : Int) := fun b h => h.1.1.trans h10
  have r69 : ∀ b : am_W, mh_La a.1 b.1 l 6 → b.1 69 0 6 = (fe : Int) := fun b h => h.2.2.1.1.1.trans h11
  have J0 : ∀ b b' : am_W, tk_ls [] b b' → tk_JF b b' := fun b b' h => tk_JF_ls h (by simp) (fun _ _ _ h _ => absurd h (by simp)) (fun _ _ _ h _ => absurd h (by simp)) (fun _ _ _ h _ => absurd h (by simp))
  by_cases yT : tk_f B stop (stop - start) start
  · have v0 := vF.mpr yT
    subst v0
    refine bX8_readLine_11 ⟨fun y => absurd rfl y, fun _ => ?_⟩
    rw [c1.1]
    have K2 : tk_K L B ln L.length (am_up w1.1 2 0 9 (L.length : Int), w1.2) := tk_K_9 (w := w1) K0 rfl
    have G := tk_fl2 (k := 1) K2 l3 [] l (by simp)
    have F2 : tk_CL [] l w1 (am_up w1.1 2 0 9 (L.length : Int), w1.2) := tk_CL_2 tk_CL_r (by decide) (by simp)
    refine K 0 _ ⟨tk_IF_c ha0 f1 (tk_CL_t F2 G.1) (by simp), Or.inl rfl, fun h => absurd h (by decide), fun b La h66 hF d' kc' ks' Q' KQ => ?_⟩
    exact pX12_reads (d := d') (L := L) (B := B) hX hs (B6 b h66) hF (r68 b La) hr (r69 b La) hfe hL (fun _ b' f t => KQ b' (J0 b b' f) (fun _ => ⟨_, _, by decide, t, G.2⟩) (fun h => absurd h (by decide)))
      (fun n => absurd yT n) (fun n => absurd yT n) (fun n => absurd yT n) (fun n => absurd yT n) (fun n => absurd yT n) (fun n => absurd yT n) (fun n => absurd yT n)
  have v1 : v = 1 := v01.resolve_left (fun z => yT (vF.mp z))
  subst v1
  have G12 := tk_fl1 (k := 2) K0 (by decide) [] l (by simp)
  have ec : (if (0 : Int) < 0 then (46 : Int) else (if w1.1 2 0 8 ≤ (0 : Int) then 46 else (if 64 ≤ (0 : Int) then 46 else w1.1 25 0 0))) = tk_cd L B 0 := by
    rw [c1.1]; exact tk_cy (x := 0) (p := 0) (by decide) rfl (tk_Kc K0 0 (by decide))
  obtain ⟨c0, hc0⟩ : ∃ c0, c0 = tk_cd L B 0 := ⟨_, rfl⟩
  -- a word that can't begin a line
  have bad : ¬ c0 = 30 → ¬ c0 = 34 → ¬ c0 = 32 → ¬ c0 = 36 → ¬ c0 = 37 → ¬ c0 = 38 → ¬ c0 = 46 → Q (some (.inl 0)) (am_up (am_up (am_up w1.1 2 0 4 (w1.1 2 0 7)) 2 0 5 (am_w (((am_up w1.1 2 0 4 (w1.1 2 0 7)) 2 0 9) + 1))) 2 0 6 2, w1.2) := by
    intro n1 n2 n3 n4 n5 n6 n7
    rw [hc0] at n1 n2 n3 n4 n5 n6 n7
    refine K 0 _ ⟨tk_IF_c ha0 f1 G12.1 (by simp), Or.inl rfl, fun h => absurd h (by decide), fun b La h66 hF d' kc' ks' Q' KQ => ?_⟩
    refine pX12_reads (d := d') (L := L) (B := B) hX hs (B6 b h66) hF (r68 b La) hr (r69 b La) hfe hL (fun n => absurd n yT)
      (fun _ h => absurd (L0 h) n7) (fun _ h => absurd h n1) (fun _ h => absurd h n2) (fun _ h => absurd h n3) (fun _ h => absurd h n4) (fun _ h => absurd h n5) (fun _ _ _ _ _ _ _ b' f o t k => ?_)
    have e : tk_ch (tk_lw (tk_cd L B) (tk_vl L B) ++ [(tk_cd L B 3 = 46, 4, 2)]) = (1, 2) := by
      unfold tk_lw
      simp only [List.cons_append]
      rw [tk_ch_n n6]
    rw [e] at t
    refine KQ b' (tk_JF_ls f (by decide) (fun t m h1 h2 h3 => ?_) (fun t m h1 h2 h3 => absurd h2 (by revert h1; revert t; decide)) (fun t m h1 h2 h3 => absurd h2 (by revert h1; revert t; decide))) (fun _ => ⟨1, 2, by decide, t, G12.2⟩) (fun h => absurd h (by decide))
    have : t = 92 := by simp at h2; exact h2
    rw [this]; exact o m (by omega)
  refine bX8_readLine_11 ⟨fun _ => ?_, fun y => absurd y (by decide)⟩
  rw [ec, ← hc0]
  refine ⟨fun _ _ _ => by decide, fun _ _ _ => by decide, fun c => bad (by omega) (by omega) (by omega) (by omega) (by omega) (by omega) (by omega), fun c => ?_, fun c => bad (by omega) (by omega) (by omega) (by omega) (by omega) (by omega) (by omega), fun c => ?_, fun c => bad (by omega) (by omega) (by omega) (by omega) (by omega) (by omega) (by omega), fun c => ?_,
    fun c => bad (by omega) (by omega) (by omega) (by omega) (by omega) (by omega) (by omega), fun c => ?_, fun c => ?_, fun c => ?_, fun c => bad (by omega) (by omega) (by omega) (by omega) (by omega) (by omega) (by omega), fun c => bad (by omega) (by omega) (by omega) (by omega) (by omega) (by omega) (by omega), fun c => bad (by omega) (by omega) (by omega) (by omega) (by omega) (by omega) (by omega), fun c => bad (by omega) (by omega) (by omega) (by omega) (by omega) (by omega) (by omega), fun c => bad (by omega) (by omega) (by omega) (by omega) (by omega) (by omega) (by omega), fun c => bad (by omega) (by omega) (by omega) (by omega) (by omega) (by omega) (by omega), fun c => bad (by omega) (by omega) (by omega) (by omega) (by omega) (by omega) (by omega), fun c => ?_⟩
  · -- for
    rw [hc0] at c
    refine pX8_readRule (d := d + 4) K0 hr w10 (fun v w2 RF al => bX8_readLine_123 ?_)
    rcases al with ⟨ve, z, e1, e2, e3, e4, zz0⟩ | ⟨ve, z, g⟩
    · subst ve
      have rn := (tk_ru_b z).1
      refine ⟨Or.inr rfl, K 1 w2 ⟨tk_IF_c ha0 f1 RF.1 (by decide), Or.inr rfl, fun _ => ⟨zz0, rr + 1, fe, ⟨by rw [e1]; omega, by omega⟩, by rw [RF.2.1 11 (by decide)]; exact w11, hfe⟩, fun b La h66 hF d' kc' ks' Q' KQ => ?_⟩⟩
      refine pX12_reads (d := d') (L := L) (B := B) hX hs (B6 b h66) hF (r68 b La) hr (r69 b La) hfe hL (fun n => absurd n yT)
        (fun _ h => absurd (L0 h) (by omega)) (fun _ _ b0 b1 b' p0 pR p2 t k => ?_) (fun _ h => absurd h (by omega)) (fun _ h => absurd h (by omega)) (fun _ h => absurd h (by omega)) (fun _ h => absurd h (by omega)) (fun _ _ h => absurd c h)
      obtain ⟨k1, k2, k3, k4, k5⟩ := k z
      have P0 : ∀ t, t ∈ [69, 83, 85, 87, 88, 89, 90, 91, 92, 71, 73, 75, 78, 81] → b0.1 t = b.1 t := fun t ht => p0.1 t (by revert ht; revert t; decide) (by revert ht; revert t; decide)
      have P2 : ∀ t, t ∈ [69, 83, 85, 87, 88, 89, 90, 91, 92, 71, 73, 75, 78, 81] → b'.1 t = b1.1 t := fun t ht => p2.1 t (by simp) (by revert ht; revert t; decide)
      have P1 : ∀ t, t ∈ [69, 83, 85, 87, 88, 89, 90, 91, 92] → b1.1 t = b0.1 t := fun t ht => pR.1.1 t (by revert ht; revert t; decide) (by revert ht; revert t; decide)
      refine KQ b' (tk_JF_R p0 pR p2) (fun h => absurd h (by decide)) (fun _ => ⟨tk_F0 t z, La_rule (La1 b La) RF w10 z hr (fun t ht => ?_) (fun x hx => ?_) (fun x hx => ?_) e1 e2 e3 e4 k2 k3 k4 k5⟩)
      · rw [P2 t (by revert ht; revert t; decide), P1 t ht, P0 t (by revert ht; revert t; decide)]
      · obtain ⟨q1, q2, q3⟩ := pR.2.2.1 x hx
        rw [P2 71 (by decide), P2 73 (by decide), P2 75 (by decide), q1, q2, q3, P0 71 (by decide), P0 73 (by decide), P0 75 (by decide)]
        exact ⟨rfl, rfl, rfl⟩
      · obtain ⟨q1, q2⟩ := pR.2.2.2 x hx
        rw [P2 78 (by decide), P2 81 (by decide), q1, q2, P0 78 (by decide), P0 81 (by decide)]
        exact ⟨rfl, rfl⟩
    · subst ve
      refine ⟨Or.inl rfl, K 0 w2 ⟨tk_IF_c ha0 f1 RF.1 (by decide), Or.inl rfl, fun h => absurd h (by decide), fun b La h66 hF d' kc' ks' Q' KQ => ?_⟩⟩
      exact pX12_reads (d := d') (L := L) (B := B) hX hs (B6 b h66) hF (r68 b La) hr (r69 b La) hfe hL (fun n => absurd n yT)
        (fun _ h => absurd (L0 h) (by omega)) (fun _ _ b0 b1 b' p0 pR p2 t k => KQ b' (tk_JF_R p0 pR p2) (fun _ => ⟨_, _, z, t, g⟩) (fun h => absurd h (by decide))) (fun _ h => absurd h (by omega)) (fun _ h => absurd h (by omega)) (fun _ h => absurd h (by omega)) (fun _ h => absurd h (by omega)) (fun _ _ h => absurd c h)
  · -- may
    rw [hc0] at c
    refine pX8_readMay (d := d + 5) K0 (fun v w2 CF al => bX8_readLine_129 ?_)
    have JM : ∀ b b' : am_W, tk_ls [83] b b' → (∀ m, ¬ m = 6 → b'.1 83 m = b.1 83 m) → tk_JF b b' := fun b b' f o => tk_JF_ls f (by decide) (fun t m h1 h2 h3 => absurd h2 (by revert h1; revert t; decide)) (fun t m h1 h2 h3 => by
      have : t = 83 := by simp at h2; exact h2
      rw [this]; exact o m (by omega)) (fun t m h1 h2 h3 => absurd h2 (by revert h1; revert t; decide))
    rcases al with ⟨ve, z, zz0, e1⟩ | ⟨ve, z, g⟩
    · subst ve
      refine ⟨Or.inr rfl, K 1 w2 ⟨tk_IF_c ha0 f1 CF (by decide), Or.inr rfl, fun _ => ⟨zz0, rr, fe, ⟨by rw [CF.1 10 (by decide) (by decide)]; exact w10, hr⟩, by rw [CF.1 10 (by decide) (by decide)]; exact w11, hfe⟩, fun b La h66 hF d' kc' ks' Q' KQ => ?_⟩⟩
      have zz := z
      rw [tk_ch_z (by unfold tk_lm; simp)] at zz
      refine pX12_reads (d := d') (L := L) (B := B) hX hs (B6 b h66) hF (r68 b La) hr (r69 b La) hfe hL (fun n => absurd n yT)
        (fun _ h => absurd (L0 h) (by omega)) (fun _ h => absurd h (by omega)) (fun _ h => absurd h (by omega)) (fun _ _ b' f o t k => ?_) (fun _ h => absurd h (by omega)) (fun _ h => absurd h (by omega)) (fun _ _ _ _ h => absurd c h)
      exact KQ b' (JM b b' f o) (fun h => absurd h (by decide)) (fun _ => ⟨tk_F0 t z, La_may (La1 b La) CF f (zz (21 ≤ tk_cd L B 1 ∧ tk_cd L B 1 ≤ 24, 2, 2) (by unfold tk_lm; simp)) (zz (tk_st (tk_cd L B 3), 4, 2) (by unfold tk_lm; simp)) e1 (k z)⟩)
    · subst ve
      refine ⟨Or.inl rfl, K 0 w2 ⟨tk_IF_c ha0 f1 CF (by decide), Or.inl rfl, fun h => absurd h (by decide), fun b La h66 hF d' kc' ks' Q' KQ => ?_⟩⟩
      exact pX12_reads (d := d') (L := L) (B := B) hX hs (B6 b h66) hF (r68 b La) hr (r69 b La) hfe hL (fun n => absurd n yT)
        (fun _ h => absurd (L0 h) (by omega)) (fun _ h => absurd h (by omega)) (fun _ h => absurd h (by omega)) (fun _ _ b' f o t k => KQ b' (JM b b' f o) (fun _ => ⟨_, _, z, t, g⟩) (fun h => absurd h (by decide))) (fun _ h => absurd h (by omega)) (fun _ h => absurd h (by omega)) (fun _ _ _ _ h => absurd c h)
  · -- feast
    rw [hc0] at c
    refine pX8_readFeast (d := d + 5) K0 hfe w11 (fun v w2 CF al => bX8_readLine_135 ?_)
    have JM : ∀ b b' : am_W, tk_ls [69, 85, 87] b b' → (∀ m, ¬ m = 6 → b'.1 69 0 m = b.1 69 0 m ∧ b'.1 85 m = b.1 85 m ∧ b'.1 87 m = b.1 87 m) → tk_JF b b' := fun b b' f o => tk_JF_ls f (by decide) (fun t m h1 h2 h3 => by
      have : t = 69 := by revert h2; revert h1; revert t; decide
      rw [this]; exact (o m (by omega)).1) (fun t m h1 h2 h3 => by
      have : t = 85 ∨ t = 87 := by revert h2; revert h1; revert t; decide
      obtain ⟨-, k1, k2⟩ := o m (by omega)
      rcases this with e | e <;> rw [e] <;> assumption) (fun t m h1 h2 h3 => absurd h2 (by revert h1; revert t; decide))
    rcases al with ⟨ve, z, zz0, ⟨e1, e0'⟩, e3, e4⟩ | ⟨ve, z, g⟩
    · subst ve
      have zz := z
      rw [tk_ch_z (by unfold tk_lf; simp)] at zz
      have f8 : ¬ fe = 8 := zz (¬ fe = 8, 1, 6) (by unfold tk_lf; simp)
      have x1 : 1 ≤ tk_vl L B 1 ∧ tk_vl L B 1 ≤ 12 := zz (1 ≤ tk_vl L B 1 ∧ tk_vl L B 1 ≤ 12, 2, 3) (by unfold tk_lf; simp)
      have x2 : 1 ≤ tk_vl L B 3 ∧ tk_vl L B 3 ≤ tk_len (tk_vl L B 1) := zz (1 ≤ tk_vl L B 3 ∧ tk_vl L B 3 ≤ tk_len (tk_vl L B 1), 4, 3) (by unfold tk_lf; simp)
      have x3 : tk_st (tk_cd L B 5) := zz (tk_st (tk_cd L B 5), 6, 2) (by unfold tk_lf; simp)
      have lb := tk_len_b (tk_vl L B 1)
      unfold tk_st at x3
      refine ⟨Or.inr rfl, K 1 w2 ⟨tk_IF_c ha0 f1 CF (by decide), Or.inr rfl, fun _ => ⟨zz0, rr, fe + 1, ⟨by rw [e0' 10 (by decide)]; exact w10, hr⟩, by rw [e1]; omega, by omega⟩, fun b La h66 hF d' kc' ks' Q' KQ => ?_⟩⟩
      refine pX12_reads (d := d') (L := L) (B := B) hX hs (B6 b h66) hF (r68 b La) hr (r69 b La) hfe hL (fun n => absurd n yT)
        (fun _ h => absurd (L0 h) (by omega)) (fun _ h => absurd h (by omega)) (fun _ _ b' f o t k => ?_) (fun _ h => absurd h (by omega)) (fun _ h => absurd h (by omega)) (fun _ h => absurd h (by omega)) (fun _ _ _ h => absurd c h)
      obtain ⟨k1, k2, k3⟩ := k z
      exact KQ b' (JM b b' f o) (fun h => absurd h (by decide)) (fun _ => ⟨tk_F0 t z, La_feast (z := tk_cd L B 5 - 12) (La1 b La) CF f (by omega) w11 ⟨x1, x2.1, by omega⟩ (by omega) e1 e0' e3 e4 k1 k2 k3⟩)
    · subst ve
      refine ⟨Or.inl rfl, K 0 w2 ⟨tk_IF_c ha0 f1 CF (by decide), Or.inl rfl, fun h => absurd h (by decide), fun b La h66 hF d' kc' ks' Q' KQ => ?_⟩⟩
      exact pX12_reads (d := d') (L := L) (B := B) hX hs (B6 b h66) hF (r68 b La) hr (r69 b La) hfe hL (fun n => absurd n yT)
        (fun _ h => absurd (L0 h) (by omega)) (fun _ h => absurd h (by omega)) (fun _ _ b' f o t k => KQ b' (JM b b' f o) (fun _ => ⟨_, _, z, t, g⟩) (fun h => absurd h (by decide))) (fun _ h => absurd h (by omega)) (fun _ h => absurd h (by omega)) (fun _ h => absurd h (by omega)) (fun _ _ _ h => absurd c h)
  · -- heir
    rw [hc0] at c
    refine pX8_readHeir (d := d + 5) K0 (fun v w2 CF al => bX8_readLine_141 ?_)
    have JM : ∀ b b' : am_W, tk_ls [88, 89] b b' → (∀ m, ¬ m = 6 → b'.1 88 0 m = b.1 88 0 m ∧ b'.1 89 0 m = b.1 89 0 m) → tk_JF b b' := fun b b' f o => tk_JF_ls f (by decide) (fun t m h1 h2 h3 => by
      have : t = 88 ∨ t = 89 := by revert h2; revert h1; revert t; decide
      obtain ⟨k1, k2⟩ := o m (by omega)
      rcases this with e | e <;> rw [e] <;> assumption) (fun t m h1 h2 h3 => absurd h2 (by revert h1; revert t; decide)) (fun t m h1 h2 h3 => absurd h2 (by revert h1; revert t; decide))
    rcases al with ⟨ve, z, zz0, e1, e0'⟩ | ⟨ve, z, g⟩
    · subst ve
      have zz := z
      rw [tk_ch_z (by unfold tk_lh; simp)] at zz
      have x1 : 1 ≤ tk_vl L B 1 ∧ tk_vl L B 1 ≤ 400 := zz (1 ≤ tk_vl L B 1 ∧ tk_vl L B 1 ≤ 400, 2, 3) (by unfold tk_lh; simp)
      have x3 : tk_st (tk_cd L B 4) := zz (tk_st (tk_cd L B 4), 5, 2) (by unfold tk_lh; simp)
      unfold tk_st at x3
      refine ⟨Or.inr rfl, K 1 w2 ⟨tk_IF_c ha0 f1 CF (by decide), Or.inr rfl, fun _ => ⟨zz0, rr, fe, ⟨by rw [e0' 10 (by decide) (by decide)]; exact w10, hr⟩, by rw [e0' 11 (by decide) (by decide)]; exact w11, hfe⟩, fun b La h66 hF d' kc' ks' Q' KQ => ?_⟩⟩
      refine pX12_reads (d := d') (L := L) (B := B) hX hs (B6 b h66) hF (r68 b La) hr (r69 b La) hfe hL (fun n => absurd n yT)
        (fun _ h => absurd (L0 h) (by omega)) (fun _ h => absurd h (by omega)) (fun _ h => absurd h (by omega)) (fun _ h => absurd h (by omega)) (fun _ _ b' f o t k => ?_) (fun _ h => absurd h (by omega)) (fun _ _ _ _ _ h => absurd c h)
      exact KQ b' (JM b b' f o) (fun h => absurd h (by decide)) (fun _ => ⟨tk_F0 t z, La_heir (La1 b La) CF f x1 (by omega) e1 e0' (k z)⟩)
    · subst ve
      refine ⟨Or.inl rfl, K 0 w2 ⟨tk_IF_c ha0 f1 CF (by decide), Or.inl rfl, fun h => absurd h (by decide), fun b La h66 hF d' kc' ks' Q' KQ => ?_⟩⟩
      exact pX12_reads (d := d') (L := L) (B := B) hX hs (B6 b h66) hF (r68 b La) hr (r69 b La) hfe hL (fun n => absurd n yT)
        (fun _ h => absurd (L0 h) (by omega)) (fun _ h => absurd h (by omega)) (fun _ h => absurd h (by omega)) (fun _ h => absurd h (by omega)) (fun _ _ b' f o t k => KQ b' (JM b b' f o) (fun _ => ⟨_, _, z, t, g⟩) (fun h => absurd h (by decide))) (fun _ h => absurd h (by omega)) (fun _ _ _ _ _ h => absurd c h)
  · -- under
    rw [hc0] at c
    refine pX8_readUnder (d := d + 5) K0 (fun v w2 CF al => bX8_readLine_147 ?_)
    have JM : ∀ b b' : am_W, tk_ls [90, 91] b b' → (∀ m, ¬ m = 6 → b'.1 90 0 m = b.1 90 0 m ∧ b'.1 91 0 m = b.1 91 0 m) → tk_JF b b' := fun b b' f o => tk_JF_ls f (by decide) (fun t m h1 h2 h3 => by
      have : t = 90 ∨ t = 91 := by revert h2; revert h1; revert t; decide
      obtain ⟨k1, k2⟩ := o m (by omega)
      rcases this with e | e <;> rw [e] <;> assumption) (fun t m h1 h2 h3 => absurd h2 (by revert h1; revert t; decide)) (fun t m h1 h2 h3 => absurd h2 (by revert h1; revert t; decide))
    rcases al with ⟨ve, z, zz0, e1, e0'⟩ | ⟨ve, z, g⟩
    · subst ve
      have zz := z
      rw [tk_ch_z (by unfold tk_lu; simp)] at zz
      have x1 : 1 ≤ tk_vl L B 1 ∧ tk_vl L B 1 ≤ 30 := zz (1 ≤ tk_vl L B 1 ∧ tk_vl L B 1 ≤ 30, 2, 3) (by unfold tk_lu; simp)
      have x3 : tk_st (tk_cd L B 3) := zz (tk_st (tk_cd L B 3), 4, 2) (by unfold tk_lu; simp)
      unfold tk_st at x3
      refine ⟨Or.inr rfl, K 1 w2 ⟨tk_IF_c ha0 f1 CF (by decide), Or.inr rfl, fun _ => ⟨zz0, rr, fe, ⟨by rw [e0' 10 (by decide) (by decide)]; exact w10, hr⟩, by rw [e0' 11 (by decide) (by decide)]; exact w11, hfe⟩, fun b La h66 hF d' kc' ks' Q' KQ => ?_⟩⟩
      refine pX12_reads (d := d') (L := L) (B := B) hX hs (B6 b h66) hF (r68 b La) hr (r69 b La) hfe hL (fun n => absurd n yT)
        (fun _ h => absurd (L0 h) (by omega)) (fun _ h => absurd h (by omega)) (fun _ h => absurd h (by omega)) (fun _ h => absurd h (by omega)) (fun _ h => absurd h (by omega)) (fun _ _ b' f o t k => ?_) (fun _ _ _ _ _ _ h => absurd c h)
      exact KQ b' (JM b b' f o) (fun h => absurd h (by decide)) (fun _ => ⟨tk_F0 t z, La_under (La1 b La) CF f x1 (by omega) e1 e0' (k z)⟩)
    · subst ve
      refine ⟨Or.inl rfl, K 0 w2 ⟨tk_IF_c ha0 f1 CF (by decide), Or.inl rfl, fun h => absurd h (by decide), fun b La h66 hF d' kc' ks' Q' KQ => ?_⟩⟩
      exact pX12_reads (d := d') (L := L) (B := B) hX hs (B6 b h66) hF (r68 b La) hr (r69 b La) hfe hL (fun n => absurd n yT)
        (fun _ h => absurd (L0 h) (by omega)) (fun _ h => absurd h (by omega)) (fun _ h => absurd h (by omega)) (fun _ h => absurd h (by omega)) (fun _ h => absurd h (by omega)) (fun _ _ b' f o t k => KQ b' (JM b b' f o) (fun _ => ⟨_, _, z, t, g⟩) (fun h => absurd h (by decide))) (fun _ _ _ _ _ _ h => absurd c h)
  · -- wedding
    rw [hc0] at c
    refine pX8_readWedding (d := d + 5) K0 c (fun v w2 CF al => bX8_readLine_153 ?_)
    have JM : ∀ b b' : am_W, tk_ls [92] b b' → (∀ m, ¬ m = 6 → b'.1 92 0 m = b.1 92 0 m) → tk_JF b b' := fun b b' f o => tk_JF_ls f (by decide) (fun t m h1 h2 h3 => by
      have : t = 92 := by simp at h2; exact h2
      rw [this]; exact o m (by omega)) (fun t m h1 h2 h3 => absurd h2 (by revert h1; revert t; decide)) (fun t m h1 h2 h3 => absurd h2 (by revert h1; revert t; decide))
    rcases al with ⟨ve, z, zz0, e1, e0'⟩ | ⟨ve, z, g⟩
    · subst ve
      have zz := z
      rw [tk_ch_z (by unfold tk_lw; simp)] at zz
      have x3 : tk_st (tk_cd L B 2) := zz (tk_st (tk_cd L B 2), 3, 2) (by unfold tk_lw; simp)
      unfold tk_st at x3
      refine ⟨Or.inr rfl, K 1 w2 ⟨tk_IF_c ha0 f1 CF (by decide), Or.inr rfl, fun _ => ⟨zz0, rr, fe, ⟨by rw [e0' 10 (by decide)]; exact w10, hr⟩, by rw [e0' 11 (by decide)]; exact w11, hfe⟩, fun b La h66 hF d' kc' ks' Q' KQ => ?_⟩⟩
      refine pX12_reads (d := d') (L := L) (B := B) hX hs (B6 b h66) hF (r68 b La) hr (r69 b La) hfe hL (fun n => absurd n yT)
        (fun _ h => absurd (L0 h) (by omega)) (fun _ h => absurd h (by omega)) (fun _ h => absurd h (by omega)) (fun _ h => absurd h (by omega)) (fun _ h => absurd h (by omega)) (fun _ h => absurd h (by omega)) (fun _ _ _ _ _ _ _ b' f o t k => ?_)
      exact KQ b' (JM b b' f o) (fun h => absurd h (by decide)) (fun _ => ⟨tk_F0 t z, La_wed (y := tk_cd L B 2 - 12) (La1 b La) CF f (by omega) e1 e0' (k z)⟩)
    · subst ve
      refine ⟨Or.inl rfl, K 0 w2 ⟨tk_IF_c ha0 f1 CF (by decide), Or.inl rfl, fun h => absurd h (by decide), fun b La h66 hF d' kc' ks' Q' KQ => ?_⟩⟩
      exact pX12_reads (d := d') (L := L) (B := B) hX hs (B6 b h66) hF (r68 b La) hr (r69 b La) hfe hL (fun n => absurd n yT)
        (fun _ h => absurd (L0 h) (by omega)) (fun _ h => absurd h (by omega)) (fun _ h => absurd h (by omega)) (fun _ h => absurd h (by omega)) (fun _ h => absurd h (by omega)) (fun _ h => absurd h (by omega)) (fun _ _ _ _ _ _ _ b' f o t k => KQ b' (JM b b' f o) (fun _ => ⟨_, _, z, t, g⟩) (fun h => absurd h (by decide)))
  · -- nothing
    rw [hc0] at c
    have l0 : L.length ≤ 0 := tk_cd46.mp c
    refine K 1 w1 ⟨tk_IF_c (ts := []) ha0 f1 tk_CL_r (by simp), Or.inr rfl, fun _ => ⟨K0.2.2.1.2, rr, fe, ⟨w10, hr⟩, w11, hfe⟩, fun b La h66 hF d' kc' ks' Q' KQ => ?_⟩
    exact pX12_reads (d := d') (L := L) (B := B) hX hs (B6 b h66) hF (r68 b La) hr (r69 b La) hfe hL (fun n => absurd n yT)
      (fun _ _ b' f t => KQ b' (J0 b b' f) (fun h => absurd h (by decide)) (fun _ => ⟨t, mh_La_s (l' := l) (m' := 6) (La1 b La) (fun _ _ => rfl) (fun t ht => f.1 t (by revert ht; revert t; decide) (by revert ht; revert t; decide))⟩))
      (fun _ h => absurd h (by omega)) (fun _ h => absurd h (by omega)) (fun _ h => absurd h (by omega)) (fun _ h => absurd h (by omega)) (fun _ h => absurd h (by omega)) (fun _ h => absurd (by omega) h)
