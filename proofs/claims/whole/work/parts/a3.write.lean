-- WRITE: class call against reference call
variable {SC : Nat → Nat} {X : mh_X} {r : Option am_I}
/-- like mh_q, for a call that makes cells: it wants some room, and what was made before it may be written over -/
def mh_qw (SC : Nat → Nat) (X : mh_X) (dc : Nat) (Yc : am_Y) (ac : List am_V) (dm : Nat) (Ym : am_Y) (as : List am_V) : Prop :=
  ∀ (a b0 : am_W), mh_E a b0 → ∀ (d kc ks : Nat) (Q : Option am_V → am_W → Prop),
    (∀ (v : Int) (a' : am_W), (∀ t, t ∉ mh_tc → a'.1 t = a.1 t) → (∀ (b : am_W), mh_E a b → ∀ (d' kc' ks' : Nat) (Q' : Option am_V → am_W → Prop), 16 ≤ kc' → 108 ≤ ks' → (∀ b', mh_E a' b' → (∀ t, t ∉ mh_tr → ¬ t = 999 → b'.1 t = b.1 t) → (∀ t, ¬ t = 999 → b'.2.1 t = b.2.1 t) → Q' (some (.inl v)) b') → am_M (mh_G X) SC (d' + dm) kc' ks' Ym as b Q') → Q (some (.inl v)) a') →
    am_M (mh_G X) SC (d + dc) kc ks Yc ac a Q
theorem mh_E_write {a b a' b' : am_W} (h : mh_E a b) (f : ∀ t, t ∉ [3, 27] → a'.1 t = a.1 t) (fl : a'.2 = a.2) (g : ∀ t, t ∉ [9, 142, 143, 999] → b'.1 t = b.1 t) (g9 : ∀ k, k ∉ [98, 99] → b'.1 9 0 k = b.1 9 0 k) (rp : mh_RP a'.1 b'.1) : mh_E a' b' := by
  obtain ⟨⟨h1, h2⟩, h3, h4, h5, h6, h7, h8, h9⟩ := h
  have F : ∀ (l : List Nat), (∀ t, t ∈ l → t ∉ [3, 27]) → ∀ t, t ∈ l → a'.1 t = a.1 t := fun l q t ht => f t (q t ht)
  have G : ∀ (l : List Nat), (∀ t, t ∈ l → t ∉ [9, 142, 143, 999]) → ∀ t, t ∈ l → b'.1 t = b.1 t := fun l q t ht => g t (q t ht)
  have G9 : ∀ (l : List Nat), (∀ t, t ∈ l → t ∉ [98, 99]) → ∀ t, t ∈ l → b'.1 9 0 t = b.1 9 0 t := fun l q t ht => g9 t (q t ht)
  have e1 : a'.1 1 = a.1 1 := f 1 (by decide)
  have e4 : a'.1 4 = a.1 4 := f 4 (by decide)
  have e5 : a'.1 5 = a.1 5 := f 5 (by decide)
  have hn : a.1 1 0 12 ≤ a'.1 1 0 12 := by rw [e1]; exact Int.le_refl _
  refine ⟨⟨mh_Wr_s h1 (F _ (by decide)), mh_We_s h2 (F _ (by decide)) (G _ (by decide)) (G9 _ (by decide))⟩, ?_, ?_, mh_RL_s h5 hn (by rw [e4]) (F _ (by decide)) (G _ (by decide)) (g9 21 (by decide)), ?_, ?_, ?_, rp⟩
  · unfold mh_RN at *
    rw [g9 33 (by decide), e1]; exact h3
  · unfold mh_RT at *
    rw [g9 1 (by decide), g9 2 (by decide), g9 3 (by decide), g9 4 (by decide), f 2 (by decide), f 24 (by decide), g 66 (by decide)]
    exact h4
  · exact mh_RK_s h6 hn (fun k _ => by rw [e5]) (F _ (by decide)) (fun t ht => by rw [fl]) (by rw [fl]) (G _ (by decide)) (G9 _ (by decide))
  · exact mh_RO_s h7 (by rw [e4]) (F _ (by decide)) (G _ (by decide)) (g9 52 (by decide))
  · exact mh_RD_s h8 hn (by rw [e5]; exact Int.le_refl _) (by rw [e1]) (F _ (by decide)) (G _ (by decide)) (g9 70 (by decide))
theorem wl_d1 {x k p o KC PC : Nat} (h1 : x ≤ 8) (h2 : k ≤ 12 * KC) (h3 : p ≤ 23 * PC) (h4 : o ≤ 15 * 4) (h5 : KC ≤ 4) (h6 : PC ≤ 4) : x + k + p + o ≤ 256 := by omega
theorem wl_L_l {I : Nat → Nat → Nat → Int} {l q KC PC : Nat} {kw pd pu : Nat → Nat} {pn : Nat → Int} {op : Int} (h : wl_R I l q KC PC kw pd pu pn op) : (wl_L KC PC kw pd pu pn op).length ≤ 256 := by
  obtain ⟨⟨k1, k2, k3⟩, k4, ⟨p1, p2, p3⟩, p4, o1⟩ := h
  have b1 := wl_k_l (kw := kw) (n := KC) (fun i hi => (k4 i hi).2) KC (Nat.le_refl _)
  have b2 := wl_p_l (pd := pd) (pu := pu) (pn := pn) (n := PC) (fun i hi => ⟨(p4 i hi).1.2, by have := (p4 i hi).2.2.2.2; omega⟩) PC (Nat.le_refl _)
  have b3 := wl_o_l (op := op) 4 (by decide)
  have b4 := wl_t_l 30 (by decide)
  unfold wl_L
  simp only [List.length_append]
  exact wl_d1 b4 b1 b2 b3 k3 p3
/-- what the relation says of a rule, both sides -/
theorem wl_of {I J : Nat → Nat → Nat → Int} {l q : Nat} (h : mh_La I J l l) (hq : (q : Int) < I 10 l 10) : ∃ (KC PC : Nat) (kw pd pu : Nat → Nat) (pn : Nat → Int) (op : Int), wl_R I l q KC PC kw pd pu pn op ∧
    ∀ J', mh_La I J' l l → wl_J J' l q KC PC kw pd pu pn op := by
  obtain ⟨⟨a1, a2, a3⟩, b, ⟨c1, c2, c3⟩, e, o1, o2, o3⟩ := h.2.1 q hq
  obtain ⟨KC, hKC⟩ := mh_nat (show 0 ≤ I 144 l q by omega)
  obtain ⟨PC, hPC⟩ := mh_nat (show 0 ≤ I 146 l q by omega)
  refine ⟨KC, PC, fun i => (I 145 l (q * 4 + i)).toNat, fun i => (I 147 l (q * 4 + i)).toNat, fun i => (I 149 l (q * 4 + i)).toNat, fun i => I 148 l (q * 4 + i), I 150 l q, ⟨⟨hKC, by omega, by omega⟩, fun i hi => ?_, ⟨hPC, by omega, by omega⟩, fun i hi => ?_, rfl⟩, fun J' h' => ?_⟩
  · obtain ⟨-, x1, x2⟩ := b i (by omega)
    dsimp only
    omega
  · obtain ⟨⟨-, x1, x2⟩, ⟨-, x3, x4⟩, -, x5, x6⟩ := e i (by omega)
    dsimp only
    omega
  · obtain ⟨⟨a1, -⟩, b', ⟨c1, -⟩, e', o1, -⟩ := h'.2.1 q hq
    refine ⟨⟨a1.trans hKC, by omega⟩, fun i hi => ?_, ⟨c1.trans hPC, by omega, by omega⟩, fun i hi => ?_, o1⟩
    · obtain ⟨x0, x1, x2⟩ := b' i (by omega)
      dsimp only
      omega
    · obtain ⟨⟨y1, x1, x2⟩, ⟨y2, x3, x4⟩, y3, x5, x6⟩ := e' i (by omega)
      dsimp only
      omega
/-- the reference copies what it wrote -/
theorem pX12_wcopy {d kc ks : Nat} {Q : Option am_V → am_W → Prop} {b : am_W} {L : List Int} (hL : L.length ≤ 256) (hb : ∀ i, i < L.length → -128 ≤ L.getD i 0 ∧ L.getD i 0 < 128) (K : ∀ u : am_W, (∀ t, t ∉ [9, 142, 143, 999] → u.1 t = b.1 t) → (∀ k, k ∉ [98, 99] → u.1 9 0 k = b.1 9 0 k) → (∀ t, ¬ t = 999 → u.2.1 t = b.2.1 t) → u.1 9 0 99 = (L.length : Int) → (∀ k, k < L.length → u.1 143 0 k = L.getD k 0) → Q (some (.inl (L.length : Int))) u) :
    ∀ (n i : Nat) (w : am_W), n + i = L.length → (w.1 9 0 98 = (L.length : Int) ∧ (∀ k, k < L.length → w.1 142 0 k = L.getD k 0)) → (∀ t, t ∉ [9, 142, 143, 999] → w.1 t = b.1 t) → (∀ k, ¬ k = 98 → w.1 9 0 k = b.1 9 0 k) → (∀ t, ¬ t = 999 → w.2.1 t = b.2.1 t) → (∀ k, k < i → w.1 143 0 k = L.getD k 0) → am_A (mh_G X) SC (d + 12) mX12_write Q 19 [(0, .inr (.inr (some (9, 0)))), (3, .inl (i : Int))] [] w kc ks := by
  intro n
  induction n with
  | zero =>
    intro i w hi ⟨h1, h2⟩ h3 h4 h5 h6
    refine bX12_write_19 ⟨fun _ => ?_, fun c => absurd (by omega) c⟩
    rw [am_up_s, h1]
    refine K _ (fun t ht => ?_) (fun k hk => ?_) h5 ?_ (fun k hk => ?_)
    · dsimp only; rw [am_up_t (fun e => ht (by rw [e]; decide))]; exact h3 t ht
    · dsimp only
      simp only [List.mem_cons, not_or] at hk
      rw [am_up_k hk.2.1]; exact h4 k hk.1
    · dsimp only; rw [am_up_s]
    · dsimp only; rw [am_up_t (by decide)]; exact h6 k (by omega)
  | succ n ih =>
    intro i w hi ⟨h1, h2⟩ h3 h4 h5 h6
    have hbi := hb i (by omega)
    have h2i := h2 i (by omega)
    refine bX12_write_19 ⟨fun c => absurd c (by omega), fun _ => ⟨by omega, by omega, ?_⟩⟩
    rw [Int.toNat_natCast, h2i]
    refine ⟨⟨by omega, by omega⟩, ?_⟩
    rw [am_w_id (z := (i : Int) + 1) (by unfold am_rg; omega)]
    refine ih (i + 1) _ (by omega) ⟨?_, fun k hk => ?_⟩ (fun t ht => ?_) (fun k hk => ?_) h5 (fun k hk => ?_)
    · dsimp only; rw [am_up_t (by decide)]; exact h1
    · dsimp only; rw [am_up_t (by decide)]; exact h2 k hk
    · dsimp only; rw [am_up_t (fun e => ht (by rw [e]; decide))]; exact h3 t ht
    · dsimp only; rw [am_up_t (by decide)]; exact h4 k hk
    · dsimp only
      rw [am_up_a]
      by_cases z : k = i
      · rw [if_pos z, z]
      · rw [if_neg z]; exact h6 k (by omega)
theorem bX12_write_0r {SC : Nat → Nat} {X : mh_X} {d : Nat} {Q : Option am_V → am_W → Prop} {bc bs : Nat} {w : am_W} {x1 : Int} {x2 : Int} (hbc : 16 ≤ bc) (hbs : 108 ≤ bs)
    (h : (((¬ x1 < (0 : Int) ∧ (¬ (am_w ((w.1 9 0 21) - 1)) < x1)) → 0 ≤ x1) ∧ (((¬ x1 < (0 : Int) ∧ (¬ (am_w ((w.1 9 0 21) - 1)) < x1)) → x1 < 7) ∧ ((((¬ x1 < (0 : Int) ∧ (¬ (am_w ((w.1 9 0 21) - 1)) < x1)) ∧ ((¬ x2 < (0 : Int) ∧ (¬ (am_w ((w.1 68 0 x1.toNat) - 1)) < x2)))) → am_M (mh_G X) SC (d + 11) 16 108 mX12_writesRule [.inr (.inr (some (9, 0))), .inl x1, .inl x2] w (fun r w1 => am_A (mh_G X) SC (d + 12) mX12_write Q 17 [(0, .inr (.inr (some (9, 0)))), (1, .inl x1), (2, .inl x2)] (r.toList ++ []) w1 (bc - 16) (bs - 108))) ∧ (¬ ((¬ x1 < (0 : Int) ∧ (¬ (am_w ((w.1 9 0 21) - 1)) < x1)) ∧ ((¬ x2 < (0 : Int) ∧ (¬ (am_w ((w.1 68 0 x1.toNat) - 1)) < x2)))) → Q (some (.inl (-1))) w))))) :
    am_A (mh_G X) SC (d + 12) mX12_write Q 0 [(0, .inr (.inr (some (9, 0)))), (1, .inl x1), (2, .inl x2)] [] w bc bs := by
  refine am_aload_n dX12_write_0 (List.Mem.head _) ?_
  refine am_iload_n dX12_write_1 (List.Mem.tail _ (List.Mem.head _)) ?_
  refine am_iload_n dX12_write_2 (List.Mem.tail _ (List.Mem.tail _ (List.Mem.head _))) ?_
  have o1 := h.1
  replace h := h.2
  have o2 := h.1
  replace h := h.2
  refine am_callv (d' := d + 11) (kc := 0) (ks := 0) (as := [.inl x1, .inl x2]) dX12_write_3 wc_X12_isRule wd_2250 wd_2252 wd_106 wd_122 ds_X12_isRule (by decide) (by omega) (Nat.le_of_ble_eq_true rfl) (Nat.zero_le _) (Nat.zero_le _) hc_10 (by decide) rfl rfl (sX12_isRule (d := d + 9) (x1 := x1) (x2 := x2) o1 o2 ?_)
  show am_A (mh_G X) SC (d + 12) mX12_write Q 6 [(0, .inr (.inr (some (9, 0)))), (1, .inl x1), (2, .inl x2)] [.inl (if ((¬ x1 < (0 : Int) ∧ (¬ (am_w ((w.1 9 0 21) - 1)) < x1)) ∧ ((¬ x2 < (0 : Int) ∧ (¬ (am_w ((w.1 68 0 x1.toNat) - 1)) < x2)))) then 1 else 0)] w bc bs
  refine am_ifne (tgt := 11) dX12_write_6 (by decide) (fun c3 => ?_) (fun c3 => ?_)
  · replace c3 := am_bne1 c3
    replace h := h.1 c3
    refine am_aload_n dX12_write_11 (List.Mem.head _) ?_
    refine am_iload_n dX12_write_12 (List.Mem.tail _ (List.Mem.head _)) ?_
    refine am_iload_n dX12_write_13 (List.Mem.tail _ (List.Mem.tail _ (List.Mem.head _))) ?_
    exact am_callv (d' := d + 11) (kc := 16) (ks := 108) (as := [.inl x1, .inl x2]) dX12_write_14 wc_X12_writesRule wd_2254 wd_2256 wd_107 wd_122 ds_X12_writesRule (by decide) (by omega) (Nat.le_of_ble_eq_true rfl) hbc hbs hc_10 (by decide) rfl rfl h
  · replace c3 := am_bne2 c3
    replace h := h.2 c3
    refine am_iconst dX12_write_9 (by unfold am_rg; omega) ?_
    exact am_ret (r := some (.inl (-1))) dX12_write_10 (Or.inl rfl) rfl h
def wl_B (L : List Int) : Prop := ∀ i, i < L.length → 0 ≤ L.getD i 0 ∧ L.getD i 0 < 128
theorem qX_write {x y : Int} (hPV : sb_PV) (hX : mh_st X r) (hx : am_rg x) (hy : am_rg y) (hLB : ∀ (I : Nat → Nat → Nat → Int) (l q KC PC : Nat) (kw pd pu : Nat → Nat) (pn : Nat → Int) (op : Int), wl_R I l q KC PC kw pd pu pn op → wl_B (wl_L KC PC kw pd pu pn op)) : mh_qw SC X 9 mX11_write [.inr (.inr (some (1, 0))), .inl x, .inl y] 12 mX12_write [.inr (.inr (some (9, 0))), .inl x, .inl y] := by
  intro a b0 E0 d kc ks Q K
  have la6 := E0.2.2.2.1.1.2
  -- neither answers
  have no : ((x < 0 ∨ a.1 4 0 5 ≤ x) ∨ (y < 0 ∨ a.1 10 x.toNat 10 ≤ y)) → Q (some (.inl (-1))) a := fun hno => by
    refine K (-1) a (fun _ _ => rfl) (fun b Eb d' kc' ks' Q' _ _ KQ => ?_)
    have b21 := Eb.2.2.2.1.1.1
    have w1 : am_w (b.1 9 0 21 - 1) = a.1 4 0 5 - 1 := by rw [b21, am_w_id (by unfold am_rg; omega)]
    refine am_M_of (by decide) (Nat.le_of_ble_eq_true rfl) ?_
    refine bX12_write_0 ?_
    rw [w1]
    refine ⟨fun c => by omega, fun c => by omega, fun c => ?_, fun _ => KQ b Eb (fun _ _ _ => rfl) (fun _ _ => rfl)⟩
    obtain ⟨⟨c1, c2⟩, c3, c4⟩ := c
    obtain ⟨l, rfl⟩ := mh_nat (show 0 ≤ x by omega)
    have hl : (l : Int) < a.1 4 0 5 := by omega
    have La := (Eb.2.2.2.1.2 l hl).1
    rw [Int.toNat_natCast] at hno c4
    have h68 := La.1.1
    have h30 := La.1.2
    rw [h68, am_w_id (z := a.1 10 l 10 - 1) (by unfold am_rg; omega)] at c4
    exact absurd hno (by omega)
  refine am_M_of (by decide) (Nat.le_of_ble_eq_true rfl) ?_
  refine bX11_write_0 ?_
  refine am_M_of (by decide) (Nat.le_of_ble_eq_true rfl) ?_
  refine bX1_lawNumbered_0 ⟨fun c => bX11_write_8 (no (Or.inl (Or.inl c))), fun c => ⟨fun c2 => bX11_write_8 (no (Or.inl (Or.inr c2))), fun c2 => ⟨by omega, by omega, bX11_write_8a ⟨fun c3 => ?_, fun c3 => no (Or.inr (by omega))⟩⟩⟩⟩
  obtain ⟨l, rfl⟩ := mh_nat (show 0 ≤ x by omega)
  obtain ⟨q, rfl⟩ := mh_nat (show 0 ≤ y by omega)
  rw [Int.toNat_natCast] at c3 ⊢
  have hl : (l : Int) < a.1 4 0 5 := by omega
  have La := (E0.2.2.2.1.2 l hl).1
  have hq : (q : Int) < a.1 10 l 10 := by omega
  have q30 : q < 30 := by have := La.1.2.2; omega
  have l7 : l < 7 := by omega
  obtain ⟨KC, PC, kw, pd, pu, pn, op, hR, hJ⟩ := wl_of La hq
  have h256 := wl_L_l hR
  have hB := hLB _ _ _ _ _ _ _ _ _ _ hR
  generalize hL : wl_L KC PC kw pd pu pn op = L at h256 hB
  refine pX3_spell (d := d) hX q30 hR (fun a' hP => bX11_write_32 ?_)
  rw [hL] at hP
  obtain ⟨p1, p2, p3, p4⟩ := hP
  rw [p1]
  have s3 : ∀ t, t ∉ mh_tc → t ∉ [3, 27] := fun t ht z => ht (by
    have s : ∀ t, t ∈ [3, 27] → t ∈ mh_tc := by decide
    exact s t z)
  refine K _ a' (fun t ht => p3 t (s3 t ht)) (fun b Eb d' kc' ks' Q' hk1 hk2 KQ => ?_)
  have b21 := Eb.2.2.2.1.1.1
  have w1 : am_w (b.1 9 0 21 - 1) = a.1 4 0 5 - 1 := by rw [b21, am_w_id (by unfold am_rg; omega)]
  have Lb := (Eb.2.2.2.1.2 l hl).1
  have h68 := Lb.1.1
  have l30 := Lb.1.2
  have w2 : am_w (b.1 68 0 l - 1) = a.1 10 l 10 - 1 := by rw [h68, am_w_id (by unfold am_rg; omega)]
  have c1 : ¬ (l : Int) < 0 ∧ ¬ (a.1 4 0 5 - 1) < (l : Int) := by omega
  have c2 : ¬ (q : Int) < 0 ∧ ¬ (a.1 10 l 10 - 1) < (q : Int) := by omega
  have l71 : (l : Int) < 7 := by omega
  have l01 : 0 ≤ (l : Int) := by omega
  have J := hJ b.1 Lb
  refine am_M_of (by decide) (Nat.le_of_ble_eq_true rfl) ?_
  refine bX12_write_0r hk1 hk2 ?_
  rw [w1, Int.toNat_natCast, w2]
  refine ⟨fun _ => l01, fun _ => l71, fun _ => ?_, fun c => absurd ⟨c1, c2⟩ c⟩
  refine pX12_writesRule (d := d') hPV hX l7 q30 J (Nat.le_refl _) (Nat.le_refl _) (fun u hu => bX12_write_17 ?_)
  rw [hL] at hu
  obtain ⟨u1, u2, u3, u4, u5⟩ := hu
  refine pX12_wcopy (b := b) (L := L) h256 (fun i hi => ⟨by have := hB i hi; omega, (hB i hi).2⟩) (fun z g1 g2 g3 g4 g5 => ?_) L.length 0 u rfl ⟨u1, u2⟩ (fun t ht => u3 t (fun m => ht ?_)) u4 u5 (fun k hk => absurd hk (Nat.not_lt_zero k))
  · have s9 : ∀ t, t ∉ mh_tr → ¬ t = 999 → t ∉ [9, 142, 143, 999] := fun t h1 h2 m => by
      have s : ∀ t, t ∈ [9, 142, 143, 999] → t ∈ mh_tr ∨ t = 999 := by decide
      exact (s t m).elim h1 h2
    refine KQ z (mh_E_write Eb p3 p4 g1 g2 ?_) (fun t h1 h2 => g1 t (s9 t h1 h2)) g3
    unfold mh_RP
    rw [g4, p1]
    refine ⟨⟨rfl, Int.natCast_nonneg _, by omega⟩, fun k hk => ?_⟩
    have hk' : k < L.length := by omega
    rw [g5 k hk', p2 k hk']
  · have s : ∀ t, t ∈ [9, 142, 999] → t ∈ [9, 142, 143, 999] := by decide
    exact s t m
