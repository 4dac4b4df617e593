-- PAGE: a rule is written, the class
variable {SC : Nat → Nat} {X : mh_X} {r : Option am_I}
abbrev wl_t (j : Nat) : List Int := mh_tx.getD j []
/-- the page holds L -/
def wl_P (L : List Int) (a w : am_W) : Prop := w.1 3 0 1 = (L.length : Int) ∧ (∀ k, k < L.length → w.1 27 0 k = L.getD k 0) ∧ (∀ t, t ∉ [3, 27] → w.1 t = a.1 t) ∧ w.2 = a.2
theorem wl_app {L : List Int} {x : Int} {k : Nat} (hk : k < (L ++ [x]).length) : (L ++ [x]).getD k 0 = if k = L.length then x else L.getD k 0 := by
  rw [List.getD_eq_getElem?_getD]
  by_cases z : k = L.length
  · rw [if_pos z, z, List.getElem?_append_right (Nat.le_refl _), Nat.sub_self]; rfl
  · rw [if_neg z, List.getElem?_append_left (by rw [List.length_append, List.length_singleton] at hk; omega), ← List.getD_eq_getElem?_getD]
theorem wl_take {T : List Int} {i : Nat} (h : i < T.length) : T.take (i + 1) = T.take i ++ [T.getD i 0] := by
  rw [List.take_add_one, List.getElem?_eq_getElem h, List.getD_eq_getElem?_getD, List.getElem?_eq_getElem h]
  rfl
theorem pX6_addByte {d kc ks : Nat} {Q : Option am_V → am_W → Prop} {a w : am_W} {L : List Int} {x : Int} (hL : L.length < 256) (hx : 0 ≤ x ∧ x < 65536) (h : wl_P L a w) (K : ∀ w', wl_P (L ++ [x]) a w' → Q none w') : am_M (mh_G X) SC (d + 1) kc ks mX6_addByte [.inr (.inr (some (3, 0))), .inl x] w Q := by
  obtain ⟨h1, h2, h3, h4⟩ := h
  refine am_M_of (by decide) (Nat.le_of_ble_eq_true rfl) ?_
  refine bX6_addByte_0 ⟨fun c => absurd c (by omega), fun _ => ⟨by omega, by omega, hx, K _ ⟨?_, fun k hk => ?_, fun t ht => ?_, h4⟩⟩⟩
  · dsimp only
    rw [am_up_s, h1, am_w_id (z := (L.length : Int) + 1) (by unfold am_rg; omega), List.length_append]
    rfl
  · dsimp only
    rw [am_up_t (by decide), am_up_a, h1, Int.toNat_natCast, wl_app hk]
    by_cases z : k = L.length
    · rw [if_pos z, if_pos z]
    · rw [if_neg z, if_neg z]
      rw [List.length_append, List.length_singleton] at hk
      exact h2 k (by omega)
  · dsimp only
    rw [am_up_t (fun e => ht (by rw [e]; decide)), am_up_t (fun e => ht (by rw [e]; decide))]
    exact h3 t ht
theorem pX6_add {d kc ks : Nat} {Q : Option am_V → am_W → Prop} {a w : am_W} {L : List Int} {j : Nat} (hX : mh_st X r) (hj : j < 91) (hL : L.length + (wl_t j).length ≤ 256) (h : wl_P L a w) (K : ∀ w', wl_P (L ++ wl_t j) a w' → Q none w') : am_M (mh_G X) SC (d + 6) kc ks mX6_add [.inr (.inr (some (3, 0))), .inr (.inr (some (1000, j)))] w Q := by
  have B : ∀ (n i : Nat) (w : am_W), n + i = (wl_t j).length → wl_P (L ++ (wl_t j).take i) a w → am_A (mh_G X) SC (d + 6) mX6_add Q 2 [(0, .inr (.inr (some (3, 0)))), (1, .inr (.inr (some (1000, j)))), (2, .inl (i : Int))] [] w kc ks := by
    intro n
    induction n with
    | zero =>
      intro i w hi h
      refine bX6_add_2 ⟨by decide, rfl, pJ0_len hX hj ?_⟩
      refine bX6_add_7 ⟨fun _ => K _ ?_, fun c => absurd (by show ((wl_t j).length : Int) ≤ i; omega) c⟩
      rw [List.take_of_length_le (by omega)] at h
      exact h
    | succ n ih =>
      intro i w hi h
      refine bX6_add_2 ⟨by decide, rfl, pJ0_len hX hj ?_⟩
      refine bX6_add_7 ⟨fun c => absurd (show ((wl_t j).length : Int) ≤ i from c) (by omega), fun _ => ⟨by decide, rfl, pJ0_chr hX hj (by show i < (wl_t j).length; omega) ?_⟩⟩
      have hc := mh_tx_c hj (show i < (wl_t j).length by omega)
      refine bX6_add_16 (pX6_addByte (d := d + 4) (by rw [List.length_append, List.length_take]; omega) ⟨hc.1, by omega⟩ h (fun w' h' => ?_))
      refine bX6_add_19 ?_
      rw [am_w_id (z := (i : Int) + 1) (by have := (show (wl_t j).length ≤ 256 by omega); unfold am_rg; omega)]
      refine ih (i + 1) w' (by omega) ?_
      rw [wl_take (by omega), ← List.append_assoc]
      exact h'
  refine am_M_of (by decide) (Nat.le_of_ble_eq_true rfl) ?_
  exact bX6_add_0 (B (wl_t j).length 0 w rfl (by rw [List.take_zero, List.append_nil]; exact h))
theorem pX6_addWord {d kc ks : Nat} {Q : Option am_V → am_W → Prop} {a w : am_W} {L : List Int} {j : Nat} {z : Int} (hX : mh_st X r) (hz : z = (j : Int)) (hj : j < 40) (hL : L.length + (wl_t j).length ≤ 256) (h : wl_P L a w) (K : ∀ w', wl_P (L ++ wl_t j) a w' → Q none w') : am_M (mh_G X) SC (d + 7) kc ks mX6_addWord [.inr (.inr (some (3, 0))), .inl z] w Q := by
  subst hz
  refine am_M_of (by decide) (Nat.le_of_ble_eq_true rfl) ?_
  exact bX6_addWord_0 (pX10_nameOf (d := d + 4) hj (bX6_addWord_5 (pX6_add hX (by omega) hL h (fun w' h' => bX6_addWord_8 (K w' h')))))
theorem wl_i2c {z : Int} (h : 0 ≤ z ∧ z < 128) : am_i2c z = z := by
  obtain ⟨k, rfl⟩ := mh_nat h.1
  have : ∀ k : Nat, k < 128 → am_i2c (k : Int) = (k : Int) := by decide +kernel
  exact this k (by omega)
theorem pX6_addNumber {d kc ks : Nat} {Q : Option am_V → am_W → Prop} {a w : am_W} {L : List Int} {n : Int} (hn : 1 ≤ n ∧ n ≤ 999) (hL : L.length + 3 ≤ 256) (h : wl_P L a w) (K : ∀ w', wl_P (L ++ sb_ds n) a w' → Q none w') : am_M (mh_G X) SC (d + 2) kc ks mX6_addNumber [.inr (.inr (some (3, 0))), .inl n] w Q := by
  have e0 : am_i2c (am_w (48 + am_w (Int.tmod n 10))) = 48 + n % 10 := by
    rw [Int.tmod_eq_emod_of_nonneg (by omega), am_w_id (z := n % 10) (by unfold am_rg; omega), am_w_id (by unfold am_rg; omega), wl_i2c (by omega)]
  have e1 : am_i2c (am_w (48 + am_w (Int.tmod (am_w (Int.tdiv n 10)) 10))) = 48 + n / 10 % 10 := by
    rw [Int.tdiv_eq_ediv_of_nonneg (by omega), am_w_id (z := n / 10) (by unfold am_rg; omega), Int.tmod_eq_emod_of_nonneg (by omega), am_w_id (z := n / 10 % 10) (by unfold am_rg; omega), am_w_id (by unfold am_rg; omega), wl_i2c (by omega)]
  have e2 : am_i2c (am_w (48 + am_w (Int.tdiv n 100))) = 48 + n / 100 := by
    rw [Int.tdiv_eq_ediv_of_nonneg (by omega), am_w_id (z := n / 100) (by unfold am_rg; omega), am_w_id (by unfold am_rg; omega), wl_i2c (by omega)]
  refine am_M_of (by decide) (Nat.le_of_ble_eq_true rfl) ?_
  have F : ∀ (w : am_W) (M : List Int), M.length < 256 → wl_P M a w → (M ++ [48 + n % 10] = L ++ sb_ds n) → am_A (mh_G X) SC (d + 2) mX6_addNumber Q 39 [(0, .inr (.inr (some (3, 0)))), (1, .inl n)] [] w kc ks := fun w M hM h e => by
    refine bX6_addNumber_39 ?_
    rw [e0]
    refine pX6_addByte (d := d) hM (by omega) h (fun w' h' => bX6_addNumber_51 (K w' ?_))
    rw [← e]; exact h'
  refine bX6_addNumber_0 ⟨fun c => bX6_addNumber_18 ⟨fun c2 => F w L (by omega) h ?_, fun c2 => ?_⟩, fun c => ?_⟩
  · unfold sb_ds; rw [if_pos c2, show n % 10 = n by omega]
  · rw [e1]
    refine pX6_addByte (d := d) (by omega) (by omega) h (fun w' h' => F w' _ (by rw [List.length_append, List.length_singleton]; omega) h' ?_)
    unfold sb_ds; rw [if_neg c2, if_pos c, List.append_assoc, show n / 10 % 10 = n / 10 by omega]; rfl
  · rw [e2]
    refine pX6_addByte (d := d) (by omega) (by omega) h (fun w1 h1 => bX6_addNumber_18 ⟨fun c2 => absurd c2 (by omega), fun c2 => ?_⟩)
    rw [e1]
    refine pX6_addByte (d := d) (by rw [List.length_append, List.length_singleton]; omega) (by omega) h1 (fun w' h' => F w' _ (by rw [List.length_append, List.length_append, List.length_singleton, List.length_singleton]; omega) h' ?_)
    unfold sb_ds; rw [if_neg c2, if_neg c, List.append_assoc, List.append_assoc]; rfl
/-- what is written of a rule: kin, parts, options -/
def wl_k (kw : Nat → Nat) : Nat → List Int
  | 0 => []
  | i + 1 => wl_k kw i ++ (if i = 0 then [32] else [32, 111, 102, 32]) ++ wl_t (kw i)
def wl_p (pd pu : Nat → Nat) (pn : Nat → Int) : Nat → List Int
  | 0 => []
  | i + 1 => wl_p pd pu pn i ++ (if i = 0 then [58, 32] else [44, 32]) ++ wl_t (12 + pd i) ++ [32] ++ sb_ds (pn i) ++ [32] ++ wl_t (pu i)
def wl_o (op : Int) : Nat → List Int
  | 0 => []
  | o + 1 => wl_o op o ++ (if am_and (am_shr op o) 1 = 0 then [] else [59, 32] ++ wl_t (25 + o) ++ (if o = 0 then [32, 104, 97, 108, 102] else []))
theorem wl_t_l : ∀ j, j < 40 → (wl_t j).length ≤ 8 := by decide +kernel
theorem wl_k_l {kw : Nat → Nat} {n : Nat} (h : ∀ i, i < n → kw i < 12) : ∀ i, i ≤ n → (wl_k kw i).length ≤ 12 * i
  | 0, _ => Nat.le_refl _
  | i + 1, hi => by
    have h1 := wl_k_l h i (by omega)
    have h2 := wl_t_l (kw i) (by have := h i (by omega); omega)
    unfold wl_k
    rw [List.length_append, List.length_append]
    have : (if i = 0 then [32] else [32, 111, 102, 32] : List Int).length ≤ 4 := by split <;> decide
    omega
theorem wl_p_l {pd pu : Nat → Nat} {pn : Nat → Int} {n : Nat} (h : ∀ i, i < n → pd i ≤ 4 ∧ pu i < 40) : ∀ i, i ≤ n → (wl_p pd pu pn i).length ≤ 23 * i
  | 0, _ => Nat.le_refl _
  | i + 1, hi => by
    have h1 := wl_p_l (pn := pn) h i (by omega)
    have h2 := wl_t_l (12 + pd i) (by have := h i (by omega); omega)
    have h3 := wl_t_l (pu i) (by have := h i (by omega); omega)
    have h4 : (sb_ds (pn i)).length ≤ 3 := by rw [sb_sz_l]; exact sb_sz_b.2
    unfold wl_p
    simp only [List.length_append]
    have : (if i = 0 then [58, 32] else [44, 32] : List Int).length ≤ 2 := by split <;> decide
    have e : ([32] : List Int).length = 1 := rfl
    omega
theorem wl_o_l {op : Int} : ∀ o, o ≤ 4 → (wl_o op o).length ≤ 15 * o
  | 0, _ => Nat.le_refl _
  | o + 1, ho => by
    have h1 := wl_o_l (op := op) o (by omega)
    have h2 := wl_t_l (25 + o) (by omega)
    unfold wl_o
    rw [List.length_append]
    have : (if am_and (am_shr op o) 1 = 0 then [] else [59, 32] ++ wl_t (25 + o) ++ (if o = 0 then [32, 104, 97, 108, 102] else []) : List Int).length ≤ 15 := by
      split
      · decide
      · have : (if o = 0 then [32, 104, 97, 108, 102] else [] : List Int).length ≤ 5 := by split <;> decide
        simp only [List.length_append]
        have e : ([59, 32] : List Int).length = 2 := rfl
        omega
    omega
/-- rule q of law l, as the class has it -/
def wl_R (I : Nat → Nat → Nat → Int) (l q KC PC : Nat) (kw pd pu : Nat → Nat) (pn : Nat → Int) (op : Int) : Prop :=
  (I 144 l q = (KC : Int) ∧ 1 ≤ KC ∧ KC ≤ 4) ∧ (∀ i, i < KC → I 145 l (q * 4 + i) = (kw i : Int) ∧ kw i < 12) ∧ (I 146 l q = (PC : Int) ∧ 1 ≤ PC ∧ PC ≤ 4) ∧
  (∀ i, i < PC → (I 147 l (q * 4 + i) = (pd i : Int) ∧ pd i ≤ 4) ∧ (I 148 l (q * 4 + i) = pn i ∧ 1 ≤ pn i ∧ pn i ≤ 999) ∧ I 149 l (q * 4 + i) = (pu i : Int) ∧ 17 ≤ pu i ∧ pu i ≤ 20) ∧ I 150 l q = op
def wl_L (KC PC : Nat) (kw pd pu : Nat → Nat) (pn : Nat → Int) (op : Int) : List Int := wl_t 30 ++ wl_k kw KC ++ wl_p pd pu pn PC ++ wl_o op 4
theorem wl_if {c : Prop} [Decidable c] {x y : Nat} : (if c then wl_t x else wl_t y) = wl_t (if c then x else y) := by split <;> rfl
theorem wl_aw {o : Nat} (h : o ≤ 3) : am_w (25 + (o : Int)) = ((25 + o : Nat) : Int) ∧ am_w ((o : Int) + 1) = ((o + 1 : Nat) : Int) := ⟨by rw [am_w_id (by unfold am_rg; omega)]; omega, by rw [am_w_id (by unfold am_rg; omega)]; omega⟩
theorem wl_ar1 {x k p o KC PC O : Nat} (h1 : x ≤ 8) (h2 : k ≤ 12 * KC) (h3 : p ≤ 23 * PC) (h4 : o ≤ 15 * O) (h5 : KC ≤ 4) (h6 : PC ≤ 4) (h7 : O ≤ 3) : x + k + p + o + 2 ≤ 256 := by omega
theorem wl_ar2 {x k p o KC PC O t : Nat} (h1 : x ≤ 8) (h2 : k ≤ 12 * KC) (h3 : p ≤ 23 * PC) (h4 : o ≤ 15 * O) (h5 : KC ≤ 4) (h6 : PC ≤ 4) (h7 : O ≤ 3) (h8 : t ≤ 8) : x + k + p + o + 2 + t ≤ 256 := by omega
theorem wl_ar3 {x k p o KC PC O t u : Nat} (h1 : x ≤ 8) (h2 : k ≤ 12 * KC) (h3 : p ≤ 23 * PC) (h4 : o ≤ 15 * O) (h5 : KC ≤ 4) (h6 : PC ≤ 4) (h7 : O ≤ 3) (h8 : t ≤ 8) (h9 : u ≤ 5) : x + k + p + o + 2 + t + u ≤ 256 := by omega
theorem wl_b1 {m s : Nat} (h1 : m ≤ 125) (h2 : s ≤ 4) : m + s ≤ 256 := by omega
theorem wl_b2 {m s a : Nat} (h1 : m ≤ 125) (h2 : s ≤ 4) (h3 : a ≤ 8) : m + s + a ≤ 256 := by omega
theorem wl_b3 {m s a n : Nat} (h1 : m ≤ 125) (h2 : s ≤ 4) (h3 : a ≤ 8) (h4 : n ≤ 8) : m + s + a + n ≤ 256 := by omega
theorem wl_b4 {m s a n : Nat} (h1 : m ≤ 125) (h2 : s ≤ 4) (h3 : a ≤ 8) (h4 : n ≤ 8) : m + s + a + n + 3 ≤ 256 := by omega
theorem wl_b5 {m s a n e : Nat} (h1 : m ≤ 125) (h2 : s ≤ 4) (h3 : a ≤ 8) (h4 : n ≤ 8) (h5 : e ≤ 3) : m + s + a + n + e + n ≤ 256 := by omega
theorem wl_b6 {m s a n e u : Nat} (h1 : m ≤ 125) (h2 : s ≤ 4) (h3 : a ≤ 8) (h4 : n ≤ 8) (h5 : e ≤ 3) (h6 : u ≤ 8) : m + s + a + n + e + n + u ≤ 256 := by omega
theorem wl_b7 {x k p KC i : Nat} (h1 : x ≤ 8) (h2 : k ≤ 12 * KC) (h3 : KC ≤ 4) (h4 : p ≤ 23 * i) (h5 : i ≤ 3) : x + k + p ≤ 125 := by omega
theorem wl_b8 {x k i s : Nat} (h1 : x ≤ 8) (h2 : k ≤ 12 * i) (h3 : i ≤ 3) (h4 : s ≤ 4) : x + k + s ≤ 256 := by omega
theorem wl_b9 {x k i s t : Nat} (h1 : x ≤ 8) (h2 : k ≤ 12 * i) (h3 : i ≤ 3) (h4 : s ≤ 4) (h5 : t ≤ 8) : x + k + s + t ≤ 256 := by omega
theorem wl_12 {p : Nat} (h : p ≤ 4) : am_w (12 + (p : Int)) = ((12 + p : Nat) : Int) := by rw [am_w_id (by unfold am_rg; omega)]; omega
theorem wl_nx {i : Nat} (h : i ≤ 3) : am_w ((i : Int) + 1) = ((i + 1 : Nat) : Int) := by rw [am_w_id (by unfold am_rg; omega)]; omega
theorem pX3_part {d kc ks : Nat} {Q : Option am_V → am_W → Prop} {a w : am_W} {M : List Int} {l i s y pdi pui : Nat} {pni z : Int} (hX : mh_st X r) (hs : s < 91) (hsl : (wl_t s).length ≤ 4) (hM : M.length ≤ 125) (hpd : pdi ≤ 4) (hpu : pui < 40) (hpn : 1 ≤ pni ∧ pni ≤ 999) (hy : y < 120) (e1 : a.1 147 l y = (pdi : Int)) (e2 : a.1 148 l y = pni) (e3 : a.1 149 l y = (pui : Int)) (h : wl_P M a w)
    (K : ∀ w', wl_P (M ++ wl_t s ++ wl_t (12 + pdi) ++ wl_t 40 ++ sb_ds pni ++ wl_t 40 ++ wl_t pui) a w' → am_A (mh_G X) SC (d + 8) mX3_spell Q 135 [(0, .inr (.inr (some (10, l)))), (1, .inl z), (2, .inr (.inr (some (3, 0)))), (3, .inl (i : Int)), (4, .inl (y : Int))] [] w' kc ks) : am_A (mh_G X) SC (d + 8) mX3_spell Q 84 [(0, .inr (.inr (some (10, l)))), (1, .inl z), (2, .inr (.inr (some (3, 0)))), (3, .inl (i : Int)), (4, .inl (y : Int))] [.inr (.inr (some (1000, s))), .inr (.inr (some (3, 0)))] w kc ks := by
  have T : ∀ {w : am_W} {L : List Int}, wl_P L a w → ∀ t, t ∉ [3, 27] → w.1 t = a.1 t := fun h => h.2.2.1
  have y0 : 0 ≤ (y : Int) := by omega
  have y1 : (y : Int) < 120 := by omega
  have p12 : 12 + pdi < 40 := by omega
  obtain ⟨n4, h4⟩ : ∃ n, n = (wl_t 40).length := ⟨_, rfl⟩
  have l4 : n4 ≤ 8 := by rw [h4]; decide
  have b1 := wl_t_l (12 + pdi) p12
  have b2 := wl_t_l pui hpu
  have b3 : (sb_ds pni).length ≤ 3 := by rw [sb_sz_l]; exact sb_sz_b.2
  refine bX3_spell_84 (pX6_add (d := d + 1) hX hs (wl_b1 hM hsl) h (fun w1 h1 => bX3_spell_87 ⟨y0, y1, ?_⟩))
  rw [Int.toNat_natCast, T h1 147 (by decide), e1]
  refine pX6_addWord (d := d) (j := 12 + pdi) hX (wl_12 hpd) p12 (by simp only [List.length_append]; exact wl_b2 hM hsl b1) h1 (fun w2 h2 => bX3_spell_101 (pX6_add (d := d + 1) hX (by decide) (by simp only [List.length_append]; rw [← h4]; exact wl_b3 hM hsl b1 l4) h2 (fun w3 h3 => bX3_spell_107 ⟨y0, y1, ?_⟩)))
  rw [Int.toNat_natCast, T h3 148 (by decide), e2]
  refine pX6_addNumber (d := d + 5) hpn (by simp only [List.length_append]; rw [← h4]; exact wl_b4 hM hsl b1 l4) h3 (fun w4 h4' => bX3_spell_118 (pX6_add (d := d + 1) hX (by decide) (by simp only [List.length_append]; rw [← h4]; exact wl_b5 hM hsl b1 l4 b3) h4' (fun w5 h5 => bX3_spell_124 ⟨y0, y1, ?_⟩)))
  rw [Int.toNat_natCast, T h5 149 (by decide), e3]
  exact pX6_addWord (d := d) (j := pui) hX rfl hpu (by simp only [List.length_append]; rw [← h4]; exact wl_b6 hM hsl b1 l4 b3 b2) h5 K
theorem pX3_spell {d kc ks : Nat} {Q : Option am_V → am_W → Prop} {a : am_W} {l q KC PC : Nat} {kw pd pu : Nat → Nat} {pn : Nat → Int} {op : Int} (hX : mh_st X r) (hq : q < 30) (hR : wl_R a.1 l q KC PC kw pd pu pn op)
    (K : ∀ w', wl_P (wl_L KC PC kw pd pu pn op) a w' → Q none w') : am_M (mh_G X) SC (d + 8) kc ks mX3_spell [.inr (.inr (some (10, l))), .inl (q : Int), .inr (.inr (some (3, 0)))] a Q := by
  unfold wl_L at K
  obtain ⟨⟨k1, k2, k3⟩, k4, ⟨p1, p2, p3⟩, p4, o1⟩ := hR
  have bk : ∀ i, i ≤ KC → (wl_k kw i).length ≤ 12 * i := wl_k_l (fun i hi => (k4 i hi).2)
  have bp : ∀ i, i ≤ PC → (wl_p pd pu pn i).length ≤ 23 * i := wl_p_l (fun i hi => ⟨(p4 i hi).1.2, by have := (p4 i hi).2.2.2.2; omega⟩)
  have bo : ∀ o, o ≤ 4 → (wl_o op o).length ≤ 15 * o := fun o ho => wl_o_l o ho
  obtain ⟨n30, h30⟩ : ∃ n, n = (wl_t 30).length := ⟨_, rfl⟩
  have l30 : n30 ≤ 8 := by rw [h30]; exact wl_t_l 30 (by decide)
  have T : ∀ {w : am_W} {L : List Int}, wl_P L a w → ∀ t, t ∉ [3, 27] → w.1 t = a.1 t := fun h => h.2.2.1
  have e4 : ∀ i : Nat, i < 4 → am_w (am_w ((q : Int) * 4) + (i : Int)) = ((q * 4 + i : Nat) : Int) := fun i hi => by
    rw [am_w_id (z := (q : Int) * 4) (by unfold am_rg; omega), am_w_id (by unfold am_rg; omega)]
    omega
  have q0 : 0 ≤ (q : Int) := by omega
  have q30 : (q : Int) < 30 := by omega
  have e44 : (wl_t 44).length = 2 := by decide
  -- options
  have BO : ∀ (n o : Nat) (w : am_W), n + o = 4 → wl_P (wl_t 30 ++ wl_k kw KC ++ wl_p pd pu pn PC ++ wl_o op o) a w → am_A (mh_G X) SC (d + 8) mX3_spell Q 143 [(0, .inr (.inr (some (10, l)))), (1, .inl (q : Int)), (2, .inr (.inr (some (3, 0)))), (3, .inl (o : Int))] [] w kc ks := by
    intro n
    induction n with
    | zero =>
      intro o w ho h
      obtain rfl : o = 4 := by omega
      exact bX3_spell_143 ⟨fun _ => K w h, fun c => absurd c (by decide)⟩
    | succ n ih =>
      intro o w ho h
      have i6 : o ≤ 4 := by omega
      have j1 : ¬ 3 < (o : Int) := by omega
      have i2 : 25 + o < 40 := by omega
      have i3 : o ≤ 3 := by omega
      have i5 : n + (o + 1) = 4 := by omega
      have oz : (o : Int) = 0 ↔ o = 0 := by omega
      have aw := wl_aw i3
      obtain ⟨i1, nx⟩ := aw
      have b1 := bk KC (Nat.le_refl _)
      have b2 := bp PC (Nat.le_refl _)
      have b3 := bo o i6
      have b4 := wl_t_l (25 + o) i2
      refine bX3_spell_143 ⟨fun c => absurd c j1, fun _ => ⟨q0, q30, ?_⟩⟩
      rw [Int.toNat_natCast, T h 150 (by decide), o1]
      refine ⟨fun c => bX3_spell_186 ?_, fun c => pX6_add (d := d + 1) hX (by decide) ?_ h (fun w1 h1 => bX3_spell_163 (pX6_addWord (d := d) (j := 25 + o) hX i1 i2 ?_ h1 (fun w2 h2 => bX3_spell_171 ?_)))⟩
      · rw [nx]
        refine ih (o + 1) w i5 ?_
        have : am_and (am_shr op o) 1 = 0 := Decidable.byContradiction fun z => c (fun z2 => z z2)
        unfold wl_o
        rw [if_pos this, List.append_nil]
        exact h
      · simp only [List.length_append]
        rw [← h30, e44]
        exact wl_ar1 l30 b1 b2 b3 k3 p3 i3
      · simp only [List.length_append]
        rw [← h30, e44]
        exact wl_ar2 l30 b1 b2 b3 k3 p3 i3 b4
      · have fin : ∀ (j : Nat), j < 91 → (wl_t j).length ≤ 5 → wl_t j = (if o = 0 then [32, 104, 97, 108, 102] else []) → am_A (mh_G X) SC (d + 8) mX3_spell Q 183 [(0, .inr (.inr (some (10, l)))), (1, .inl (q : Int)), (2, .inr (.inr (some (3, 0)))), (3, .inl (o : Int))] [.inr (.inr (some (1000, j))), .inr (.inr (some (3, 0)))] w2 kc ks := fun j hj hjl ej => by
          refine bX3_spell_183 (x1 := (q : Int)) (x3 := (o : Int)) (pX6_add (d := d + 1) hX hj ?_ h2 (fun w3 h3 => bX3_spell_186 ?_))
          · simp only [List.length_append]
            rw [← h30, e44]
            exact wl_ar3 l30 b1 b2 b3 k3 p3 i3 b4 hjl
          · rw [nx]
            refine ih (o + 1) w3 i5 ?_
            unfold wl_o
            rw [if_neg c, ← ej]
            simp only [← List.append_assoc] at h3 ⊢
            exact h3
        refine ⟨fun z => fin 46 (by decide) (by decide) ?_, fun z => fin 45 (by decide) (by decide) ?_⟩
        · rw [if_neg (fun e => z (oz.mpr e))]; rfl
        · rw [if_pos (oz.mp z)]; rfl
  -- parts
  have q4 : ∀ i, i < 4 → q * 4 + i < 120 := fun i hi => by omega
  have BP : ∀ (n i : Nat) (w : am_W), n + i = PC → wl_P (wl_t 30 ++ wl_k kw KC ++ wl_p pd pu pn i) a w → am_A (mh_G X) SC (d + 8) mX3_spell Q 55 [(0, .inr (.inr (some (10, l)))), (1, .inl (q : Int)), (2, .inr (.inr (some (3, 0)))), (3, .inl (i : Int))] [] w kc ks := by
    intro n
    induction n with
    | zero =>
      intro i w hi h
      obtain rfl : i = PC := by omega
      refine bX3_spell_55 ⟨q0, q30, ?_⟩
      rw [Int.toNat_natCast, T h 146 (by decide), p1]
      refine ⟨fun _ => BO 4 0 w rfl (by show wl_P (_ ++ wl_o op 0) a w; unfold wl_o; rw [List.append_nil]; exact h), fun c => absurd (Int.le_refl _) c⟩
    | succ n ih =>
      intro i w hi h
      have i1 : i < PC := by omega
      have i3 : i ≤ 3 := by omega
      have i4 : i < 4 := by omega
      have i5 : n + (i + 1) = PC := by omega
      have i6 : ¬ (PC : Int) ≤ (i : Int) := by omega
      have iz : (i : Int) = 0 ↔ i = 0 := by omega
      have i7 := q4 i i4
      obtain ⟨⟨d1, d2⟩, ⟨n1, n2⟩, u1, u2, u3⟩ := p4 i i1
      have u4 : pu i < 40 := by omega
      have b1 := bk KC (Nat.le_refl _)
      have b2 := bp i (Nat.le_of_lt i1)
      have fin : ∀ s : Nat, s < 91 → (wl_t s).length ≤ 4 → wl_t s = (if i = 0 then [58, 32] else [44, 32]) → am_A (mh_G X) SC (d + 8) mX3_spell Q 84 [(0, .inr (.inr (some (10, l)))), (1, .inl (q : Int)), (2, .inr (.inr (some (3, 0)))), (3, .inl (i : Int)), (4, .inl ((q * 4 + i : Nat) : Int))] [.inr (.inr (some (1000, s))), .inr (.inr (some (3, 0)))] w kc ks := fun s hs hsl es => by
        refine pX3_part hX hs hsl (by simp only [List.length_append]; rw [← h30]; exact wl_b7 l30 b1 k3 b2 i3) d2 u4 n2 i7 d1 n1 u1 h (fun w' h' => bX3_spell_135 ?_)
        rw [wl_nx i3]
        refine ih (i + 1) w' i5 ?_
        rw [es, show wl_t 40 = [32] from rfl] at h'
        unfold wl_p
        simp only [← List.append_assoc] at h' ⊢
        exact h'
      refine bX3_spell_55 ⟨q0, q30, ?_⟩
      rw [Int.toNat_natCast, T h 146 (by decide), p1, e4 i i4]
      refine ⟨fun c => absurd c i6, fun _ => ⟨fun z => fin 43 (by decide) (by decide) ?_, fun z => fin 42 (by decide) (by decide) ?_⟩⟩
      · rw [if_neg (fun e => z (iz.mpr e))]; rfl
      · rw [if_pos (iz.mp z)]; rfl
  -- kin
  have BK : ∀ (n i : Nat) (w : am_W), n + i = KC → wl_P (wl_t 30 ++ wl_k kw i) a w → am_A (mh_G X) SC (d + 8) mX3_spell Q 12 [(0, .inr (.inr (some (10, l)))), (1, .inl (q : Int)), (2, .inr (.inr (some (3, 0)))), (3, .inl (i : Int))] [] w kc ks := by
    intro n
    induction n with
    | zero =>
      intro i w hi h
      obtain rfl : i = KC := by omega
      refine bX3_spell_12 ⟨q0, q30, ?_⟩
      rw [Int.toNat_natCast, T h 144 (by decide), k1]
      refine ⟨fun _ => BP PC 0 w rfl (by show wl_P (_ ++ wl_p pd pu pn 0) a w; unfold wl_p; rw [List.append_nil]; exact h), fun c => absurd (Int.le_refl _) c⟩
    | succ n ih =>
      intro i w hi h
      have i1 : i < KC := by omega
      have i3 : i ≤ 3 := by omega
      have i4 : i < 4 := by omega
      have i5 : n + (i + 1) = KC := by omega
      have i6 : ¬ (KC : Int) ≤ (i : Int) := by omega
      have iz : (i : Int) = 0 ↔ i = 0 := by omega
      have i7 := q4 i i4
      have i8 : 0 ≤ ((q * 4 + i : Nat) : Int) := by omega
      have i9 : ((q * 4 + i : Nat) : Int) < 120 := by omega
      obtain ⟨c1, c2⟩ := k4 i i1
      have c3 : kw i < 40 := by omega
      have b1 := bk i (Nat.le_of_lt i1)
      have b2 := wl_t_l (kw i) c3
      have fin : ∀ s : Nat, s < 91 → (wl_t s).length ≤ 4 → wl_t s = (if i = 0 then [32] else [32, 111, 102, 32]) → am_A (mh_G X) SC (d + 8) mX3_spell Q 34 [(0, .inr (.inr (some (10, l)))), (1, .inl (q : Int)), (2, .inr (.inr (some (3, 0)))), (3, .inl (i : Int))] [.inr (.inr (some (1000, s))), .inr (.inr (some (3, 0)))] w kc ks := fun s hs hsl es => by
        refine bX3_spell_34 (x1 := (q : Int)) (x3 := (i : Int)) (pX6_add (d := d + 1) hX hs (by simp only [List.length_append]; rw [← h30]; exact wl_b8 l30 b1 i3 hsl) h (fun w1 h1 => bX3_spell_37 ?_))
        rw [e4 i i4]
        refine ⟨i8, i9, ?_⟩
        rw [Int.toNat_natCast, T h1 145 (by decide), c1]
        refine pX6_addWord (d := d) (j := kw i) hX rfl c3 (by simp only [List.length_append]; rw [← h30]; exact wl_b9 l30 b1 i3 hsl b2) h1 (fun w' h' => bX3_spell_47 ?_)
        rw [wl_nx i3]
        refine ih (i + 1) w' i5 ?_
        rw [es] at h'
        unfold wl_k
        simp only [← List.append_assoc] at h' ⊢
        exact h'
      refine bX3_spell_12 ⟨q0, q30, ?_⟩
      rw [Int.toNat_natCast, T h 144 (by decide), k1]
      refine ⟨fun c => absurd c i6, fun _ => ⟨fun z => fin 41 (by decide) (by decide) ?_, fun z => fin 40 (by decide) (by decide) ?_⟩⟩
      · rw [if_neg (fun e => z (iz.mpr e))]; rfl
      · rw [if_pos (iz.mp z)]; rfl
  refine am_M_of (by decide) (Nat.le_of_ble_eq_true rfl) ?_
  refine bX3_spell_0 (pX6_addWord (d := d) (a := a) (L := []) (j := 30) hX rfl (by decide) (by show 0 + _ ≤ 256; rw [← h30]; omega) ⟨by dsimp only; rw [am_up_s]; rfl, fun k hk => absurd hk (Nat.not_lt_zero k), fun t ht => am_up_t (fun e => ht (by rw [e]; decide)), rfl⟩ (fun w1 h1 => bX3_spell_10 (BK KC 0 w1 rfl ?_)))
  show wl_P (_ ++ wl_k kw 0) a w1
  unfold wl_k
  rw [List.append_nil]
  exact h1
