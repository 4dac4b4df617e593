-- the class's primitives and its lines
variable {SC : Nat → Nat} {X : mh_X} {r : Option am_I} {L : List (Nat × Nat)} {B : Nat → Int} {ln : Int}
/-- the class looks at token p -/
def tk_Z (w : am_W) : Prop := ∀ k, k ∈ [4, 5, 6] → w.1 2 0 k = 0
def tk_K (L : List (Nat × Nat)) (B : Nat → Int) (ln : Int) (p : Nat) (w : am_W) : Prop := w.1 2 0 9 = (p : Int) ∧ w.1 2 0 8 = (L.length : Int) ∧ (w.1 2 0 7 = ln ∧ tk_Z w) ∧ ∀ j, j < L.length → j < 64 → w.1 25 0 j = tk_cd L B j ∧ w.1 26 0 j = tk_vl L B j
/-- its fault -/
def tk_G (ln t k : Int) (w : am_W) : Prop := w.1 2 0 4 = ln ∧ w.1 2 0 5 = t ∧ w.1 2 0 6 = k
/-- what a line may write: of law l these tags, and the reader -/
def tk_CL (ts : List Nat) (l : Nat) (w w' : am_W) : Prop := (∀ t, ¬ t = 2 → t ∉ ts → w'.1 t = w.1 t) ∧ (∀ t, t ∈ ts → ∀ j, ¬ j = l → w'.1 t j = w.1 t j) ∧ w'.2 = w.2 ∧ ∀ k, k ∉ [4, 5, 6, 9] → w'.1 2 0 k = w.1 2 0 k
theorem tk_CL_r {ts : List Nat} {l : Nat} {w : am_W} : tk_CL ts l w w := ⟨fun _ _ _ => rfl, fun _ _ _ _ => rfl, rfl, fun _ _ => rfl⟩
theorem tk_CL_t {ts : List Nat} {l : Nat} {a b c : am_W} (h : tk_CL ts l a b) (g : tk_CL ts l b c) : tk_CL ts l a c :=
  ⟨fun t q s => (g.1 t q s).trans (h.1 t q s), fun t q j s => (g.2.1 t q j s).trans (h.2.1 t q j s), g.2.2.1.trans h.2.2.1, fun k q => (g.2.2.2 k q).trans (h.2.2.2 k q)⟩
theorem tk_CL_m {ts ts' : List Nat} {l : Nat} {a b : am_W} (h : tk_CL ts l a b) (hm : ∀ t, t ∈ ts → t ∈ ts') (h2 : 2 ∉ ts') : tk_CL ts' l a b :=
  ⟨fun t q s => h.1 t q (fun z => s (hm t z)), fun t q j s => by
    by_cases z : t ∈ ts
    · exact h.2.1 t z j s
    · (try dsimp only); rw [h.1 t (fun e => h2 (e ▸ q)) z], h.2.2.1, h.2.2.2⟩
theorem tk_CL_2 {ts : List Nat} {l k : Nat} {a b : am_W} {v : Int} (h : tk_CL ts l a b) (hk : k ∈ [4, 5, 6, 9]) (h2 : 2 ∉ ts) : tk_CL ts l a (am_up b.1 2 0 k v, b.2) :=
  ⟨fun t q s => (am_up_t q).trans (h.1 t q s), fun t q j s => by
    show am_up b.1 2 0 k v t j = _
    (try dsimp only); rw [am_up_t (fun e : t = 2 => h2 (e ▸ q))]; exact h.2.1 t q j s, h.2.2.1, fun k' q => by
    show am_up b.1 2 0 k v 2 0 k' = _
    (try dsimp only); rw [am_up_k (fun e : k' = k => q (e ▸ hk))]; exact h.2.2.2 k' q⟩
theorem tk_CL_u {ts : List Nat} {l t k : Nat} {a b : am_W} {v : Int} (h : tk_CL ts l a b) (ht : t ∈ ts) (h2 : ¬ t = 2) : tk_CL ts l a (am_up b.1 t l k v, b.2) :=
  ⟨fun t' q s => (am_up_t (fun e : t' = t => s (e ▸ ht))).trans (h.1 t' q s), fun t' q j s => by
    show am_up b.1 t l k v t' j = _
    by_cases z : t' = t
    · subst z
      (try dsimp only); rw [am_up_j s]; exact h.2.1 t' q j s
    · (try dsimp only); rw [am_up_t z]; exact h.2.1 t' q j s, h.2.2.1, fun k' q => by
    show am_up b.1 t l k v 2 0 k' = _
    (try dsimp only); rw [am_up_t (fun e => h2 e.symm)]; exact h.2.2.2 k' q⟩
theorem tk_K_f {ts : List Nat} {l p p' : Nat} {w w' : am_W} (h : tk_K L B ln p w) (f : tk_CL ts l w w') (h25 : 25 ∉ ts ∧ 26 ∉ ts) (h9 : w'.1 2 0 9 = (p' : Int)) (hz : ∀ k, k ∈ [4, 5, 6] → w'.1 2 0 k = w.1 2 0 k) : tk_K L B ln p' w' := by
  obtain ⟨a1, a2, a3, a4⟩ := h
  refine ⟨h9, (f.2.2.2 8 (by decide)).trans a2, ⟨(f.2.2.2 7 (by decide)).trans a3.1, fun k q => (hz k q).trans (a3.2 k q)⟩, fun j q s => ?_⟩
  (try dsimp only); rw [f.1 25 (by decide) h25.1, f.1 26 (by decide) h25.2]; exact a4 j q s
theorem tk_K_9 {p p' : Nat} {w : am_W} {v : Int} (h : tk_K L B ln p w) (hv : v = (p' : Int)) : tk_K L B ln p' (am_up w.1 2 0 9 v, w.2) :=
  tk_K_f (ts := []) (l := 0) h (tk_CL_2 tk_CL_r (by decide) (by simp)) ⟨by simp, by simp⟩ (by (try dsimp only); rw [am_up_s]; exact hv) (fun k q => by dsimp only; rw [am_up_k (fun e : k = 9 => by rw [e] at q; revert q; decide)])
theorem tk_cy {x val : Int} {p : Nat} (hp : p < 64) (hx : x = (p : Int)) (hv : p < L.length → val = tk_cd L B p) : (if x < 0 then (46 : Int) else (if (L.length : Int) ≤ x then 46 else (if 64 ≤ x then 46 else val))) = tk_cd L B p := by
  (try dsimp only); rw [if_neg (by omega)]
  by_cases h : p < L.length
  · (try dsimp only); rw [if_neg (by omega), if_neg (by omega)]; exact hv h
  · (try dsimp only); rw [if_pos (by omega)]; exact (tk_cd46.mpr (by omega)).symm
theorem tk_vy {x val : Int} {p : Nat} (hp : p < 64) (hx : x = (p : Int)) (hv : p < L.length → val = tk_vl L B p) : (if x < 0 then (0 : Int) else (if (L.length : Int) ≤ x then 0 else (if 64 ≤ x then 0 else val))) = tk_vl L B p := by
  (try dsimp only); rw [if_neg (by omega)]
  by_cases h : p < L.length
  · (try dsimp only); rw [if_neg (by omega), if_neg (by omega)]; exact hv h
  · (try dsimp only); rw [if_pos (by omega)]; unfold tk_vl; rw [if_neg h]
theorem tk_Kc {p : Nat} {w : am_W} (h : tk_K L B ln p w) (j : Nat) (hj : j < 64) : j < L.length → w.1 25 0 j = tk_cd L B j := fun q => (h.2.2.2 j q hj).1
theorem tk_Kv {p : Nat} {w : am_W} (h : tk_K L B ln p w) (j : Nat) (hj : j < 64) : j < L.length → w.1 26 0 j = tk_vl L B j := fun q => (h.2.2.2 j q hj).2
/-- the fault is told -/
theorem tk_fl1 {p : Nat} {w : am_W} {k : Int} (h : tk_K L B ln p w) (hp : p < 64) (ts : List Nat) (l : Nat) (h2 : 2 ∉ ts) :
    tk_CL ts l w (am_up (am_up (am_up w.1 2 0 4 (w.1 2 0 7)) 2 0 5 (am_w (((am_up w.1 2 0 4 (w.1 2 0 7)) 2 0 9) + 1))) 2 0 6 k, w.2) ∧ tk_G ln ((p : Int) + 1) k (am_up (am_up (am_up w.1 2 0 4 (w.1 2 0 7)) 2 0 5 (am_w (((am_up w.1 2 0 4 (w.1 2 0 7)) 2 0 9) + 1))) 2 0 6 k, w.2) := by
  obtain ⟨a1, a2, a3, -⟩ := h
  refine ⟨tk_CL_2 (b := (_, _)) (tk_CL_2 (b := (_, _)) (tk_CL_2 tk_CL_r (by decide) h2) (by decide) h2) (by decide) h2, ?_, ?_, (by (try dsimp only); rw [am_up_s])⟩
  · dsimp only
    (try dsimp only); rw [am_up_k (by decide), am_up_k (by decide), am_up_s]; exact a3.1
  · dsimp only
    (try dsimp only); rw [am_up_k (by decide), am_up_s, am_up_k (by decide), a1, am_w_id (z := (p : Int) + 1) (by unfold am_rg; omega)]
theorem pX8_expect {d kc ks : Nat} {Q : Option am_V → am_W → Prop} {w : am_W} {p : Nat} {cs : Int} (hK : tk_K L B ln p w) (hp : p < 60)
    (K1 : ∀ w', (∀ ts l, 2 ∉ ts → tk_CL ts l w w') → tk_cd L B p = cs → tk_K L B ln (p + 1) w' → Q (some (.inl 1)) w') (K0 : ∀ w', (∀ ts l, 2 ∉ ts → tk_CL ts l w w') → ¬ tk_cd L B p = cs → tk_G ln ((p : Int) + 1) 2 w' → Q (some (.inl 0)) w') :
    am_M (mh_G X) SC (d + 2) kc ks mX8_expect [.inr (.inr (some (2, 0))), .inl cs] w Q := by
  have h9 := hK.1
  have h8 := hK.2.1
  have G := fun ts l (h2 : 2 ∉ ts) => tk_fl1 (k := 2) hK (by omega : p < 64) ts l h2
  refine am_M_of (by decide) (Nat.le_of_ble_eq_true rfl) ?_
  refine bX8_expect_0 ⟨fun _ _ _ => by omega, fun _ _ _ => by omega, ?_⟩
  have e := tk_cy (L := L) (B := B) (x := (p : Int)) (by omega : p < 64) rfl (tk_Kc hK p (by omega))
  have e' : (if w.1 2 0 9 < 0 then (46 : Int) else (if w.1 2 0 8 ≤ w.1 2 0 9 then 46 else (if 64 ≤ w.1 2 0 9 then 46 else w.1 25 0 (w.1 2 0 9).toNat))) = tk_cd L B p := by rw [h9, h8, Int.toNat_natCast]; exact e
  (try dsimp only); rw [e']
  refine ⟨fun c => K1 _ (fun ts l h2 => tk_CL_2 tk_CL_r (by decide) h2) c (tk_K_9 hK ?_), fun c => K0 _ (fun ts l h2 => (G ts l h2).1) c (G [] 0 (by simp)).2⟩
  (try dsimp only); rw [h9, am_w_id (z := (p : Int) + 1) (by unfold am_rg; omega)]; omega
theorem pX8_expectNumber {d kc ks : Nat} {Q : Option am_V → am_W → Prop} {w : am_W} {p : Nat} {lo hi : Int} (hK : tk_K L B ln p w) (hp : p < 60)
    (K1 : ∀ w', (∀ ts l, 2 ∉ ts → tk_CL ts l w w') → tk_cd L B p = 41 → (lo ≤ tk_vl L B p ∧ tk_vl L B p ≤ hi) → tk_K L B ln (p + 1) w' → Q (some (.inl 1)) w')
    (K0 : ∀ w' k, (∀ ts l, 2 ∉ ts → tk_CL ts l w w') → ((¬ tk_cd L B p = 41 ∧ k = 2) ∨ (tk_cd L B p = 41 ∧ ¬ (lo ≤ tk_vl L B p ∧ tk_vl L B p ≤ hi) ∧ k = 3)) → tk_G ln ((p : Int) + 1) k w' → Q (some (.inl 0)) w') :
    am_M (mh_G X) SC (d + 2) kc ks mX8_expectNumber [.inr (.inr (some (2, 0))), .inl lo, .inl hi] w Q := by
  have h9 := hK.1
  have h8 := hK.2.1
  have G := fun k ts l (h2 : 2 ∉ ts) => tk_fl1 (k := k) hK (by omega : p < 64) ts l h2
  refine am_M_of (by decide) (Nat.le_of_ble_eq_true rfl) ?_
  refine bX8_expectNumber_0 ⟨fun _ _ _ => by omega, fun _ _ _ => by omega, ?_⟩
  have e' : (if w.1 2 0 9 < 0 then (46 : Int) else (if w.1 2 0 8 ≤ w.1 2 0 9 then 46 else (if 64 ≤ w.1 2 0 9 then 46 else w.1 25 0 (w.1 2 0 9).toNat))) = tk_cd L B p := by
    (try dsimp only); rw [h9, h8, Int.toNat_natCast]; exact tk_cy (L := L) (B := B) (x := (p : Int)) (by omega : p < 64) rfl (tk_Kc hK p (by omega))
  have e2 : (if w.1 2 0 9 < 0 then (0 : Int) else (if w.1 2 0 8 ≤ w.1 2 0 9 then 0 else (if 64 ≤ w.1 2 0 9 then 0 else w.1 26 0 (w.1 2 0 9).toNat))) = tk_vl L B p := by
    (try dsimp only); rw [h9, h8, Int.toNat_natCast]; exact tk_vy (L := L) (B := B) (x := (p : Int)) (by omega : p < 64) rfl (tk_Kv hK p (by omega))
  (try dsimp only); rw [e', e2]
  have bad : tk_cd L B p = 41 → ¬ (lo ≤ tk_vl L B p ∧ tk_vl L B p ≤ hi) → am_A (mh_G X) SC (d + 2) mX8_expectNumber Q 35 [(0, .inr (.inr (some (2, 0))))] [] w kc ks := fun c z =>
    bX8_expectNumber_35 (K0 _ 3 (fun ts l h2 => (G 3 ts l h2).1) (Or.inr ⟨c, z, rfl⟩) (G 3 [] 0 (by simp)).2)
  refine ⟨fun c => ⟨fun c2 => bad c (fun z => by omega), fun c2 => ⟨fun c3 => K1 _ (fun ts l h2 => tk_CL_2 tk_CL_r (by decide) h2) c ⟨by omega, c3⟩ (tk_K_9 hK ?_), fun c3 => bad c (fun z => by omega)⟩⟩, fun c => K0 _ 2 (fun ts l h2 => (G 2 ts l h2).1) (Or.inl ⟨c, rfl⟩) (G 2 [] 0 (by simp)).2⟩
  (try dsimp only); rw [h9, am_w_id (z := (p : Int) + 1) (by unfold am_rg; omega)]; omega
theorem pX8_expectStuff {d kc ks : Nat} {Q : Option am_V → am_W → Prop} {w : am_W} {p : Nat} (hK : tk_K L B ln p w) (hp : p < 50)
    (K1 : ∀ w', (∀ ts l, 2 ∉ ts → tk_CL ts l w w') → tk_st (tk_cd L B p) → tk_cd L B (p + 1) = 46 → tk_K L B ln (p + 2) w' → Q (some (.inl 1)) w')
    (K0 : ∀ w' t, (∀ ts l, 2 ∉ ts → tk_CL ts l w w') → ((¬ tk_st (tk_cd L B p) ∧ t = (p : Int) + 1) ∨ (tk_st (tk_cd L B p) ∧ ¬ tk_cd L B (p + 1) = 46 ∧ t = (p : Int) + 2)) → tk_G ln t 2 w' → Q (some (.inl 0)) w') :
    am_M (mh_G X) SC (d + 3) kc ks mX8_expectStuff [.inr (.inr (some (2, 0)))] w Q := by
  have h9 := hK.1
  have h8 := hK.2.1
  have G := fun ts l (h2 : 2 ∉ ts) => tk_fl1 (k := 2) hK (by omega : p < 64) ts l h2
  refine am_M_of (by decide) (Nat.le_of_ble_eq_true rfl) ?_
  refine bX8_expectStuff_0 ⟨fun _ _ _ => by omega, fun _ _ _ => by omega, ?_⟩
  have e' : (if w.1 2 0 9 < 0 then (46 : Int) else (if w.1 2 0 8 ≤ w.1 2 0 9 then 46 else (if 64 ≤ w.1 2 0 9 then 46 else w.1 25 0 (w.1 2 0 9).toNat))) = tk_cd L B p := by
    (try dsimp only); rw [h9, h8, Int.toNat_natCast]; exact tk_cy (L := L) (B := B) (x := (p : Int)) (by omega : p < 64) rfl (tk_Kc hK p (by omega))
  (try dsimp only); rw [e']
  refine ⟨fun c => ?_, fun c => K0 _ _ (fun ts l h2 => (G ts l h2).1) (Or.inl ⟨fun z => c (by unfold tk_st at z; omega), rfl⟩) (G [] 0 (by simp)).2⟩
  have st : tk_st (tk_cd L B p) := by unfold tk_st; omega
  (try dsimp only); rw [h9, am_w_id (z := (p : Int) + 1) (by unfold am_rg; omega)]
  refine pX8_expect (d := d) (tk_K_9 (p' := p + 1) hK (by omega)) (by omega) (fun w' f c1 k1 => ?_) (fun w' f c1 g1 => ?_)
  · exact bX8_expectStuff_36 ⟨Or.inr rfl, K1 w' (fun ts l h2 => tk_CL_t (tk_CL_2 tk_CL_r (by decide) h2) (f ts l h2)) st c1 k1⟩
  · refine bX8_expectStuff_36 ⟨Or.inl rfl, K0 w' ((p : Int) + 2) (fun ts l h2 => tk_CL_t (tk_CL_2 tk_CL_r (by decide) h2) (f ts l h2)) (Or.inr ⟨st, c1, rfl⟩) ?_⟩
    (try dsimp only); rw [show (p : Int) + 2 = ((p + 1 : Nat) : Int) + 1 by omega]; exact g1
/-- a line's outcome in the class: l: what must hold; P: what is written -/
def tk_oc (ln : Int) (l : List (Prop × Int × Int)) (P : am_W → Prop) (v : Int) (w' : am_W) : Prop := (v = 1 ∧ (tk_ch l).2 = 0 ∧ tk_Z w' ∧ P w') ∨ (v = 0 ∧ ¬ (tk_ch l).2 = 0 ∧ tk_G ln (tk_ch l).1 (tk_ch l).2 w')
theorem tk_oc_n {l : List (Prop × Int × Int)} {P : am_W → Prop} {w' : am_W} {t k : Int} (h : tk_ch l = (t, k)) (hk : ¬ k = 0) (g : tk_G ln t k w') : tk_oc ln l P 0 w' := by
  refine Or.inr ⟨rfl, ?_, ?_⟩
  · (try dsimp only); rw [h]; exact hk
  · (try dsimp only); rw [h]; exact g
theorem pX8_readMay {d kc ks : Nat} {Q : Option am_V → am_W → Prop} {w : am_W} {l p : Nat} (hK : tk_K L B ln p w)
    (K : ∀ (v : Int) (w' : am_W), tk_CL [153] l w w' → tk_oc ln (tk_lm (tk_cd L B) (tk_vl L B) ++ [(tk_cd L B 4 = 46, 5, 2)]) (fun w' => ∀ i, w'.1 153 l i = if i = (tk_cd L B 1 - 21).toNat then tk_cd L B 3 - 12 else w.1 153 l i) v w' → Q (some (.inl v)) w') :
    am_M (mh_G X) SC (d + 4) kc ks mX8_readMay [.inr (.inr (some (2, 0))), .inr (.inr (some (10, l)))] w Q := by
  have h8 := hK.2.1
  have f1 : tk_CL [153] l w (am_up w.1 2 0 9 1, w.2) := tk_CL_2 tk_CL_r (by decide) (by decide)
  have K1 : tk_K L B ln 1 (am_up w.1 2 0 9 1, w.2) := tk_K_9 hK rfl
  have eE : tk_lm (tk_cd L B) (tk_vl L B) ++ [(tk_cd L B 4 = 46, (5 : Int), (2 : Int))] = [(21 ≤ tk_cd L B 1 ∧ tk_cd L B 1 ≤ 24, 2, 2), (tk_cd L B 2 = 33, 3, 2), (tk_st (tk_cd L B 3), 4, 2), (tk_cd L B 4 = 46, 5, 2)] := rfl
  rw [eE] at K
  refine am_M_of (by decide) (Nat.le_of_ble_eq_true rfl) ?_
  refine bX8_readMay_0 ⟨fun _ _ _ => by decide, fun _ _ _ => by decide, fun n3 hn3 => ?_⟩
  rw [h8, tk_cy (x := 1) (p := 1) (by decide) rfl (tk_Kc hK 1 (by decide))] at hn3
  have e9 : (am_up w.1 2 0 9 1) 2 0 9 = 1 := am_up_s
  have e8 : (am_up w.1 2 0 9 1) 2 0 8 = (L.length : Int) := by (try dsimp only); rw [am_up_k (by decide)]; exact h8
  have G := tk_fl1 (k := 2) K1 (by decide) [153] l (by decide)
  (try dsimp only); rw [e9, e8]
  refine ⟨fun _ _ _ => by decide, fun _ _ _ => by decide, ?_⟩
  (try dsimp only); rw [show (1 : Int).toNat = 1 from rfl, tk_cy (x := 1) (p := 1) (by decide) rfl (tk_Kc hK 1 (by decide))]
  refine ⟨fun c => ?_, fun c => ?_⟩
  · have c1 : 21 ≤ tk_cd L B 1 ∧ tk_cd L B 1 ≤ 24 := by omega
    have n3e : n3 = tk_cd L B 1 - 21 := by rw [hn3]; exact am_w_id (by unfold am_rg; omega)
    (try dsimp only); rw [am_w_id (z := (1 : Int) + 1) (by unfold am_rg; omega)]
    have f2 : tk_CL [153] l w (am_up (am_up w.1 2 0 9 1) 2 0 9 (1 + 1), w.2) := tk_CL_2 f1 (by decide) (by decide)
    refine pX8_expect (d := d + 1) (p := 2) (tk_K_9 (w := (_, _)) K1 rfl) (by decide) (fun w3 f3 c3 k3 => bX8_readMay_50 ⟨fun z => absurd z (by decide), fun _ => ?_⟩) (fun w3 f3 c3 g3 => bX8_readMay_50 ⟨fun _ => K 0 w3 (tk_CL_t f2 (f3 _ _ (by decide))) (tk_oc_n (by rw [tk_ch_y c1, tk_ch_n c3]; rfl) (by decide) g3), fun z => absurd rfl z⟩)
    have F3 := tk_CL_t f2 (f3 [153] l (by decide))
    refine pX8_expectStuff (d := d) k3 (by decide) (fun w4 f4 c4 c5 k4 => bX8_readMay_57 ⟨fun _ => ?_, fun z => absurd z (by decide)⟩) (fun w4 t f4 al g4 => bX8_readMay_57 ⟨fun z => absurd rfl z, fun _ => K 0 w4 (tk_CL_t F3 (f4 _ _ (by decide))) ?_⟩)
    · have F4 := tk_CL_t F3 (f4 [153] l (by decide))
      refine ⟨fun _ _ _ => by decide, fun _ _ _ => by decide, by omega, by omega, ?_⟩
      (try dsimp only); rw [k4.2.1, tk_cy (x := 3) (p := 3) (by decide) rfl (tk_Kc k4 3 (by decide))]
      have st : tk_st (tk_cd L B 3) := c4
      unfold tk_st at st
      refine K 1 _ (tk_CL_u F4 (by decide) (by decide)) (Or.inl ⟨rfl, by rw [tk_ch_y c1, tk_ch_y c3, tk_ch_y c4, tk_ch_y c5]; rfl, (fun k hk => by dsimp only; simp (disch := decide) only [am_up_t]; exact k4.2.2.1.2 k hk), fun i => ?_⟩)
      dsimp only
      have w153 : w4.1 153 = w.1 153 := by
        have a1 : w4.1 153 = w3.1 153 := (f4 [] 0 (by simp)).1 153 (by decide) (by simp)
        have a2 : w3.1 153 = _ := (f3 [] 0 (by simp)).1 153 (by decide) (by simp)
        (try dsimp only); rw [a1, a2]
        dsimp only
        (try dsimp only); rw [am_up_t (by decide), am_up_t (by decide)]
      (try dsimp only); rw [am_up_a, w153, n3e, am_w_id (by unfold am_rg; omega)]
    · rcases al with ⟨a1, a2⟩ | ⟨a1, a2, a3⟩
      · subst a2
        exact tk_oc_n (by rw [tk_ch_y c1, tk_ch_y c3, tk_ch_n a1]; rfl) (by decide) g4
      · subst a3
        exact tk_oc_n (by rw [tk_ch_y c1, tk_ch_y c3, tk_ch_y a1, tk_ch_n a2]; rfl) (by decide) g4
  · have c1 : ¬ (21 ≤ tk_cd L B 1 ∧ tk_cd L B 1 ≤ 24) := fun z => c (by omega)
    exact K 0 _ (tk_CL_t f1 G.1) (tk_oc_n (by rw [tk_ch_n c1]; rfl) (by decide) G.2)
