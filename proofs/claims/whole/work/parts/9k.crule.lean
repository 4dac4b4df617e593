-- the class's rule
variable {SC : Nat → Nat} {X : mh_X} {r : Option am_I} {L : List (Nat × Nat)} {B : Nat → Int} {ln : Int}
def tk_dw (L : List (Nat × Nat)) (B : Nat → Int) (l r n : Nat) (w : am_W) : Prop := w.1 144 l r = (n : Int) ∧ ∀ i, i < n → w.1 145 l (r * 4 + i) = tk_cd L B (2 * i + 1)
def tk_dp (L : List (Nat × Nat)) (B : Nat → Int) (l r s m : Nat) (w : am_W) : Prop := w.1 146 l r = (m : Int) ∧ ∀ i, i < m → w.1 147 l (r * 4 + i) = tk_cd L B (s + 4 * i) - 12 ∧ w.1 148 l (r * 4 + i) = tk_vl L B (s + 4 * i + 1) ∧ w.1 149 l (r * 4 + i) = tk_cd L B (s + 4 * i + 2)
theorem pX3_addKin {d kc ks : Nat} {Q : Option am_V → am_W → Prop} {w : am_W} {l rr n : Nat} {x : Int} (hr : rr < 30) (h10 : w.1 10 l 10 = (rr : Int) + 1) (hn : w.1 144 l rr = (n : Int)) (hn4 : n ≤ 4)
    (K1 : ¬ n = 4 → Q (some (.inl 1)) (am_up (am_up w.1 145 l (rr * 4 + n) x) 144 l rr ((n : Int) + 1), w.2)) (K0 : n = 4 → Q (some (.inl 0)) w) : am_M (mh_G X) SC (d + 1) kc ks mX3_addKin [.inr (.inr (some (10, l))), .inl x] w Q := by
  have e1 : (rr : Int) + 1 - 1 = (rr : Int) := by omega
  refine am_M_of (by decide) (Nat.le_of_ble_eq_true rfl) ?_
  refine bX3_addKin_0 ?_
  (try dsimp only); rw [h10, e1, am_w_id (z := (rr : Int)) (by unfold am_rg; omega), Int.toNat_natCast, hn, am_w_id (z := (rr : Int) * 4) (by unfold am_rg; omega), am_w_id (z := (rr : Int) * 4 + (n : Int)) (by unfold am_rg; omega), am_w_id (z := (n : Int) + 1) (by unfold am_rg; omega), show ((rr : Int) * 4 + (n : Int)).toNat = rr * 4 + n by omega]
  exact ⟨by omega, by omega, fun c => ⟨by omega, by omega, K1 (by omega)⟩, fun c => K0 (by omega)⟩
theorem tk_ckl {d bc bs : Nat} {Q : Option am_V → am_W → Prop} {l rr : Nat} (hr : rr < 30) : ∀ (f n : Nat) (w : am_W), f + n = 5 → n ≤ 4 → tk_K L B ln (2 * n) w → w.1 10 l 10 = (rr : Int) + 1 → tk_dw L B l rr n w →
    (∀ (v : Int) (w' : am_W), tk_CL [144, 145] l w w' → (∀ a, ¬ a = rr → w'.1 144 l a = w.1 144 l a) → (∀ k, k < rr * 4 → w'.1 145 l k = w.1 145 l k) →
      ((v = 1 ∧ (tk_pk (tk_cd L B) f n).1.2 = 0 ∧ tk_cd L B (2 * (tk_pk (tk_cd L B) f n).2) = 42 ∧ tk_K L B ln (2 * (tk_pk (tk_cd L B) f n).2) w' ∧ tk_dw L B l rr (tk_pk (tk_cd L B) f n).2 w') ∨
       (v = 0 ∧ ((¬ (tk_pk (tk_cd L B) f n).1.2 = 0 ∧ tk_G ln (tk_pk (tk_cd L B) f n).1.1 (tk_pk (tk_cd L B) f n).1.2 w') ∨ ((tk_pk (tk_cd L B) f n).1.2 = 0 ∧ ¬ tk_cd L B (2 * (tk_pk (tk_cd L B) f n).2) = 42 ∧ tk_G ln ((2 * (tk_pk (tk_cd L B) f n).2 : Nat) + 1) 2 w')))) → Q (some (.inl v)) w') →
    am_A (mh_G X) SC (d + 2) mX8_readKin Q 0 [(0, .inr (.inr (some (2, 0)))), (1, .inr (.inr (some (10, l))))] [] w bc bs
  | 0, n, w, h1, h2, _, _, _, _ => by omega
  | f + 1, n, w, h1, h2, hK, h10, hd, K => by
    have h9 := hK.1
    have h8 := hK.2.1
    obtain ⟨W, hW⟩ : ∃ W, W = am_up w.1 2 0 9 (((2 * n : Nat) : Int) + 1) := ⟨_, rfl⟩
    have KW : tk_K L B ln (2 * n + 1) (W, w.2) := by rw [hW]; exact tk_K_9 hK (by omega)
    have FW : tk_CL [144, 145] l w (W, w.2) := by rw [hW]; exact tk_CL_2 tk_CL_r (by decide) (by decide)
    have TW : ∀ t, ¬ t = 2 → W t = w.1 t := fun t ht => by rw [hW]; exact am_up_t ht
    have e9 : W 2 0 9 = ((2 * n + 1 : Nat) : Int) := KW.1
    have e8 : W 2 0 8 = (L.length : Int) := KW.2.1
    refine bX8_readKin_0 ?_
    (try dsimp only); rw [h9, am_w_id (z := ((2 * n : Nat) : Int) + 1) (by unfold am_rg; omega), ← hW, e9, e8, Int.toNat_natCast]
    refine ⟨fun _ _ _ => by omega, fun _ _ _ => by omega, ?_⟩
    (try dsimp only); rw [tk_cy (p := 2 * n + 1) (by omega) rfl (tk_Kc hK (2 * n + 1) (by omega))]
    refine ⟨fun c => ?_, fun c => ?_⟩
    · have ki : 0 ≤ tk_cd L B (2 * n + 1) ∧ tk_cd L B (2 * n + 1) ≤ 11 := by omega
      have E1 := tk_pk1 (c := tk_cd L B) (f := f) (n := n)
      rw [if_neg (fun z => z ki)] at E1
      refine pX3_addKin (n := n) (rr := rr) hr (by show W 10 l 10 = _; rw [TW 10 (by decide)]; exact h10) (by show W 144 l rr = _; rw [TW 144 (by decide)]; exact hd.1) h2 (fun n4 => ?_) (fun n4 => ?_)
      · rw [if_neg n4] at E1
        obtain ⟨V, hV⟩ : ∃ V : am_W, V = (am_up (am_up W 145 l (rr * 4 + n) (tk_cd L B (2 * n + 1))) 144 l rr ((n : Int) + 1), w.2) := ⟨_, rfl⟩
        have eV : V.1 = am_up (am_up W 145 l (rr * 4 + n) (tk_cd L B (2 * n + 1))) 144 l rr ((n : Int) + 1) := by rw [hV]
        have FV : tk_CL [144, 145] l w V := by rw [hV]; exact tk_CL_u (b := (_, _)) (tk_CL_u (b := (_, _)) FW (by decide) (by decide)) (by decide) (by decide)
        have v9 : V.1 2 0 9 = ((2 * n + 1 : Nat) : Int) := by rw [eV, am_up_t (by decide), am_up_t (by decide)]; exact e9
        have v8 : V.1 2 0 8 = (L.length : Int) := by rw [eV, am_up_t (by decide), am_up_t (by decide)]; exact e8
        have KV : tk_K L B ln (2 * n + 1) V := tk_K_f hK FV ⟨by decide, by decide⟩ v9 (fun k q => by rw [eV, am_up_t (by decide), am_up_t (by decide), hW, am_up_k (fun e : k = 9 => by rw [e] at q; revert q; decide)])
        have V144 : ∀ a, ¬ a = rr → V.1 144 l a = w.1 144 l a := fun a ha => by rw [eV, am_up_k ha, am_up_t (by decide), TW 144 (by decide)]
        have V145 : ∀ k, k < rr * 4 → V.1 145 l k = w.1 145 l k := fun k hk => by rw [eV, am_up_t (by decide), am_up_k (by omega), TW 145 (by decide)]
        have VD : tk_dw L B l rr (n + 1) V := by
          refine ⟨?_, fun i hi => ?_⟩
          · show V.1 144 l rr = _
            (try dsimp only); rw [eV, am_up_s]; omega
          · show V.1 145 l (rr * 4 + i) = _
            (try dsimp only); rw [eV, am_up_t (by decide), am_up_a]
            by_cases z : i = n
            · (try dsimp only); rw [if_pos (by omega), z]
            · (try dsimp only); rw [if_neg (by omega), TW 145 (by decide)]; exact hd.2 i (by omega)
        (try dsimp only); rw [← hV]
        obtain ⟨U, hU⟩ : ∃ U : am_W, U = (am_up V.1 2 0 9 (((2 * n + 1 : Nat) : Int) + 1), V.2) := ⟨_, rfl⟩
        have eU : U.1 = am_up V.1 2 0 9 (((2 * n + 1 : Nat) : Int) + 1) := by rw [hU]
        have eP : ((U.1, V.2) : am_W) = U := by rw [hU]
        have KU : tk_K L B ln (2 * (n + 1)) U := by rw [hU]; exact tk_K_9 KV (by omega)
        have FU : tk_CL [144, 145] l w U := by rw [hU]; exact tk_CL_2 FV (by decide) (by decide)
        have TU : ∀ t, ¬ t = 2 → U.1 t = V.1 t := fun t ht => by rw [eU]; exact am_up_t ht
        have u9 : U.1 2 0 9 = ((2 * (n + 1) : Nat) : Int) := KU.1
        have u8 : U.1 2 0 8 = (L.length : Int) := KU.2.1
        have DU : tk_dw L B l rr (n + 1) U := by
          refine ⟨?_, fun i hi => ?_⟩
          · show U.1 144 l rr = _
            (try dsimp only); rw [TU 144 (by decide)]; exact VD.1
          · show U.1 145 l (rr * 4 + i) = _
            (try dsimp only); rw [TU 145 (by decide)]; exact VD.2 i hi
        have U144 : ∀ a, ¬ a = rr → U.1 144 l a = w.1 144 l a := fun a ha => by rw [TU 144 (by decide)]; exact V144 a ha
        have U145 : ∀ k, k < rr * 4 → U.1 145 l k = w.1 145 l k := fun k hk => by rw [TU 145 (by decide)]; exact V145 k hk
        have last : ¬ tk_cd L B (2 * (n + 1)) = 31 → am_A (mh_G X) SC (d + 2) mX8_readKin Q 86 [(0, .inr (.inr (some (2, 0))))] [] U bc bs := by
          intro no
          have E : tk_pk (tk_cd L B) (f + 1) n = ((0, 0), n + 1) := by rw [E1, if_neg no]
          rw [E] at K
          refine bX8_readKin_86 ?_
          have G := tk_fl1 (k := 2) KU (by omega) [144, 145] l (by decide)
          refine ⟨fun _ _ _ => ?_, fun _ _ _ => ?_, ?_⟩
          · show (0 : Int) ≤ U.1 2 0 9
            omega
          · show U.1 2 0 9 < (64 : Int)
            omega
          have ec : (if U.1 2 0 9 < 0 then (46 : Int) else (if U.1 2 0 8 ≤ U.1 2 0 9 then 46 else (if 64 ≤ U.1 2 0 9 then 46 else U.1 25 0 (U.1 2 0 9).toNat))) = tk_cd L B (2 * (n + 1)) := by
            (try dsimp only); rw [u9, u8, Int.toNat_natCast]; exact tk_cy (p := 2 * (n + 1)) (by omega) rfl (tk_Kc KU (2 * (n + 1)) (by omega))
          try dsimp only
          (try dsimp only); rw [ec]
          refine ⟨fun c2 => K 1 _ FU U144 U145 (Or.inl ⟨rfl, rfl, c2, KU, DU⟩), fun c2 => K 0 _ (tk_CL_t FU G.1) (fun a ha => ?_) (fun k hk => ?_) (Or.inr ⟨rfl, Or.inr ⟨rfl, c2, G.2⟩⟩)⟩
          · dsimp only
            (try dsimp only); rw [am_up_t (by decide), am_up_t (by decide), am_up_t (by decide)]; exact U144 a ha
          · dsimp only
            (try dsimp only); rw [am_up_t (by decide), am_up_t (by decide), am_up_t (by decide)]; exact U145 k hk
        refine bX8_readKin_42 ⟨fun _ => ?_, fun z => absurd z (by decide)⟩
        try dsimp only
        (try dsimp only); rw [v9, am_w_id (z := ((2 * n + 1 : Nat) : Int) + 1) (by unfold am_rg; omega), ← eU, eP, u9, u8, Int.toNat_natCast]
        refine ⟨fun z => last (fun y => ?_), fun z => ⟨fun _ _ _ => by omega, fun _ _ _ => by omega, ?_⟩⟩
        · have := (tk_cd46 (B := B)).mpr (by omega : L.length ≤ 2 * (n + 1))
          omega
        have e2 := tk_cy (L := L) (B := B) (x := ((2 * (n + 1) : Nat) : Int)) (p := 2 * (n + 1)) (by omega) rfl (tk_Kc KV (2 * (n + 1)) (by omega))
        try dsimp only
        (try dsimp only); rw [e2]
        refine ⟨fun y => ?_, fun y => last y⟩
        have E : tk_pk (tk_cd L B) (f + 1) n = tk_pk (tk_cd L B) f (n + 1) := by rw [E1, if_pos y]
        rw [E] at K
        refine tk_ckl hr f (n + 1) U (by omega) (by omega) KU (by show U.1 10 l 10 = _; rw [TU 10 (by decide), eV, am_up_t (by decide), am_up_t (by decide), TW 10 (by decide)]; exact h10) DU (fun v w' F' a' b' o' => K v w' (tk_CL_t FU F') (fun a ha => (a' a ha).trans (U144 a ha)) (fun k hk => (b' k hk).trans (U145 k hk)) o')
      · rw [if_pos n4] at E1
        rw [E1] at K
        have G := tk_fl1 (k := 6) KW (by omega) [144, 145] l (by decide)
        refine bX8_readKin_42 ⟨fun z => absurd rfl z, fun _ => K 0 _ (tk_CL_t FW G.1) (fun a ha => ?_) (fun k hk => ?_) (Or.inr ⟨rfl, Or.inl ⟨by show ¬ (6 : Int) = 0; decide, ?_⟩⟩)⟩
        · dsimp only
          (try dsimp only); rw [am_up_t (by decide), am_up_t (by decide), am_up_t (by decide)]
          show W 144 l a = _
          (try dsimp only); rw [TW 144 (by decide)]
        · dsimp only
          (try dsimp only); rw [am_up_t (by decide), am_up_t (by decide), am_up_t (by decide)]
          show W 145 l k = _
          (try dsimp only); rw [TW 145 (by decide)]
        · have := G.2
          rw [show ((2 * n + 1 : Nat) : Int) + 1 = 2 * (n : Int) + 2 by omega] at this
          exact this
    · have ki : ¬ (0 ≤ tk_cd L B (2 * n + 1) ∧ tk_cd L B (2 * n + 1) ≤ 11) := fun z => c (by omega)
      have E1 := tk_pk1 (c := tk_cd L B) (f := f) (n := n)
      rw [if_pos ki] at E1
      rw [E1] at K
      have G := tk_fl1 (k := 2) KW (by omega) [144, 145] l (by decide)
      refine K 0 _ (tk_CL_t FW G.1) (fun a ha => ?_) (fun k hk => ?_) (Or.inr ⟨rfl, Or.inl ⟨by show ¬ (2 : Int) = 0; decide, ?_⟩⟩)
      · dsimp only
        (try dsimp only); rw [am_up_t (by decide), am_up_t (by decide), am_up_t (by decide), TW 144 (by decide)]
      · dsimp only
        (try dsimp only); rw [am_up_t (by decide), am_up_t (by decide), am_up_t (by decide), TW 145 (by decide)]
      · have := G.2
        rw [show ((2 * n + 1 : Nat) : Int) + 1 = 2 * (n : Int) + 2 by omega] at this
        exact this
