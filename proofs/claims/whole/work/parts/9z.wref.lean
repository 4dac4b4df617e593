-- THE REFERENCE WRITES: one String
variable {SC : Nat → Nat} {X : mh_X} {r : Option am_I}
/-- the reference has written L -/
def wl_O (L : List Int) (b w : am_W) : Prop := w.1 9 0 98 = (L.length : Int) ∧ (∀ k, k < L.length → w.1 142 0 k = L.getD k 0) ∧ (∀ t, t ∉ [9, 142, 999] → w.1 t = b.1 t) ∧ (∀ k, ¬ k = 98 → w.1 9 0 k = b.1 9 0 k) ∧ ∀ t, ¬ t = 999 → w.2.1 t = b.2.1 t
/-- (t, j) is a String that says T -/
def wl_C (X : mh_X) (w : am_W) (t j : Nat) (T : List Int) : Prop := ∃ tv jv, mh_S X w t j tv jv T.length ∧ (∀ i, i < T.length → am_gi (mh_G X) w tv jv i = T.getD i 0 ∧ 0 ≤ T.getD i 0 ∧ T.getD i 0 < 128) ∧ (tv = 999 ∨ tv = 1001) ∧ (t = 999 ∨ t = 1000)
theorem wl_C_k {w : am_W} {j : Nat} (hj : j < 91) : wl_C X w 1000 j (wl_t j) := ⟨1001, j, mh_S_k hj, fun i hi => ⟨rfl, mh_tx_c hj hi⟩, Or.inr rfl, Or.inr rfl⟩
theorem wl_C_m {w u : am_W} {t j : Nat} {T : List Int} (h : wl_C X w t j T) (e : u.2 = w.2) (f : ∀ t, t ∉ [9, 142] → u.1 t = w.1 t) : wl_C X u t j T := by
  obtain ⟨tv, jv, ⟨⟨s1, s2, s3, s4⟩, s5, s6, s7, s8⟩, h2, h3, h4⟩ := h
  have kd : ∀ a c, am_kd (mh_G X) u a c = am_kd (mh_G X) w a c := fun a c => by unfold am_kd; rw [e]
  have ln : ∀ a c, am_ln (mh_G X) u a c = am_ln (mh_G X) w a c := fun a c => by unfold am_ln; rw [e]
  have gr : ∀ a c k, am_gr (mh_G X) u a c k = am_gr (mh_G X) w a c k := fun a c k => by unfold am_gr; rw [e]
  have gi : ∀ a c k, a = 999 ∨ a = 1000 ∨ a = 1001 → am_gi (mh_G X) u a c k = am_gi (mh_G X) w a c k := fun a c k ha => by
    unfold am_gi
    rw [f a (by rcases ha with e | e | e <;> subst e <;> decide)]
  refine ⟨tv, jv, ⟨⟨s1, ?_, ?_, ?_⟩, s5, ?_, ?_, s8⟩, fun i hi => ?_, h3, h4⟩
  · rw [kd]; exact s2
  · rw [gr]; exact s3
  · rw [gi t j 1 (by rcases h4 with e | e <;> rw [e] <;> decide)]; exact s4
  · rw [kd]; exact s6
  · rw [ln]; exact s7
  · rw [gi tv jv i (by rcases h3 with e | e <;> rw [e] <;> decide)]; exact h2 i hi
theorem wl_i2b {z : Int} (h : 0 ≤ z ∧ z < 128) : am_i2b z = z := by
  obtain ⟨k, rfl⟩ := mh_nat h.1
  have : ∀ k : Nat, k < 128 → am_i2b (k : Int) = (k : Int) := by decide +kernel
  exact this k (by omega)
theorem wl_O_a {L : List Int} {b w : am_W} {x : Int} (h : wl_O L b w) (hL : L.length < 400) : wl_O (L ++ [x]) b (am_up (am_up w.1 9 0 98 (am_w ((w.1 9 0 98) + 1))) 142 0 (w.1 9 0 98).toNat x, w.2) := by
  obtain ⟨h1, h2, h3, h4, h5⟩ := h
  refine ⟨?_, fun k hk => ?_, fun t ht => ?_, fun k hk => ?_, h5⟩
  · dsimp only
    rw [am_up_t (by decide), am_up_s, h1, am_w_id (z := (L.length : Int) + 1) (by unfold am_rg; omega), List.length_append]
    rfl
  · dsimp only
    rw [am_up_a, h1, Int.toNat_natCast, wl_app hk, am_up_t (by decide)]
    by_cases z : k = L.length
    · rw [if_pos z, if_pos z]
    · rw [if_neg z, if_neg z]
      rw [List.length_append, List.length_singleton] at hk
      exact h2 k (by omega)
  · dsimp only
    rw [am_up_t (fun e => ht (by rw [e]; decide)), am_up_t (fun e => ht (by rw [e]; decide))]
    exact h3 t ht
  · dsimp only
    rw [am_up_t (by decide), am_up_k hk]
    exact h4 k hk
theorem pX12_writes {d kc ks : Nat} {Q : Option am_V → am_W → Prop} {b w : am_W} {t j : Nat} {L T sep : List Int} {x : Int} (hX : mh_st X r) (hC : wl_C X w t j T) (hL : L.length + 1 + T.length ≤ 400) (h : wl_O L b w)
    (hs : (¬ x = 0 ∧ sep = []) ∨ (x = 0 ∧ L = [] ∧ sep = []) ∨ (x = 0 ∧ 1 ≤ L.length ∧ sep = [32])) (K : ∀ u, wl_O (L ++ sep ++ T) b u → u.2 = w.2 → (∀ t, t ∉ [9, 142] → u.1 t = w.1 t) → Q none u) : am_M (mh_G X) SC (d + 6) kc ks mX12_writes [.inr (.inr (some (9, 0))), .inr (.inr (some (t, j))), .inl x] w Q := by
  have ht : t < 1100 := by obtain ⟨_, _, -, -, -, e | e⟩ := hC <;> omega
  have hkk : ∀ u, wl_C X u t j T → am_kd (mh_G X) u t j = 111 := fun u hu => by obtain ⟨_, _, s, -⟩ := hu; exact s.1.2.1
  have B : ∀ (n i : Nat) (u : am_W) (M : List Int), M = L ++ sep → M.length + T.length ≤ 400 → n + i = T.length → wl_O (M ++ T.take i) b u → u.2 = w.2 → (∀ t, t ∉ [9, 142] → u.1 t = w.1 t) → am_A (mh_G X) SC (d + 6) mX12_writes Q 31 [(0, .inr (.inr (some (9, 0)))), (1, .inr (.inr (some (t, j)))), (3, .inl (i : Int))] [] u kc ks := by
    intro n
    induction n with
    | zero =>
      intro i u M hM hML hi h e f
      have hCu := wl_C_m hC e f
      obtain ⟨tv, jv, hS, -⟩ := id hCu
      refine bX12_writes_31 ⟨ht, hkk u hCu, pJ0_length (d := d + 3) hX hS ?_⟩
      refine bX12_writes_36 ⟨fun _ => K u ?_ e f, fun c => absurd (by show ((T.length : Nat) : Int) ≤ i; omega) c⟩
      rw [List.take_of_length_le (by omega)] at h
      rw [← hM]; exact h
    | succ n ih =>
      intro i u M hM hML hi h e f
      have hCu := wl_C_m hC e f
      obtain ⟨tv, jv, hS, hT, h3, h4⟩ := id hCu
      have hlt : (M ++ T.take i).length < 400 := by rw [List.length_append, List.length_take]; omega
      have hc := hT i (by omega)
      refine bX12_writes_31 ⟨ht, hkk u hCu, pJ0_length (d := d + 3) hX hS ?_⟩
      have f2 : ∀ t, t ∉ [9, 142] → (am_up u.1 9 0 98 (am_w ((u.1 9 0 98) + 1))) t = w.1 t := fun t ht => by rw [am_up_t (fun e => ht (by rw [e]; decide))]; exact f t ht
      have hC2 := wl_C_m (u := (am_up u.1 9 0 98 (am_w ((u.1 9 0 98) + 1)), u.2)) hC e f2
      have hS2 : mh_S X (am_up u.1 9 0 98 (am_w ((u.1 9 0 98) + 1)), u.2) t j tv jv T.length := by
        obtain ⟨⟨s1, s2, s3, s4⟩, s5, s6, s7, s8⟩ := hS
        refine ⟨⟨s1, s2, s3, ?_⟩, s5, s6, s7, s8⟩
        rw [← s4]
        unfold am_gi
        dsimp only
        rw [am_up_t (by rcases h4 with e | e <;> rw [e] <;> decide)]
      refine bX12_writes_36 ⟨fun c => absurd (show ((T.length : Nat) : Int) ≤ i from c) (by omega), fun _ => ⟨ht, hkk _ hC2, pJ0_charAt (d := d + 1) (v := T.getD i 0) hX hS2 (by omega) (by omega) ?_ hc.2 ?_⟩⟩
      · rw [Int.toNat_natCast, ← hc.1]
        unfold am_gi
        dsimp only
        rw [am_up_t (by rcases h3 with e | e <;> rw [e] <;> decide)]
      · have h1 := h.1
        refine bX12_writes_59 ⟨by omega, by omega, ?_⟩
        rw [wl_i2b hc.2]
        refine ⟨⟨by omega, by omega⟩, ?_⟩
        rw [am_w_id (z := (i : Int) + 1) (by unfold am_rg; omega)]
        refine ih (i + 1) _ M hM hML (by omega) ?_ e (fun t ht => ?_)
        · rw [wl_take (by omega), ← List.append_assoc]
          exact wl_O_a h hlt
        · dsimp only
          rw [am_up_t (fun e => ht (by rw [e]; decide))]
          exact f2 t ht
  have B0 : ∀ u, wl_O (L ++ sep) b u → (L ++ sep).length + T.length ≤ 400 → u.2 = w.2 → (∀ t, t ∉ [9, 142] → u.1 t = w.1 t) → am_A (mh_G X) SC (d + 6) mX12_writes Q 29 [(0, .inr (.inr (some (9, 0)))), (1, .inr (.inr (some (t, j))))] [] u kc ks := fun u hu hl e f => bX12_writes_29 (B T.length 0 u _ rfl hl rfl (by rw [List.take_zero, List.append_nil]; exact hu) e f)
  refine am_M_of (by decide) (Nat.le_of_ble_eq_true rfl) ?_
  rcases hs with ⟨hx, e⟩ | ⟨hx, e1, e⟩ | ⟨hx, e1, e⟩
  · subst e
    exact bX12_writes_0 ⟨fun _ => B0 w (by rw [List.append_nil]; exact h) (by rw [List.append_nil]; omega) rfl (fun _ _ => rfl), fun c => absurd c hx⟩
  · subst e
    refine bX12_writes_0 ⟨fun c => absurd hx c, fun _ => ⟨fun _ => B0 w (by rw [List.append_nil]; exact h) (by rw [List.append_nil]; omega) rfl (fun _ _ => rfl), fun c => absurd ?_ c⟩⟩
    rw [h.1, e1]; decide
  · subst e
    have h1 := h.1
    refine bX12_writes_0 ⟨fun c => absurd hx c, fun _ => ⟨fun c => absurd c (by omega), fun _ => ⟨by omega, by omega, by decide, B0 _ (wl_O_a h (by omega)) (by rw [List.length_append, List.length_singleton]; omega) rfl (fun t ht => ?_)⟩⟩⟩
    dsimp only
    rw [am_up_t (fun e => ht (by rw [e]; decide)), am_up_t (fun e => ht (by rw [e]; decide))]
