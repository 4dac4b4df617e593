-- the reference's loops over the tasks
theorem mh_cnb (f : Nat → Int) : ∀ n : Nat, 0 ≤ mh_cn f n ∧ mh_cn f n ≤ n
  | 0 => ⟨Int.le_refl _, Int.le_refl _⟩
  | n + 1 => by
    have := mh_cnb f n
    show 0 ≤ mh_cn f n + (if f n = -1 then 1 else 0) ∧ mh_cn f n + (if f n = -1 then 1 else 0) ≤ ((n + 1 : Nat) : Int)
    split <;> omega
theorem pX12_making0 {SC : Nat → Nat} {X : mh_X} {d bc bs : Nat} {Q : Option am_V → am_W → Prop} {w : am_W} (ht : 0 ≤ w.1 9 0 81 ∧ w.1 9 0 81 ≤ 20)
    (h : Q (some (.inl (mh_cn (w.1 129 0) (w.1 9 0 81).toNat))) w) : ∀ (n k : Nat), n + k = (w.1 9 0 81).toNat →
    am_A (mh_G X) SC (d + 1) mX12_making Q 4 [(0, .inr (.inr (some (9, 0)))), (1, .inl (mh_cn (w.1 129 0) k)), (2, .inl (k : Int))] [] w bc bs
  | 0, k, hk => by
    refine bX12_making_4 ⟨fun _ => ?_, fun c => absurd (show w.1 9 0 81 ≤ (k : Int) by omega) c⟩
    rw [show k = (w.1 9 0 81).toNat by omega]
    exact h
  | n + 1, k, hk => by
    have b := mh_cnb (w.1 129 0) k
    have e2 : am_w ((k : Int) + 1) = ((k + 1 : Nat) : Int) := by rw [am_w_id (by unfold am_rg; omega)]; omega
    refine bX12_making_4 ⟨fun c => absurd c (show ¬ w.1 9 0 81 ≤ (k : Int) by omega), fun c => ⟨by omega, by omega, fun c2 => ?_, fun c2 => ?_⟩⟩
    · refine bX12_making_28 ?_
      have e1 : am_w (mh_cn (w.1 129 0) k + 0) = mh_cn (w.1 129 0) (k + 1) := by
        rw [am_w_id (by unfold am_rg; omega)]
        show _ = mh_cn (w.1 129 0) k + (if w.1 129 0 k = -1 then 1 else 0)
        rw [if_neg (show ¬ w.1 129 0 k = -1 from c2)]
      rw [e1, e2]
      exact pX12_making0 ht h n (k + 1) (by omega)
    · refine bX12_making_28 ?_
      have e1 : am_w (mh_cn (w.1 129 0) k + 1) = mh_cn (w.1 129 0) (k + 1) := by
        rw [am_w_id (by unfold am_rg; omega)]
        show _ = mh_cn (w.1 129 0) k + (if w.1 129 0 k = -1 then 1 else 0)
        rw [if_pos (show w.1 129 0 k = -1 from c2)]
      rw [e1, e2]
      exact pX12_making0 ht h n (k + 1) (by omega)
theorem pX12_making {SC : Nat → Nat} {X : mh_X} {d kc ks : Nat} {Q : Option am_V → am_W → Prop} {w : am_W} (ht : 0 ≤ w.1 9 0 81 ∧ w.1 9 0 81 ≤ 20)
    (h : Q (some (.inl (mh_cn (w.1 129 0) (w.1 9 0 81).toNat))) w) : am_M (mh_G X) SC (d + 1) kc ks mX12_making [.inr (.inr (some (9, 0)))] w Q := by
  refine am_M_of (by decide) (Nat.le_of_ble_eq_true rfl) ?_
  exact bX12_making_0 (pX12_making0 ht h (w.1 9 0 81).toNat 0 (by omega))
theorem pX12_hasTask0 {SC : Nat → Nat} {X : mh_X} {d bc bs : Nat} {Q : Option am_V → am_W → Prop} {w : am_W} {x : Int} (ht : 0 ≤ w.1 9 0 81 ∧ w.1 9 0 81 ≤ 20)
    (h1 : ∀ k : Nat, (k : Int) < w.1 9 0 81 → w.1 129 0 k = x → Q (some (.inl 1)) w)
    (h0 : (∀ k : Nat, (k : Int) < w.1 9 0 81 → ¬ w.1 129 0 k = x) → Q (some (.inl 0)) w) : ∀ (n k : Nat), n + k = (w.1 9 0 81).toNat → (∀ i : Nat, i < k → ¬ w.1 129 0 i = x) →
    am_A (mh_G X) SC (d + 1) mX12_hasTask Q 2 [(0, .inr (.inr (some (9, 0)))), (1, .inl x), (2, .inl (k : Int))] [] w bc bs
  | 0, k, hk, hi => by
    refine bX12_hasTask_2 ⟨fun _ => h0 (fun i hi2 => hi i (by omega)), fun c => absurd (show w.1 9 0 81 ≤ (k : Int) by omega) c⟩
  | n + 1, k, hk, hi => by
    have e2 : am_w ((k : Int) + 1) = ((k + 1 : Nat) : Int) := by rw [am_w_id (by unfold am_rg; omega)]; omega
    refine bX12_hasTask_2 ⟨fun c => absurd c (show ¬ w.1 9 0 81 ≤ (k : Int) by omega), fun c => ⟨by omega, by omega, fun c2 => ?_, fun c2 => h1 k (by omega) c2⟩⟩
    rw [e2]
    refine pX12_hasTask0 ht h1 h0 n (k + 1) (by omega) (fun i hi2 => ?_)
    by_cases q : i = k
    · rw [q]; exact c2
    · exact hi i (by omega)
theorem pX12_hasTask {SC : Nat → Nat} {X : mh_X} {d kc ks : Nat} {Q : Option am_V → am_W → Prop} {w : am_W} {x : Int} (ht : 0 ≤ w.1 9 0 81 ∧ w.1 9 0 81 ≤ 20)
    (h1 : ∀ k : Nat, (k : Int) < w.1 9 0 81 → w.1 129 0 k = x → Q (some (.inl 1)) w)
    (h0 : (∀ k : Nat, (k : Int) < w.1 9 0 81 → ¬ w.1 129 0 k = x) → Q (some (.inl 0)) w) : am_M (mh_G X) SC (d + 1) kc ks mX12_hasTask [.inr (.inr (some (9, 0))), .inl x] w Q := by
  refine am_M_of (by decide) (Nat.le_of_ble_eq_true rfl) ?_
  exact bX12_hasTask_0 (pX12_hasTask0 ht h1 h0 (w.1 9 0 81).toNat 0 (by omega) (fun i q => absurd q (Nat.not_lt_zero i)))
