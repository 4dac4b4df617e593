-- sets of people as ints
variable {SC : Nat → Nat} {X : mh_X}
def ab_in (x i : Nat) : Prop := x / 2 ^ i % 2 = 1
theorem ab_shr {a k : Nat} (ha : a < 2147483648) (hk : k < 32) : am_shr (a : Int) (k : Int) = ((a / 2 ^ k : Nat) : Int) := by
  have l : a / 2 ^ k ≤ a := Nat.div_le_self _ _
  unfold am_shr
  show (Int32.ofInt (a : Int) >>> (nI k &&& 31)).toBitVec.toInt = _
  rw [Int32.toBitVec_shiftRight]
  show ((Int32.ofInt (a : Int)).toBitVec.sshiftRight ((nI k &&& 31).toBitVec.smod 32).toNat).toInt = _
  rw [mb_s_l k hk, BitVec.toInt_sshiftRight, ab_ofN ha, ab_toI (x := BitVec.ofNat 32 a) ha (by rw [BitVec.toNat_ofNat, Nat.mod_eq_of_lt (by omega)])]
  rw [Int.shiftRight_eq_div_pow]
  norm_cast
theorem ab_bit {a k : Nat} (ha : a < 2147483648) (hk : k < 32) : am_and (am_shr (a : Int) (k : Int)) 1 = ((a / 2 ^ k % 2 : Nat) : Int) := by
  have l : a / 2 ^ k ≤ a := Nat.div_le_self _ _
  rw [ab_shr ha hk, show (1 : Int) = ((1 : Nat) : Int) from rfl, ab_and (by omega) (by decide), Nat.and_one_is_mod]
theorem ab_big {a k : Nat} (ha : a < 2147483648) (hk : 31 ≤ k) : a / 2 ^ k = 0 := by
  have : 2 ^ 31 ≤ 2 ^ k := Nat.pow_le_pow_right (by decide) hk
  exact Nat.div_eq_of_lt (by omega)
theorem ab_long {a j : Nat} (ha : a < 2147483648) : mh_bt ((Int32.ofInt (a : Int)).toInt64) j ↔ ab_in a j := by
  unfold mh_bt ab_in
  have tb : a.testBit j = decide (a / 2 ^ j % 2 = 1) := Nat.testBit_eq_decide_div_mod_eq
  rw [Int32.toBitVec_toInt64, ab_ofN ha, BitVec.getLsbD_signExtend, BitVec.msb_eq_decide]
  by_cases c : j < 32
  · rw [if_pos c, BitVec.getLsbD_ofNat, tb]
    simp only [Bool.and_eq_true, decide_eq_true_eq]
    omega
  · rw [if_neg c, ab_big ha (by omega), BitVec.toNat_ofNat, Nat.mod_eq_of_lt (by omega)]
    simp only [Bool.and_eq_true, decide_eq_true_eq]
    omega
theorem ab_lc0 {y : Int64} : am_lcmpv y 0 = 0 ↔ y = 0 := by
  unfold am_lcmpv
  by_cases c : (0 : Int64) < y
  · rw [if_pos c]
    exact ⟨fun z => absurd z (by decide), fun z => by rw [z] at c; exact absurd c (by decide)⟩
  · rw [if_neg c]
    by_cases e : y = 0
    · rw [if_pos e]; exact ⟨fun _ => e, fun _ => rfl⟩
    · rw [if_neg e]; exact ⟨fun z => absurd z (by decide), fun z => absurd z e⟩
theorem ab_far {k : Int} (h : 0 ≤ k ∧ k < 64) (y : Int64) : am_lcmpv (y >>> ((Int32.ofInt k).toInt64 &&& 63)) (0 : Int64) = 0 ↔ ∀ j : Nat, k ≤ j → ¬ mh_bt y j := by
  obtain ⟨n, rfl⟩ := mh_nat h.1
  rw [ab_lc0, ← Int64.toBitVec_inj, Int64.toBitVec_shiftRight]
  show (y.toBitVec.sshiftRight (((Int32.ofInt (n : Int)).toInt64 &&& 63).toBitVec.smod 64).toNat) = 0#64 ↔ _
  rw [mh_bs n (by omega)]
  unfold mh_bt
  constructor
  · intro q j hj c
    have hj64 : j < 64 := Nat.lt_of_not_le (fun z => by rw [BitVec.getLsbD_of_ge _ _ z] at c; cases c)
    have t := congrArg (fun x => x.getLsbD (j - n)) q
    simp only [BitVec.getLsbD_sshiftRight, BitVec.getLsbD_zero] at t
    rw [show n + (j - n) = j by omega, if_pos hj64, c] at t
    simp at t
    omega
  · intro q
    apply BitVec.eq_of_getLsbD_eq
    intro i hi
    have f : ∀ j, n ≤ j → y.toBitVec.getLsbD j = false := fun j hj => by
      have := q j (by omega)
      simpa using this
    rw [BitVec.getLsbD_sshiftRight, BitVec.getLsbD_zero, BitVec.msb_eq_getLsbD_last]
    split
    · rw [f _ (by omega)]; simp
    · rw [f _ (by omega)]; simp
