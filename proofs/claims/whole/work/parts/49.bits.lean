-- BITS: rows out of the kit's text for pasting (first), bytes, sets of people as longs
def mb_bt (x : Int32) (i : Nat) : Bool := x.toBitVec.getLsbD i
theorem mb_b_ext {x y : Int32} (h : ∀ i, i < 32 → mb_bt x i = mb_bt y i) : x = y := Int32.toBitVec_inj.mp (BitVec.eq_of_getLsbD_eq (fun i hi => h i hi))
theorem mb_b_or (x y : Int32) (i : Nat) : mb_bt (x ||| y) i = (mb_bt x i || mb_bt y i) := by unfold mb_bt; rw [Int32.toBitVec_or, BitVec.getLsbD_or]
theorem mb_b_and (x y : Int32) (i : Nat) : mb_bt (x &&& y) i = (mb_bt x i && mb_bt y i) := by unfold mb_bt; rw [Int32.toBitVec_and, BitVec.getLsbD_and]
theorem mb_b_xor (x y : Int32) (i : Nat) : mb_bt (x ^^^ y) i = (mb_bt x i ^^ mb_bt y i) := by unfold mb_bt; rw [Int32.toBitVec_xor, BitVec.getLsbD_xor]
theorem mb_b_big {x : Int32} {i : Nat} (h : 32 ≤ i) : mb_bt x i = false := BitVec.getLsbD_of_ge _ _ h
theorem mb_b_255 (i : Nat) : mb_bt 255 i = decide (i < 8) := by
  rcases Nat.lt_or_ge i 32 with h | h
  · exact (by decide +kernel : ∀ i, i < 32 → mb_bt 255 i = decide (i < 8)) i h
  · rw [mb_b_big h, decide_eq_false (by omega)]
theorem mb_b_65535 (i : Nat) : mb_bt 65535 i = decide (i < 16) := by
  rcases Nat.lt_or_ge i 32 with h | h
  · exact (by decide +kernel : ∀ i, i < 32 → mb_bt 65535 i = decide (i < 16)) i h
  · rw [mb_b_big h, decide_eq_false (by omega)]
theorem mb_b_m1 : ∀ i, i < 32 → mb_bt (-1) i = true := by decide +kernel
theorem mb_b_0 (i : Nat) : mb_bt 0 i = false := BitVec.getLsbD_zero
theorem mb_s_l : ∀ n, n < 32 → ((nI n &&& 31).toBitVec.smod 32).toNat = n := by decide +kernel
theorem mb_s_u : ∀ n, n < 32 → (((nI n).toUInt32 &&& Int32.toUInt32 31).toBitVec % 32).toNat = n := by decide +kernel
theorem mb_b_shl (n : Nat) (hn : n < 32) (x : Int32) {i : Nat} (hi : i < 32) : mb_bt (x <<< (nI n &&& 31)) i = (decide (n ≤ i) && mb_bt x (i - n)) := by
  unfold mb_bt
  rw [Int32.toBitVec_shiftLeft]
  show (x.toBitVec <<< ((nI n &&& 31).toBitVec.smod 32).toNat).getLsbD i = _
  rw [mb_s_l n hn, BitVec.getLsbD_shiftLeft]
  rcases Nat.lt_or_ge i n with h | h
  · simp [h, Nat.not_le.mpr h]
  · simp [hi, h, Nat.not_lt.mpr h]
theorem mb_b_ushr (n : Nat) (hn : n < 32) (x : Int32) (i : Nat) : mb_bt ((x.toUInt32 >>> ((nI n).toUInt32 &&& Int32.toUInt32 31)).toInt32) i = mb_bt x (n + i) := by
  show (x.toUInt32 >>> ((nI n).toUInt32 &&& Int32.toUInt32 31)).toBitVec.getLsbD i = x.toUInt32.toBitVec.getLsbD (n + i)
  rw [UInt32.toBitVec_shiftRight]
  show (x.toUInt32.toBitVec >>> (((nI n).toUInt32 &&& Int32.toUInt32 31).toBitVec % 32).toNat).getLsbD i = _
  rw [mb_s_u n hn, BitVec.getLsbD_ushiftRight]
theorem mb_b_sshr (n : Nat) (hn : n < 32) (x : Int32) {i : Nat} (hi : i < 32) : mb_bt (x >>> (nI n &&& 31)) i = if n + i < 32 then mb_bt x (n + i) else mb_bt x 31 := by
  unfold mb_bt
  rw [Int32.toBitVec_shiftRight]
  show (x.toBitVec.sshiftRight ((nI n &&& 31).toBitVec.smod 32).toNat).getLsbD i = _
  rw [mb_s_l n hn, BitVec.getLsbD_sshiftRight, BitVec.msb_eq_getLsbD_last]
  simp [hi]
theorem mb_bp_b (x : Int32) : x.toInt8.toInt32 &&& 255 = x &&& 255 := by
  apply Int32.toBitVec_inj.mp
  rw [Int32.toBitVec_and, Int32.toBitVec_and, Int8.toBitVec_toInt32, Int32.toBitVec_toInt8]
  apply BitVec.eq_of_getLsbD_eq
  intro i hi
  rw [BitVec.getLsbD_and, BitVec.getLsbD_and]
  have hm : ∀ i < 32, 8 ≤ i → (255 : Int32).toBitVec.getLsbD i = false := by decide
  rcases Nat.lt_or_ge i 8 with z | z
  · rw [BitVec.getLsbD_signExtend, BitVec.getLsbD_signExtend, if_pos z, if_pos hi]
    simp only [z, hi, decide_true, Bool.true_and]
  · rw [hm i hi z]; simp
theorem mb_255 (x : Int32) : (x &&& 255).toInt = x.toInt % 256 := by
  have h1 : (x &&& 255).toBitVec.toNat = x.toBitVec.toNat % 256 := by
    rw [Int32.toBitVec_and]
    show (x.toBitVec &&& 255#32).toNat = _
    rw [BitVec.toNat_and]
    exact Nat.and_two_pow_sub_one_eq_mod _ 8
  have h2 := x.toBitVec.isLt
  show (x &&& 255).toBitVec.toInt = x.toBitVec.toInt % 256
  rw [BitVec.toInt_eq_toNat_cond, BitVec.toInt_eq_toNat_cond, h1]
  split <;> split <;> omega
theorem mb_i8 (x : Int32) : -128 ≤ x.toInt8.toInt32.toInt ∧ x.toInt8.toInt32.toInt < 128 := by
  rw [Int8.toInt_toInt32]
  exact ⟨Int8.le_toInt _, Int8.toInt_lt _⟩
theorem mb_sh (x : Int32) (n : Nat) (hn : n = 0 ∨ n = 8 ∨ n = 16 ∨ n = 24) : (x >>> (nI n &&& 31)) &&& 255 = ((x.toUInt32 >>> ((nI n).toUInt32 &&& Int32.toUInt32 31)).toInt32) &&& 255 := by
  refine mb_b_ext (fun i hi => ?_)
  rw [mb_b_and, mb_b_and, mb_b_255, mb_b_sshr n (by omega) x hi, mb_b_ushr n (by omega)]
  by_cases c : i < 8
  · rw [if_pos (by omega)]
  · rw [decide_eq_false c, Bool.and_false, Bool.and_false]
theorem mb_nI (n : Nat) : Int32.ofInt (n : Int) = nI n := rfl
/-- the byte that is fed, class and reference -/
theorem mb_fed (x : Int) (n : Nat) (hn : n = 0 ∨ n = 8 ∨ n = 16 ∨ n = 24) :
    (0 ≤ am_i2c (am_and (am_shr x (n : Int)) 255) ∧ am_i2c (am_and (am_shr x (n : Int)) 255) < 256) ∧ am_i2b (am_ushr x (n : Int)) = (if am_i2c (am_and (am_shr x (n : Int)) 255) < 128 then am_i2c (am_and (am_shr x (n : Int)) 255) else am_i2c (am_and (am_shr x (n : Int)) 255) - 256) := by
  unfold am_i2c am_and am_shr am_i2b am_ushr
  rw [am_ofT, am_ofT, am_ofT, mb_nI]
  have e := mb_sh (Int32.ofInt x) n hn
  have z1 := mb_255 (Int32.ofInt x >>> (nI n &&& 31))
  have z2 := mb_255 ((((Int32.ofInt x).toUInt32 >>> ((nI n).toUInt32 &&& Int32.toUInt32 31)).toInt32).toInt8.toInt32)
  rw [mb_bp_b, ← e] at z2
  have z3 := mb_i8 (((Int32.ofInt x).toUInt32 >>> ((nI n).toUInt32 &&& Int32.toUInt32 31)).toInt32)
  show (0 ≤ (((Int32.ofInt x >>> (nI n &&& 31)) &&& 255).toUInt32 % 65536).toInt32.toInt ∧ (((Int32.ofInt x >>> (nI n &&& 31)) &&& 255).toUInt32 % 65536).toInt32.toInt < 256) ∧ _ = (if (((Int32.ofInt x >>> (nI n &&& 31)) &&& 255).toUInt32 % 65536).toInt32.toInt < 128 then (((Int32.ofInt x >>> (nI n &&& 31)) &&& 255).toUInt32 % 65536).toInt32.toInt else (((Int32.ofInt x >>> (nI n &&& 31)) &&& 255).toUInt32 % 65536).toInt32.toInt - 256)
  rw [lg_i2c_word (by omega) (by omega)]
  split <;> omega
-- longs as sets
theorem mh_bs : ∀ k : Nat, k < 64 → (((Int32.ofInt (k : Int)).toInt64 &&& 63).toBitVec.smod 64).toNat = k := by decide +kernel
theorem mh_bt_or (x y : Int64) (j : Nat) : mh_bt (x ||| y) j ↔ mh_bt x j ∨ mh_bt y j := by
  unfold mh_bt
  rw [Int64.toBitVec_or, BitVec.getLsbD_or, Bool.or_eq_true]
theorem mh_bt_and (x y : Int64) (j : Nat) : mh_bt (x &&& y) j ↔ mh_bt x j ∧ mh_bt y j := by
  unfold mh_bt
  rw [Int64.toBitVec_and, BitVec.getLsbD_and, Bool.and_eq_true]
theorem mh_bt_lt {x : Int64} {j : Nat} (h : mh_bt x j) : j < 64 := by
  unfold mh_bt at h
  exact Nat.lt_of_not_le (fun c => by rw [BitVec.getLsbD_of_ge _ _ c] at h; cases h)
theorem mh_bt_one {k : Int} (h : 0 ≤ k ∧ k < 64) (j : Nat) : mh_bt ((1 : Int64) <<< ((Int32.ofInt k).toInt64 &&& 63)) j ↔ (j : Int) = k := by
  obtain ⟨n, rfl⟩ : ∃ n : Nat, k = (n : Int) := ⟨k.toNat, by omega⟩
  unfold mh_bt
  rw [Int64.toBitVec_shiftLeft]
  show ((1#64) <<< (((Int32.ofInt (n : Int)).toInt64 &&& 63).toBitVec.smod 64).toNat).getLsbD j = true ↔ _
  rw [mh_bs n (by omega), BitVec.getLsbD_shiftLeft, BitVec.getLsbD_one]
  simp only [Bool.and_eq_true, decide_eq_true_eq, Bool.not_eq_true', decide_eq_false_iff_not]
  omega
theorem mh_bt_test {k : Int} (h : 0 ≤ k ∧ k < 64) (y : Int64) : am_lcmpv ((y >>> ((Int32.ofInt k).toInt64 &&& 63)) &&& (1 : Int64)) (0 : Int64) = 0 ↔ ¬ mh_bt y k.toNat := by
  obtain ⟨n, rfl⟩ : ∃ n : Nat, k = (n : Int) := ⟨k.toNat, by omega⟩
  rw [Int.toNat_natCast]
  have e : ((y >>> ((Int32.ofInt (n : Int)).toInt64 &&& 63)) &&& (1 : Int64)) = 0 ↔ ¬ mh_bt y n := by
    unfold mh_bt
    rw [← Int64.toBitVec_inj, Int64.toBitVec_and, Int64.toBitVec_shiftRight]
    show (y.toBitVec.sshiftRight (((Int32.ofInt (n : Int)).toInt64 &&& 63).toBitVec.smod 64).toNat) &&& 1#64 = 0#64 ↔ _
    rw [mh_bs n (by omega)]
    have z : (y.toBitVec.sshiftRight n).getLsbD 0 = y.toBitVec.getLsbD n := by
      rw [BitVec.getLsbD_sshiftRight, if_pos (by omega)]
      simp
    constructor
    · intro q
      have t := congrArg (fun x => x.getLsbD 0) q
      simp only [BitVec.getLsbD_and, z, BitVec.getLsbD_one, BitVec.getLsbD_zero] at t
      intro c
      rw [c] at t
      exact absurd t (by decide)
    · intro q
      apply BitVec.eq_of_getLsbD_eq
      intro i hi
      rw [BitVec.getLsbD_and, BitVec.getLsbD_one, BitVec.getLsbD_zero]
      cases i with
      | zero => rw [z]; simp only [Bool.not_eq_true] at q; rw [q]; rfl
      | succ i => simp
  unfold am_lcmpv
  constructor
  · intro q
    refine e.mp ?_
    split at q
    · exact absurd q (by decide)
    · split at q
      · assumption
      · exact absurd q (by decide)
  · intro q
    rw [e.mpr q]
    decide
