-- how many bits are set
variable {SC : Nat → Nat} {X : mh_X}
theorem ab_ofN {a : Nat} (h : a < 2147483648) : (Int32.ofInt (a : Int)).toBitVec = BitVec.ofNat 32 a := by
  rw [Int32.toBitVec_ofInt]
  exact BitVec.ofInt_natCast 32 a
theorem ab_toI {x : BitVec 32} {a : Nat} (h : a < 2147483648) (e : x.toNat = a) : x.toInt = (a : Int) := by
  rw [BitVec.toInt_eq_toNat_of_lt (by omega), e]
theorem ab_and {a b : Nat} (ha : a < 2147483648) (hb : b < 2147483648) : am_and (a : Int) (b : Int) = ((a &&& b : Nat) : Int) := by
  have l : a &&& b ≤ a := Nat.and_le_left
  unfold am_and
  refine ab_toI (by omega) ?_
  rw [Int32.toBitVec_and, ab_ofN ha, ab_ofN hb, BitVec.toNat_and, BitVec.toNat_ofNat, BitVec.toNat_ofNat, Nat.mod_eq_of_lt (by omega), Nat.mod_eq_of_lt (by omega)]
/-- hexadecimal digits -/
def ab_h (d : Nat → Nat) : Nat → Nat
  | 0 => 0
  | n + 1 => d 0 + 16 * ab_h (fun j => d (j + 1)) n
theorem ab_h1 {d : Nat → Nat} {n : Nat} : ab_h d (n + 1) = d 0 + 16 * ab_h (fun j => d (j + 1)) n := rfl
theorem ab_dig : ∀ (n : Nat) {x : Nat}, x < 16 ^ n → ab_h (fun j => x / 16 ^ j % 16) n = x
  | 0, x, h => by show 0 = x; simp at h; omega
  | n + 1, x, h => by
    have ih := ab_dig n (x := x / 16) (by rw [Nat.pow_succ] at h; omega)
    rw [ab_h1]
    have e : (fun j => x / 16 ^ (j + 1) % 16) = (fun j => x / 16 / 16 ^ j % 16) := by
      funext j
      rw [Nat.div_div_eq_div_mul, Nat.pow_succ, Nat.mul_comm 16]
    show x / 16 ^ 0 % 16 + 16 * ab_h (fun j => x / 16 ^ (j + 1) % 16) n = x
    rw [e, ih, Nat.pow_zero, Nat.div_one]
    omega
theorem ab_and1 {a A b B : Nat} (ha : a < 16) (hb : b < 16) : (a + 16 * A) &&& (b + 16 * B) = (a &&& b) + 16 * (A &&& B) := by
  have m := Nat.and_mod_two_pow (a := a + 16 * A) (b := b + 16 * B) (n := 4)
  have s : ((a + 16 * A) &&& (b + 16 * B)) >>> 4 = (a + 16 * A) >>> 4 &&& (b + 16 * B) >>> 4 := Nat.shiftRight_and_distrib
  rw [Nat.shiftRight_eq_div_pow, Nat.shiftRight_eq_div_pow, Nat.shiftRight_eq_div_pow] at s
  rw [show (2 : Nat) ^ 4 = 16 from rfl] at m s
  rw [show (a + 16 * A) % 16 = a by omega, show (b + 16 * B) % 16 = b by omega] at m
  rw [show (a + 16 * A) / 16 = A by omega, show (b + 16 * B) / 16 = B by omega] at s
  omega
theorem ab_hand : ∀ (n : Nat) {d m : Nat → Nat}, (∀ j, d j < 16) → (∀ j, m j < 16) → ab_h d n &&& ab_h m n = ab_h (fun j => d j &&& m j) n
  | 0, _, _, _, _ => Nat.and_zero 0
  | n + 1, d, m, hd, hm => by
    rw [ab_h1, ab_h1, ab_h1, ab_and1 (hd 0) (hm 0), ab_hand n (fun j => hd (j + 1)) (fun j => hm (j + 1))]
theorem ab_hlt : ∀ (n : Nat) {d : Nat → Nat}, (∀ j, d j < 16) → ab_h d n < 16 ^ n
  | 0, d, h => by show 0 < 1; decide
  | n + 1, d, h => by
    have := ab_hlt n (d := fun j => d (j + 1)) (fun j => h (j + 1))
    have h0 := h 0
    rw [ab_h1, Nat.pow_succ]
    omega
theorem ab_hc : ∀ (n : Nat) {d e : Nat → Nat}, (∀ j, j < n → d j = e j) → ab_h d n = ab_h e n
  | 0, _, _, _ => rfl
  | n + 1, d, e, h => by rw [ab_h1, ab_h1, h 0 (by omega), ab_hc n (fun j hj => h (j + 1) (by omega))]
theorem ab_hadd : ∀ (n : Nat) {d e : Nat → Nat}, ab_h d n + ab_h e n = ab_h (fun j => d j + e j) n
  | 0, _, _ => rfl
  | n + 1, d, e => by
    have ih := ab_hadd n (d := fun j => d (j + 1)) (e := fun j => e (j + 1))
    rw [ab_h1, ab_h1, ab_h1]
    show _ = d 0 + e 0 + 16 * ab_h (fun j => d (j + 1) + e (j + 1)) n
    omega
theorem ab_hsub : ∀ (n : Nat) {d e : Nat → Nat}, (∀ j, e j ≤ d j) → ab_h e n ≤ ab_h d n ∧ ab_h d n - ab_h e n = ab_h (fun j => d j - e j) n
  | 0, _, _, _ => ⟨Nat.le_refl _, rfl⟩
  | n + 1, d, e, h => by
    have ih := ab_hsub n (d := fun j => d (j + 1)) (e := fun j => e (j + 1)) (fun j => h (j + 1))
    have h0 := h 0
    rw [ab_h1, ab_h1, ab_h1]
    show _ ∧ _ = d 0 - e 0 + 16 * ab_h (fun j => d (j + 1) - e (j + 1)) n
    omega
theorem ab_h2 : ∀ (n : Nat) {d : Nat → Nat}, d n = 0 → ab_h d n / 2 = ab_h (fun j => d j / 2 + 8 * (d (j + 1) % 2)) n
  | 0, _, _ => Nat.zero_div 2
  | n + 1, d, h => by
    have ih := ab_h2 n (d := fun j => d (j + 1)) h
    have a : ab_h (fun j => d (j + 1)) n % 2 = d 1 % 2 := by
      cases n with
      | zero => show 0 % 2 = d 1 % 2; rw [show d 1 = 0 from h]
      | succ n => rw [ab_h1]; show (d 1 + 16 * _) % 2 = _; omega
    rw [ab_h1, ab_h1]
    show _ = d 0 / 2 + 8 * (d 1 % 2) + 16 * ab_h (fun j => d (j + 1) / 2 + 8 * (d (j + 1 + 1) % 2)) n
    rw [← ih]
    omega
theorem ab_h4 : ∀ (n : Nat) {d : Nat → Nat}, d n = 0 → ab_h d n / 4 = ab_h (fun j => d j / 4 + 4 * (d (j + 1) % 4)) n
  | 0, _, _ => Nat.zero_div 4
  | n + 1, d, h => by
    have ih := ab_h4 n (d := fun j => d (j + 1)) h
    have a : ab_h (fun j => d (j + 1)) n % 4 = d 1 % 4 := by
      cases n with
      | zero => show 0 % 4 = d 1 % 4; rw [show d 1 = 0 from h]
      | succ n => rw [ab_h1]; show (d 1 + 16 * _) % 4 = _; omega
    rw [ab_h1, ab_h1]
    show _ = d 0 / 4 + 4 * (d 1 % 4) + 16 * ab_h (fun j => d (j + 1) / 4 + 4 * (d (j + 1 + 1) % 4)) n
    rw [← ih]
    omega
def ab_s1 (d : Nat) : Nat := d - (d / 2 &&& 5)
def ab_pc (d : Nat) : Nat := d % 2 + d / 2 % 2 + d / 4 % 2 + d / 8 % 2
theorem ab_t1 : ∀ d, d < 16 → ∀ c, c < 2 → ((d / 2 + 8 * c) &&& 5) = (d / 2 &&& 5) ∧ (d / 2 &&& 5) ≤ d := by decide +kernel
theorem ab_t2 : ∀ d, d < 16 → ∀ c, c < 4 → (ab_s1 d &&& 3) + ((ab_s1 d / 4 + 4 * c) &&& 3) = ab_pc d ∧ ab_pc d ≤ 4 := by decide +kernel
theorem ab_t3 : ∀ d, d < 16 → (d &&& 15) = d ∧ (d &&& 0) = 0 := by decide +kernel
/-- the bits set among the first n -/
def ab_b (x : Nat) : Nat → Nat
  | 0 => 0
  | n + 1 => ab_b x n + x / 2 ^ n % 2
theorem ab_b1 {x n : Nat} : ab_b x (n + 1) = ab_b x n + x / 2 ^ n % 2 := rfl
theorem ab_bl {x : Nat} : ∀ n, ab_b x n ≤ n
  | 0 => Nat.le_refl _
  | n + 1 => by have := ab_bl (x := x) n; rw [ab_b1]; omega
theorem ab_b4 (x n : Nat) : ab_b x (4 * (n + 1)) = ab_b x (4 * n) + ab_pc (x / 16 ^ n % 16) := by
  rw [show 4 * (n + 1) = 4 * n + 1 + 1 + 1 + 1 by omega, ab_b1, ab_b1, ab_b1, ab_b1]
  have e : ∀ k, x / 2 ^ (4 * n + k) = x / 16 ^ n / 2 ^ k := fun k => by
    rw [Nat.pow_add, Nat.pow_mul, Nat.div_div_eq_div_mul]
  rw [show 4 * n + 1 + 1 + 1 = 4 * n + 3 by omega, show 4 * n + 1 + 1 = 4 * n + 2 by omega, e 3, e 2, e 1, show x / 2 ^ (4 * n) = x / 16 ^ n / 2 ^ 0 from e 0]
  unfold ab_pc
  omega
theorem ab_ushr {a k : Nat} (ha : a < 2147483648) (hk : k = 1 ∨ k = 2 ∨ k = 4 ∨ k = 8 ∨ k = 16) : am_ushr (a : Int) (k : Int) = ((a / 2 ^ k : Nat) : Int) := by
  have l : a / 2 ^ k ≤ a := Nat.div_le_self _ _
  unfold am_ushr
  refine ab_toI (by omega) ?_
  have s : (((Int32.ofInt (k : Int)).toUInt32 &&& Int32.toUInt32 31).toBitVec % 32).toNat = k := mb_s_u k (by omega)
  show ((Int32.ofInt (a : Int)).toBitVec >>> (((Int32.ofInt (k : Int)).toUInt32 &&& Int32.toUInt32 31).toBitVec % 32)).toNat = _
  rw [BitVec.ushiftRight_eq', BitVec.toNat_ushiftRight, s, ab_ofN ha, BitVec.toNat_ofNat, Nat.mod_eq_of_lt (by omega), Nat.shiftRight_eq_div_pow]
theorem ab_8 (d : Nat → Nat) : ab_h d 8 = d 0 + 16 * (d 1 + 16 * (d 2 + 16 * (d 3 + 16 * (d 4 + 16 * (d 5 + 16 * (d 6 + 16 * (d 7 + 16 * 0))))))) := rfl
theorem ab_is : ab_h (fun _ => 5) 8 = 1431655765 ∧ ab_h (fun _ => 3) 8 = 858993459 ∧ ab_h (fun j => if j % 2 = 0 then 15 else 0) 8 = 252645135 := by decide +kernel
theorem ab_all {a : Nat} (ha : a < 2147483648) : ∃ i1 n1 m1 n2 : Nat, i1 = a - (a / 2 &&& 1431655765) ∧ (a / 2 &&& 1431655765) ≤ a ∧ n1 = (i1 &&& 858993459) + (i1 / 4 &&& 858993459) ∧ n1 + n1 / 16 < 2147483648 ∧ m1 = (n1 + n1 / 16 &&& 252645135) ∧ n2 = m1 + m1 / 256 ∧ n2 + n2 / 65536 < 2147483648 ∧ (n2 + n2 / 65536) % 64 = ab_b a 32 := by
  obtain ⟨d, hd⟩ : ∃ d : Nat → Nat, d = fun j => a / 16 ^ j % 16 := ⟨_, rfl⟩
  have d16 : ∀ j, d j < 16 := fun j => by rw [hd]; exact Nat.mod_lt _ (by decide)
  have d8 : d 8 = 0 := by rw [hd]; show a / 16 ^ 8 % 16 = 0; rw [Nat.div_eq_of_lt (by omega)]
  have da : ab_h d 8 = a := by rw [hd]; exact ab_dig 8 (by omega)
  have q1 : (a / 2 &&& 1431655765) = ab_h (fun j => d j / 2 &&& 5) 8 := by
    rw [← da, ab_h2 8 d8, ← ab_is.1, ab_hand 8 (fun j => by have := d16 j; have := d16 (j + 1); omega) (fun _ => by decide)]
    exact ab_hc 8 (fun j _ => (ab_t1 (d j) (d16 j) _ (Nat.mod_lt _ (by decide))).1)
  have sb := ab_hsub 8 (d := d) (e := fun j => d j / 2 &&& 5) (fun j => (ab_t1 (d j) (d16 j) 0 (by decide)).2)
  rw [da, ← q1] at sb
  have i1e : a - (a / 2 &&& 1431655765) = ab_h (fun j => ab_s1 (d j)) 8 := sb.2
  have s16 : ∀ j, ab_s1 (d j) < 16 := fun j => by have := d16 j; unfold ab_s1; omega
  have n1e : (a - (a / 2 &&& 1431655765) &&& 858993459) + ((a - (a / 2 &&& 1431655765)) / 4 &&& 858993459) = ab_h (fun j => ab_pc (d j)) 8 := by
    rw [i1e, ab_h4 8 (d := fun j => ab_s1 (d j)) (by show ab_s1 (d 8) = 0; rw [d8]; rfl), ← ab_is.2.1, ab_hand 8 s16 (fun _ => by decide), ab_hand 8 (fun j => by have := s16 j; have := s16 (j + 1); omega) (fun _ => by decide), ab_hadd]
    exact ab_hc 8 (fun j _ => (ab_t2 (d j) (d16 j) _ (Nat.mod_lt _ (by decide))).1)
  obtain ⟨p, hp⟩ : ∃ p : Nat → Nat, p = fun j => ab_pc (d j) := ⟨_, rfl⟩
  rw [← hp] at n1e
  have p4 : ∀ j, p j ≤ 4 := fun j => by rw [hp]; exact (ab_t2 (d j) (d16 j) 0 (by decide)).2
  have p8 : p 8 = 0 := by rw [hp]; show ab_pc (d 8) = 0; rw [d8]; rfl
  have tot : ab_b a 32 = p 0 + p 1 + p 2 + p 3 + p 4 + p 5 + p 6 + p 7 := by
    have e : ∀ j, p j = ab_pc (a / 16 ^ j % 16) := fun j => by rw [hp, hd]
    have g : ∀ j, ab_b a (4 * (j + 1)) = ab_b a (4 * j) + p j := fun j => by rw [e j]; exact ab_b4 a j
    have t0 : ab_b a 4 = 0 + p 0 := g 0
    have t1 : ab_b a 8 = ab_b a 4 + p 1 := g 1
    have t2 : ab_b a 12 = ab_b a 8 + p 2 := g 2
    have t3 : ab_b a 16 = ab_b a 12 + p 3 := g 3
    have t4 : ab_b a 20 = ab_b a 16 + p 4 := g 4
    have t5 : ab_b a 24 = ab_b a 20 + p 5 := g 5
    have t6 : ab_b a 28 = ab_b a 24 + p 6 := g 6
    have t7 : ab_b a 32 = ab_b a 28 + p 7 := g 7
    omega
  have b0 := p4 0; have b1 := p4 1; have b2 := p4 2; have b3 := p4 3; have b4 := p4 4; have b5 := p4 5; have b6 := p4 6; have b7 := p4 7
  have sum : ab_h p 8 + ab_h p 8 / 16 = ab_h (fun j => p j + p (j + 1)) 8 := by
    rw [ab_8, ab_8]
    show _ = (p 0 + p 1) + 16 * ((p 1 + p 2) + 16 * ((p 2 + p 3) + 16 * ((p 3 + p 4) + 16 * ((p 4 + p 5) + 16 * ((p 5 + p 6) + 16 * ((p 6 + p 7) + 16 * ((p 7 + p 8) + 16 * 0)))))))
    clear q1 sb i1e n1e tot
    omega
  have m1e : (ab_h p 8 + ab_h p 8 / 16 &&& 252645135) = (p 0 + p 1) + 256 * (p 2 + p 3) + 65536 * (p 4 + p 5) + 16777216 * (p 6 + p 7) := by
    rw [sum, ← ab_is.2.2, ab_hand 8 (fun j => by have := p4 j; have := p4 (j + 1); omega) (fun j => by split <;> decide), ab_8]
    have z := fun j => ab_t3 (p j + p (j + 1)) (by have := p4 j; have := p4 (j + 1); omega)
    show ((p 0 + p 1) &&& 15) + 16 * (((p 1 + p 2) &&& 0) + 16 * (((p 2 + p 3) &&& 15) + 16 * (((p 3 + p 4) &&& 0) + 16 * (((p 4 + p 5) &&& 15) + 16 * (((p 5 + p 6) &&& 0) + 16 * (((p 6 + p 7) &&& 15) + 16 * (((p 7 + p 8) &&& 0) + 16 * 0))))))) = _
    have z0 : ((p 0 + p 1) &&& 15) = p 0 + p 1 := (z 0).1
    have z1 : ((p 1 + p 2) &&& 0) = 0 := (z 1).2
    have z2 : ((p 2 + p 3) &&& 15) = p 2 + p 3 := (z 2).1
    have z3 : ((p 3 + p 4) &&& 0) = 0 := (z 3).2
    have z4 : ((p 4 + p 5) &&& 15) = p 4 + p 5 := (z 4).1
    have z5 : ((p 5 + p 6) &&& 0) = 0 := (z 5).2
    have z6 : ((p 6 + p 7) &&& 15) = p 6 + p 7 := (z 6).1
    have z7 : ((p 7 + p 8) &&& 0) = 0 := (z 7).2
    rw [z0, z1, z2, z3, z4, z5, z6, z7]
    clear q1 sb i1e n1e tot sum
    omega
  refine ⟨_, _, _, _, rfl, sb.1, rfl, ?_, rfl, rfl, ?_, ?_⟩
  · rw [n1e, ab_8]; omega
  · rw [n1e, m1e]; clear q1 sb i1e n1e tot sum; omega
  · rw [n1e, m1e, tot]
    clear q1 sb i1e n1e tot sum m1e
    obtain ⟨S0, hS0⟩ : ∃ S, S = p 0 + p 1 := ⟨_, rfl⟩
    obtain ⟨S1, hS1⟩ : ∃ S, S = p 2 + p 3 := ⟨_, rfl⟩
    obtain ⟨S2, hS2⟩ : ∃ S, S = p 4 + p 5 := ⟨_, rfl⟩
    obtain ⟨S3, hS3⟩ : ∃ S, S = p 6 + p 7 := ⟨_, rfl⟩
    rw [← hS0, ← hS1, ← hS2, ← hS3, show S0 + p 2 + p 3 + p 4 + p 5 + p 6 + p 7 = S0 + S1 + S2 + S3 by omega]
    have c0 : S0 ≤ 8 := by omega
    have c1 : S1 ≤ 8 := by omega
    have c2 : S2 ≤ 8 := by omega
    have c3 : S3 ≤ 8 := by omega
    clear hS0 hS1 hS2 hS3 b0 b1 b2 b3 b4 b5 b6 b7 p4 p8 d16 d8 da hd hp s16
    rw [show (S0 + 256 * S1 + 65536 * S2 + 16777216 * S3) / 256 = S1 + 256 * S2 + 65536 * S3 by omega]
    rw [show (S0 + 256 * S1 + 65536 * S2 + 16777216 * S3 + (S1 + 256 * S2 + 65536 * S3)) / 65536 = (S2 + S3) + 256 * S3 by omega]
    omega
theorem pX_bitCount {d kc ks : Nat} {Q : Option am_V → am_W → Prop} {w : am_W} {x : Int} (hx : x < 2147483648) (K : ∀ v : Int, (0 ≤ x → v = (ab_b x.toNat 32 : Int)) → Q (some (.inl v)) w) : am_M (mh_G X) SC (d + 1) kc ks mJ6_bitCount_0f7a4 [.inl x] w Q := by
  refine am_M_of (by decide) (Nat.le_of_ble_eq_true rfl) ?_
  refine bJ6_bitCount_0f7a4_0 (fun n1 e1 n2 e2 => ?_)
  refine K _ (fun h0 => ?_)
  obtain ⟨a, rfl⟩ := mh_nat h0
  have ha : a < 2147483648 := by omega
  rw [Int.toNat_natCast]
  obtain ⟨i1, k1, m1, k2, f1, f2, f3, f4, f5, f6, f7, f8⟩ := ab_all ha
  have A : ∀ {x y : Nat}, x < 2147483648 → y < 2147483648 → am_and (x : Int) (y : Int) = ((x &&& y : Nat) : Int) := ab_and
  have U1 := ab_ushr ha (k := 1) (by decide)
  have l1 : a / 2 &&& 1431655765 ≤ a / 2 := Nat.and_le_left
  have A1 := ab_and (a := a / 2) (b := 1431655765) (by omega) (by decide)
  have i1b : i1 < 2147483648 := by omega
  have U2 := ab_ushr i1b (k := 2) (by decide)
  have A2 := ab_and (a := i1) (b := 858993459) i1b (by decide)
  have A3 := ab_and (a := i1 / 4) (b := 858993459) (by omega) (by decide)
  have U4 := ab_ushr (a := k1) (k := 4) (by omega) (by decide)
  have A4 := ab_and (a := k1 + k1 / 16) (b := 252645135) f4 (by decide)
  have m1b : m1 ≤ k1 + k1 / 16 := by rw [f5]; exact Nat.and_le_left
  have U8 := ab_ushr (a := m1) (k := 8) (by omega) (by decide)
  have U16 := ab_ushr (a := k2) (k := 16) (by omega) (by decide)
  have A5 := ab_and (a := k2 + k2 / 65536) (b := 63) f7 (by decide)
  simp only [show (2 : Nat) ^ 1 = 2 from rfl] at U1
  simp only [show (2 : Nat) ^ 2 = 4 from rfl] at U2
  simp only [show (2 : Nat) ^ 4 = 16 from rfl] at U4
  simp only [show (2 : Nat) ^ 8 = 256 from rfl] at U8
  simp only [show (2 : Nat) ^ 16 = 65536 from rfl] at U16
  have e0 : am_w ((a : Int) - am_and (am_ushr (a : Int) 1) 1431655765) = (i1 : Int) := by
    rw [show am_ushr (a : Int) 1 = ((a / 2 : Nat) : Int) from U1, show am_and ((a / 2 : Nat) : Int) 1431655765 = ((a / 2 &&& 1431655765 : Nat) : Int) from A1, am_w_id (by unfold am_rg; omega)]
    omega
  rw [e0, show am_ushr (i1 : Int) 2 = ((i1 / 4 : Nat) : Int) from U2, show am_and (i1 : Int) 858993459 = ((i1 &&& 858993459 : Nat) : Int) from A2, show am_and ((i1 / 4 : Nat) : Int) 858993459 = ((i1 / 4 &&& 858993459 : Nat) : Int) from A3, am_w_id (by unfold am_rg; omega)] at e1
  have e1' : n1 = (k1 : Int) := by omega
  rw [e1', show am_ushr (k1 : Int) 4 = ((k1 / 16 : Nat) : Int) from U4, am_w_id (z := (k1 : Int) + ((k1 / 16 : Nat) : Int)) (by unfold am_rg; omega), show (k1 : Int) + ((k1 / 16 : Nat) : Int) = ((k1 + k1 / 16 : Nat) : Int) by omega, show am_and ((k1 + k1 / 16 : Nat) : Int) 252645135 = ((k1 + k1 / 16 &&& 252645135 : Nat) : Int) from A4, ← f5, show am_ushr (m1 : Int) 8 = ((m1 / 256 : Nat) : Int) from U8, am_w_id (by unfold am_rg; omega)] at e2
  have e2' : n2 = (k2 : Int) := by omega
  rw [e2', show am_ushr (k2 : Int) 16 = ((k2 / 65536 : Nat) : Int) from U16, am_w_id (by unfold am_rg; omega), show (k2 : Int) + ((k2 / 65536 : Nat) : Int) = ((k2 + k2 / 65536 : Nat) : Int) by omega, show am_and ((k2 + k2 / 65536 : Nat) : Int) 63 = ((k2 + k2 / 65536 &&& 63 : Nat) : Int) from A5,
    show (k2 + k2 / 65536 &&& 63) = (k2 + k2 / 65536) % 64 from Nat.and_two_pow_sub_one_eq_mod (k2 + k2 / 65536) 6, f8]
