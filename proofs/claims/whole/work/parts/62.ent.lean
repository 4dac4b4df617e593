-- THE ENTRIES: whom one mourns for, as pure data of the class's store
variable {SC : Nat → Nat} {X : mh_X}
theorem mh_op0 : ∀ n : Nat, n < 16 → am_and (am_shr (n : Int) (0 : Int)) 1 = ((n % 2 : Nat) : Int) ∧ (am_and (n : Int) 1 = 0 ↔ n % 2 = 0) := by decide +kernel
theorem mh_op1 : ∀ n : Nat, n < 16 → am_and (am_shr (n : Int) (1 : Int)) 1 = ((n / 2 % 2 : Nat) : Int) ∧ (am_and (n : Int) 2 = 0 ↔ n / 2 % 2 = 0) := by decide +kernel
theorem mh_op2 : ∀ n : Nat, n < 16 → am_and (am_shr (n : Int) (2 : Int)) 1 = ((n / 4 % 2 : Nat) : Int) ∧ (am_and (n : Int) 4 = 0 ↔ n / 4 % 2 = 0) := by decide +kernel
theorem mh_op3 : ∀ n : Nat, n < 16 → am_and (am_shr (n : Int) (3 : Int)) 1 = ((n / 8 % 2 : Nat) : Int) ∧ (am_and (n : Int) 8 = 0 ↔ n / 8 % 2 = 0) := by decide +kernel
/-- the options as the class reads them, and the reference -/
theorem mh_opt {v : Int} (h : 0 ≤ v ∧ v ≤ 15) :
    (am_and (am_shr v (0 : Int)) 1 = v % 2 ∧ (am_and v 1 = 0 ↔ v % 2 = 0)) ∧ (am_and (am_shr v (1 : Int)) 1 = v / 2 % 2 ∧ (am_and v 2 = 0 ↔ v / 2 % 2 = 0)) ∧
    (am_and (am_shr v (2 : Int)) 1 = v / 4 % 2 ∧ (am_and v 4 = 0 ↔ v / 4 % 2 = 0)) ∧ (am_and (am_shr v (3 : Int)) 1 = v / 8 % 2 ∧ (am_and v 8 = 0 ↔ v / 8 % 2 = 0)) := by
  obtain ⟨n, rfl⟩ := mh_nat h.1
  have a := mh_op0 n (by omega)
  have b := mh_op1 n (by omega)
  have c := mh_op2 n (by omega)
  have e := mh_op3 n (by omega)
  refine ⟨⟨?_, a.2.trans ?_⟩, ⟨?_, b.2.trans ?_⟩, ⟨?_, c.2.trans ?_⟩, ⟨?_, e.2.trans ?_⟩⟩
  · rw [a.1]; omega
  · omega
  · rw [b.1]; omega
  · omega
  · rw [c.1]; omega
  · omega
  · rw [e.1]; omega
  · omega
/-- the dead for whom a mourns, among the first n -/
noncomputable def mh_dl (I : Nat → Nat → Nat → Int) (a : Nat) (known : Int) (n : Nat) : List Nat := (List.range n).filter (fun d => !(mh_rule I a d known == -1))
theorem mh_dl1 {I : Nat → Nat → Nat → Int} {a : Nat} {known : Int} {n : Nat} : mh_dl I a known (n + 1) = if mh_rule I a n known = -1 then mh_dl I a known n else mh_dl I a known n ++ [n] := by
  unfold mh_dl
  rw [List.range_succ, List.filter_append]
  by_cases h : mh_rule I a n known = -1
  · rw [if_pos h]; simp [h]
  · rw [if_neg h]; simp [h]
theorem mh_dl_m {I : Nat → Nat → Nat → Int} {a : Nat} {known : Int} {n d : Nat} : d ∈ mh_dl I a known n ↔ d < n ∧ ¬ mh_rule I a d known = -1 := by
  unfold mh_dl
  simp [List.mem_filter, List.mem_range]
theorem mh_dl_n {I : Nat → Nat → Nat → Int} {a : Nat} {known : Int} : ∀ {n : Nat}, (mh_dl I a known n).length ≤ n
  | 0 => Nat.le_refl _
  | n + 1 => by
    have := mh_dl_n (I := I) (a := a) (known := known) (n := n)
    rw [mh_dl1]
    split
    · omega
    · rw [List.length_append]; simp; omega
/-- the dead of entry e -/
noncomputable def mh_D (I : Nat → Nat → Nat → Int) (a : Nat) (known : Int) (e : Nat) : Nat := (mh_dl I a known (I 5 0 18).toNat).getD e 0
theorem mh_D_m {I : Nat → Nat → Nat → Int} {a : Nat} {known : Int} {e : Nat} (h : e < (mh_dl I a known (I 5 0 18).toNat).length) : mh_D I a known e < (I 5 0 18).toNat ∧ ¬ mh_rule I a (mh_D I a known e) known = -1 := by
  unfold mh_D
  rw [List.getD_eq_getElem?_getD, List.getElem?_eq_getElem h, Option.getD_some]
  exact mh_dl_m.mp (List.getElem_mem h)
theorem mh_D_p {I : Nat → Nat → Nat → Int} {a : Nat} {known : Int} : ∀ (k n : Nat) {e : Nat}, e < (mh_dl I a known n).length → (mh_dl I a known (n + k)).getD e 0 = (mh_dl I a known n).getD e 0
  | 0, n, e, h => rfl
  | k + 1, n, e, h => by
    have ih := mh_D_p k n h
    have le : (mh_dl I a known n).length ≤ (mh_dl I a known (n + k)).length := by
      clear ih h
      induction k with
      | zero => exact Nat.le_refl _
      | succ k ih =>
        rw [show n + (k + 1) = n + k + 1 by omega, mh_dl1]
        split
        · exact ih
        · rw [List.length_append]; omega
    rw [show n + (k + 1) = n + k + 1 by omega, mh_dl1]
    split
    · exact ih
    · rw [← ih, List.getD_eq_getElem?_getD, List.getD_eq_getElem?_getD, List.getElem?_append_left (by omega)]
noncomputable def mh_el (I : Nat → Nat → Nat → Int) (known : Int) (d : Nat) : Nat := (mh_law I (I 39 0 d) known).toNat
noncomputable def mh_er (I : Nat → Nat → Nat → Int) (a : Nat) (known : Int) (d : Nat) : Nat := (mh_rule I a d known).toNat
noncomputable def mh_eo (I : Nat → Nat → Nat → Int) (a : Nat) (known : Int) (d : Nat) : Int := I 150 (mh_el I known d) (mh_er I a known d)
noncomputable def mh_eb (I : Nat → Nat → Nat → Int) (a : Nat) (known : Int) (d : Nat) : Int :=
  max (if mh_eo I a known d / 8 % 2 = 0 then I 39 0 d else I 40 0 d) (I 37 0 a)
noncomputable def mh_rc (day many unit : Int) : Int := if unit = 17 then day + many else if unit = 18 then day + many * 7 else if unit = 19 then mh_lat day many else mh_lat day (many * 12)
/-- where part i begins -/
noncomputable def mh_fs (I : Nat → Nat → Nat → Int) (a : Nat) (known : Int) (d : Nat) : Nat → Int
  | 0 => mh_eb I a known d
  | i + 1 => mh_rc (mh_fs I a known d i) (I 148 (mh_el I known d) (mh_er I a known d * 4 + i)) (I 149 (mh_el I known d) (mh_er I a known d * 4 + i))
noncomputable def mh_le (I : Nat → Nat → Nat → Int) (a : Nat) (known : Int) (d i : Nat) : Int :=
  if mh_eo I a known d % 2 = 1 ∧ I 33 0 a = 1 then (mh_fs I a known d (i + 1) - mh_fs I a known d i + 1) / 2 else mh_fs I a known d (i + 1) - mh_fs I a known d i
noncomputable def mh_cs (I : Nat → Nat → Nat → Int) (a : Nat) (known : Int) (d : Nat) : Nat → Int
  | 0 => 0
  | i + 1 => mh_cs I a known d i + mh_le I a known d i
def mh_iw (I : Nat → Nat → Nat → Int) (a : Nat) (known s : Int) : Nat → Int
  | 0 => 0
  | k + 1 => if (I 44 0 k = (a : Int) ∨ I 45 0 k = (a : Int)) ∧ I 46 0 k = s ∧ I 47 0 k ≤ known then 1 else mh_iw I a known s k
theorem mh_iw_b {I : Nat → Nat → Nat → Int} {a : Nat} {known s : Int} : ∀ {n : Nat}, (mh_iw I a known s n = 0 ∨ mh_iw I a known s n = 1) ∧ (mh_iw I a known s n = 1 ↔ ∃ k, k < n ∧ (I 44 0 k = (a : Int) ∨ I 45 0 k = (a : Int)) ∧ I 46 0 k = s ∧ I 47 0 k ≤ known)
  | 0 => ⟨Or.inl rfl, fun h => absurd h (by show ¬ (0 : Int) = 1; decide), fun ⟨k, h, _⟩ => absurd h (Nat.not_lt_zero k)⟩
  | n + 1 => by
    obtain ⟨h1, h2⟩ := mh_iw_b (I := I) (a := a) (known := known) (s := s) (n := n)
    unfold mh_iw
    by_cases c : (I 44 0 n = (a : Int) ∨ I 45 0 n = (a : Int)) ∧ I 46 0 n = s ∧ I 47 0 n ≤ known
    · rw [if_pos c]
      exact ⟨Or.inr rfl, fun _ => ⟨n, by omega, c⟩, fun _ => rfl⟩
    · rw [if_neg c]
      refine ⟨h1, h2.trans ⟨?_, ?_⟩⟩
      · rintro ⟨k, h, g⟩; exact ⟨k, by omega, g⟩
      · rintro ⟨k, h, g⟩
        by_cases e : k = n
        · rw [e] at g; exact absurd g c
        · exact ⟨k, by omega, g⟩
noncomputable def mh_wf (I : Nat → Nat → Nat → Int) (a : Nat) (known s : Int) : Int :=
  if mh_iw I a known s (I 5 0 19).toNat = 1 ∧ ¬ mh_law I s known = -1 then I 10 (mh_law I s known).toNat 16 else 0
noncomputable def mh_P (I : Nat → Nat → Nat → Int) (a : Nat) (known : Int) : md_P :=
  ((mh_dl I a known (I 5 0 18).toNat).length, fun e => mh_eb I a known (mh_D I a known e), fun e => mh_eo I a known (mh_D I a known e) / 2 % 2,
    fun e => (I 146 (mh_el I known (mh_D I a known e)) (mh_er I a known (mh_D I a known e))).toNat, fun e i => mh_cs I a known (mh_D I a known e) (i + 1),
    fun e i => I 147 (mh_el I known (mh_D I a known e)) (mh_er I a known (mh_D I a known e) * 4 + i), mh_wf I a known)
/-- is it firm -/
noncomputable def mh_fi (I : Nat → Nat → Nat → Int) (a : Nat) (known : Int) (e : Nat) : Int := mh_eo I a known (mh_D I a known e) / 4 % 2
/-- facts of one for whom one mourns -/
theorem mh_dead {I : Nat → Nat → Nat → Int} {L : Nat → Nat → Nat → Int64} {a d : Nat} {known : Int} (hC : mh_C I L) (hk : known < 2147483647) (ha : (a : Int) < I 5 0 18) (hd : (d : Int) < I 5 0 18) (hr : ¬ mh_rule I a d known = -1) :
    (mh_law I (I 39 0 d) known = (mh_el I known d : Int) ∧ (mh_el I known d : Int) < I 4 0 5) ∧ (mh_rule I a d known = (mh_er I a known d : Int) ∧ (mh_er I a known d : Int) < I 10 (mh_el I known d) 10) ∧
    (0 ≤ I 39 0 d ∧ I 39 0 d ≤ 73047) ∧ (0 ≤ I 40 0 d ∧ I 40 0 d ≤ 73047) ∧ I 40 0 d ≤ known ∧ (-36524 ≤ I 37 0 a ∧ I 37 0 a ≤ 73047) := by
  obtain ⟨J, R, RL, RN⟩ := hC
  unfold mh_RN at RN
  have pd := R.2.2.1 d hd
  have pa := R.2.2.1 a ha
  have c : I 38 0 a ≤ known ∧ I 40 0 d ≤ known ∧ ¬ mh_law I (I 39 0 d) known = -1 := Classical.byContradiction (fun c => hr (by unfold mh_rule; rw [if_neg c]))
  have lb := mh_lw_b I (I 39 0 d) known (I 4 0 5).toNat
  have lb2 : mh_law I (I 39 0 d) known = -1 ∨ (0 ≤ mh_law I (I 39 0 d) known ∧ mh_law I (I 39 0 d) known < ((I 4 0 5).toNat : Int) ∧ I 10 (mh_law I (I 39 0 d) known).toNat 17 ≤ I 39 0 d ∧ I 10 (mh_law I (I 39 0 d) known).toNat 17 ≤ known) := lb
  have l6 := RL.1
  have z1 : mh_law I (I 39 0 d) known = (mh_el I known d : Int) := by unfold mh_el; omega
  have z2 : (mh_el I known d : Int) < I 4 0 5 := by omega
  have tk := (RL.2 _ z2).2.2
  have rb := mh_rb_b (mh_kk I a d (I 39 0 d) known (mh_el I known d)) (I 144 (mh_el I known d)) (I 10 (mh_el I known d) 10).toNat
  have rr : mh_rule I a d known = mh_rb (mh_kk I a d (I 39 0 d) known (mh_el I known d)) (I 144 (mh_el I known d)) (I 10 (mh_el I known d) 10).toNat := by
    unfold mh_rule
    rw [if_pos c]
    rfl
  rw [← rr] at rb
  have rn := (RL.2 _ z2).1.1
  have e1 : (mh_law I (I 39 0 d) known).toNat = mh_el I known d := rfl
  rw [e1] at lb2
  exact ⟨⟨z1, z2⟩, ⟨by unfold mh_er; omega, by unfold mh_er; omega⟩, by omega, by omega, c.2.1, by omega⟩
theorem mh_rcb {day many unit : Int} (hd : -36524 ≤ day ∧ day ≤ 1600000) (hm : 1 ≤ many ∧ many ≤ 999) : day < mh_rc day many unit ∧ mh_rc day many unit ≤ day + 372000 := by
  unfold mh_rc
  have a := mh_latb (x := day) (k := many) (by omega) (by omega)
  have b := mh_latb (x := day) (k := many * 12) (by omega) (by omega)
  have a2 := a.2 (by omega)
  have b2 := b.2 (by omega)
  split
  · omega
  · split
    · omega
    · split <;> omega
theorem mh_P_ok {I : Nat → Nat → Nat → Int} {L : Nat → Nat → Nat → Int64} {a : Nat} {known : Int} (hC : mh_C I L) (hk : known < 2147483647) (ha : (a : Int) < I 5 0 18) : md_ok (mh_P I a known) ∧
    ∀ e, e < md_n (mh_P I a known) → ∀ i, i < md_np (mh_P I a known) e → (0 ≤ mh_fs I a known (mh_D I a known e) i ∧ mh_fs I a known (mh_D I a known e) i ≤ 73047 + 372000 * i) ∧ (mh_fs I a known (mh_D I a known e) i < mh_fs I a known (mh_D I a known e) (i + 1) ∧ mh_fs I a known (mh_D I a known e) (i + 1) ≤ mh_fs I a known (mh_D I a known e) i + 372000) ∧ (1 ≤ mh_le I a known (mh_D I a known e) i ∧ mh_le I a known (mh_D I a known e) i ≤ 372000) := by
  have key : ∀ e, e < md_n (mh_P I a known) → (0 ≤ md_b (mh_P I a known) e ∧ md_b (mh_P I a known) e ≤ 73047) ∧ (1 ≤ md_np (mh_P I a known) e ∧ md_np (mh_P I a known) e ≤ 4) ∧ (∀ i, i < md_np (mh_P I a known) e → 1 ≤ md_de (mh_P I a known) e i ∧ md_de (mh_P I a known) e i ≤ 4) ∧
      ∀ i, i < md_np (mh_P I a known) e → (0 ≤ mh_fs I a known (mh_D I a known e) i ∧ mh_fs I a known (mh_D I a known e) i ≤ 73047 + 372000 * i) ∧ (mh_fs I a known (mh_D I a known e) i < mh_fs I a known (mh_D I a known e) (i + 1) ∧ mh_fs I a known (mh_D I a known e) (i + 1) ≤ mh_fs I a known (mh_D I a known e) i + 372000) := by
    intro e he
    obtain ⟨h1, h2⟩ := mh_D_m (I := I) (a := a) (known := known) he
    obtain ⟨⟨l1, l2⟩, ⟨r1, r2⟩, d1, d2, d3, b1⟩ := mh_dead hC hk ha (by omega) h2
    obtain ⟨J, R, RL, RN⟩ := hC
    have La := (RL.2 _ l2).1
    have Fr := La.2.1 _ r2
    have eb : 0 ≤ mh_eb I a known (mh_D I a known e) ∧ mh_eb I a known (mh_D I a known e) ≤ 73047 := by
      unfold mh_eb
      split <;> omega
    have npe : md_np (mh_P I a known) e = (I 146 (mh_el I known (mh_D I a known e)) (mh_er I a known (mh_D I a known e))).toNat := rfl
    have pc := Fr.2.2.1
    have fs : ∀ i, i ≤ md_np (mh_P I a known) e → 0 ≤ mh_fs I a known (mh_D I a known e) i ∧ mh_fs I a known (mh_D I a known e) i ≤ 73047 + 372000 * i := by
      intro i
      induction i with
      | zero => intro _; show 0 ≤ mh_eb _ _ _ _ ∧ mh_eb _ _ _ _ ≤ _; omega
      | succ i ih =>
        intro hi
        have ih := ih (by omega)
        have q := Fr.2.2.2.1 i (by omega)
        have z := mh_rcb (day := mh_fs I a known (mh_D I a known e) i) (many := I 148 (mh_el I known (mh_D I a known e)) (mh_er I a known (mh_D I a known e) * 4 + i)) (unit := I 149 (mh_el I known (mh_D I a known e)) (mh_er I a known (mh_D I a known e) * 4 + i)) (by omega) (by omega)
        show 0 ≤ mh_rc _ _ _ ∧ mh_rc _ _ _ ≤ _
        omega
    refine ⟨eb, by omega, fun i hi => ?_, fun i hi => ⟨fs i (by omega), ?_⟩⟩
    · have q := Fr.2.2.2.1 i (by omega)
      exact q.1.2
    · have q := Fr.2.2.2.1 i (by omega)
      have f := fs i (by omega)
      have z := mh_rcb (day := mh_fs I a known (mh_D I a known e) i) (many := I 148 (mh_el I known (mh_D I a known e)) (mh_er I a known (mh_D I a known e) * 4 + i)) (unit := I 149 (mh_el I known (mh_D I a known e)) (mh_er I a known (mh_D I a known e) * 4 + i)) (by omega) (by omega)
      exact z
  have lnb : ∀ e, e < md_n (mh_P I a known) → ∀ i, i < md_np (mh_P I a known) e → 1 ≤ mh_le I a known (mh_D I a known e) i ∧ mh_le I a known (mh_D I a known e) i ≤ 372000 := by
    intro e he i hi
    have := (key e he).2.2.2 i hi
    unfold mh_le
    split <;> omega
  refine ⟨fun e he => ?_, fun e he i hi => ⟨((key e he).2.2.2 i hi).1, ((key e he).2.2.2 i hi).2, lnb e he i hi⟩⟩
  obtain ⟨k1, k2, k3, k4⟩ := key e he
  have cu : ∀ i, md_cu (mh_P I a known) e i = mh_cs I a known (mh_D I a known e) i + mh_le I a known (mh_D I a known e) i := fun i => rfl
  have cb : ∀ i, i ≤ md_np (mh_P I a known) e → 0 ≤ mh_cs I a known (mh_D I a known e) i ∧ mh_cs I a known (mh_D I a known e) i ≤ 372000 * i := by
    intro i
    induction i with
    | zero => intro _; exact ⟨Int.le_refl _, Int.le_refl _⟩
    | succ i ih =>
      intro hi
      have := ih (by omega)
      have := lnb e he i (by omega)
      show 0 ≤ mh_cs _ _ _ _ i + mh_le _ _ _ _ i ∧ mh_cs _ _ _ _ i + mh_le _ _ _ _ i ≤ _
      omega
  refine ⟨k1.1, k2, ?_, fun i hi => ?_, k3, fun i hi => ?_⟩
  · have := lnb e he 0 (by omega)
    have := cb 0 (by omega)
    rw [cu]; omega
  · have := lnb e he (i + 1) hi
    have e2 : mh_cs I a known (mh_D I a known e) (i + 1) = mh_cs I a known (mh_D I a known e) i + mh_le I a known (mh_D I a known e) i := rfl
    rw [cu, cu, e2]; omega
  · have := cb (i + 1) (by omega)
    show mh_cs _ _ _ _ (i + 1) ≤ _
    omega
