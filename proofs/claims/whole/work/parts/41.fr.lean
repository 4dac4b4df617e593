-- FRAMES, and what the relation keeps
def mh_fc (ts ls : List Nat) (a a' : am_W) : Prop := (∀ t, t ∉ ts → a'.1 t = a.1 t) ∧ (∀ t, t ∉ ls → a'.2.1 t = a.2.1 t) ∧ a'.2.1 5 0 16 = a.2.1 5 0 16
def mh_fm (ts fs : List Nat) (b b' : am_W) : Prop := (∀ t, t ∉ ts → ¬ t = 9 → b'.1 t = b.1 t) ∧ (∀ k, k ∉ fs → b'.1 9 0 k = b.1 9 0 k) ∧ b'.2.1 = b.2.1
theorem mh_fc_r {ts ls : List Nat} {a : am_W} : mh_fc ts ls a a := ⟨fun _ _ => rfl, fun _ _ => rfl, rfl⟩
theorem mh_fm_r {ts fs : List Nat} {a : am_W} : mh_fm ts fs a a := ⟨fun _ _ _ => rfl, fun _ _ => rfl, rfl⟩
theorem mh_fc_t {ts ls : List Nat} {a b c : am_W} (h : mh_fc ts ls a b) (k : mh_fc ts ls b c) : mh_fc ts ls a c :=
  ⟨fun t q => (k.1 t q).trans (h.1 t q), fun t q => (k.2.1 t q).trans (h.2.1 t q), k.2.2.trans h.2.2⟩
theorem mh_fm_t {ts fs : List Nat} {a b c : am_W} (h : mh_fm ts fs a b) (k : mh_fm ts fs b c) : mh_fm ts fs a c :=
  ⟨fun t q r => (k.1 t q r).trans (h.1 t q r), fun t q => (k.2.1 t q).trans (h.2.1 t q), k.2.2.trans h.2.2⟩
theorem mh_fc_m {ts ls ts' ls' : List Nat} {a b : am_W} (h : mh_fc ts ls a b) (h1 : ∀ t, t ∈ ts → t ∈ ts') (h2 : ∀ t, t ∈ ls → t ∈ ls') : mh_fc ts' ls' a b :=
  ⟨fun t q => h.1 t (fun c => q (h1 t c)), fun t q => h.2.1 t (fun c => q (h2 t c)), h.2.2⟩
theorem mh_fm_m {ts fs ts' fs' : List Nat} {a b : am_W} (h : mh_fm ts fs a b) (h1 : ∀ t, t ∈ ts → t ∈ ts') (h2 : ∀ t, t ∈ fs → t ∈ fs') : mh_fm ts' fs' a b :=
  ⟨fun t q r => h.1 t (fun c => q (h1 t c)) r, fun t q => h.2.1 t (fun c => q (h2 t c)), h.2.2⟩
/-- a cell more is written -/
theorem mh_fc_u {ts ls : List Nat} {a a' : am_W} {t j k : Nat} {v : Int} (h : mh_fc ts ls a a') (m : t ∈ ts) : mh_fc ts ls a (am_up a'.1 t j k v, a'.2) :=
  ⟨fun t' q => (am_up_t (fun e : t' = t => q (e ▸ m))).trans (h.1 t' q), h.2.1, h.2.2⟩
theorem mh_fc_v {ts ls : List Nat} {a : am_W} {I : Nat → Nat → Nat → Int} {p : (Nat → Nat → Nat → Int64) × (Nat → Nat → Option am_I) × (Nat → Nat × Nat) × Nat} {t j k : Nat} {v : Int} (h : mh_fc ts ls a (I, p)) (m : t ∈ ts) : mh_fc ts ls a (am_up I t j k v, p) :=
  ⟨fun t' q => (am_up_t (f := I) (fun e : t' = t => q (e ▸ m))).trans (h.1 t' q), h.2.1, h.2.2⟩
theorem mh_fm_v {ts fs : List Nat} {a : am_W} {I : Nat → Nat → Nat → Int} {p : (Nat → Nat → Nat → Int64) × (Nat → Nat → Option am_I) × (Nat → Nat × Nat) × Nat} {t j k : Nat} {v : Int} (h : mh_fm ts fs a (I, p)) (m : t ∈ ts) (h9 : ¬ t = 9) : mh_fm ts fs a (am_up I t j k v, p) :=
  ⟨fun t' q r => (am_up_t (f := I) (fun e : t' = t => q (e ▸ m))).trans (h.1 t' q r), fun k' q => by
    show am_up I t j k v 9 0 k' = a.1 9 0 k'
    rw [am_up_t (fun e => h9 e.symm)]; exact h.2.1 k' q, h.2.2⟩
theorem mh_fm_f {ts fs : List Nat} {a : am_W} {I : Nat → Nat → Nat → Int} {p : (Nat → Nat → Nat → Int64) × (Nat → Nat → Option am_I) × (Nat → Nat × Nat) × Nat} {k : Nat} {v : Int} (h : mh_fm ts fs a (I, p)) (m : k ∈ fs) : mh_fm ts fs a (am_up I 9 0 k v, p) :=
  ⟨fun t' q r => (am_up_t (f := I) (fun e : t' = 9 => r e)).trans (h.1 t' q r), fun k' q => by
    show am_up I 9 0 k v 9 0 k' = a.1 9 0 k'
    rw [am_up_k (fun e : k' = k => q (e ▸ m))]; exact h.2.1 k' q, h.2.2⟩
theorem mh_fm_i {ts fs : List Nat} {a : am_W} : mh_fm ts fs a (a.1, a.2) := mh_fm_r
theorem mh_fc_i {ts ls : List Nat} {a : am_W} : mh_fc ts ls a (a.1, a.2) := mh_fc_r
variable {I J I' J' : Nat → Nat → Nat → Int} {L L' : Nat → Nat → Nat → Int64}
theorem mh_Wr_s (h : mh_Wr I) (f : ∀ t, t ∈ [7, 50, 51, 52, 53, 54, 55, 56, 57] → I' t = I t) : mh_Wr I' := by
  unfold mh_Wr mh_Wi at *
  simp only [f 7 (by decide), f 50 (by decide), f 51 (by decide), f 52 (by decide), f 53 (by decide), f 54 (by decide), f 55 (by decide), f 56 (by decide), f 57 (by decide)]
  exact h
theorem mh_We_s (h : mh_We I J) (f : ∀ t, t ∈ [7, 50, 51, 52, 53, 54, 55, 56, 57] → I' t = I t) (g : ∀ t, t ∈ [126, 127, 128, 129, 130, 131, 132] → J' t = J t) (g9 : ∀ k, k ∈ [75, 76, 81] → J' 9 0 k = J 9 0 k) : mh_We I' J' := by
  unfold mh_We at *
  simp only [f 7 (by decide), f 50 (by decide), f 51 (by decide), f 53 (by decide), f 54 (by decide), f 55 (by decide), f 56 (by decide), f 57 (by decide), g 126 (by decide), g 127 (by decide), g 128 (by decide), g 129 (by decide), g 130 (by decide), g 131 (by decide), g 132 (by decide), g9 75 (by decide), g9 76 (by decide), g9 81 (by decide)]
  exact h
theorem mh_RT_s (h : mh_RT I J) (f2 : ∀ k, k ∈ [3, 4, 5, 6] → I' 2 0 k = I 2 0 k) (f : I' 24 = I 24) (g : J' 66 = J 66) (g9 : ∀ k, k ∈ [1, 2, 3, 4] → J' 9 0 k = J 9 0 k) : mh_RT I' J' := by
  unfold mh_RT at *
  simp only [f2 3 (by decide), f2 4 (by decide), f2 5 (by decide), f2 6 (by decide), f, g, g9 1 (by decide), g9 2 (by decide), g9 3 (by decide), g9 4 (by decide)]
  exact h
theorem mh_La_s {l m l' m' : Nat} (h : mh_La I J l m) (f : ∀ t, t ∈ [10, 144, 145, 146, 147, 148, 149, 150, 151, 152, 153] → I' t = I t) (g : ∀ t, t ∈ [68, 69, 71, 73, 75, 78, 81, 83, 85, 87, 88, 89, 90, 91, 92] → J' t = J t) : mh_La I' J' l m := by
  unfold mh_La at *
  simp only [f 10 (by decide), f 144 (by decide), f 145 (by decide), f 146 (by decide), f 147 (by decide), f 148 (by decide), f 149 (by decide), f 150 (by decide), f 151 (by decide), f 152 (by decide), f 153 (by decide), g 68 (by decide), g 69 (by decide), g 71 (by decide), g 73 (by decide), g 75 (by decide), g 78 (by decide), g 81 (by decide), g 83 (by decide), g 85 (by decide), g 87 (by decide), g 88 (by decide), g 89 (by decide), g 90 (by decide), g 91 (by decide), g 92 (by decide)]
  exact h
theorem mh_RL_s (h : mh_RL I J) (hn : I 1 0 12 ≤ I' 1 0 12) (f4 : I' 4 0 5 = I 4 0 5) (f : ∀ t, t ∈ [10, 144, 145, 146, 147, 148, 149, 150, 151, 152, 153] → I' t = I t) (g : ∀ t, t ∈ [67, 68, 69, 71, 73, 75, 78, 81, 83, 85, 87, 88, 89, 90, 91, 92] → J' t = J t) (g9 : J' 9 0 21 = J 9 0 21) : mh_RL I' J' := by
  obtain ⟨h1, h2⟩ := h
  unfold mh_RL
  rw [f4, g9]
  refine ⟨h1, fun l hl => ?_⟩
  obtain ⟨q1, q2, q3, q4⟩ := h2 l hl
  refine ⟨mh_La_s (l' := l) (m' := l) q1 f (fun t ht => g t (List.mem_cons_of_mem _ ht)), ?_⟩
  rw [g 67 (by decide), f 10 (by decide)]
  exact ⟨q2, q3, Int.le_trans q4 hn⟩
theorem mh_RK_s (h : mh_RK I L J) (hn : I 1 0 12 ≤ I' 1 0 12) (f5 : ∀ k, k ∈ [18, 19] → I' 5 0 k = I 5 0 k) (f : ∀ t, t ∈ [33, 34, 35, 36, 37, 38, 39, 40, 44, 45, 46, 47] → I' t = I t) (fl : ∀ t, t ∈ [41, 42, 43] → L' t = L t) (fm : L' 5 0 16 = L 5 0 16)
    (g : ∀ t, t ∈ [96, 97, 98, 99, 100, 101, 102, 103, 104, 105, 106, 107] → J' t = J t) (g9 : ∀ k, k ∈ [42, 47] → J' 9 0 k = J 9 0 k) : mh_RK I' L' J' := by
  obtain ⟨h1, h2, h3, h4, h5⟩ := h
  unfold mh_RK
  simp only [f5 18 (by decide), f5 19 (by decide), f 33 (by decide), f 34 (by decide), f 35 (by decide), f 36 (by decide), f 37 (by decide), f 38 (by decide), f 39 (by decide), f 40 (by decide), f 44 (by decide), f 45 (by decide), f 46 (by decide), f 47 (by decide), fl 41 (by decide), fl 42 (by decide), fl 43 (by decide), fm, g 96 (by decide), g 97 (by decide), g 98 (by decide), g 99 (by decide), g 100 (by decide), g 101 (by decide), g 102 (by decide), g 103 (by decide), g 104 (by decide), g 105 (by decide), g 106 (by decide), g 107 (by decide), g9 42 (by decide), g9 47 (by decide)]
  refine ⟨h1, h2, fun p hp => ?_, h4, fun k hk => ?_⟩
  · have := h3 p hp; omega
  · have := h5 k hk; omega
theorem mh_RO_s (h : mh_RO I J) (f4 : I' 4 0 6 = I 4 0 6) (f : ∀ t, t ∈ [29, 30, 31, 32] → I' t = I t) (g : ∀ t, t ∈ [108, 109, 110, 111] → J' t = J t) (g9 : J' 9 0 52 = J 9 0 52) : mh_RO I' J' := by
  unfold mh_RO at *
  simp only [f4, f 29 (by decide), f 30 (by decide), f 31 (by decide), f 32 (by decide), g 108 (by decide), g 109 (by decide), g 110 (by decide), g 111 (by decide), g9]
  exact h
theorem mh_RD_s (h : mh_RD I J) (hn : I 1 0 12 ≤ I' 1 0 12) (hp : I 5 0 18 ≤ I' 5 0 18) (f1 : I' 1 0 11 = I 1 0 11) (f : ∀ t, t ∈ [20, 21, 22] → I' t = I t) (g : ∀ t, t ∈ [122, 123, 124] → J' t = J t) (g9 : J' 9 0 70 = J 9 0 70) : mh_RD I' J' := by
  obtain ⟨h1, h2⟩ := h
  unfold mh_RD
  simp only [f1, f 20 (by decide), f 21 (by decide), f 22 (by decide), g 122 (by decide), g 123 (by decide), g 124 (by decide), g9]
  exact ⟨h1, fun k hk => by have := h2 k hk; omega⟩
theorem mh_RP_s (h : mh_RP I J) (f3 : I' 3 0 1 = I 3 0 1) (f : I' 27 = I 27) (g : J' 143 = J 143) (g9 : J' 9 0 99 = J 9 0 99) : mh_RP I' J' := by
  unfold mh_RP at *
  simp only [f3, f, g, g9]
  exact h
/-- scratch cells: what the calls use and leave -/
def mh_t1 : List Nat := [6, 8, 11, 23, 25, 26, 58, 59, 60, 61, 62, 63, 64, 65, 154, 155]
def mh_l1 : List Nat := [5, 8, 48]
def mh_t2 : List Nat := [93, 94, 95, 112, 113, 114, 115, 116, 117, 118, 119, 120, 121, 125, 133, 134, 135, 136, 137, 138, 139, 140, 141, 142]
def mh_f2 : List Nat := [30, 31, 32, 62, 63, 64, 65, 66, 91, 92, 93, 94, 95, 98]
theorem mh_E_s {a b a' b' : am_W} (h : mh_E a b) (f : mh_fc mh_t1 mh_l1 a a') (g : mh_fm mh_t2 mh_f2 b b') : mh_E a' b' := by
  obtain ⟨⟨h1, h2⟩, h3, h4, h5, h6, h7, h8, h9⟩ := h
  obtain ⟨f1, f2, f3⟩ := f
  obtain ⟨g1, g2, g3⟩ := g
  have F : ∀ (l : List Nat), (∀ t, t ∈ l → t ∉ mh_t1) → ∀ t, t ∈ l → a'.1 t = a.1 t := fun l q t ht => f1 t (q t ht)
  have G : ∀ (l : List Nat), (∀ t, t ∈ l → t ∉ mh_t2 ∧ ¬ t = 9) → ∀ t, t ∈ l → b'.1 t = b.1 t := fun l q t ht => g1 t (q t ht).1 (q t ht).2
  have G9 : ∀ (l : List Nat), (∀ t, t ∈ l → t ∉ mh_f2) → ∀ t, t ∈ l → b'.1 9 0 t = b.1 9 0 t := fun l q t ht => g2 t (q t ht)
  have e1 : a'.1 1 = a.1 1 := f1 1 (by decide)
  have e2 : a'.1 2 = a.1 2 := f1 2 (by decide)
  have e3 : a'.1 3 = a.1 3 := f1 3 (by decide)
  have e4 : a'.1 4 = a.1 4 := f1 4 (by decide)
  have e5 : a'.1 5 = a.1 5 := f1 5 (by decide)
  have hn : a.1 1 0 12 ≤ a'.1 1 0 12 := by rw [e1]; exact Int.le_refl _
  refine ⟨⟨mh_Wr_s h1 (F _ (by decide)), mh_We_s h2 (F _ (by decide)) (G _ (by decide)) (G9 _ (by decide))⟩, ?_, ?_, ?_, ?_, ?_, ?_, ?_⟩
  · unfold mh_RN at *
    rw [g2 33 (by decide), e1]; exact h3
  · exact mh_RT_s h4 (fun k _ => by rw [e2]) (f1 24 (by decide)) (g1 66 (by decide) (by decide)) (G9 _ (by decide))
  · exact mh_RL_s h5 hn (by rw [e4]) (F _ (by decide)) (G _ (by decide)) (g2 21 (by decide))
  · exact mh_RK_s h6 hn (fun k _ => by rw [e5]) (F _ (by decide)) (fun t ht => f2 t (by revert ht; revert t; decide)) f3 (G _ (by decide)) (G9 _ (by decide))
  · exact mh_RO_s h7 (by rw [e4]) (F _ (by decide)) (G _ (by decide)) (g2 52 (by decide))
  · exact mh_RD_s h8 hn (by rw [e5]; exact Int.le_refl _) (by rw [e1]) (F _ (by decide)) (G _ (by decide)) (g2 70 (by decide))
  · exact mh_RP_s h9 (by rw [e3]) (f1 27 (by decide)) (g1 143 (by decide) (by decide)) (g2 99 (by decide))
/-- the tags of the class, and those of the reference -/
def mh_tc : List Nat := [1, 2, 3, 4, 5, 6, 7, 8, 10, 11, 20, 21, 22, 23, 24, 25, 26, 27, 28, 29, 30, 31, 32, 33, 34, 35, 36, 37, 38, 39, 40, 41, 42, 43, 44, 45, 46, 47, 48, 49, 50, 51, 52, 53, 54, 55, 56, 57, 58, 59, 60, 61, 62, 63, 64, 65, 144, 145, 146, 147, 148, 149, 150, 151, 152, 153, 154, 155]
def mh_tr : List Nat := [9, 66, 67, 68, 69, 70, 71, 72, 73, 74, 75, 76, 77, 78, 79, 80, 81, 82, 83, 84, 85, 86, 87, 88, 89, 90, 91, 92, 93, 94, 95, 96, 97, 98, 99, 100, 101, 102, 103, 104, 105, 106, 107, 108, 109, 110, 111, 112, 113, 114, 115, 116, 117, 118, 119, 120, 121, 122, 123, 124, 125, 126, 127, 128, 129, 130, 131, 132, 133, 134, 135, 136, 137, 138, 139, 140, 141, 142, 143]
theorem mh_E_b {a b b' : am_W} (h : mh_E a b) (g : ∀ t, t ∉ mh_tc → b'.1 t = b.1 t) : mh_E a b' := by
  obtain ⟨⟨h1, h2⟩, h3, h4, h5, h6, h7, h8, h9⟩ := h
  have e9 : b'.1 9 = b.1 9 := g 9 (by decide)
  have G : ∀ (l : List Nat), (∀ t, t ∈ l → t ∉ mh_tc) → ∀ t, t ∈ l → b'.1 t = b.1 t := fun l q t ht => g t (q t ht)
  refine ⟨⟨h1, mh_We_s h2 (fun _ _ => rfl) (G _ (by decide)) (fun k _ => by rw [e9])⟩, ?_, ?_, ?_, ?_, ?_, ?_, ?_⟩
  · unfold mh_RN at *
    rw [e9]; exact h3
  · exact mh_RT_s h4 (fun k _ => rfl) rfl (g 66 (by decide)) (fun k _ => by rw [e9])
  · exact mh_RL_s h5 (Int.le_refl _) rfl (fun _ _ => rfl) (G _ (by decide)) (by rw [e9])
  · exact mh_RK_s h6 (Int.le_refl _) (fun k _ => rfl) (fun _ _ => rfl) (fun _ _ => rfl) rfl (G _ (by decide)) (fun k _ => by rw [e9])
  · exact mh_RO_s h7 rfl (fun _ _ => rfl) (G _ (by decide)) (by rw [e9])
  · exact mh_RD_s h8 (Int.le_refl _) (Int.le_refl _) rfl (fun _ _ => rfl) (G _ (by decide)) (by rw [e9])
  · exact mh_RP_s h9 rfl rfl (g 143 (by decide)) (by rw [e9])
theorem mh_E_a {a a' b : am_W} (h : mh_E a b) (g : ∀ t, t ∉ mh_tr → a'.1 t = a.1 t) (gl : a'.2.1 = a.2.1) : mh_E a' b := by
  obtain ⟨⟨h1, h2⟩, h3, h4, h5, h6, h7, h8, h9⟩ := h
  have e1 : a'.1 1 = a.1 1 := g 1 (by decide)
  have e2 : a'.1 2 = a.1 2 := g 2 (by decide)
  have e3 : a'.1 3 = a.1 3 := g 3 (by decide)
  have e4 : a'.1 4 = a.1 4 := g 4 (by decide)
  have e5 : a'.1 5 = a.1 5 := g 5 (by decide)
  have hn : a.1 1 0 12 ≤ a'.1 1 0 12 := by rw [e1]; exact Int.le_refl _
  have F : ∀ (l : List Nat), (∀ t, t ∈ l → t ∉ mh_tr) → ∀ t, t ∈ l → a'.1 t = a.1 t := fun l q t ht => g t (q t ht)
  refine ⟨⟨mh_Wr_s h1 (F _ (by decide)), mh_We_s h2 (F _ (by decide)) (fun _ _ => rfl) (fun _ _ => rfl)⟩, ?_, ?_, ?_, ?_, ?_, ?_, ?_⟩
  · unfold mh_RN at *
    rw [e1]; exact h3
  · exact mh_RT_s h4 (fun k _ => by rw [e2]) (g 24 (by decide)) rfl (fun _ _ => rfl)
  · exact mh_RL_s h5 hn (by rw [e4]) (F _ (by decide)) (fun _ _ => rfl) rfl
  · exact mh_RK_s h6 hn (fun k _ => by rw [e5]) (F _ (by decide)) (fun t _ => by rw [gl]) (by rw [gl]) (fun _ _ => rfl) (fun _ _ => rfl)
  · exact mh_RO_s h7 (by rw [e4]) (F _ (by decide)) (fun _ _ => rfl) rfl
  · exact mh_RD_s h8 hn (by rw [e5]; exact Int.le_refl _) (by rw [e1]) (F _ (by decide)) (fun _ _ => rfl) rfl
  · exact mh_RP_s h9 (by rw [e3]) (g 27 (by decide)) rfl rfl
/-- what a call's theorem says: from stores that agree the class answers v and goes to a', and the reference, from any store that agrees, answers v and goes to one that agrees with a' -/
def mh_q (SC : Nat → Nat) (X : mh_X) (dc : Nat) (Yc : am_Y) (ac : List am_V) (dm : Nat) (Ym : am_Y) (as : List am_V) : Prop :=
  ∀ (a b0 : am_W), mh_E a b0 → ∀ (d kc ks : Nat) (Q : Option am_V → am_W → Prop),
    (∀ (v : Int) (a' : am_W), (∀ t, t ∉ mh_tc → a'.1 t = a.1 t) → (∀ (b : am_W), mh_E a b → ∀ (d' kc' ks' : Nat) (Q' : Option am_V → am_W → Prop), (∀ b', mh_E a' b' → (∀ t, t ∉ mh_tr → b'.1 t = b.1 t) → b'.2.1 = b.2.1 → Q' (some (.inl v)) b') → am_M (mh_G X) SC (d' + dm) kc' ks' Ym as b Q') → Q (some (.inl v)) a') →
    am_M (mh_G X) SC (d + dc) kc ks Yc ac a Q
/-- the wardrobe alone changes -/
theorem mh_E_W {a b a' b' : am_W} (h : mh_E a b) (f : ∀ t, t ∉ [7, 50, 51, 52, 53, 54, 55, 56, 57] → a'.1 t = a.1 t) (fl : a'.2.1 = a.2.1) (g : mh_fm [126, 127, 128, 129, 130, 131, 132] [75, 76, 81] b b') (w : mh_Wr a'.1 ∧ mh_We a'.1 b'.1) : mh_E a' b' := by
  obtain ⟨-, h3, h4, h5, h6, h7, h8, h9⟩ := h
  have F : ∀ (l : List Nat), (∀ t, t ∈ l → t ∉ [7, 50, 51, 52, 53, 54, 55, 56, 57]) → ∀ t, t ∈ l → a'.1 t = a.1 t := fun l q t ht => f t (q t ht)
  have G : ∀ (l : List Nat), (∀ t, t ∈ l → t ∉ [126, 127, 128, 129, 130, 131, 132] ∧ ¬ t = 9) → ∀ t, t ∈ l → b'.1 t = b.1 t := fun l q t ht => g.1 t (q t ht).1 (q t ht).2
  have G9 : ∀ (l : List Nat), (∀ t, t ∈ l → t ∉ [75, 76, 81]) → ∀ t, t ∈ l → b'.1 9 0 t = b.1 9 0 t := fun l q t ht => g.2.1 t (q t ht)
  have e1 : a'.1 1 = a.1 1 := f 1 (by decide)
  have e2 : a'.1 2 = a.1 2 := f 2 (by decide)
  have e3 : a'.1 3 = a.1 3 := f 3 (by decide)
  have e4 : a'.1 4 = a.1 4 := f 4 (by decide)
  have e5 : a'.1 5 = a.1 5 := f 5 (by decide)
  have hn : a.1 1 0 12 ≤ a'.1 1 0 12 := by rw [e1]; exact Int.le_refl _
  refine ⟨w, ?_, ?_, ?_, ?_, ?_, ?_, ?_⟩
  · unfold mh_RN at *
    rw [g.2.1 33 (by decide), e1]; exact h3
  · exact mh_RT_s h4 (fun k _ => by rw [e2]) (f 24 (by decide)) (g.1 66 (by decide) (by decide)) (G9 _ (by decide))
  · exact mh_RL_s h5 hn (by rw [e4]) (F _ (by decide)) (G _ (by decide)) (g.2.1 21 (by decide))
  · exact mh_RK_s h6 hn (fun k _ => by rw [e5]) (F _ (by decide)) (fun t _ => by rw [fl]) (by rw [fl]) (G _ (by decide)) (G9 _ (by decide))
  · exact mh_RO_s h7 (by rw [e4]) (F _ (by decide)) (G _ (by decide)) (g.2.1 52 (by decide))
  · exact mh_RD_s h8 hn (by rw [e5]; exact Int.le_refl _) (by rw [e1]) (F _ (by decide)) (G _ (by decide)) (g.2.1 70 (by decide))
  · exact mh_RP_s h9 (by rw [e3]) (f 27 (by decide)) (g.1 143 (by decide) (by decide)) (g.2.1 99 (by decide))
/-- the model's frame, wide -/
theorem mh_fm_w {ts fs : List Nat} {b b' : am_W} (g : mh_fm ts fs b b') (h : ∀ t, t ∈ ts → t ∈ mh_tr) : (∀ t, t ∉ mh_tr → b'.1 t = b.1 t) ∧ b'.2.1 = b.2.1 :=
  ⟨fun t q => g.1 t (fun c => q (h t c)) (fun c => q (by rw [c]; decide)), g.2.2⟩
theorem mh_fc_w {ts : List Nat} {a a' : am_W} (g : ∀ t, t ∉ ts → a'.1 t = a.1 t) (h : ∀ t, t ∈ ts → t ∈ mh_tc) : ∀ t, t ∉ mh_tc → a'.1 t = a.1 t := fun t q => g t (fun c => q (h t c))
