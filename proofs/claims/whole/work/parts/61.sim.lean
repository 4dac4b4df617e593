-- THE DAYS OF MOURNING, day by day: entries e < n begin on b e; wt e = 0: it doesn't wait; parts end after cu e i days, and have depth de e i; wd s: what a wedding on day s ends (0: none)
abbrev md_P : Type := Nat × (Nat → Int) × (Nat → Int) × (Nat → Nat) × (Nat → Nat → Int) × (Nat → Nat → Int) × (Int → Int)
abbrev md_n (P : md_P) : Nat := P.1
abbrev md_b (P : md_P) : Nat → Int := P.2.1
abbrev md_wt (P : md_P) : Nat → Int := P.2.2.1
abbrev md_np (P : md_P) : Nat → Nat := P.2.2.2.1
abbrev md_cu (P : md_P) : Nat → Nat → Int := P.2.2.2.2.1
abbrev md_de (P : md_P) : Nat → Nat → Int := P.2.2.2.2.2.1
abbrev md_wd (P : md_P) : Int → Int := P.2.2.2.2.2.2
def md_pt (c : Nat → Int) (f : Int) : Nat → Nat
  | 0 => 0
  | k + 1 => if c k ≤ f then k + 1 else md_pt c f k
def md_dp (P : md_P) (e : Nat) (f : Int) : Int := md_de P e (md_pt (md_cu P e) f (md_np P e))
def md_d (P : md_P) (s : Int) (G : Nat → Int) (e : Nat) : Int := if G e = -1 ∨ s < md_b P e then 0 else md_dp P e (G e)
def md_mx (d : Nat → Int) : Nat → Int
  | 0 => 0
  | k + 1 => max (md_mx d k) (d k)
def md_adv (P : md_P) (s : Int) (G : Nat → Int) (e : Nat) : Int :=
  if G e = -1 ∨ s < md_b P e then G e
  else if md_wt P e = 0 ∨ md_dp P e (G e) = md_mx (md_d P s G) (md_n P) then (if md_cu P e (md_np P e - 1) ≤ G e + 1 then -1 else G e + 1) else G e
def md_wed (P : md_P) (s : Int) (G : Nat → Int) (e : Nat) : Int := if ¬ G e = -1 ∧ md_b P e ≤ s ∧ md_dp P e (G e) ≤ md_wd P s then -1 else G e
def md_D (P : md_P) : Nat → Nat → Int
  | 0 => md_wed P 0 (fun _ => 0)
  | t + 1 => md_wed P ((t : Int) + 1) (md_adv P (t : Int) (md_D P t))
def md_S (P : md_P) (s : Int) : Nat → Int := if s < 0 then (fun _ => 0) else md_D P s.toNat
def md_ok (P : md_P) : Prop := ∀ e, e < md_n P → 0 ≤ md_b P e ∧ (1 ≤ md_np P e ∧ md_np P e ≤ 4) ∧ 1 ≤ md_cu P e 0 ∧ (∀ i, i + 1 < md_np P e → md_cu P e i < md_cu P e (i + 1)) ∧ (∀ i, i < md_np P e → 1 ≤ md_de P e i ∧ md_de P e i ≤ 4) ∧ (∀ i, i < md_np P e → md_cu P e i ≤ 3000000)
theorem md_mxc {d d' : Nat → Int} : ∀ {n : Nat}, (∀ e, e < n → d e = d' e) → md_mx d n = md_mx d' n
  | 0, _ => rfl
  | n + 1, h => by
    show max _ _ = max _ _
    rw [md_mxc (fun e he => h e (by omega)), h n (by omega)]
theorem md_pt_is {c : Nat → Int} {f : Int} {np p : Nat} (hc : ∀ i, i + 1 < np → c i < c (i + 1)) (hp : p < np) (h1 : f < c p) (h2 : p = 0 ∨ c (p - 1) ≤ f) : md_pt c f np = p := by
  have mono : ∀ k, p ≤ k → k < np → c p ≤ c k := by
    intro k
    induction k with
    | zero => intro a b; rw [show p = 0 by omega]; exact Int.le_refl _
    | succ k ih =>
      intro a b
      by_cases q : p = k + 1
      · rw [q]; exact Int.le_refl _
      · have := ih (by omega) (by omega)
        have := hc k b
        omega
  have key : ∀ k, p ≤ k → k ≤ np → md_pt c f k = p := by
    intro k
    induction k with
    | zero => intro a b; show 0 = p; omega
    | succ k ih =>
      intro a b
      show (if _ then _ else _) = _
      by_cases q : p = k + 1
      · rw [if_pos (by have := h2.resolve_left (by omega); rw [q] at this; exact this)]; exact q.symm
      · have := mono k (by omega) (by omega)
        rw [if_neg (by omega)]
        exact ih (by omega) (by omega)
  exact key np (by omega) (Nat.le_refl _)
theorem md_pt_lt {c : Nat → Int} {f : Int} : ∀ {np : Nat}, 1 ≤ np → f < c (np - 1) → md_pt c f np < np ∧ f < c (md_pt c f np)
  | 0, h, _ => absurd h (by omega)
  | k + 1, _, h => by
    rw [Nat.add_sub_cancel] at h
    have : md_pt c f (k + 1) = md_pt c f k := by
      show (if _ then _ else _) = _
      rw [if_neg (by omega)]
    rw [this]
    have le : ∀ j, md_pt c f j ≤ j := by
      intro j
      induction j with
      | zero => exact Nat.le_refl _
      | succ j ih =>
        have e : md_pt c f (j + 1) = if c j ≤ f then j + 1 else md_pt c f j := rfl
        rw [e]
        split <;> omega
    by_cases q : md_pt c f k = k
    · rw [q]; exact ⟨by omega, h⟩
    · have lk := le k
      have hk : 1 ≤ k := by omega
      by_cases z : f < c (k - 1)
      · have := md_pt_lt (c := c) (f := f) hk z
        exact ⟨by omega, this.2⟩
      · exfalso
        apply q
        obtain ⟨j, rfl⟩ : ∃ j, k = j + 1 := ⟨k - 1, by omega⟩
        rw [Nat.add_sub_cancel] at z
        show (if _ then _ else _) = _
        rw [if_pos (by omega)]
theorem md_dpb {P : md_P} (ok : md_ok P) {e : Nat} (he : e < md_n P) {f : Int} (h : f < md_cu P e (md_np P e - 1)) : 1 ≤ md_dp P e f ∧ md_dp P e f ≤ 4 := by
  obtain ⟨o1, o2, o3, o4, o5, o6⟩ := ok e he
  have := md_pt_lt (c := md_cu P e) (f := f) o2.1 h
  exact o5 _ this.1
/-- what holds of the state of each entry -/
def md_in (P : md_P) (G : Nat → Int) : Prop := ∀ e, e < md_n P → G e = -1 ∨ (0 ≤ G e ∧ G e < md_cu P e (md_np P e - 1))
theorem md_tot {P : md_P} (ok : md_ok P) {e : Nat} (he : e < md_n P) : ∀ i, i < md_np P e → md_cu P e i ≤ md_cu P e (md_np P e - 1) ∧ 1 ≤ md_cu P e i := by
  obtain ⟨o1, o2, o3, o4, o5, o6⟩ := ok e he
  have up : ∀ j i, i + j < md_np P e → md_cu P e i ≤ md_cu P e (i + j) := by
    intro j
    induction j with
    | zero => intro i _; exact Int.le_refl _
    | succ j ih =>
      intro i hi
      have := ih i (by omega)
      have := o4 (i + j) (by omega)
      rw [show i + (j + 1) = i + j + 1 by omega]
      omega
  intro i hi
  have a := up (md_np P e - 1 - i) i (by omega)
  rw [show i + (md_np P e - 1 - i) = md_np P e - 1 by omega] at a
  have b := up i 0 (by omega)
  rw [Nat.zero_add] at b
  exact ⟨a, by omega⟩
theorem md_in_adv {P : md_P} {s : Int} {G : Nat → Int} (h : md_in P G) : md_in P (md_adv P s G) := by
  intro e he
  have := h e he
  unfold md_adv
  split
  · exact this
  · split
    · split
      · exact Or.inl rfl
      · exact Or.inr (by omega)
    · exact this
theorem md_in_wed {P : md_P} {s : Int} {G : Nat → Int} (h : md_in P G) : md_in P (md_wed P s G) := by
  intro e he
  have := h e he
  unfold md_wed
  split
  · exact Or.inl rfl
  · exact this
theorem md_in_S {P : md_P} (ok : md_ok P) (s : Int) : md_in P (md_S P s) := by
  have z : md_in P (fun _ => 0) := fun e he => Or.inr ⟨Int.le_refl _, by
    have o := ok e he
    have := md_tot ok he (md_np P e - 1) (by omega)
    show (0 : Int) < _
    omega⟩
  unfold md_S
  split
  · exact z
  · generalize s.toNat = t
    induction t with
    | zero => exact md_in_wed z
    | succ t ih => exact md_in_wed (md_in_adv ih)
theorem md_S1 {P : md_P} (ok : md_ok P) (s : Int) {e : Nat} (he : e < md_n P) : md_S P (s + 1) e = md_wed P (s + 1) (md_adv P s (md_S P s)) e := by
  have o := (ok e he).1
  by_cases c : 0 ≤ s
  · unfold md_S
    rw [if_neg (by omega), if_neg (by omega), show (s + 1).toNat = s.toNat + 1 by omega]
    show md_wed P ((s.toNat : Int) + 1) (md_adv P (s.toNat : Int) (md_D P s.toNat)) e = _
    rw [show ((s.toNat : Nat) : Int) = s by omega]
  · have e1 : md_S P s = fun _ => 0 := by unfold md_S; rw [if_pos (by omega)]
    have e2 : md_adv P s (md_S P s) e = 0 := by
      rw [e1]
      unfold md_adv
      rw [if_pos (Or.inr (by omega))]
    by_cases c2 : s = -1
    · subst c2
      have : md_S P (-1 + 1) e = md_wed P 0 (fun _ => 0) e := rfl
      rw [this]
      unfold md_wed
      rw [e2]
      rfl
    · have e3 : md_S P (s + 1) e = 0 := by unfold md_S; rw [if_pos (by omega)]
      rw [e3]
      unfold md_wed
      rw [e2, if_neg (fun q => by omega)]
theorem md_S_no {P : md_P} (ok : md_ok P) {e : Nat} (he : e < md_n P) {s : Int} (hs : s < 0) : md_S P s e = 0 := by unfold md_S; rw [if_pos hs]
/-- what is over stays over -/
theorem md_S_ov {P : md_P} (ok : md_ok P) {e : Nat} (he : e < md_n P) {s : Int} (h : md_S P s e = -1) : ∀ n : Nat, md_S P (s + n) e = -1
  | 0 => by rw [show s + ((0 : Nat) : Int) = s by omega]; exact h
  | n + 1 => by
    have ih := md_S_ov ok he h n
    rw [show s + ((n + 1 : Nat) : Int) = s + n + 1 by omega, md_S1 ok _ he]
    have : md_adv P (s + n) (md_S P (s + n)) e = -1 := by
      unfold md_adv
      rw [if_pos (Or.inl ih)]; exact ih
    unfold md_wed
    rw [this, if_neg (fun q => q.1 rfl)]
theorem md_S_le {P : md_P} (ok : md_ok P) {e : Nat} (he : e < md_n P) {s t : Int} (h : ¬ md_S P t e = -1) (hs : s ≤ t) : ¬ md_S P s e = -1 := by
  intro c
  have := md_S_ov ok he c (t - s).toNat
  rw [show s + ((t - s).toNat : Int) = t by omega] at this
  exact h this
/-- goes on: on, and not waiting -/
def md_go (P : md_P) (t : Int) (e : Nat) : Prop := ¬ md_S P t e = -1 ∧ md_b P e ≤ t ∧ (md_wt P e = 0 ∨ md_dp P e (md_S P t e) = md_mx (md_d P t (md_S P t)) (md_n P))
/-- nothing changes from t to the day ahead of c -/
def md_qu (P : md_P) (t c : Int) : Prop :=
  t < c ∧ (∀ s, t < s → s < c → md_wd P s ≤ 0) ∧ (∀ e, e < md_n P → t < md_b P e → c ≤ md_b P e) ∧
  ∀ e, e < md_n P → md_go P t e → c ≤ t + (md_cu P e (md_pt (md_cu P e) (md_S P t e) (md_np P e)) - md_S P t e)
theorem md_jump {P : md_P} (ok : md_ok P) {t c : Int} (q : md_qu P t c) : ∀ n : Nat, t + n < c → ∀ e, e < md_n P →
    (md_go P t e → md_S P (t + n) e = md_S P t e + n) ∧ (¬ md_go P t e → md_S P (t + n) e = md_S P t e) ∧ md_d P (t + n) (md_S P (t + n)) e = md_d P t (md_S P t) e
  | 0, h, e, he => by
    rw [show t + ((0 : Nat) : Int) = t by omega]
    exact ⟨fun _ => by omega, fun _ => rfl, rfl⟩
  | n + 1, h, e, he => by
    have ih := md_jump ok q n (by omega)
    obtain ⟨q0, q1, q2, q3⟩ := q
    have mx : md_mx (md_d P (t + n) (md_S P (t + n))) (md_n P) = md_mx (md_d P t (md_S P t)) (md_n P) := md_mxc (fun e he => (ih e he).2.2)
    have o := ok e he
    have inn := md_in_S ok t e he
    obtain ⟨i1, i2, i3⟩ := ih e he
    have e1 : t + ((n + 1 : Nat) : Int) = t + n + 1 := by omega
    have wd0 := q1 (t + n + 1) (by omega) (by omega)
    rw [e1, md_S1 ok _ he]
    -- the part at t
    have base : ¬ md_S P t e = -1 → md_pt (md_cu P e) (md_S P t e) (md_np P e) < md_np P e ∧ md_S P t e < md_cu P e (md_pt (md_cu P e) (md_S P t e) (md_np P e)) := fun hz => md_pt_lt o.2.1.1 (by omega)
    by_cases a1 : md_S P t e = -1
    · have ng : ¬ md_go P t e := fun g => g.1 a1
      have s1 : md_S P (t + n) e = -1 := by rw [i2 ng]; exact a1
      have s2 : md_adv P (t + n) (md_S P (t + n)) e = -1 := by unfold md_adv; rw [if_pos (Or.inl s1)]; exact s1
      have s3 : md_wed P (t + n + 1) (md_adv P (t + n) (md_S P (t + n))) e = -1 := by unfold md_wed; rw [s2, if_neg (fun z => z.1 rfl)]
      refine ⟨fun g => absurd g ng, fun _ => by rw [s3, a1], ?_⟩
      have s4 : md_S P (t + n + 1) e = -1 := by rw [md_S1 ok _ he]; exact s3
      unfold md_d
      rw [if_pos (Or.inl s4), if_pos (Or.inl a1)]
    · by_cases a2 : t < md_b P e
      · have ng : ¬ md_go P t e := fun g => by have := g.2.1; omega
        have bc := q2 e he a2
        have s1 := i2 ng
        have s2 : md_adv P (t + n) (md_S P (t + n)) e = md_S P t e := by unfold md_adv; rw [if_pos (Or.inr (by omega))]; exact s1
        have s3 : md_wed P (t + n + 1) (md_adv P (t + n) (md_S P (t + n))) e = md_S P t e := by unfold md_wed; rw [s2, if_neg (fun z => by omega)]
        refine ⟨fun g => absurd g ng, fun _ => s3, ?_⟩
        unfold md_d
        rw [if_pos (Or.inr (by omega)), if_pos (Or.inr a2)]
      · have onn : ¬ (md_S P (t + n) e = -1 ∨ t + n < md_b P e) := by
          rintro (z | z)
          · by_cases g : md_go P t e
            · rw [i1 g] at z; omega
            · rw [i2 g] at z; exact a1 z
          · omega
        have dpe : md_dp P e (md_S P (t + n) e) = md_dp P e (md_S P t e) := by
          have := i3
          unfold md_d at this
          rw [if_neg onn, if_neg (by omega)] at this
          exact this
        by_cases g : md_go P t e
        · have cc := q3 e he g
          obtain ⟨b1, b2⟩ := base a1
          have tt := md_tot ok he _ b1
          have s1 := i1 g
          have s2 : md_adv P (t + n) (md_S P (t + n)) e = md_S P t e + (n + 1) := by
            unfold md_adv
            rw [if_neg onn, mx, dpe, if_pos g.2.2, s1, if_neg (by omega)]
            omega
          have part : md_pt (md_cu P e) (md_S P t e + (n + 1)) (md_np P e) = md_pt (md_cu P e) (md_S P t e) (md_np P e) := by
            refine md_pt_is o.2.2.2.1 b1 (by omega) ?_
            by_cases z : md_pt (md_cu P e) (md_S P t e) (md_np P e) = 0
            · exact Or.inl z
            · refine Or.inr ?_
              have lo : ∀ k, md_pt (md_cu P e) (md_S P t e) k = 0 ∨ md_cu P e (md_pt (md_cu P e) (md_S P t e) k - 1) ≤ md_S P t e := by
                intro k
                induction k with
                | zero => exact Or.inl rfl
                | succ k ih =>
                  by_cases y : md_cu P e k ≤ md_S P t e
                  · have : md_pt (md_cu P e) (md_S P t e) (k + 1) = k + 1 := by show (if _ then _ else _) = _; rw [if_pos y]
                    rw [this]; exact Or.inr y
                  · have : md_pt (md_cu P e) (md_S P t e) (k + 1) = md_pt (md_cu P e) (md_S P t e) k := by show (if _ then _ else _) = _; rw [if_neg y]
                    rw [this]; exact ih
              have := (lo (md_np P e)).resolve_left z
              omega
          have dp2 : md_dp P e (md_S P t e + (n + 1)) = md_dp P e (md_S P t e) := by unfold md_dp; rw [part]
          have dpp := md_dpb ok he (f := md_S P t e) (by omega)
          have s3 : md_wed P (t + n + 1) (md_adv P (t + n) (md_S P (t + n))) e = md_S P t e + (n + 1) := by
            unfold md_wed
            rw [s2, dp2, if_neg (fun z => by omega)]
          refine ⟨fun _ => by rw [s3]; omega, fun ng => absurd g ng, ?_⟩
          have s4 : md_S P (t + n + 1) e = md_S P t e + (n + 1) := by rw [md_S1 ok _ he]; exact s3
          unfold md_d
          rw [s4, if_neg (by omega), if_neg (by omega), dp2]
        · have s1 := i2 g
          have dpp := md_dpb ok he (f := md_S P t e) (by omega)
          have s2 : md_adv P (t + n) (md_S P (t + n)) e = md_S P t e := by
            unfold md_adv
            rw [if_neg onn, mx, dpe, if_neg (fun z => g ⟨a1, by omega, z⟩), s1]
          have s3 : md_wed P (t + n + 1) (md_adv P (t + n) (md_S P (t + n))) e = md_S P t e := by
            unfold md_wed
            rw [s2, if_neg (fun z => by omega)]
          refine ⟨fun g2 => absurd g2 g, fun _ => s3, ?_⟩
          have s4 : md_S P (t + n + 1) e = md_S P t e := by rw [md_S1 ok _ he]; exact s3
          unfold md_d
          rw [s4, if_neg (by omega), if_neg (by omega)]
