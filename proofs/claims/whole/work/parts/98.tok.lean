-- TOKENS of a line: pure, and as the class finds them
variable {SC : Nat → Nat} {X : mh_X} {r : Option am_I}
abbrev tk_lt (c : Int) : Prop := 97 ≤ c ∧ c ≤ 122
abbrev tk_dg (c : Int) : Prop := 48 ≤ c ∧ c ≤ 57
abbrev tk_str (c : Int) : Prop := ¬ tk_lt c ∧ ¬ tk_dg c ∧ ¬ c = 58 ∧ ¬ c = 44 ∧ ¬ c = 59 ∧ ¬ c = 46
/-- how far letters go on, and digits -/
def tk_rl (B : Nat → Int) (stop : Nat) : Nat → Nat → Nat
  | 0, i => i
  | n + 1, i => if i < stop ∧ tk_lt (B i) then tk_rl B stop n (i + 1) else i
def tk_rd (B : Nat → Int) (stop : Nat) : Nat → Nat → Nat
  | 0, i => i
  | n + 1, i => if i < stop ∧ tk_dg (B i) then tk_rd B stop n (i + 1) else i
theorem tk_rl1 {B : Nat → Int} {stop n i : Nat} : tk_rl B stop (n + 1) i = if i < stop ∧ tk_lt (B i) then tk_rl B stop n (i + 1) else i := rfl
theorem tk_rd1 {B : Nat → Int} {stop n i : Nat} : tk_rd B stop (n + 1) i = if i < stop ∧ tk_dg (B i) then tk_rd B stop n (i + 1) else i := rfl
theorem tk_rl_b {B : Nat → Int} {stop : Nat} : ∀ {n i : Nat}, i ≤ stop → i ≤ tk_rl B stop n i ∧ tk_rl B stop n i ≤ stop ∧ ∀ k, i ≤ k → k < tk_rl B stop n i → tk_lt (B k)
  | 0, i, h => ⟨Nat.le_refl _, h, fun k a b => absurd b (by show ¬ k < i; omega)⟩
  | n + 1, i, h => by
    rw [tk_rl1]
    split
    · rename_i c
      obtain ⟨a, b, d⟩ := tk_rl_b (B := B) (stop := stop) (n := n) (i := i + 1) (by omega)
      refine ⟨by omega, b, fun k k1 k2 => ?_⟩
      by_cases e : k = i
      · rw [e]; exact c.2
      · exact d k (by omega) k2
    · exact ⟨Nat.le_refl _, h, fun k a b => absurd b (by omega)⟩
theorem tk_rd_b {B : Nat → Int} {stop : Nat} : ∀ {n i : Nat}, i ≤ stop → i ≤ tk_rd B stop n i ∧ tk_rd B stop n i ≤ stop ∧ ∀ k, i ≤ k → k < tk_rd B stop n i → tk_dg (B k)
  | 0, i, h => ⟨Nat.le_refl _, h, fun k a b => absurd b (by show ¬ k < i; omega)⟩
  | n + 1, i, h => by
    rw [tk_rd1]
    split
    · rename_i c
      obtain ⟨a, b, d⟩ := tk_rd_b (B := B) (stop := stop) (n := n) (i := i + 1) (by omega)
      refine ⟨by omega, b, fun k k1 k2 => ?_⟩
      by_cases e : k = i
      · rw [e]; exact c.2
      · exact d k (by omega) k2
    · exact ⟨Nat.le_refl _, h, fun k a b => absurd b (by omega)⟩
/-- where the token that begins at i ends -/
def tk_e (B : Nat → Int) (stop i : Nat) : Nat := if tk_lt (B i) then tk_rl B stop (stop - (i + 1)) (i + 1) else if tk_dg (B i) then tk_rd B stop (stop - (i + 1)) (i + 1) else i + 1
theorem tk_e_b {B : Nat → Int} {stop i : Nat} (h : i < stop) : i < tk_e B stop i ∧ tk_e B stop i ≤ stop ∧ (tk_lt (B i) → ∀ k, i ≤ k → k < tk_e B stop i → tk_lt (B k)) ∧ (tk_dg (B i) → ∀ k, i ≤ k → k < tk_e B stop i → tk_dg (B k)) := by
  unfold tk_e
  by_cases c : tk_lt (B i)
  · rw [if_pos c]
    obtain ⟨a, b, d⟩ := tk_rl_b (B := B) (stop := stop) (n := stop - (i + 1)) (i := i + 1) (by omega)
    refine ⟨by omega, b, fun _ k k1 k2 => ?_, fun q => absurd q (fun z => by omega)⟩
    by_cases e : k = i
    · rw [e]; exact c
    · exact d k (by omega) k2
  · rw [if_neg c]
    by_cases c2 : tk_dg (B i)
    · rw [if_pos c2]
      obtain ⟨a, b, d⟩ := tk_rd_b (B := B) (stop := stop) (n := stop - (i + 1)) (i := i + 1) (by omega)
      refine ⟨by omega, b, fun q => absurd q c, fun _ k k1 k2 => ?_⟩
      by_cases e : k = i
      · rw [e]; exact c2
      · exact d k (by omega) k2
    · rw [if_neg c2]
      exact ⟨by omega, by omega, fun q => absurd q c, fun q => absurd q c2⟩
/-- word k stands from b to e -/
def tk_m (B : Nat → Int) (k b e : Nat) : Prop := (e : Int) - b = ((mh_tx.getD k []).length : Int) ∧ ∀ i, i < (mh_tx.getD k []).length → B (b + i) = (mh_tx.getD k []).getD i 0
noncomputable def tk_w (B : Nat → Int) (b e : Nat) : Nat → Nat → Nat
  | 0, _ => 40
  | n + 1, k => @ite Nat (tk_m B k b e) (Classical.propDecidable _) k (tk_w B b e n (k + 1))
theorem tk_w1 {B : Nat → Int} {b e n k : Nat} : tk_w B b e (n + 1) k = @ite Nat (tk_m B k b e) (Classical.propDecidable _) k (tk_w B b e n (k + 1)) := rfl
/-- its code -/
noncomputable def tk_c (B : Nat → Int) (b e : Nat) : Int := if tk_lt (B b) then (tk_w B b e 40 0 : Int) else if tk_dg (B b) then 41 else if B b = 59 then 44 else if B b = 58 then 42 else if B b = 46 then 45 else if B b = 44 then 43 else 47
theorem tk_w_b {B : Nat → Int} {b e : Nat} : ∀ {n k : Nat}, n + k = 40 → tk_w B b e n k ≤ 40
  | 0, k, h => Nat.le_refl _
  | n + 1, k, h => by
    rw [tk_w1]
    split
    · omega
    · exact tk_w_b (by omega)
theorem tk_c47 {B : Nat → Int} {b e : Nat} : tk_c B b e = 47 ↔ tk_str (B b) := by
  have := tk_w_b (B := B) (b := b) (e := e) (n := 40) (k := 0) rfl
  unfold tk_c
  split
  · omega
  split
  · omega
  split
  · omega
  split
  · omega
  split
  · omega
  split <;> omega
/-- the words differ -/
theorem tk_tx : ∀ k, k < 40 → ∀ k', k' < 40 → mh_tx.getD k [] = mh_tx.getD k' [] → k = k' := by decide +kernel
theorem tk_m_i {B : Nat → Int} {k k' b e : Nat} (hk : k < 40) (hk' : k' < 40) (h : tk_m B k b e) (h' : tk_m B k' b e) : k = k' := by
  refine tk_tx k hk k' hk' ?_
  have l : (mh_tx.getD k []).length = (mh_tx.getD k' []).length := by have := h.1; have := h'.1; omega
  refine List.ext_getElem l (fun i h1 h2 => ?_)
  have a := h.2 i h1
  have c := h'.2 i h2
  rw [List.getD_eq_getElem?_getD, List.getElem?_eq_getElem h1, Option.getD_some] at a
  rw [List.getD_eq_getElem?_getD, List.getElem?_eq_getElem h2, Option.getD_some] at c
  rw [← a, ← c]
theorem tk_w_i {B : Nat → Int} {b e : Nat} {c : Nat} (hc : c < 40) : ∀ {n k : Nat}, n + k = 40 → k ≤ c → (tk_w B b e n k = c ↔ tk_m B c b e)
  | 0, k, h, h2 => by omega
  | n + 1, k, h, h2 => by
    rw [tk_w1]
    by_cases m : tk_m B k b e
    · rw [if_pos m]
      exact ⟨fun z => by rw [← z]; exact m, fun z => tk_m_i (by omega) hc m z⟩
    · rw [if_neg m]
      by_cases z : k = c
      · subst z
        refine ⟨fun q => ?_, fun q => absurd q m⟩
        exfalso
        have : ∀ {n k' : Nat}, n + k' = 40 → k < k' → ¬ tk_w B b e n k' = k := by
          intro n
          induction n with
          | zero => intro k' _ _ q; have : (40 : Nat) = k := q; omega
          | succ n ih =>
            intro k' h1 h2 q
            rw [tk_w1] at q
            split at q
            · omega
            · exact ih (by omega) (by omega) q
        exact this (by omega) (by omega) q
      · exact tk_w_i hc (by omega) (by omega)
/-- is it word c -/
theorem tk_c_w {B : Nat → Int} {b e c : Nat} (hc : c < 40) (hb : tk_m B c b e → tk_lt (B b)) : tk_c B b e = (c : Int) ↔ tk_m B c b e := by
  have wi := tk_w_i (B := B) (b := b) (e := e) hc (n := 40) (k := 0) rfl (Nat.zero_le _)
  unfold tk_c
  by_cases l : tk_lt (B b)
  · rw [if_pos l, ← wi]; omega
  · rw [if_neg l]
    refine ⟨fun z => ?_, fun z => absurd (hb z) l⟩
    exfalso
    split at z
    · omega
    split at z
    · omega
    split at z
    · omega
    split at z
    · omega
    split at z <;> omega
/-- the number that n digits from b on tell -/
def tk_n (B : Nat → Int) (b : Nat) : Nat → Int
  | 0 => 0
  | n + 1 => 10 * tk_n B b n + (B (b + n) - 48)
theorem tk_n1 {B : Nat → Int} {b n : Nat} : tk_n B b (n + 1) = 10 * tk_n B b n + (B (b + n) - 48) := rfl
theorem tk_n_b {B : Nat → Int} {b : Nat} : ∀ {n : Nat}, (∀ k, b ≤ k → k < b + n → tk_dg (B k)) → 0 ≤ tk_n B b n
  | 0, _ => Int.le_refl _
  | n + 1, h => by
    have := tk_n_b (B := B) (b := b) (n := n) (fun k h1 h2 => h k h1 (by omega))
    have := h (b + n) (by omega) (by omega)
    rw [tk_n1]; omega
theorem tk_n_m {B : Nat → Int} {b n : Nat} : ∀ {m : Nat}, (∀ k, b ≤ k → k < b + (n + m) → tk_dg (B k)) → tk_n B b n ≤ tk_n B b (n + m)
  | 0, _ => Int.le_refl _
  | m + 1, h => by
    have := tk_n_m (B := B) (b := b) (n := n) (m := m) (fun k h1 h2 => h k h1 (by omega))
    have := tk_n_b (B := B) (b := b) (n := n + m) (fun k h1 h2 => h k h1 (by omega))
    have := h (b + (n + m)) (by omega) (by omega)
    rw [show n + (m + 1) = n + m + 1 by omega, tk_n1]; omega
/-- the tokens of a line, and whether it ends with a strange byte -/
def tk_l (B : Nat → Int) (stop : Nat) : Nat → Nat → List (Nat × Nat)
  | 0, _ => []
  | n + 1, i => if i < stop ∧ ¬ B i = 35 then (if B i = 32 then tk_l B stop n (i + 1) else if tk_str (B i) then [] else (i, tk_e B stop i) :: tk_l B stop n (tk_e B stop i)) else []
def tk_f (B : Nat → Int) (stop : Nat) : Nat → Nat → Prop
  | 0, _ => False
  | n + 1, i => if i < stop ∧ ¬ B i = 35 then (if B i = 32 then tk_f B stop n (i + 1) else if tk_str (B i) then True else tk_f B stop n (tk_e B stop i)) else False
theorem tk_l1 {B : Nat → Int} {stop n i : Nat} : tk_l B stop (n + 1) i = if i < stop ∧ ¬ B i = 35 then (if B i = 32 then tk_l B stop n (i + 1) else if tk_str (B i) then [] else (i, tk_e B stop i) :: tk_l B stop n (tk_e B stop i)) else [] := rfl
theorem tk_f1 {B : Nat → Int} {stop n i : Nat} : tk_f B stop (n + 1) i = if i < stop ∧ ¬ B i = 35 then (if B i = 32 then tk_f B stop n (i + 1) else if tk_str (B i) then True else tk_f B stop n (tk_e B stop i)) else False := rfl
/-- a sound token -/
def tk_ok (B : Nat → Int) (stop : Nat) (q : Nat × Nat) : Prop := q.1 < q.2 ∧ q.2 ≤ stop ∧ ¬ tk_str (B q.1) ∧ q.2 = tk_e B stop q.1
theorem tk_l_ok {B : Nat → Int} {stop : Nat} : ∀ {n i : Nat}, (∀ q ∈ tk_l B stop n i, tk_ok B stop q) ∧ (tk_l B stop n i).length ≤ stop - i
  | 0, i => ⟨fun q h => absurd h (List.not_mem_nil), Nat.zero_le _⟩
  | n + 1, i => by
    rw [tk_l1]
    split
    · rename_i c
      split
      · have := tk_l_ok (B := B) (stop := stop) (n := n) (i := i + 1)
        exact ⟨this.1, by omega⟩
      split
      · exact ⟨fun q h => absurd h (List.not_mem_nil), Nat.zero_le _⟩
      · rename_i s
        obtain ⟨a, b, -⟩ := tk_e_b (B := B) c.1
        have := tk_l_ok (B := B) (stop := stop) (n := n) (i := tk_e B stop i)
        refine ⟨fun q h => ?_, by rw [List.length_cons]; omega⟩
        rcases List.mem_cons.mp h with h | h
        · rw [h]; exact ⟨a, b, s, rfl⟩
        · exact this.1 q h
    · exact ⟨fun q h => absurd h (List.not_mem_nil), Nat.zero_le _⟩
