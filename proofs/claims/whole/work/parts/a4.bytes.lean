-- WRITE: what is written are bytes below 128
variable {SC : Nat → Nat} {X : mh_X} {r : Option am_I}
def wl_A (L : List Int) : Prop := ∀ c ∈ L, 0 ≤ c ∧ c < 128
theorem wl_A_B {L : List Int} (h : wl_A L) : wl_B L := fun i hi => by
  rw [List.getD_eq_getElem?_getD, List.getElem?_eq_getElem hi, Option.getD_some]
  exact h _ (List.getElem_mem hi)
theorem wl_A_a {L T : List Int} (h : wl_A L) (g : wl_A T) : wl_A (L ++ T) := fun c hc => (List.mem_append.mp hc).elim (h c) (g c)
theorem wl_A_n : wl_A [] := fun c hc => by cases hc
theorem wl_A_t {j : Nat} (hj : j < 91) : wl_A (wl_t j) := fun c hc => mh_tx_b j hj c hc
theorem wl_A_d {n : Int} (hn : 1 ≤ n ∧ n ≤ 999) : wl_A (sb_ds n) := fun c hc => by
  obtain ⟨i, hi, e⟩ := List.getElem_of_mem hc
  have := sb_ds_b hn i (by rw [← sb_sz_l]; exact hi)
  rw [List.getD_eq_getElem?_getD, List.getElem?_eq_getElem hi, Option.getD_some, e] at this
  exact this
theorem wl_A_i {c : Prop} [Decidable c] {L T : List Int} (h : wl_A L) (g : wl_A T) : wl_A (if c then L else T) := by
  by_cases z : c
  · rw [if_pos z]; exact h
  · rw [if_neg z]; exact g
theorem wl_A_l {L : List Int} (h : (L.all fun c => decide (0 ≤ c ∧ c < 128)) = true) : wl_A L := fun c hc => of_decide_eq_true (List.all_eq_true.mp h c hc)
theorem wl_A_k {kw : Nat → Nat} {n : Nat} (h : ∀ i, i < n → kw i < 12) : ∀ i, i ≤ n → wl_A (wl_k kw i)
  | 0, _ => wl_A_n
  | i + 1, hi => wl_A_a (wl_A_a (wl_A_k h i (by omega)) (wl_A_i (wl_A_l (by decide)) (wl_A_l (by decide)))) (wl_A_t (by have := h i (by omega); omega))
theorem wl_A_p {pd pu : Nat → Nat} {pn : Nat → Int} {n : Nat} (h : ∀ i, i < n → (pd i ≤ 4 ∧ pu i < 40) ∧ 1 ≤ pn i ∧ pn i ≤ 999) : ∀ i, i ≤ n → wl_A (wl_p pd pu pn i)
  | 0, _ => wl_A_n
  | i + 1, hi => by
    obtain ⟨⟨h1, h2⟩, h3⟩ := h i (by omega)
    exact wl_A_a (wl_A_a (wl_A_a (wl_A_a (wl_A_a (wl_A_a (wl_A_p h i (by omega)) (wl_A_i (wl_A_l (by decide)) (wl_A_l (by decide)))) (wl_A_t (by omega))) (wl_A_l (by decide))) (wl_A_d h3)) (wl_A_l (by decide))) (wl_A_t (by omega))
theorem wl_A_o {op : Int} : ∀ o, o ≤ 4 → wl_A (wl_o op o)
  | 0, _ => wl_A_n
  | o + 1, ho => wl_A_a (wl_A_o o (by omega)) (wl_A_i wl_A_n (wl_A_a (wl_A_a (wl_A_l (by decide)) (wl_A_t (by omega))) (wl_A_i (wl_A_l (by decide)) wl_A_n)))
theorem wl_L_B {I : Nat → Nat → Nat → Int} {l q KC PC : Nat} {kw pd pu : Nat → Nat} {pn : Nat → Int} {op : Int} (h : wl_R I l q KC PC kw pd pu pn op) : wl_B (wl_L KC PC kw pd pu pn op) := by
  obtain ⟨⟨k1, k2, k3⟩, k4, ⟨p1, p2, p3⟩, p4, o1⟩ := h
  refine wl_A_B (wl_A_a (wl_A_a (wl_A_a (wl_A_t (by decide)) (wl_A_k (n := KC) (fun i hi => (k4 i hi).2) KC (Nat.le_refl _))) (wl_A_p (n := PC) (fun i hi => ?_) PC (Nat.le_refl _))) (wl_A_o 4 (by decide)))
  obtain ⟨⟨x1, x2⟩, ⟨x3, x4⟩, x5, x6, x7⟩ := p4 i hi
  exact ⟨⟨x2, by omega⟩, x4⟩
/-- write -/
theorem qX_write' {x y : Int} (hPV : sb_PV) (hX : mh_st X r) (hx : am_rg x) (hy : am_rg y) : mh_qw SC X 9 mX11_write [.inr (.inr (some (1, 0))), .inl x, .inl y] 12 mX12_write [.inr (.inr (some (9, 0))), .inl x, .inl y] := qX_write hPV hX hx hy (fun _ _ _ _ _ _ _ _ _ _ h => wl_L_B h)
theorem qY_write {x y : Int} (hX : mh_st X r) (hx : am_rg x) (hy : am_rg y) : mh_qw SC X 9 mX11_write [.inr (.inr (some (1, 0))), .inl x, .inl y] 12 mX12_write [.inr (.inr (some (9, 0))), .inl x, .inl y] := qX_write' sb_PV_ok hX hx hy
