-- dates as functions of days
variable {SC : Nat → Nat} {X : mh_X}
theorem mh_dte {x : Int} (hx : -36524 ≤ x ∧ x ≤ 2000000) : ∃ y m a, mh_dt x y m a := by
  have hD1 : 0 ≤ (x + 657377) % 146097 := by omega
  have hD2 : (x + 657377) % 146097 < 146097 := by omega
  generalize hY : ((x + 657377) % 146097 - (x + 657377) % 146097 / 1460 + (x + 657377) % 146097 / 36524 - (x + 657377) % 146097 / 146096) / 365 = Y
  generalize hR : (x + 657377) % 146097 - (365 * Y + Y / 4 - Y / 100) = R
  obtain ⟨g1, g2, g3, g4, g5⟩ := mh_yc hD1 hD2 hY.symm hR.symm
  have hC1 : 0 ≤ (x + 657377) / 146097 ∧ (x + 657377) / 146097 ≤ 18 := by omega
  have ee : x + 657377 = 146097 * ((x + 657377) / 146097) + (365 * Y + Y / 4 - Y / 100) + R := by omega
  generalize (x + 657377) / 146097 = c at *
  have hl : R ≤ 364 + mh_lp (400 * c + Y + 1) := by
    rw [Int.add_assoc, mh_lpc]
    unfold mh_lp
    split
    · omega
    · rename_i q
      have : ¬ R = 365 := fun q2 => q (g5 q2)
      omega
  by_cases c1 : 10 ≤ (5 * R + 2) / 153
  · exact ⟨_, _, _, mh_dc1 hx ee ⟨g1, g2⟩ g3 hl rfl c1⟩
  · exact ⟨_, _, _, mh_dc2 hx ee ⟨g1, g2⟩ g3 rfl (by omega)⟩
theorem mh_dtu {x y m a y' m' a' : Int} (t : mh_dt x y m a) (s : mh_dt x y' m' a') : y = y' ∧ m = m' ∧ a = a' := by
  obtain ⟨t1, t2, t3, t4⟩ := mh_dt_y t
  obtain ⟨s1, s2, s3, s4⟩ := mh_dt_y s
  have hy : y = y' := by
    rcases (show y < y' ∨ y' < y ∨ y = y' by omega) with c | c | c
    · have := mh_ahm (a := y + 1) (b := y') (by omega)
      omega
    · have := mh_ahm (a := y' + 1) (b := y) (by omega)
      omega
    · exact c
  subst hy
  obtain ⟨-, tm, -, te⟩ := t
  obtain ⟨-, sm, -, se⟩ := s
  have hm : m = m' := by
    rcases (show m < m' ∨ m' < m ∨ m = m' by omega) with c | c | c
    · have := mh_cmm (y := y) (a := m + 1) (b := m') (by omega) (by omega) (by omega)
      unfold mh_do at *
      omega
    · have := mh_cmm (y := y) (a := m' + 1) (b := m) (by omega) (by omega) (by omega)
      unfold mh_do at *
      omega
    · exact c
  subst hm
  refine ⟨rfl, rfl, ?_⟩
  unfold mh_do at *
  omega
noncomputable def mh_dy (x : Int) : Int × Int × Int :=
  @dite _ (∃ p : Int × Int × Int, mh_dt x p.1 p.2.1 p.2.2) (Classical.propDecidable _) (fun h => Classical.choose h) (fun _ => (1700, 1, 1))
theorem mh_dyc {x y m a : Int} (t : mh_dt x y m a) : mh_dy x = (y, m, a) := by
  have h : ∃ p : Int × Int × Int, mh_dt x p.1 p.2.1 p.2.2 := ⟨(y, m, a), t⟩
  unfold mh_dy
  rw [dif_pos h]
  obtain ⟨h1, h2, h3⟩ := mh_dtu (Classical.choose_spec h) t
  exact Prod.ext h1 (Prod.ext h2 h3)
noncomputable def mh_date (x : Int) : Int := 10000 * (mh_dy x).1 + 100 * (mh_dy x).2.1 + (mh_dy x).2.2
noncomputable def mh_lat (x k : Int) : Int := mh_be (mh_dy x).1 (mh_dy x).2.1 (mh_dy x).2.2 k
theorem pX0_date2 {d kc ks : Nat} {Q : Option am_V → am_W → Prop} {w : am_W} {x : Int} (hx : -36524 ≤ x ∧ x ≤ 2000000) (h : Q (some (.inl (mh_date x))) w) : am_M (mh_G X) SC (d + 1) kc ks mX0_dateOf [.inl x] w Q :=
  pX0_dateOf hx (fun y m a t => by
    unfold mh_date at h
    rw [mh_dyc t] at h
    exact h)
theorem pX0_later2 {d kc ks : Nat} {Q : Option am_V → am_W → Prop} {w : am_W} {x k : Int} (hx : -36524 ≤ x ∧ x ≤ 2000000) (hk : 0 ≤ k ∧ k ≤ 12000) (h : Q (some (.inl (mh_lat x k))) w) : am_M (mh_G X) SC (d + 2) kc ks mX0_later [.inl x, .inl k] w Q :=
  pX0_later hx hk (fun y m a t => by
    unfold mh_lat at h
    rw [mh_dyc t] at h
    exact h)
theorem pX12_date2 {d kc ks : Nat} {Q : Option am_V → am_W → Prop} {w : am_W} {x : Int} (hx : -36524 ≤ x ∧ x ≤ 2000000) (h : Q (some (.inl (mh_date x))) w) : am_M (mh_G X) SC (d + 6) kc ks mX12_dateOf [.inl x] w Q := by
  obtain ⟨y, m, a, t⟩ := mh_dte hx
  unfold mh_date at h
  rw [mh_dyc t] at h
  exact pX12_dateOf t h
theorem pX12_behind2 {d kc ks : Nat} {Q : Option am_V → am_W → Prop} {w : am_W} {x k : Int} (hx : -36524 ≤ x ∧ x ≤ 2000000) (hk : 0 ≤ k ∧ k ≤ 12000) (h : Q (some (.inl (mh_lat x k))) w) : am_M (mh_G X) SC (d + 7) kc ks mX12_behind [.inl x, .inl k] w Q := by
  obtain ⟨y, m, a, t⟩ := mh_dte hx
  unfold mh_lat at h
  rw [mh_dyc t] at h
  exact pX12_behind t hk h
def mh_mo (t : Int) : Int := mh_do (t / 12) (t % 12 + 1) 1
theorem mh_mos {t : Int} : mh_mo (t + 1) = mh_mo t + mh_ml (t / 12) (t % 12 + 1) := by
  unfold mh_mo mh_do
  by_cases c : t % 12 = 11
  · have e1 : (t + 1) / 12 = t / 12 + 1 := by omega
    have e2 : (t + 1) % 12 = 0 := by omega
    rw [e1, e2, c, mh_ahs]
    have z := mh_cm12 (t / 12)
    have u : mh_cm (t / 12 + 1) (0 + 1) = 0 := by unfold mh_cm; simp
    have v : mh_ml (t / 12) (11 + 1) = 31 := by unfold mh_ml; simp
    rw [u, v]
    have w : mh_cm (t / 12) (11 + 1) = mh_cm (t / 12) 12 := rfl
    rw [w]
    omega
  · have e1 : (t + 1) / 12 = t / 12 := by omega
    have e2 : (t + 1) % 12 = t % 12 + 1 := by omega
    rw [e1, e2, mh_cms (y := t / 12) (m := t % 12 + 1) (by omega)]
    omega
theorem mh_mol (t : Int) : ∀ n : Nat, mh_mo t + 28 * n ≤ mh_mo (t + n) ∧ mh_mo (t + n) ≤ mh_mo t + 31 * n
  | 0 => by simp
  | n + 1 => by
    have := mh_mol t n
    have s := mh_mos (t := t + n)
    have b := mh_mlb ((t + n) / 12) ((t + n) % 12 + 1)
    rw [show t + ((n + 1 : Nat) : Int) = t + n + 1 by omega, s]
    omega
theorem mh_latb {x k : Int} (hx : -36524 ≤ x ∧ x ≤ 2000000) (hk : 0 ≤ k ∧ k ≤ 12000) : mh_lat x k ≤ x + 31 * k ∧ (1 ≤ k → x < mh_lat x k) := by
  obtain ⟨y, m, a, t⟩ := mh_dte hx
  unfold mh_lat
  rw [mh_dyc t]
  obtain ⟨t1, t2, t3, t4⟩ := t
  have e0 : mh_mo (12 * y + m - 1) = mh_do y m 1 := by
    unfold mh_mo
    rw [show (12 * y + m - 1) / 12 = y by omega, show (12 * y + m - 1) % 12 + 1 = m by omega]
  have e1 : mh_be y m a k = mh_mo (12 * y + m - 1 + k) + min a (mh_ml ((12 * y + m - 1 + k) / 12) ((12 * y + m - 1 + k) % 12 + 1)) - 1 := by
    unfold mh_be mh_mo mh_do
    omega
  have e2 : x = mh_do y m 1 + a - 1 := by rw [← t4]; unfold mh_do; omega
  have b := mh_mlb ((12 * y + m - 1 + k) / 12) ((12 * y + m - 1 + k) % 12 + 1)
  have q := mh_mol (12 * y + m - 1) k.toNat
  rw [show ((k.toNat : Nat) : Int) = k by omega, e0] at q
  show mh_be y m a k ≤ x + 31 * k ∧ (1 ≤ k → x < mh_be y m a k)
  rw [e1]
  refine ⟨by omega, fun h1 => ?_⟩
  have q1 := mh_mol (12 * y + m - 1 + 1) (k.toNat - 1)
  have s1 := mh_mos (t := 12 * y + m - 1)
  rw [show (12 * y + m - 1) / 12 = y by omega, show (12 * y + m - 1) % 12 + 1 = m by omega, e0] at s1
  rw [show 12 * y + m - 1 + 1 + ((k.toNat - 1 : Nat) : Int) = 12 * y + m - 1 + k by omega] at q1
  omega
