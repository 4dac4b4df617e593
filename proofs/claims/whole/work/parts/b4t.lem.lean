-- THE CELLS MADE AND THEIR FIXED NAMES: what follows
theorem mh_zipall {α β : Type} {l1 : List α} {l2 : List β} {f : α × β → Bool} (h : (List.zip l1 l2).all f = true) {x : Nat} (h1 : x < l1.length) (h2 : x < l2.length) (d1 : α) (d2 : β) : f (l1.getD x d1, l2.getD x d2) = true := by
  have e1 : l1.getD x d1 = l1[x] := by rw [List.getD_eq_getElem?_getD, List.getElem?_eq_getElem h1, Option.getD_some]
  have e2 : l2.getD x d2 = l2[x] := by rw [List.getD_eq_getElem?_getD, List.getElem?_eq_getElem h2, Option.getD_some]
  refine List.all_eq_true.mp h _ ?_
  rw [e1, e2]
  have h3 : x < (List.zip l1 l2).length := by rw [List.length_zip]; omega
  have h4 : (List.zip l1 l2)[x] = (l1[x], l2[x]) := List.getElem_zip
  rw [← h4]
  exact List.getElem_mem h3
theorem mh_cl0 {t : Nat} (h : 156 ≤ t) : mh_cl.getD t 0 = 0 := by
  rw [List.getD_eq_getElem?_getD, List.getElem?_eq_none (show mh_cl.length ≤ t from Nat.le_trans (by decide +kernel) h)]; rfl
theorem mh_sg_1 {t j : Nat} (ht : t < 998) (hj : j < mh_SC t) : mh_sg (t, j) = (999, (mh_sgl.getD t []).getD j 0) ∧ (mh_sgl.getD t []).getD j 0 < 829 ∧ mh_tal.getD ((mh_sgl.getD t []).getD j 0) (0, 0) = (t, j) ∧ t < 156 := by
  have e : mh_SC t = mh_cl.getD t 0 := if_pos ht
  rw [e] at hj
  have ht2 : t < 156 := by
    rcases Nat.lt_or_ge t 156 with h | h
    · exact h
    · rw [mh_cl0 h] at hj; omega
  have h := List.all_eq_true.mp mh_tt1 t (List.mem_range.mpr ht2)
  have h := List.all_eq_true.mp h j (List.mem_range.mpr hj)
  simp only [Bool.and_eq_true, beq_iff_eq, decide_eq_true_eq] at h
  exact ⟨if_pos ht, h.2, h.1, ht2⟩
theorem mh_ta_1 {x : Nat} (hx : x < 829) : mh_ta (999, x) = mh_tal.getD x (0, 0) ∧ (mh_tal.getD x (0, 0)).1 < 156 ∧ (mh_tal.getD x (0, 0)).2 < mh_SC (mh_tal.getD x (0, 0)).1 ∧ (mh_sgl.getD (mh_tal.getD x (0, 0)).1 []).getD (mh_tal.getD x (0, 0)).2 0 = x := by
  have hx' : x < mh_tal.length := by rw [mh_tt5]; exact hx
  have e : mh_tal.getD x (0, 0) = mh_tal[x] := by rw [List.getD_eq_getElem?_getD, List.getElem?_eq_getElem hx', Option.getD_some]
  have hm : (mh_tal[x], x) ∈ mh_tal.zipIdx := by
    rw [List.mem_zipIdx_iff_getElem?]
    exact List.getElem?_eq_getElem hx'
  have h := List.all_eq_true.mp mh_tt2 _ hm
  simp only [Bool.and_eq_true, beq_iff_eq, decide_eq_true_eq] at h
  rw [e]
  exact ⟨if_pos rfl |>.trans e, h.1.1, by rw [show mh_SC (mh_tal[x]).1 = mh_cl.getD (mh_tal[x]).1 0 from if_pos (by omega)]; exact h.1.2, h.2⟩
theorem mh_sg_ta {x : Nat} (hx : x < 829) : mh_sg (mh_ta (999, x)) = (999, x) := by
  obtain ⟨h1, h2, h3, h4⟩ := mh_ta_1 hx
  rw [h1]
  unfold mh_sg
  rw [if_pos (by omega), h4]
theorem mh_ta_sg {t j : Nat} (ht : t < 998) (hj : j < mh_SC t) : mh_ta (mh_sg (t, j)) = (t, j) := by
  obtain ⟨h1, h2, h3, h4⟩ := mh_sg_1 ht hj
  rw [h1]
  exact (if_pos rfl).trans h3
theorem mh_chk_at {x : Nat} (hx : x < 829) : mh_chk (mh_tal.getD x (0, 0), mh_CC.getD x cs_d) = true := by
  exact mh_zipall mh_tt3 (by rw [mh_tt5]; exact hx) (by rw [mh_tt4]; exact hx) (0, 0) cs_d
variable {X : mh_X}
theorem mh_ln0 (n t j : Nat) (ht : t < 998) : mh_LN n t j = mh_LN 0 t j := by
  unfold mh_LN
  by_cases h : t = 19
  · rw [if_pos h, if_pos h]
  · rw [if_neg h, if_neg h, if_pos (by omega), if_pos (by omega)]
/-- what the table says of a fixed cell -/
theorem mh_sm {t j : Nat} (ht : t < 998) (hj : j < mh_SC t) : am_same (mh_G X) mh_sg mh_W0 (cs_W mh_CC) (t, j) ∧ ∀ k, k < am_ext (mh_G X) mh_W0 t j → mh_okr (mh_RF t j k) = true := by
  obtain ⟨h1, h2, h3, h4⟩ := mh_sg_1 ht hj
  have hc := mh_chk_at h2
  rw [h3] at hc
  generalize hx : (mh_sgl.getD t []).getD j 0 = x at *
  unfold am_same
  rw [h1]
  have ne : ¬ t = 999 := by omega
  unfold mh_chk at hc
  simp only [Bool.and_eq_true, beq_iff_eq] at hc
  obtain ⟨⟨⟨c1, c2⟩, c3⟩, c4⟩ := hc
  have kd : am_kd (mh_G X) mh_W0 t j = mh_KD t j := if_neg ne
  have ln : am_ln (mh_G X) mh_W0 t j = mh_LN 0 t j := (if_neg ne).trans (mh_ln0 _ t j ht)
  have kd' : am_kd (mh_G X) (cs_W mh_CC) 999 x = mh_KD t j := (if_pos rfl).trans c1
  have ln' : am_ln (mh_G X) (cs_W mh_CC) 999 x = mh_LN 0 t j := (if_pos rfl).trans c2
  have RR : ∀ k, k < am_ext (mh_G X) mh_W0 t j → (mh_RF t j k).map mh_sg = cs_r (mh_CC.getD x cs_d).2.2.1 k ∧ mh_okr (mh_RF t j k) = true := fun k hk => by
    have hk' : k < am_ext (mh_G X) mh_W0 t j := hk
    unfold am_ext at hk'
    rw [kd, ln, ← c1, ← c2] at hk'
    by_cases h5 : (mh_CC.getD x cs_d).1 < 5
    · rw [if_pos h5] at c4
      simp only [Bool.and_eq_true, decide_eq_true_eq, beq_iff_eq, List.isEmpty_iff] at c4
      obtain ⟨⟨⟨d1, d2⟩, d3⟩, d4⟩ := c4
      rw [d1]
      have e : mh_RF t j k = none := by
        unfold mh_RF
        rw [if_neg (by omega), if_neg (by omega), if_neg (by omega)]
        generalize hq : mh_al.getD t (0, 0, 0) = q at d4 ⊢
        obtain ⟨a, b, c⟩ := q
        have : a = 0 := d4
        subst this
        rfl
      rw [e]; exact ⟨rfl, rfl⟩
    · rw [if_neg h5] at c4
      have h9 := List.all_eq_true.mp c4 k (List.mem_range.mpr hk')
      simp only [Bool.and_eq_true, decide_eq_true_eq] at h9
      exact h9
  refine ⟨⟨kd.trans kd'.symm, ln.trans ln'.symm, fun k => ?_, fun k => ?_, fun k hk => ?_⟩, fun k hk => (RR k hk).2⟩
  · unfold am_gi
    rw [if_neg (by show ¬ 1000 ≤ t; omega), if_neg (by show ¬ 1000 ≤ 999; decide)]
    show (if t = 11 ∧ k = 3 then -1 else 0) = if 999 = 999 then cs_i (mh_CC.getD x cs_d).2.2.2 k else 0
    rw [if_pos rfl, c3]
    by_cases h11 : t = 11
    · rw [if_pos h11, cs_i_cons]
      by_cases hk : k = 3
      · rw [if_pos ⟨h11, hk⟩, if_pos hk]
      · rw [if_neg (fun q => hk q.2), if_neg hk]; rfl
    · rw [if_neg h11, if_neg (fun q => h11 q.1)]; rfl
  · unfold am_gl
    rw [if_neg (by show ¬ 1000 ≤ t; omega), if_neg (by show ¬ 1000 ≤ 999; decide)]
    rfl
  · have gr : am_gr (mh_G X) mh_W0 t j k = mh_RF t j k := if_neg ne
    have gr' : am_gr (mh_G X) (cs_W mh_CC) 999 x k = cs_r (mh_CC.getD x cs_d).2.2.1 k := if_pos rfl
    rw [gr, gr']
    exact (RR k hk).1
theorem mh_lv0 {id : am_I} (h : am_lv mh_SC mh_W0 id) (h2 : id.1 < 1000) : id.1 < 998 ∧ id.2 < mh_SC id.1 := by
  rcases h with ⟨-, h⟩ | ⟨h, h3⟩
  · exact absurd h (Nat.not_lt_zero _)
  · refine ⟨?_, h3⟩
    rcases Nat.lt_or_ge id.1 998 with g | g
    · exact g
    · have : id.1 = 998 := by omega
      rw [this, show mh_SC 998 = 0 from rfl] at h3
      exact absurd h3 (Nat.not_lt_zero _)
theorem mh_lvC {x : Nat} : am_lv mh_S0 (cs_W mh_CC) (999, x) ↔ x < 829 := by
  constructor
  · rintro (⟨-, h⟩ | ⟨h, -⟩)
    · have h' : x < mh_CC.length := h
      rwa [mh_tt4] at h'
    · exact absurd rfl h
  · intro h
    exact Or.inl ⟨rfl, by show x < mh_CC.length; rw [mh_tt4]; exact h⟩
theorem mh_RFc {t j k : Nat} {r : am_I} (ht : 1000 ≤ t) (h : mh_RF t j k = some r) : r = (1001, j) ∧ t = 1000 := by
  unfold mh_RF at h
  rw [if_neg (by omega), if_neg (by omega)] at h
  by_cases e : t = 1000
  · rw [if_pos e] at h
    exact ⟨(Option.some.inj h).symm, e⟩
  · rw [if_neg e, List.getD_eq_getElem?_getD, List.getElem?_eq_none (show mh_al.length ≤ t from Nat.le_trans (by decide +kernel) ht)] at h
    cases h
theorem mh_okr_some {r : am_I} (h : mh_okr (some r) = true) : (r.1 < 998 ∧ r.2 < mh_SC r.1) ∨ (r.1 = 1000 ∧ r.2 < 91) := by
  have h' : (if r.1 < 998 then decide (r.2 < mh_cl.getD r.1 0) else r.1 == 1000 && decide (r.2 < 91)) = true := h
  by_cases c : r.1 < 998
  · rw [if_pos c] at h'
    refine Or.inl ⟨c, ?_⟩
    rw [show mh_SC r.1 = mh_cl.getD r.1 0 from if_pos c]
    exact of_decide_eq_true h'
  · rw [if_neg c] at h'
    simp only [Bool.and_eq_true, beq_iff_eq, decide_eq_true_eq] at h'
    exact Or.inr h'
theorem mh_okr_lv {w : am_W} {r : am_I} (h : mh_okr (some r) = true) : am_lv mh_SC w r := by
  rcases mh_okr_some h with ⟨h1, h2⟩ | ⟨h1, h2⟩
  · exact Or.inr ⟨by omega, h2⟩
  · exact Or.inr ⟨by omega, by rw [h1]; exact h2⟩
theorem mh_okr_ts {r : am_I} (h : mh_okr (some r) = true) : mh_ta (mh_sg r) = r := by
  rcases mh_okr_some h with ⟨h1, h2⟩ | ⟨h1, h2⟩
  · exact mh_ta_sg (t := r.1) (j := r.2) h1 h2
  · have e : mh_sg r = r := if_neg (by omega)
    rw [e]
    exact if_neg (by omega)
theorem mh_okr_s0 {w : am_W} {r : am_I} (hw : w.2.2.2.2 = 829) (h : mh_okr (some r) = true) : am_lv mh_S0 w (mh_sg r) := by
  rcases mh_okr_some h with ⟨h1, h2⟩ | ⟨h1, h2⟩
  · obtain ⟨g1, g2, g3, g4⟩ := mh_sg_1 (t := r.1) (j := r.2) h1 h2
    rw [show mh_sg r = mh_sg (r.1, r.2) from rfl, g1]
    exact Or.inl ⟨rfl, by rw [hw]; exact g2⟩
  · have e : mh_sg r = r := if_neg (by omega)
    rw [e]
    refine Or.inr ⟨by omega, ?_⟩
    unfold mh_S0
    rw [if_neg (by omega), h1]
    exact h2
theorem mh_S0_c {t : Nat} (h : 1000 ≤ t) : mh_S0 t = mh_SC t := if_neg (by omega)
theorem mh_S0_1 {w : am_W} {id : am_I} (h : am_lv mh_S0 w id) (h2 : id.1 < 1000) : id.1 = 999 ∧ id.2 < w.2.2.2.2 := by
  rcases h with h | ⟨-, h3⟩
  · exact h
  · unfold mh_S0 at h3
    rw [if_pos h2] at h3
    exact absurd h3 (Nat.not_lt_zero _)
theorem mh_wf0 (h : am_wf (mh_G X) mh_S0 (cs_W mh_CC)) (h8 : ∀ q ∈ X.2.2, ∀ id : am_I, q.2.2.2 = .inr (.inr (some id)) → 1000 ≤ id.1) : am_wf (mh_G X) mh_SC mh_W0 := by
  obtain ⟨i1, i2, i3, i4⟩ := h
  refine ⟨fun t j k => ?_, fun id k id' hl hk hr => ?_, fun q hq => ?_, fun q hq => ?_⟩
  · by_cases c : 1000 ≤ t
    · have h9 := i1 t j k
      unfold am_gi at h9 ⊢
      rw [if_pos c] at h9 ⊢
      exact h9
    · unfold am_gi
      rw [if_neg c]
      show am_rg (if t = 11 ∧ k = 3 then -1 else 0)
      split
      · unfold am_rg; omega
      · exact am_rg0
  · by_cases c : id.1 < 1000
    · obtain ⟨g1, g2⟩ := mh_lv0 hl c
      have e : am_gr (mh_G X) mh_W0 id.1 id.2 k = mh_RF id.1 id.2 k := if_neg (by omega)
      rw [e] at hr
      have h9 := (mh_sm (X := X) (t := id.1) (j := id.2) g1 g2).2 k hk
      rw [hr] at h9
      exact mh_okr_lv h9
    · have ne : ¬ id.1 = 999 := by omega
      have e : am_gr (mh_G X) mh_W0 id.1 id.2 k = mh_RF id.1 id.2 k := if_neg ne
      rw [e] at hr
      obtain ⟨rfl, e2⟩ := mh_RFc (by omega) hr
      rcases hl with ⟨z, -⟩ | ⟨-, z⟩
      · exact absurd z ne
      · rw [e2] at z
        exact Or.inr ⟨by show 1001 ≠ 999; omega, z⟩
  · have h9 := i3 q hq
    have h10 := h8 q hq
    generalize q.2.2.2 = v at h9 h10 ⊢
    match v, h9, h10 with
    | .inl z, h9, _ => exact h9
    | .inr (.inl _), _, _ => trivial
    | .inr (.inr none), _, _ => trivial
    | .inr (.inr (some id)), h9, h10 =>
      have g := h10 id rfl
      rcases h9 with ⟨z, -⟩ | ⟨z, z2⟩
      · exact absurd z (by omega)
      · rw [mh_S0_c g] at z2
        exact Or.inr ⟨z, z2⟩
  · have h9 := i4 q hq
    rw [mh_S0_c (Nat.le_refl _)] at h9
    exact h9
/-- the world back under the names of the making -/
def mh_wb (w : am_W) : am_W := (fun t j k => if t = 999 then w.1 (mh_ta (999, j)).1 (mh_ta (999, j)).2 k else w.1 t j k, fun t j k => if t = 999 then w.2.1 (mh_ta (999, j)).1 (mh_ta (999, j)).2 k else w.2.1 t j k, fun j k => (mh_RF (mh_ta (999, j)).1 (mh_ta (999, j)).2 k).map mh_sg, fun j => (mh_KD (mh_ta (999, j)).1 (mh_ta (999, j)).2, mh_LN 0 (mh_ta (999, j)).1 (mh_ta (999, j)).2), 829)
theorem mh_tag {x : Nat} (hx : x < 829) : (mh_ta (999, x)).1 < 156 ∧ (mh_ta (999, x)).2 < mh_SC (mh_ta (999, x)).1 := by
  obtain ⟨h1, h2, h3, -⟩ := mh_ta_1 hx
  rw [h1]
  exact ⟨h2, h3⟩
theorem mh_wb_ext {w : am_W} {x : Nat} (hx : x < 829) : am_ext (mh_G X) (mh_wb w) 999 x = am_ext (mh_G X) mh_W0 (mh_ta (999, x)).1 (mh_ta (999, x)).2 := by
  obtain ⟨h1, h2⟩ := mh_tag hx
  unfold am_ext
  have k1 : am_kd (mh_G X) (mh_wb w) 999 x = mh_KD (mh_ta (999, x)).1 (mh_ta (999, x)).2 := if_pos rfl
  have k2 : am_kd (mh_G X) mh_W0 (mh_ta (999, x)).1 (mh_ta (999, x)).2 = mh_KD (mh_ta (999, x)).1 (mh_ta (999, x)).2 := if_neg (by omega)
  have l1 : am_ln (mh_G X) (mh_wb w) 999 x = mh_LN 0 (mh_ta (999, x)).1 (mh_ta (999, x)).2 := if_pos rfl
  have l2 : am_ln (mh_G X) mh_W0 (mh_ta (999, x)).1 (mh_ta (999, x)).2 = mh_LN 0 (mh_ta (999, x)).1 (mh_ta (999, x)).2 := (if_neg (by omega)).trans (mh_ln0 _ _ _ (by omega))
  rw [k1, k2, l1, l2]
theorem mh_wb_okr {w : am_W} {x k : Nat} (hx : x < 829) (hk : k < am_ext (mh_G X) (mh_wb w) 999 x) : mh_okr (mh_RF (mh_ta (999, x)).1 (mh_ta (999, x)).2 k) = true := by
  obtain ⟨h1, h2⟩ := mh_tag hx
  exact (mh_sm (X := X) (by omega) h2).2 k (by rw [← mh_wb_ext (w := w) hx]; exact hk)
theorem mh_wb_sm {w : am_W} {x : Nat} (hx : x < 829) : am_same (mh_G X) mh_ta (mh_wb w) w (999, x) := by
  obtain ⟨h1, h2⟩ := mh_tag hx
  have ne : ¬ (mh_ta (999, x)).1 = 999 := by omega
  have lt : ¬ 1000 ≤ (mh_ta (999, x)).1 := by omega
  refine ⟨?_, ?_, fun k => ?_, fun k => ?_, fun k hk => ?_⟩
  · exact (if_pos rfl).trans (if_neg ne).symm
  · exact (if_pos rfl).trans ((if_neg ne).trans (mh_ln0 _ _ _ (show (mh_ta (999, x)).1 < 998 by omega))).symm
  · unfold am_gi
    rw [if_neg lt, if_neg (by show ¬ 1000 ≤ 999; decide)]
    show (if 999 = 999 then w.1 (mh_ta (999, x)).1 (mh_ta (999, x)).2 k else w.1 999 x k) = _
    exact if_pos rfl
  · unfold am_gl
    rw [if_neg lt, if_neg (by show ¬ 1000 ≤ 999; decide)]
    show (if 999 = 999 then w.2.1 (mh_ta (999, x)).1 (mh_ta (999, x)).2 k else w.2.1 999 x k) = _
    exact if_pos rfl
  · have g1 : am_gr (mh_G X) (mh_wb w) 999 x k = (mh_RF (mh_ta (999, x)).1 (mh_ta (999, x)).2 k).map mh_sg := if_pos rfl
    have g2 : am_gr (mh_G X) w (mh_ta (999, x)).1 (mh_ta (999, x)).2 k = mh_RF (mh_ta (999, x)).1 (mh_ta (999, x)).2 k := if_neg ne
    show (am_gr (mh_G X) (mh_wb w) 999 x k).map mh_ta = am_gr (mh_G X) w (mh_ta (999, x)).1 (mh_ta (999, x)).2 k
    rw [g1, g2]
    have h9 := mh_wb_okr (X := X) hx hk
    cases hr : mh_RF (mh_ta (999, x)).1 (mh_ta (999, x)).2 k with
    | none => rfl
    | some r =>
      rw [hr] at h9
      exact congrArg some (mh_okr_ts h9)
theorem mh_wb_wf {w : am_W} (h : am_wf (mh_G X) mh_SC w) (h0 : am_wf (mh_G X) mh_S0 (cs_W mh_CC)) : am_wf (mh_G X) mh_S0 (mh_wb w) := by
  obtain ⟨i1, i2, i3, i4⟩ := h0
  refine ⟨fun t j k => ?_, fun id k id' hl hk hr => ?_, fun q hq => am_ok_grow (w := cs_W mh_CC) (by show mh_CC.length ≤ 829; rw [mh_tt4]; exact Nat.le_refl _) (i3 q hq), i4⟩
  · have a1 := h.1 t j k
    have a2 := h.1 (mh_ta (999, j)).1 (mh_ta (999, j)).2 k
    unfold am_gi at a1 ⊢
    by_cases c : 1000 ≤ t
    · rw [if_pos c] at a1 ⊢; exact a1
    · rw [if_neg c] at a1 ⊢
      show am_rg (if t = 999 then w.1 (mh_ta (999, j)).1 (mh_ta (999, j)).2 k else w.1 t j k)
      by_cases c2 : t = 999
      · rw [if_pos c2]
        unfold am_gi at a2
        by_cases c3 : 1000 ≤ (mh_ta (999, j)).1
        · exfalso
          have e : mh_ta (999, j) = mh_tal.getD j (0, 0) := if_pos rfl
          rw [e] at c3
          by_cases hj : j < 829
          · have := (mh_ta_1 hj).2.1
            omega
          · rw [List.getD_eq_getElem?_getD, List.getElem?_eq_none (by rw [mh_tt5]; omega)] at c3
            exact absurd c3 (by decide)
        · rw [if_neg c3] at a2; exact a2
      · rw [if_neg c2]; exact a1
  · by_cases c : id.1 < 1000
    · obtain ⟨e, g⟩ := mh_S0_1 hl c
      have g' : id.2 < 829 := g
      obtain ⟨t, x⟩ := id
      have e' : t = 999 := e
      subst e'
      have h9 := mh_wb_okr (X := X) g' hk
      have g1 : am_gr (mh_G X) (mh_wb w) 999 x k = (mh_RF (mh_ta (999, x)).1 (mh_ta (999, x)).2 k).map mh_sg := if_pos rfl
      have hr' : (mh_RF (mh_ta (999, x)).1 (mh_ta (999, x)).2 k).map mh_sg = some id' := by rw [← g1]; exact hr
      cases hq : mh_RF (mh_ta (999, x)).1 (mh_ta (999, x)).2 k with
      | none => rw [hq] at hr'; cases hr'
      | some r =>
        rw [hq] at hr' h9
        obtain rfl : mh_sg r = id' := Option.some.inj hr'
        exact mh_okr_s0 rfl h9
    · have ne : ¬ id.1 = 999 := by omega
      have e : am_gr (mh_G X) (mh_wb w) id.1 id.2 k = mh_RF id.1 id.2 k := if_neg ne
      rw [e] at hr
      obtain ⟨rfl, e2⟩ := mh_RFc (by omega) hr
      rcases hl with ⟨z, -⟩ | ⟨-, z⟩
      · exact absurd z ne
      · rw [e2] at z
        exact Or.inr ⟨by show 1001 ≠ 999; omega, z⟩
theorem mh_back {Dg : va_G} {cI : Nat → ClassId} {s : State} {A : Nat → Prop} {ad : am_I → Nat} {w : am_W} {H : Heap} {locs : List Loc} (h : am_H (mh_G X) mh_SC Dg cI s A ad w H locs) (h0 : am_wf (mh_G X) mh_S0 (cs_W mh_CC)) (h8 : ∀ q ∈ X.2.2, ∀ id : am_I, q.2.2.2 = .inr (.inr (some id)) → 1000 ≤ id.1) : am_H (mh_G X) mh_S0 Dg cI s A (fun id => ad (mh_ta id)) (mh_wb w) H locs := by
  refine am_ren (SC' := mh_S0) (sg := mh_ta) h (fun id hl c => ?_) (fun id id' hl hl' c c' e => ?_) (fun id c => if_neg (by omega)) (fun t c => mh_S0_c c) (fun id hl c => ?_) (mh_wb_wf h.2.2.2.2.1 h0) (fun id k id' c hr => ?_) h8
  · obtain ⟨t, x⟩ := id
    obtain ⟨e, g⟩ := mh_S0_1 hl c
    have e' : t = 999 := e
    subst e'
    have g' : x < 829 := g
    obtain ⟨a1, a2⟩ := mh_tag g'
    exact ⟨Or.inr ⟨by show ¬ (mh_ta (999, x)).1 = 999; omega, a2⟩, by show (mh_ta (999, x)).1 < 1000; omega⟩
  · obtain ⟨t, x⟩ := id
    obtain ⟨t', x'⟩ := id'
    obtain ⟨e1, g⟩ := mh_S0_1 hl c
    obtain ⟨e2, g'⟩ := mh_S0_1 hl' c'
    have e1' : t = 999 := e1
    have e2' : t' = 999 := e2
    subst e1' e2'
    have z := congrArg mh_sg e
    rw [mh_sg_ta g, mh_sg_ta g'] at z
    exact z
  · obtain ⟨t, x⟩ := id
    obtain ⟨e1, g⟩ := mh_S0_1 hl c
    have e1' : t = 999 := e1
    subst e1'
    exact mh_wb_sm g
  · have hr' : mh_RF id.1 id.2 k = some id' := hr
    obtain ⟨rfl, -⟩ := mh_RFc c hr'
    show 1000 ≤ 1001
    omega
theorem mh_forth {Dg : va_G} {cI : Nat → ClassId} {s : State} {A : Nat → Prop} {ad : am_I → Nat} {H : Heap} {locs : List Loc} (h : am_H (mh_G X) mh_S0 Dg cI s A ad (cs_W mh_CC) H locs) (h8 : ∀ q ∈ X.2.2, ∀ id : am_I, q.2.2.2 = .inr (.inr (some id)) → 1000 ≤ id.1) : am_H (mh_G X) mh_SC Dg cI s A (fun id => ad (mh_sg id)) mh_W0 H locs := by
  refine am_ren (SC' := mh_SC) (sg := mh_sg) h (fun id hl c => ?_) (fun id id' hl hl' c c' e => ?_) (fun id c => if_neg (by omega)) (fun t c => (mh_S0_c c).symm) (fun id hl c => ?_) (mh_wf0 h.2.2.2.2.1 h8) (fun id k id' c hr => ?_) h8
  · obtain ⟨g1, g2⟩ := mh_lv0 hl c
    obtain ⟨a1, a2, -, -⟩ := mh_sg_1 (t := id.1) (j := id.2) g1 g2
    rw [show mh_sg id = mh_sg (id.1, id.2) from rfl, a1]
    exact ⟨mh_lvC.mpr a2, by show 999 < 1000; omega⟩
  · obtain ⟨g1, g2⟩ := mh_lv0 hl c
    obtain ⟨g1', g2'⟩ := mh_lv0 hl' c'
    have z := congrArg mh_ta e
    rw [show mh_ta (mh_sg id) = id from mh_ta_sg (t := id.1) (j := id.2) g1 g2, show mh_ta (mh_sg id') = id' from mh_ta_sg (t := id'.1) (j := id'.2) g1' g2'] at z
    exact z
  · obtain ⟨g1, g2⟩ := mh_lv0 hl c
    exact (mh_sm (X := X) (t := id.1) (j := id.2) g1 g2).1
  · have hr' : mh_RF id.1 id.2 k = some id' := hr
    obtain ⟨rfl, -⟩ := mh_RFc c hr'
    show 1000 ≤ 1001
    omega
/-- THE SEAM: behind the constructors the cells get their fixed names -/
theorem mh_seam {Y : am_Y} {d pc bc bs : Nat} {ls ls' : List (Nat × am_V)} (h8 : ∀ q ∈ X.2.2, ∀ id : am_I, q.2.2.2 = .inr (.inr (some id)) → 1000 ≤ id.1) (hcl : ∀ ad : am_I → Nat, am_cl2 (fun id => ad (mh_sg id)) ls' = am_cl2 ad ls) (hok : ∀ q ∈ ls', am_ok mh_SC mh_W0 q.2)
    (k : am_A (mh_G X) mh_SC d Y (fun r _ => r = some (.inl 1)) pc ls' [] mh_W0 bc bs) : am_A (mh_G X) mh_S0 d Y (fun r _ => r = some (.inl 1)) pc ls [] (cs_W mh_CC) bc bs := by
  intro p l e R s m args below meth c H locs cells slots QQ Dg cI ad A lsA ad0 w0 hX hH hg h1 h2 hl ho hs hR
  refine k p l e R s m args below meth c H locs cells slots QQ Dg cI (fun id => ad (mh_sg id)) A lsA (fun id => ad (mh_sg id)) mh_W0 hX (mh_forth hH h8) am_ag.refl h1 h2 (by rw [hcl]; exact hl) hok (fun v hv => by cases hv) ?_
  intro r w2 ad2 H' locs' cells' slots' pc' ls2 hq hH' hag hokr hrt hc hs' hd
  subst hq
  have a3 : am_ag mh_S0 ad (cs_W mh_CC) (fun id => ad2 (mh_ta id)) (mh_wb w2) := by
    refine ⟨by show mh_CC.length ≤ 829; rw [mh_tt4]; exact Nat.le_refl _, fun id hl9 => ?_⟩
    obtain ⟨t, x⟩ := id
    by_cases c : t < 1000
    · obtain ⟨e1, g⟩ := mh_S0_1 hl9 c
      have e1' : t = 999 := e1
      subst e1'
      have g' : x < 829 := by
        have g2 : x < mh_CC.length := g
        rwa [mh_tt4] at g2
      obtain ⟨b1, b2⟩ := mh_tag g'
      have z := hag.2 (mh_ta (999, x)) (Or.inr ⟨by omega, b2⟩)
      show ad2 (mh_ta (999, x)) = ad (999, x)
      rw [z]
      show ad (mh_sg (mh_ta (999, x))) = _
      rw [mh_sg_ta g']
    · have e1 : mh_ta (t, x) = (t, x) := if_neg (by show ¬ t = 999; omega)
      have e2 : mh_sg (t, x) = (t, x) := if_neg (by show ¬ t < 998; omega)
      have l9 : am_lv mh_SC mh_W0 (t, x) := by
        rcases hl9 with ⟨z, -⟩ | ⟨z, z2⟩
        · exact absurd z (by show ¬ t = 999; omega)
        · rw [mh_S0_c (by show 1000 ≤ t; omega)] at z2
          exact Or.inr ⟨z, z2⟩
      have z := hag.2 (t, x) l9
      show ad2 (mh_ta (t, x)) = ad (t, x)
      rw [e1, z]
      show ad (mh_sg (t, x)) = _
      rw [e2]
  exact hR (some (.inl 1)) (mh_wb w2) (fun id => ad2 (mh_ta id)) H' locs' cells' slots' pc' ls2 rfl (mh_back hH' hH.2.2.2.2.1 h8) (hg.trans a3) (by show am_rg 1; unfold am_rg; omega) hrt hc hs' hd
