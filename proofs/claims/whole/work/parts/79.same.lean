-- what a mourner's answers hang on
variable {SC : Nat → Nat} {X : mh_X}
def mh_fu : List Nat := [4, 5, 10, 33, 34, 35, 36, 37, 38, 39, 40, 44, 45, 46, 47, 144, 145, 146, 147, 148, 149, 150, 151, 152, 153, 29, 30, 31, 32]
section
variable {I I' : Nat → Nat → Nat → Int}
theorem mh_fu_t (h : ∀ t, t ∈ mh_fu → I' t = I t) : ∀ t, t ∈ mh_ft → I' t = I t := fun t ht => h t (by
  have : ∀ t, t ∈ mh_ft → t ∈ mh_fu := by decide
  exact this t ht)
theorem mh_dl_e (h : ∀ t, t ∈ mh_ft → I' t = I t) : mh_dl I' = mh_dl I := by
  funext a known n
  unfold mh_dl
  rw [mh_rule_e h]
theorem mh_D_e (h : ∀ t, t ∈ mh_ft → I' t = I t) : mh_D I' = mh_D I := by
  funext a known e
  unfold mh_D
  rw [mh_dl_e h, h 5 (by decide)]
theorem mh_el_e (h : ∀ t, t ∈ mh_ft → I' t = I t) : mh_el I' = mh_el I := by
  funext known d
  unfold mh_el
  rw [mh_law_e h, h 39 (by decide)]
theorem mh_er_e (h : ∀ t, t ∈ mh_ft → I' t = I t) : mh_er I' = mh_er I := by
  funext a known d
  unfold mh_er
  rw [mh_rule_e h]
theorem mh_eo_e (h : ∀ t, t ∈ mh_ft → I' t = I t) : mh_eo I' = mh_eo I := by
  funext a known d
  unfold mh_eo
  rw [mh_el_e h, mh_er_e h, h 150 (by decide)]
theorem mh_eb_e (h : ∀ t, t ∈ mh_ft → I' t = I t) : mh_eb I' = mh_eb I := by
  funext a known d
  unfold mh_eb
  rw [mh_eo_e h, h 37 (by decide), h 39 (by decide), h 40 (by decide)]
theorem mh_fs_e (h : ∀ t, t ∈ mh_ft → I' t = I t) : mh_fs I' = mh_fs I := by
  funext a known d i
  induction i with
  | zero => unfold mh_fs; rw [mh_eb_e h]
  | succ i ih => unfold mh_fs; rw [ih, mh_el_e h, mh_er_e h, h 148 (by decide), h 149 (by decide)]
theorem mh_le_e (h : ∀ t, t ∈ mh_ft → I' t = I t) : mh_le I' = mh_le I := by
  funext a known d i
  unfold mh_le
  rw [mh_eo_e h, mh_fs_e h, h 33 (by decide)]
theorem mh_cs_e (h : ∀ t, t ∈ mh_ft → I' t = I t) : mh_cs I' = mh_cs I := by
  funext a known d i
  induction i with
  | zero => rfl
  | succ i ih => unfold mh_cs; rw [ih, mh_le_e h]
theorem mh_iw_e (h : ∀ t, t ∈ mh_ft → I' t = I t) : mh_iw I' = mh_iw I := by
  funext a known s n
  induction n with
  | zero => rfl
  | succ n ih => unfold mh_iw; rw [ih, h 44 (by decide), h 45 (by decide), h 46 (by decide), h 47 (by decide)]
theorem mh_wf_e (h : ∀ t, t ∈ mh_ft → I' t = I t) : mh_wf I' = mh_wf I := by
  funext a known s
  unfold mh_wf
  rw [mh_iw_e h, mh_law_e h, h 5 (by decide), h 10 (by decide)]
theorem mh_P_e (h : ∀ t, t ∈ mh_ft → I' t = I t) : mh_P I' = mh_P I := by
  funext a known
  unfold mh_P
  rw [mh_dl_e h, mh_eb_e h, mh_D_e h, mh_eo_e h, mh_el_e h, mh_er_e h, mh_cs_e h, mh_wf_e h, h 5 (by decide), h 146 (by decide), h 147 (by decide)]
theorem mh_fi_e (h : ∀ t, t ∈ mh_ft → I' t = I t) : mh_fi I' = mh_fi I := by
  funext a known e
  unfold mh_fi
  rw [mh_eo_e h, mh_D_e h]
theorem mh_df_e (h : ∀ t, t ∈ mh_ft → I' t = I t) : mh_df I' = mh_df I := by
  funext a known t e
  unfold mh_df
  rw [mh_fi_e h, mh_P_e h]
theorem mh_do2_e (h : ∀ t, t ∈ mh_ft → I' t = I t) : mh_do2 I' = mh_do2 I := by
  funext a known t e
  unfold mh_do2
  rw [mh_fi_e h, mh_P_e h]
theorem mh_cou_e (h : ∀ t, t ∈ mh_fu → I' t = I t) : mh_cou I' = mh_cou I := by
  funext day known n
  induction n with
  | zero => rfl
  | succ n ih => unfold mh_cou; rw [ih, h 29 (by decide), h 30 (by decide), h 31 (by decide), h 32 (by decide)]
theorem mh_cap_e (h : ∀ t, t ∈ mh_ft → I' t = I t) : mh_cap I' = mh_cap I := by
  funext a known day
  unfold mh_cap
  rw [mh_law_e h, mh_fcap_e h, mh_chi_e h, h 5 (by decide), h 10 (by decide)]
theorem mh_dep_e (h : ∀ t, t ∈ mh_fu → I' t = I t) : mh_dep I' = mh_dep I := by
  funext a known day
  have g := mh_fu_t h
  unfold mh_dep
  rw [mh_law_e g, mh_df_e g, mh_do2_e g, mh_cap_e g, mh_cou_e h, mh_P_e g, h 10 (by decide), h 37 (by decide), h 4 (by decide)]
theorem mh_ali_e (h : ∀ t, t ∈ mh_ft → I' t = I t) : mh_ali I' = mh_ali I := by
  funext a known day
  unfold mh_ali
  rw [h 37 (by decide), h 38 (by decide), h 39 (by decide), h 40 (by decide)]
theorem mh_alw_e (h : ∀ t, t ∈ mh_fu → I' t = I t) : mh_alw I' = mh_alw I := by
  funext a known act day
  have g := mh_fu_t h
  unfold mh_alw
  rw [mh_ali_e g, mh_dep_e h, mh_law_e g, h 153 (by decide)]
end
