-- THE REFERENCE WRITES: a number
variable {SC : Nat → Nat} {X : mh_X} {r : Option am_I}
theorem wl_O_f {L : List Int} {b w w' : am_W} (h : wl_O L b w) (f : sb_f w w') : wl_O L b w' := by
  obtain ⟨h1, h2, h3, h4, h5⟩ := h
  refine ⟨?_, fun k hk => ?_, fun t ht => ?_, fun k hk => ?_, fun t ht => ?_⟩
  · rw [f.1 9 (by decide)]; exact h1
  · rw [f.1 142 (by decide)]; exact h2 k hk
  · rw [f.1 t (fun e => ht (by rw [e]; decide))]; exact h3 t ht
  · rw [f.1 9 (by decide)]; exact h4 k hk
  · rw [f.2 t ht]; exact h5 t ht
theorem am_reW {G : am_G} {SC : Nat → Nat} {d : Nat} {Y : am_Y} {Q : Option am_V → am_W → Prop} {pc bc bs : Nat} {ls : List (Nat × am_V)} {st : List am_V} {w w' : am_W} (h : w = w') (k : am_A G SC d Y Q pc ls st w' bc bs) : am_A G SC d Y Q pc ls st w bc bs := h ▸ k
/-- a new builder -/
def sb_new (w : am_W) : am_W := (am_up (am_upr (am_fr (am_fr w (100 + 12) 0) 3 16) w.2.2.2.2 0 (some (999, w.2.2.2.2 + 1))).1 999 w.2.2.2.2 1 0, (am_upr (am_fr (am_fr w (100 + 12) 0) 3 16) w.2.2.2.2 0 (some (999, w.2.2.2.2 + 1))).2)
theorem sb_new_B {w : am_W} : sb_B (sb_new w) w.2.2.2.2 (w.2.2.2.2 + 1) ∧ (sb_new w).1 999 w.2.2.2.2 3 = 0 ∧ sb_f w (sb_new w) ∧ (sb_new w).2.2.2.2 = w.2.2.2.2 + 2 := by
  refine ⟨⟨⟨?_, ?_, ?_⟩, ?_, by omega⟩, ?_, sb_f_t (sb_f_t (sb_f_t sb_f_n sb_f_n) sb_f_p) sb_f_u, rfl⟩
  · simp [sb_new, am_upr, am_fr]
  · simp [sb_new, am_upr, am_fr]
  · simp [sb_new, am_upr, am_fr, am_up]
  · simp [sb_new, am_upr, am_fr]
  · simp [sb_new, am_upr, am_fr, am_up]
theorem sb_B_3 {w : am_W} {b v : Nat} {x : Int} (h : sb_B w b v) : sb_B (am_up w.1 999 b 3 x, w.2) b v := by
  obtain ⟨⟨h1, h2, h3⟩, h4, h5⟩ := h
  exact ⟨⟨h1, h2, by dsimp only; rw [am_up_k (by decide)]; exact h3⟩, h4, h5⟩
theorem sb_ds_b {n : Int} (hn : 1 ≤ n ∧ n ≤ 999) : ∀ i, i < sb_sz n → 0 ≤ (sb_ds n).getD i 0 ∧ (sb_ds n).getD i 0 < 128 := by
  intro i hi
  unfold sb_sz at hi
  unfold sb_ds
  split at hi
  · rw [if_pos (by assumption)]
    obtain rfl : i = 0 := by omega
    simp; omega
  · rw [if_neg (by assumption)]
    split at hi
    · rw [if_pos (by assumption)]
      rcases (show i = 0 ∨ i = 1 by omega) with e | e <;> subst e <;> simp <;> omega
    · rw [if_neg (by assumption)]
      rcases (show i = 0 ∨ i = 1 ∨ i = 2 by omega) with e | e | e <;> subst e <;> simp <;> omega
theorem wl_num {d bc bs : Nat} {Q : Option am_V → am_W → Prop} {b w : am_W} {L : List Int} {l q i : Nat} {n : Int} (hPV : sb_PV) (hX : mh_st X r) (hl : l < 7) (hq : q < 30) (hi : i < 4) (hn : 1 ≤ n ∧ n ≤ 999) (hJ : b.1 81 (30 * l + q) (3 * i + 1) = n) (hL : 1 ≤ L.length ∧ L.length + 4 ≤ 400) (hbc : 4 ≤ bc) (hbs : 27 ≤ bs) (h : wl_O L b w)
    (K : ∀ u bc' bs', bc ≤ bc' + 4 → bs ≤ bs' + 27 → wl_O (L ++ [32] ++ sb_ds n) b u → am_A (mh_G X) SC (d + 11) mX12_writesRule Q 159 [(0, .inr (.inr (some (9, 0)))), (1, .inl (l : Int)), (2, .inl (q : Int)), (3, .inl (i : Int))] [] u bc' bs') : am_A (mh_G X) SC (d + 11) mX12_writesRule Q 121 [(0, .inr (.inr (some (9, 0)))), (1, .inl (l : Int)), (2, .inl (q : Int)), (3, .inl (i : Int))] [] w bc bs := by
  have l0 : 0 ≤ (l : Int) := by omega
  have l7 : (l : Int) < 7 := by omega
  have q0 : 0 ≤ (q : Int) := by omega
  have q30 : (q : Int) < 30 := by omega
  have i3 : am_w (am_w (3 * (i : Int)) + 1) = ((3 * i + 1 : Nat) : Int) := by rw [am_w_id (z := 3 * (i : Int)) (by unfold am_rg; omega), am_w_id (by unfold am_rg; omega)]; omega
  have i0 : 0 ≤ ((3 * i + 1 : Nat) : Int) := by omega
  have i12 : ((3 * i + 1 : Nat) : Int) < 12 := by omega
  have hz := sb_sz_b (n := n)
  obtain ⟨B1, B2, B3, B4⟩ := sb_new_B (w := w)
  have B5 := sb_B_3 (x := 0) B1
  refine am_aload_n dX12_writesRule_121 (by repeat (first | exact List.Mem.head _ | apply List.Mem.tail)) ?_
  refine am_new dX12_writesRule_122 hc_12 wd_2264 wd_2265 wd_132 (by omega) (by omega) ?_
  refine am_dup dX12_writesRule_125 rfl ?_
  refine am_calli (d' := d + 2) (kc := 1) (ks := 16) (as := []) dX12_writesRule_126 wc_J4_init_da8c8 wd_2266 wd_2267 rfl rfl wd_132 ds_J4_init_da8c8 (by decide) (by omega) (Nat.le_of_ble_eq_true rfl) (by omega) (by omega) rfl (pJ4_init (d := d) hX (by show ((if w.2.2.2.2 = w.2.2.2.2 then (112, 0) else w.2.2.2.1 w.2.2.2.2 : Nat × Nat)).1 = 112; rw [if_pos rfl]) (Nat.lt_succ_self _) (Nat.le_refl _) (Nat.le_refl _) ?_)
  refine am_reW (w' := sb_new w) rfl ?_
  refine am_ldcwS (sid := 89) dX12_writesRule_129 rfl ?_
  refine am_callv (t := 999) (j := w.2.2.2.2) (d' := d + 5) (kc := 0) (ks := 0) (as := [.inr (.inr (some (1000, 89)))]) dX12_writesRule_132 wc_J4_append_15ec4 wd_2295 wd_2296 wd_2297 wd_132 ds_J4_append_15ec4 (by decide) (by omega) (Nat.le_of_ble_eq_true rfl) (Nat.zero_le _) (Nat.zero_le _) hc_12 (by decide) B1.1.1 rfl (pJ4_appendS (d := d) (tv := 1001) (jv := 89) hPV hX (mh_S_k (by decide)) B1 B2 ?_)
  refine am_aload_n dX12_writesRule_135 (by repeat (first | exact List.Mem.head _ | apply List.Mem.tail)) ?_
  refine am_getf (f := 12) (v := .inr (.inr (some (79, 0)))) dX12_writesRule_136 hc_10 (by decide) wd_1561 (by decide) rfl rfl ?_
  refine am_iload_n dX12_writesRule_139 (by repeat (first | exact List.Mem.head _ | apply List.Mem.tail)) ?_
  refine am_aaload (kd := 6) (r := some (80, l)) dX12_writesRule_140 (by decide) rfl (by decide) (by decide) l0 l7 rfl ?_
  refine am_iload_n dX12_writesRule_141 (by repeat (first | exact List.Mem.head _ | apply List.Mem.tail)) ?_
  refine am_aaload (kd := 5) (r := some (81, 30 * l + q)) dX12_writesRule_142 (by decide) rfl (by decide) (by decide) q0 q30 rfl ?_
  refine am_iconst dX12_writesRule_143 (by unfold am_rg; omega) ?_
  refine am_iload_n dX12_writesRule_144 (by repeat (first | exact List.Mem.head _ | apply List.Mem.tail)) ?_
  refine am_imul dX12_writesRule_145 ?_
  refine am_iconst dX12_writesRule_146 (by unfold am_rg; omega) ?_
  refine am_iadd dX12_writesRule_147 ?_
  rw [i3]
  refine am_iaload (v := n) dX12_writesRule_148 (by decide) rfl i0 i12 (by rw [Int.toNat_natCast, ← hJ, ← h.2.2.1 81 (by decide), ← B3.1 81 (by decide)]; show am_up (sb_new w).1 999 w.2.2.2.2 3 0 81 _ _ = _; rw [am_up_t (by decide)]) ?_
  refine am_callv (t := 999) (j := w.2.2.2.2) (d' := d + 3) (kc := 0) (ks := 0) (as := [.inl n]) dX12_writesRule_149 wc_J4_append_bf812 wd_2392 wd_2393 wd_2394 wd_132 ds_J4_append_bf812 (by decide) (by omega) (Nat.le_of_ble_eq_true rfl) (Nat.zero_le _) (Nat.zero_le _) hc_12 (by decide) B5.1.1 rfl (pJ4_appendI (d := d) hPV hX hn B5 (by dsimp only; rw [am_up_s]) (fun u1 f1 e1 C1 n1 d1 => ?_))
  have cn : u1.2.2.2.2 = w.2.2.2.2 + 2 := by rw [e1]; exact B4
  refine am_callv (t := 999) (j := w.2.2.2.2) (d' := d + 6) (kc := 2) (ks := 4 + sb_sz n) (as := []) dX12_writesRule_152 wc_J4_toString_0e30d wd_2417 wd_2418 wd_2419 wd_132 ds_J4_toString_0e30d (by decide) (by omega) (Nat.le_of_ble_eq_true rfl) (by omega) (by omega) hc_12 (by decide) C1.1.1 rfl (pJ4_toString (d := d) hPV hX C1 n1 hz.2 ⟨by omega, by omega⟩ (fun j hj => by rw [d1 j hj]; exact sb_ds_b hn j hj) (Nat.le_refl _) (Nat.le_refl _) (fun u2 f2 S2 g2 c2 => ?_))
  refine am_iconst dX12_writesRule_155 (by unfold am_rg; omega) ?_
  have hO : wl_O L b u2 := wl_O_f h (sb_f_t (sb_f_t (sb_f_t B3 sb_f_u) f1) f2)
  have hC : wl_C X u2 999 u1.2.2.2.2 (sb_ds n) := ⟨999, u1.2.2.2.2 + 1, by rw [sb_sz_l]; exact S2, fun j hj => by rw [sb_sz_l] at hj; rw [g2 j hj, d1 j hj]; exact ⟨rfl, sb_ds_b hn j hj⟩, Or.inl rfl, Or.inl rfl⟩
  refine am_callv (d' := d + 10) (kc := 0) (ks := 0) (as := [.inr (.inr (some (999, u1.2.2.2.2))), .inl 0]) dX12_writesRule_156 wc_X12_writes wd_2258 wd_2260 wd_108 wd_122 ds_X12_writes (by decide) (by omega) (Nat.le_of_ble_eq_true rfl) (Nat.zero_le _) (Nat.zero_le _) hc_10 (by decide) rfl rfl (pX12_writes (d := d + 4) (sep := [32]) hX hC (by rw [sb_sz_l]; omega) hO (Or.inr (Or.inr ⟨rfl, hL.1, rfl⟩)) (fun u3 h3 _ _ => ?_))
  exact K u3 _ _ (by omega) (by omega) h3
