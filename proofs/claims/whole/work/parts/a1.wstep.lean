-- THE REFERENCE WRITES: steps of its loops
variable {SC : Nat → Nat} {X : mh_X} {r : Option am_I}
theorem wl_t_91 : ∀ j, j < 91 → (wl_t j).length ≤ 8 := by decide +kernel
theorem wl_len {M T sep : List Int} {n : Nat} (h1 : sep.length ≤ 1) (h2 : T.length ≤ n) : M.length ≤ (M ++ sep ++ T).length ∧ (M ++ sep ++ T).length ≤ M.length + 1 + n := by
  simp only [List.length_append]
  omega
theorem wl_e1 : ∀ k, k < 12 → wl_t (47 + k) = wl_t k ∧ (mh_sa.getD 0 []).getD k 0 = 47 + k := by decide +kernel
theorem wl_e2 : ∀ k, k < 5 → wl_t (59 + k) = wl_t (12 + k) ∧ (mh_sa.getD 1 []).getD k 0 = 59 + k := by decide +kernel
theorem wl_e3 : ∀ k, k < 4 → wl_t (64 + k) = wl_t (17 + k) ∧ (mh_sa.getD 2 []).getD k 0 = 64 + k := by decide +kernel
theorem wl_e4 : ∀ k, k < 4 → wl_t (72 + k) = wl_t (25 + k) ∧ (mh_sa.getD 4 []).getD k 0 = 72 + k := by decide +kernel
theorem pX12_wr {d kc ks : Nat} {Q : Option am_V → am_W → Prop} {b w : am_W} {j : Nat} {M sep : List Int} {x : Int} (hX : mh_st X r) (hj : j < 91) (hM : M.length ≤ 300) (h : wl_O M b w) (hs : (¬ x = 0 ∧ sep = []) ∨ (x = 0 ∧ M = [] ∧ sep = []) ∨ (x = 0 ∧ 1 ≤ M.length ∧ sep = [32]))
    (K : ∀ u M', M' = M ++ sep ++ wl_t j → M.length ≤ M'.length → M'.length ≤ M.length + 9 → wl_O M' b u → Q none u) : am_M (mh_G X) SC (d + 6) kc ks mX12_writes [.inr (.inr (some (9, 0))), .inr (.inr (some (1000, j))), .inl x] w Q := by
  have hT := wl_t_91 j hj
  have hsl : sep.length ≤ 1 := by rcases hs with ⟨-, e⟩ | ⟨-, -, e⟩ | ⟨-, -, e⟩ <;> rw [e] <;> decide
  obtain ⟨g1, g2⟩ := wl_len (M := M) (T := wl_t j) (sep := sep) hsl hT
  exact pX12_writes hX (wl_C_k hj) (by omega) h hs (fun u h1 _ _ => K u _ rfl g1 (by omega) h1)
theorem wl_39 {d bc bs : Nat} {Q : Option am_V → am_W → Prop} {b w : am_W} {M : List Int} {l q i : Nat} {kw : Nat} (hX : mh_st X r) (hl : l < 7) (hq : q < 30) (i3 : i ≤ 3) (hk : kw < 12) (hJ : b.1 78 (30 * l + q) i = (kw : Int)) (hM : 1 ≤ M.length ∧ M.length ≤ 300) (h : wl_O M b w)
    (K : ∀ u M', M' = M ++ [32] ++ wl_t kw → M.length ≤ M'.length → M'.length ≤ M.length + 9 → wl_O M' b u → am_A (mh_G X) SC (d + 11) mX12_writesRule Q 15 [(0, .inr (.inr (some (9, 0)))), (1, .inl (l : Int)), (2, .inl (q : Int)), (3, .inl ((i + 1 : Nat) : Int))] [] u bc bs) : am_A (mh_G X) SC (d + 11) mX12_writesRule Q 39 [(0, .inr (.inr (some (9, 0)))), (1, .inl (l : Int)), (2, .inl (q : Int)), (3, .inl (i : Int))] [] w bc bs := by
  have l0 : 0 ≤ (l : Int) := by omega
  have l7 : (l : Int) < 7 := by omega
  have q0 : 0 ≤ (q : Int) := by omega
  have q30 : (q : Int) < 30 := by omega
  have i0 : 0 ≤ (i : Int) := by omega
  have i4 : (i : Int) < 4 := by omega
  have k0 : 0 ≤ (kw : Int) := by omega
  have k12 : (kw : Int) < 12 := by omega
  have k91 : 47 + kw < 91 := by omega
  obtain ⟨e1, e2⟩ := wl_e1 kw hk
  refine am_aload_n dX12_writesRule_39 (by repeat (first | exact List.Mem.head _ | apply List.Mem.tail)) ?_
  refine am_aload_n dX12_writesRule_40 (by repeat (first | exact List.Mem.head _ | apply List.Mem.tail)) ?_
  refine am_getf (f := 22) (v := .inr (.inr (some (19, 0)))) dX12_writesRule_41 hc_10 (by decide) wd_1571 (by decide) rfl rfl ?_
  refine am_aload_n dX12_writesRule_44 (by repeat (first | exact List.Mem.head _ | apply List.Mem.tail)) ?_
  refine am_getf (f := 11) (v := .inr (.inr (some (76, 0)))) dX12_writesRule_45 hc_10 (by decide) wd_1560 (by decide) rfl rfl ?_
  refine am_iload_n dX12_writesRule_48 (by repeat (first | exact List.Mem.head _ | apply List.Mem.tail)) ?_
  refine am_aaload (kd := 6) (r := some (77, l)) dX12_writesRule_49 (by decide) rfl (by decide) (by decide) l0 l7 rfl ?_
  refine am_iload_n dX12_writesRule_50 (by repeat (first | exact List.Mem.head _ | apply List.Mem.tail)) ?_
  refine am_aaload (kd := 5) (r := some (78, 30 * l + q)) dX12_writesRule_51 (by decide) rfl (by decide) (by decide) q0 q30 rfl ?_
  refine am_iload_n dX12_writesRule_52 (by repeat (first | exact List.Mem.head _ | apply List.Mem.tail)) ?_
  refine am_iaload (v := (kw : Int)) dX12_writesRule_53 (by decide) rfl i0 i4 (by rw [← hJ, ← h.2.2.1 78 (by decide)]; rfl) ?_
  refine am_aaload (kd := 9) (r := some (1000, 47 + kw)) dX12_writesRule_54 (by decide) rfl (by decide) (by decide) k0 k12 (by show some (1000, (mh_sa.getD 0 []).getD kw 0) = _; rw [e2]) ?_
  refine am_iconst dX12_writesRule_55 (by unfold am_rg; omega) ?_
  refine am_callv (d' := d + 10) (kc := 0) (ks := 0) (as := [.inr (.inr (some (1000, 47 + kw))), .inl 0]) dX12_writesRule_56 wc_X12_writes wd_2258 wd_2260 wd_108 wd_122 ds_X12_writes (by decide) (by omega) (Nat.le_of_ble_eq_true rfl) (Nat.zero_le _) (Nat.zero_le _) hc_10 (by decide) rfl rfl (pX12_wr (d := d + 4) (j := 47 + kw) hX k91 hM.2 h (Or.inr (Or.inr ⟨rfl, hM.1, rfl⟩)) (fun u N eN a1 a2 hu => ?_))
  refine am_iinc (x := (i : Int)) (ls' := [(3, .inl (am_w ((i : Int) + 1))), (0, .inr (.inr (some (9, 0)))), (1, .inl (l : Int)), (2, .inl (q : Int))]) dX12_writesRule_59 (by repeat (first | exact List.Mem.head _ | apply List.Mem.tail)) (by decide) rfl ?_
  rw [wl_nx i3]
  refine am_goto (tgt := 15) dX12_writesRule_62 (by decide) ?_
  rw [e1] at eN
  exact am_sub [1, 2, 3, 0] rfl (K u N eN a1 a2 hu)
theorem wl_x1 {i : Nat} (h : i ≤ 3) : am_w (3 * (i : Int)) = ((3 * i : Nat) : Int) := by rw [am_w_id (by unfold am_rg; omega)]; omega
theorem wl_x2 {i : Nat} (h : i ≤ 3) : am_w (am_w (3 * (i : Int)) + 2) = ((3 * i + 2 : Nat) : Int) := by rw [am_w_id (z := 3 * (i : Int)) (by unfold am_rg; omega), am_w_id (by unfold am_rg; omega)]; omega
theorem wl_270 {m : Nat} (h : m ≤ 270) : m ≤ 300 := by omega
theorem wl_lt4 {i : Nat} (h : i ≤ 3) : i < 4 := by omega
theorem wl_396 {m n : Nat} (h : m ≤ 270) (g : n ≤ m + 9) : n + 4 ≤ 400 := by omega
theorem wl_300 {m n p : Nat} (h : m ≤ 270) (g : n ≤ m + 9) (e : p ≤ n + 1 + 3) : p ≤ 300 := by omega
theorem wl_le3 {m n p : Nat} (h : 1 ≤ m) (g : m ≤ n) (e : n ≤ p) : 1 ≤ p := by omega
theorem wl_le4 {m n p s : Nat} (g : m ≤ n) (e : n ≤ p) (f : p ≤ s) : m ≤ s := by omega
theorem wl_le5 {m n p s : Nat} (g : n ≤ m + 9) (e : p ≤ n + 1 + 3) (f : s ≤ p + 9) : s ≤ m + 22 := by omega
theorem wl_99 {d bc bs : Nat} {Q : Option am_V → am_W → Prop} {b w : am_W} {M : List Int} {l q i : Nat} {pd pu : Nat} {pn : Int} (hPV : sb_PV) (hX : mh_st X r) (hl : l < 7) (hq : q < 30) (i3 : i ≤ 3) (hd : pd ≤ 4) (hu : 17 ≤ pu ∧ pu ≤ 20) (hn : 1 ≤ pn ∧ pn ≤ 999) (J1 : b.1 81 (30 * l + q) (3 * i) = (pd : Int)) (J2 : b.1 81 (30 * l + q) (3 * i + 1) = pn) (J3 : b.1 81 (30 * l + q) (3 * i + 2) + 17 = (pu : Int)) (hM : 1 ≤ M.length ∧ M.length ≤ 270) (hbc : 4 ≤ bc) (hbs : 27 ≤ bs) (h : wl_O M b w)
    (K : ∀ u M' bc' bs', bc ≤ bc' + 4 → bs ≤ bs' + 27 → M' = M ++ [32] ++ wl_t (12 + pd) ++ [32] ++ sb_ds pn ++ [32] ++ wl_t pu → M.length ≤ M'.length → M'.length ≤ M.length + 22 → wl_O M' b u → am_A (mh_G X) SC (d + 11) mX12_writesRule Q 75 [(0, .inr (.inr (some (9, 0)))), (1, .inl (l : Int)), (2, .inl (q : Int)), (3, .inl ((i + 1 : Nat) : Int))] [] u bc' bs') : am_A (mh_G X) SC (d + 11) mX12_writesRule Q 99 [(0, .inr (.inr (some (9, 0)))), (1, .inl (l : Int)), (2, .inl (q : Int)), (3, .inl (i : Int))] [] w bc bs := by
  have l0 : 0 ≤ (l : Int) := by omega
  have l7 : (l : Int) < 7 := by omega
  have q0 : 0 ≤ (q : Int) := by omega
  have q30 : (q : Int) < 30 := by omega
  have i0 : 0 ≤ (i : Int) := by omega
  have i4 : (i : Int) < 4 := by omega
  have p0 : 0 ≤ (pd : Int) := by omega
  have p5 : (pd : Int) < 5 := by omega
  have p91 : 59 + pd < 91 := by omega
  have t0 : 0 ≤ ((3 * i : Nat) : Int) := by omega
  have t12 : ((3 * i : Nat) : Int) < 12 := by omega
  have v0 : 0 ≤ ((3 * i + 2 : Nat) : Int) := by omega
  have v12 : ((3 * i + 2 : Nat) : Int) < 12 := by omega
  obtain ⟨m, hm⟩ : ∃ m, pu = 17 + m := ⟨pu - 17, by omega⟩
  have m4 : m < 4 := by omega
  have m0 : 0 ≤ (m : Int) := by omega
  have m5 : (m : Int) < 4 := by omega
  have m91 : 64 + m < 91 := by omega
  have J4 : b.1 81 (30 * l + q) (3 * i + 2) = (m : Int) := by omega
  obtain ⟨e1, e2⟩ := wl_e2 pd (by omega)
  obtain ⟨e3, e4⟩ := wl_e3 m m4
  have x1 := wl_x1 i3
  have x2 := wl_x2 i3
  refine am_aload_n dX12_writesRule_99 (by repeat (first | exact List.Mem.head _ | apply List.Mem.tail)) ?_
  refine am_aload_n dX12_writesRule_100 (by repeat (first | exact List.Mem.head _ | apply List.Mem.tail)) ?_
  refine am_getf (f := 23) (v := .inr (.inr (some (19, 1)))) dX12_writesRule_101 hc_10 (by decide) wd_1572 (by decide) rfl rfl ?_
  refine am_aload_n dX12_writesRule_104 (by repeat (first | exact List.Mem.head _ | apply List.Mem.tail)) ?_
  refine am_getf (f := 12) (v := .inr (.inr (some (79, 0)))) dX12_writesRule_105 hc_10 (by decide) wd_1561 (by decide) rfl rfl ?_
  refine am_iload_n dX12_writesRule_108 (by repeat (first | exact List.Mem.head _ | apply List.Mem.tail)) ?_
  refine am_aaload (kd := 6) (r := some (80, l)) dX12_writesRule_109 (by decide) rfl (by decide) (by decide) l0 l7 rfl ?_
  refine am_iload_n dX12_writesRule_110 (by repeat (first | exact List.Mem.head _ | apply List.Mem.tail)) ?_
  refine am_aaload (kd := 5) (r := some (81, 30 * l + q)) dX12_writesRule_111 (by decide) rfl (by decide) (by decide) q0 q30 rfl ?_
  refine am_iconst dX12_writesRule_112 (by unfold am_rg; omega) ?_
  refine am_iload_n dX12_writesRule_113 (by repeat (first | exact List.Mem.head _ | apply List.Mem.tail)) ?_
  refine am_imul dX12_writesRule_114 ?_
  rw [x1]
  refine am_iaload (v := (pd : Int)) dX12_writesRule_115 (by decide) rfl t0 t12 (by rw [← J1, ← h.2.2.1 81 (by decide)]; rfl) ?_
  refine am_aaload (kd := 9) (r := some (1000, 59 + pd)) dX12_writesRule_116 (by decide) rfl (by decide) (by decide) p0 p5 (by show some (1000, (mh_sa.getD 1 []).getD pd 0) = _; rw [e2]) ?_
  refine am_iconst dX12_writesRule_117 (by unfold am_rg; omega) ?_
  refine am_callv (d' := d + 10) (kc := 0) (ks := 0) (as := [.inr (.inr (some (1000, 59 + pd))), .inl 0]) dX12_writesRule_118 wc_X12_writes wd_2258 wd_2260 wd_108 wd_122 ds_X12_writes (by decide) (by omega) (Nat.le_of_ble_eq_true rfl) (Nat.zero_le _) (Nat.zero_le _) hc_10 (by decide) rfl rfl (pX12_wr (d := d + 4) (j := 59 + pd) hX p91 (wl_270 hM.2) h (Or.inr (Or.inr ⟨rfl, hM.1, rfl⟩)) (fun u N eN a1 a2 hu9 => ?_))
  refine wl_num hPV hX hl hq (wl_lt4 i3) hn J2 ⟨Nat.le_trans hM.1 a1, wl_396 hM.2 a2⟩ hbc hbs hu9 (fun u2 bc2 bs2 c1 c2 h2 => ?_)
  obtain ⟨N2, eN2⟩ : ∃ N2, N2 = N ++ [32] ++ sb_ds pn := ⟨_, rfl⟩
  obtain ⟨a3, a4⟩ := wl_len (M := N) (T := sb_ds pn) (sep := [32]) (n := 3) (by decide) (by rw [sb_sz_l]; exact sb_sz_b.2)
  rw [← eN2] at h2 a3 a4
  refine am_aload_n dX12_writesRule_159 (by repeat (first | exact List.Mem.head _ | apply List.Mem.tail)) ?_
  refine am_aload_n dX12_writesRule_160 (by repeat (first | exact List.Mem.head _ | apply List.Mem.tail)) ?_
  refine am_getf (f := 24) (v := .inr (.inr (some (19, 2)))) dX12_writesRule_161 hc_10 (by decide) wd_1573 (by decide) rfl rfl ?_
  refine am_aload_n dX12_writesRule_164 (by repeat (first | exact List.Mem.head _ | apply List.Mem.tail)) ?_
  refine am_getf (f := 12) (v := .inr (.inr (some (79, 0)))) dX12_writesRule_165 hc_10 (by decide) wd_1561 (by decide) rfl rfl ?_
  refine am_iload_n dX12_writesRule_168 (by repeat (first | exact List.Mem.head _ | apply List.Mem.tail)) ?_
  refine am_aaload (kd := 6) (r := some (80, l)) dX12_writesRule_169 (by decide) rfl (by decide) (by decide) l0 l7 rfl ?_
  refine am_iload_n dX12_writesRule_170 (by repeat (first | exact List.Mem.head _ | apply List.Mem.tail)) ?_
  refine am_aaload (kd := 5) (r := some (81, 30 * l + q)) dX12_writesRule_171 (by decide) rfl (by decide) (by decide) q0 q30 rfl ?_
  refine am_iconst dX12_writesRule_172 (by unfold am_rg; omega) ?_
  refine am_iload_n dX12_writesRule_173 (by repeat (first | exact List.Mem.head _ | apply List.Mem.tail)) ?_
  refine am_imul dX12_writesRule_174 ?_
  refine am_iconst dX12_writesRule_175 (by unfold am_rg; omega) ?_
  refine am_iadd dX12_writesRule_176 ?_
  rw [x2]
  refine am_iaload (v := (m : Int)) dX12_writesRule_177 (by decide) rfl v0 v12 (by rw [← J4, ← h2.2.2.1 81 (by decide)]; rfl) ?_
  refine am_aaload (kd := 9) (r := some (1000, 64 + m)) dX12_writesRule_178 (by decide) rfl (by decide) (by decide) m0 m5 (by show some (1000, (mh_sa.getD 2 []).getD m 0) = _; rw [e4]) ?_
  refine am_iconst dX12_writesRule_179 (by unfold am_rg; omega) ?_
  refine am_callv (d' := d + 10) (kc := 0) (ks := 0) (as := [.inr (.inr (some (1000, 64 + m))), .inl 0]) dX12_writesRule_180 wc_X12_writes wd_2258 wd_2260 wd_108 wd_122 ds_X12_writes (by decide) (by omega) (Nat.le_of_ble_eq_true rfl) (Nat.zero_le _) (Nat.zero_le _) hc_10 (by decide) rfl rfl (pX12_wr (d := d + 4) (j := 64 + m) hX m91 (wl_300 hM.2 a2 a4) h2 (Or.inr (Or.inr ⟨rfl, (wl_le3 hM.1 a1 a3), rfl⟩)) (fun u3 N3 eN3 a5 a6 hu3 => ?_))
  refine am_iinc (x := (i : Int)) (ls' := [(3, .inl (am_w ((i : Int) + 1))), (0, .inr (.inr (some (9, 0)))), (1, .inl (l : Int)), (2, .inl (q : Int))]) dX12_writesRule_183 (by repeat (first | exact List.Mem.head _ | apply List.Mem.tail)) (by decide) rfl ?_
  rw [wl_nx i3]
  refine am_goto (tgt := 75) dX12_writesRule_186 (by decide) ?_
  refine am_sub [1, 2, 3, 0] rfl (K u3 N3 _ _ c1 c2 ?_ (wl_le4 a1 a3 a5) (wl_le5 a2 a4 a6) hu3)
  rw [eN3, e3, eN2, eN, e1, ← hm]
theorem wl_214 {d bc bs : Nat} {Q : Option am_V → am_W → Prop} {b w : am_W} {M : List Int} {l q i : Nat} (hX : mh_st X r) (i3 : i ≤ 3) (hM : 1 ≤ M.length ∧ M.length ≤ 270) (h : wl_O M b w)
    (K : ∀ u M', M' = M ++ ([59, 32] ++ wl_t (25 + i) ++ (if i = 0 then [32, 104, 97, 108, 102] else [])) → M.length ≤ M'.length → M'.length ≤ M.length + 27 → wl_O M' b u → am_A (mh_G X) SC (d + 11) mX12_writesRule Q 245 [(0, .inr (.inr (some (9, 0)))), (1, .inl (l : Int)), (2, .inl (q : Int)), (3, .inl (i : Int))] [] u bc bs) : am_A (mh_G X) SC (d + 11) mX12_writesRule Q 214 [(0, .inr (.inr (some (9, 0)))), (1, .inl (l : Int)), (2, .inl (q : Int)), (3, .inl (i : Int))] [] w bc bs := by
  have i0 : 0 ≤ (i : Int) := by omega
  have i4 : (i : Int) < 4 := by omega
  have i91 : 72 + i < 91 := by omega
  have iz : (i : Int) = 0 ↔ i = 0 := by omega
  have m3 : M.length ≤ 300 := by omega
  obtain ⟨e1, e2⟩ := wl_e4 i (wl_lt4 i3)
  refine am_aload_n dX12_writesRule_214 (by repeat (first | exact List.Mem.head _ | apply List.Mem.tail)) ?_
  refine am_ldcwS (sid := 90) dX12_writesRule_215 rfl ?_
  refine am_iconst dX12_writesRule_218 (by unfold am_rg; omega) ?_
  refine am_callv (d' := d + 10) (kc := 0) (ks := 0) (as := [.inr (.inr (some (1000, 90))), .inl 1]) dX12_writesRule_219 wc_X12_writes wd_2258 wd_2260 wd_108 wd_122 ds_X12_writes (by decide) (by omega) (Nat.le_of_ble_eq_true rfl) (Nat.zero_le _) (Nat.zero_le _) hc_10 (by decide) rfl rfl (pX12_wr (d := d + 4) (j := 90) hX (by decide) m3 h (Or.inl ⟨by decide, rfl⟩) (fun u1 N1 eN1 a1 a2 hu1 => ?_))
  have n1 : N1.length ≤ 300 := by omega
  have n2 : 1 ≤ N1.length := by omega
  refine am_aload_n dX12_writesRule_222 (by repeat (first | exact List.Mem.head _ | apply List.Mem.tail)) ?_
  refine am_aload_n dX12_writesRule_223 (by repeat (first | exact List.Mem.head _ | apply List.Mem.tail)) ?_
  refine am_getf (f := 26) (v := .inr (.inr (some (19, 4)))) dX12_writesRule_224 hc_10 (by decide) wd_1575 (by decide) rfl rfl ?_
  refine am_iload_n dX12_writesRule_227 (by repeat (first | exact List.Mem.head _ | apply List.Mem.tail)) ?_
  refine am_aaload (kd := 9) (r := some (1000, 72 + i)) dX12_writesRule_228 (by decide) rfl (by decide) (by decide) i0 i4 (by show some (1000, (mh_sa.getD 4 []).getD i 0) = _; rw [e2]) ?_
  refine am_iconst dX12_writesRule_229 (by unfold am_rg; omega) ?_
  refine am_callv (d' := d + 10) (kc := 0) (ks := 0) (as := [.inr (.inr (some (1000, 72 + i))), .inl 0]) dX12_writesRule_230 wc_X12_writes wd_2258 wd_2260 wd_108 wd_122 ds_X12_writes (by decide) (by omega) (Nat.le_of_ble_eq_true rfl) (Nat.zero_le _) (Nat.zero_le _) hc_10 (by decide) rfl rfl (pX12_wr (d := d + 4) (j := 72 + i) hX i91 n1 hu1 (Or.inr (Or.inr ⟨rfl, n2, rfl⟩)) (fun u2 N2 eN2 a3 a4 hu2 => ?_))
  have n3 : N2.length ≤ 300 := by omega
  have n4 : 1 ≤ N2.length := by omega
  rw [e1] at eN2
  have fin : N2 = M ++ ([59, 32] ++ wl_t (25 + i)) := by rw [eN2, eN1, show wl_t 90 = [59] from rfl, List.append_nil]; simp only [List.append_assoc, List.cons_append, List.nil_append]
  refine am_iload_n dX12_writesRule_233 (by repeat (first | exact List.Mem.head _ | apply List.Mem.tail)) ?_
  refine am_ifne (tgt := 245) dX12_writesRule_234 (by decide) (fun c => ?_) (fun c => ?_)
  · refine K u2 N2 ?_ (Nat.le_trans a1 a3) (by omega) hu2
    rw [if_neg (fun z => c (iz.mpr z)), List.append_nil]; exact fin
  · refine am_aload_n dX12_writesRule_237 (by repeat (first | exact List.Mem.head _ | apply List.Mem.tail)) ?_
    refine am_ldcwS (sid := 78) dX12_writesRule_238 rfl ?_
    refine am_iconst dX12_writesRule_241 (by unfold am_rg; omega) ?_
    refine am_callv (d' := d + 10) (kc := 0) (ks := 0) (as := [.inr (.inr (some (1000, 78))), .inl 0]) dX12_writesRule_242 wc_X12_writes wd_2258 wd_2260 wd_108 wd_122 ds_X12_writes (by decide) (by omega) (Nat.le_of_ble_eq_true rfl) (Nat.zero_le _) (Nat.zero_le _) hc_10 (by decide) rfl rfl (pX12_wr (d := d + 4) (j := 78) hX (by decide) n3 hu2 (Or.inr (Or.inr ⟨rfl, n4, rfl⟩)) (fun u3 N3 eN3 a5 a6 hu3 => ?_))
    refine K u3 N3 ?_ (Nat.le_trans a1 (Nat.le_trans a3 a5)) (by omega) hu3
    rw [if_pos (iz.mp c), eN3, fin, show wl_t 78 = [104, 97, 108, 102] from rfl]; simp only [List.append_assoc, List.cons_append, List.nil_append]
