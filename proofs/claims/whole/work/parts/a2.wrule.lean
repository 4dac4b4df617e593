-- THE REFERENCE WRITES: a rule
variable {SC : Nat → Nat} {X : mh_X} {r : Option am_I}
/-- rule q of law l, as the reference has it -/
def wl_J (J : Nat → Nat → Nat → Int) (l q KC PC : Nat) (kw pd pu : Nat → Nat) (pn : Nat → Int) (op : Int) : Prop :=
  (J 71 l q = (KC : Int) ∧ KC ≤ 4) ∧ (∀ i, i < KC → J 78 (30 * l + q) i = (kw i : Int) ∧ kw i < 12) ∧ (J 73 l q = (PC : Int) ∧ 1 ≤ PC ∧ PC ≤ 4) ∧
  (∀ i, i < PC → (J 81 (30 * l + q) (3 * i) = (pd i : Int) ∧ pd i ≤ 4) ∧ (J 81 (30 * l + q) (3 * i + 1) = pn i ∧ 1 ≤ pn i ∧ pn i ≤ 999) ∧ J 81 (30 * l + q) (3 * i + 2) + 17 = (pu i : Int) ∧ 17 ≤ pu i ∧ pu i ≤ 20) ∧ J 75 l q = op
theorem wl_c1 {x k i : Nat} (h1 : x ≤ 8) (h2 : k ≤ 12 * i) (h3 : i ≤ 4) : x + k ≤ 290 := by omega
theorem wl_c2 {x k p KC PC : Nat} (h1 : x ≤ 8) (h2 : k ≤ 12 * KC) (h3 : KC ≤ 4) (h4 : p ≤ 23 * PC) (h5 : PC ≤ 4) : x + k + p ≤ 260 := by omega
theorem wl_c3 {x k p o KC PC O : Nat} (h1 : x ≤ 8) (h2 : k ≤ 12 * KC) (h3 : KC ≤ 4) (h4 : p ≤ 23 * PC) (h5 : PC ≤ 4) (h6 : o ≤ 15 * O) (h7 : O ≤ 4) : x + k + p + o ≤ 260 := by omega
theorem wl_c4 {x k KC : Nat} (h1 : x ≤ 8) (h2 : k ≤ 12 * KC) (h3 : KC ≤ 4) : x + k + ([58] : List Int).length ≤ 60 := by show x + k + 1 ≤ 60; omega
theorem wl_c5 {m n : Nat} (h : m ≤ 261) (g : n ≤ m + 9) : n ≤ 270 := by omega
theorem wl_1 {A B : List Int} (h : 1 ≤ A.length) : 1 ≤ (A ++ B).length := by rw [List.length_append]; omega
theorem pX12_writesRule {d kc ks : Nat} {Q : Option am_V → am_W → Prop} {b : am_W} {l q KC PC : Nat} {kw pd pu : Nat → Nat} {pn : Nat → Int} {op : Int} (hPV : sb_PV) (hX : mh_st X r) (hl : l < 7) (hq : q < 30) (hJ : wl_J b.1 l q KC PC kw pd pu pn op) (hkc : 16 ≤ kc) (hks : 108 ≤ ks)
    (K : ∀ u, wl_O (wl_L KC PC kw pd pu pn op) b u → Q none u) : am_M (mh_G X) SC (d + 11) kc ks mX12_writesRule [.inr (.inr (some (9, 0))), .inl (l : Int), .inl (q : Int)] b Q := by
  unfold wl_L at K
  obtain ⟨⟨k1, k3⟩, k4, ⟨p1, p2, p3⟩, p4, o1⟩ := hJ
  have bk : ∀ i, i ≤ KC → (wl_k kw i).length ≤ 12 * i := wl_k_l (fun i hi => (k4 i hi).2)
  have bp : ∀ i, i ≤ PC → (wl_p pd pu pn i).length ≤ 23 * i := wl_p_l (fun i hi => ⟨(p4 i hi).1.2, by have := (p4 i hi).2.2.2.2; omega⟩)
  have bo : ∀ o, o ≤ 4 → (wl_o op o).length ≤ 15 * o := fun o ho => wl_o_l o ho
  have l0 : 0 ≤ (l : Int) := by omega
  have l7 : (l : Int) < 7 := by omega
  have q0 : 0 ≤ (q : Int) := by omega
  have q30 : (q : Int) < 30 := by omega
  obtain ⟨n30, h30⟩ : ∃ n, n = (wl_t 30).length := ⟨_, rfl⟩
  have l30 : n30 ≤ 8 := by rw [h30]; exact wl_t_l 30 (by decide)
  have g30 : 1 ≤ (wl_t 30).length := by decide
  have BO : ∀ (n o : Nat) (w : am_W) (bc bs : Nat), n + o = 4 → wl_O (wl_t 30 ++ wl_k kw KC ++ wl_p pd pu pn PC ++ wl_o op o) b w → am_A (mh_G X) SC (d + 11) mX12_writesRule Q 191 [(0, .inr (.inr (some (9, 0)))), (1, .inl (l : Int)), (2, .inl (q : Int)), (3, .inl (o : Int))] [] w bc bs := by
    intro n
    induction n with
    | zero =>
      intro o w bc bs ho h
      obtain rfl : o = 4 := by omega
      refine am_iload_n dX12_writesRule_191 (by repeat (first | exact List.Mem.head _ | apply List.Mem.tail)) ?_
      refine am_iconst dX12_writesRule_192 (by unfold am_rg; omega) ?_
      refine am_icmpge (tgt := 251) dX12_writesRule_193 (by decide) (fun _ => ?_) (fun c => absurd c (by decide))
      exact am_ret (r := none) dX12_writesRule_251 rfl rfl (K w h)
    | succ n ih =>
      intro o w bc bs ho h
      have i3 : o ≤ 3 := by omega
      have i6 : o ≤ 4 := by omega
      have i5 : n + (o + 1) = 4 := by omega
      have i4 : ¬ (4 : Int) ≤ (o : Int) := by omega
      have b1 := bk KC (Nat.le_refl _)
      have b2 := bp PC (Nat.le_refl _)
      have b3 := bo o i6
      have nx : ∀ (u : am_W) (M : List Int), wl_O M b u → M = wl_t 30 ++ wl_k kw KC ++ wl_p pd pu pn PC ++ wl_o op (o + 1) → am_A (mh_G X) SC (d + 11) mX12_writesRule Q 245 [(0, .inr (.inr (some (9, 0)))), (1, .inl (l : Int)), (2, .inl (q : Int)), (3, .inl (o : Int))] [] u bc bs := fun u M hu e => by
        refine am_iinc (x := (o : Int)) (ls' := [(3, .inl (am_w ((o : Int) + 1))), (0, .inr (.inr (some (9, 0)))), (1, .inl (l : Int)), (2, .inl (q : Int))]) dX12_writesRule_245 (by repeat (first | exact List.Mem.head _ | apply List.Mem.tail)) (by decide) rfl ?_
        rw [wl_nx i3]
        refine am_goto (tgt := 191) dX12_writesRule_248 (by decide) ?_
        exact am_sub [1, 2, 3, 0] rfl (ih (o + 1) u bc bs i5 (by rw [← e]; exact hu))
      refine am_iload_n dX12_writesRule_191 (by repeat (first | exact List.Mem.head _ | apply List.Mem.tail)) ?_
      refine am_iconst dX12_writesRule_192 (by unfold am_rg; omega) ?_
      refine am_icmpge (tgt := 251) dX12_writesRule_193 (by decide) (fun c => absurd c i4) (fun _ => ?_)
      refine am_aload_n dX12_writesRule_196 (by repeat (first | exact List.Mem.head _ | apply List.Mem.tail)) ?_
      refine am_getf (f := 10) (v := .inr (.inr (some (74, 0)))) dX12_writesRule_197 hc_10 (by decide) wd_1559 (by decide) rfl rfl ?_
      refine am_iload_n dX12_writesRule_200 (by repeat (first | exact List.Mem.head _ | apply List.Mem.tail)) ?_
      refine am_aaload (kd := 5) (r := some (75, l)) dX12_writesRule_201 (by decide) rfl (by decide) (by decide) l0 l7 rfl ?_
      refine am_iload_n dX12_writesRule_202 (by repeat (first | exact List.Mem.head _ | apply List.Mem.tail)) ?_
      refine am_iaload (v := op) dX12_writesRule_203 (by decide) rfl q0 q30 (by rw [← o1, ← h.2.2.1 75 (by decide)]; rfl) ?_
      refine am_iload_n dX12_writesRule_204 (by repeat (first | exact List.Mem.head _ | apply List.Mem.tail)) ?_
      refine am_ishr dX12_writesRule_205 ?_
      refine am_iconst dX12_writesRule_206 (by unfold am_rg; omega) ?_
      refine am_iand dX12_writesRule_207 ?_
      refine am_ifne (tgt := 214) dX12_writesRule_208 (by decide) (fun c => ?_) (fun c => ?_)
      · refine wl_214 hX i3 ⟨wl_1 (wl_1 (wl_1 g30)), Nat.le_trans (by simp only [List.length_append]; rw [← h30]; exact wl_c3 l30 b1 k3 b2 p3 b3 i6) (by decide : 260 ≤ 270)⟩ h (fun u M eM _ _ hu => nx u M hu ?_)
        rw [eM]
        conv => rhs; unfold wl_o
        rw [if_neg c]
        simp only [List.append_assoc]
      · refine am_goto (tgt := 245) dX12_writesRule_211 (by decide) ?_
        refine nx w _ h ?_
        conv => rhs; unfold wl_o
        rw [if_pos c, List.append_nil]
  have BP : ∀ (n i : Nat) (w : am_W) (M : List Int) (bc bs : Nat), n + i = PC → 4 * n ≤ bc → 27 * n ≤ bs → M = wl_t 30 ++ wl_k kw KC ++ (if i = 0 then [58] else wl_p pd pu pn i) → wl_O M b w → am_A (mh_G X) SC (d + 11) mX12_writesRule Q 75 [(0, .inr (.inr (some (9, 0)))), (1, .inl (l : Int)), (2, .inl (q : Int)), (3, .inl (i : Int))] [] w bc bs := by
    intro n
    induction n with
    | zero =>
      intro i w M bc bs hi hbc hbs hM h
      obtain rfl : i = PC := by omega
      have j1 : ¬ i = 0 := by omega
      rw [if_neg j1] at hM
      have j2 : (i : Int) ≤ (i : Int) := Int.le_refl _
      refine am_iload_n dX12_writesRule_75 (by repeat (first | exact List.Mem.head _ | apply List.Mem.tail)) ?_
      refine am_aload_n dX12_writesRule_76 (by repeat (first | exact List.Mem.head _ | apply List.Mem.tail)) ?_
      refine am_getf (f := 9) (v := .inr (.inr (some (72, 0)))) dX12_writesRule_77 hc_10 (by decide) wd_1558 (by decide) rfl rfl ?_
      refine am_iload_n dX12_writesRule_80 (by repeat (first | exact List.Mem.head _ | apply List.Mem.tail)) ?_
      refine am_aaload (kd := 5) (r := some (73, l)) dX12_writesRule_81 (by decide) rfl (by decide) (by decide) l0 l7 rfl ?_
      refine am_iload_n dX12_writesRule_82 (by repeat (first | exact List.Mem.head _ | apply List.Mem.tail)) ?_
      refine am_iaload (v := (i : Int)) dX12_writesRule_83 (by decide) rfl q0 q30 (by rw [← p1, ← h.2.2.1 73 (by decide)]; rfl) ?_
      refine am_icmpge (tgt := 189) dX12_writesRule_84 (by decide) (fun _ => ?_) (fun c => absurd j2 c)
      refine am_iconst dX12_writesRule_189 (by unfold am_rg; omega) ?_
      refine am_istore_n (ls' := [(3, .inl 0), (0, .inr (.inr (some (9, 0)))), (1, .inl (l : Int)), (2, .inl (q : Int))]) dX12_writesRule_190 (by decide) rfl ?_
      refine am_sub [1, 2, 3, 0] rfl (BO 4 0 w bc bs rfl ?_)
      unfold wl_o
      rw [List.append_nil, ← hM]; exact h
    | succ n ih =>
      intro i w M bc bs hi hbc hbs hM h
      have i1 : i < PC := by omega
      have i3 : i ≤ 3 := by omega
      have i5 : n + (i + 1) = PC := by omega
      have i6 : ¬ (PC : Int) ≤ (i : Int) := by omega
      have iz : (i : Int) ≤ 0 ↔ i = 0 := by omega
      have c4 : 4 ≤ bc := by omega
      have c27 : 27 ≤ bs := by omega
      have c5 : ∀ bc' : Nat, bc ≤ bc' + 4 → 4 * n ≤ bc' := fun bc' _ => by omega
      have c28 : ∀ bs' : Nat, bs ≤ bs' + 27 → 27 * n ≤ bs' := fun bs' _ => by omega
      obtain ⟨⟨d1, d2⟩, ⟨n1, n2⟩, u1, u2⟩ := p4 i i1
      have b1 := bk KC (Nat.le_refl _)
      have b2 := bp i (Nat.le_of_lt i1)
      have m1 : 1 ≤ M.length := by rw [hM]; exact wl_1 (wl_1 g30)
      have m2 : M.length ≤ 261 := by
        rw [hM]
        by_cases z : i = 0
        · rw [if_pos z]
          simp only [List.length_append]
          rw [← h30]
          exact Nat.le_trans (wl_c4 l30 b1 k3) (by decide : 60 ≤ 261)
        · rw [if_neg z]
          simp only [List.length_append]
          rw [← h30]
          exact Nat.le_trans (wl_c2 l30 b1 k3 b2 (Nat.le_succ_of_le i3)) (by decide : 260 ≤ 261)
      have go : ∀ (u : am_W) (N : List Int), N = (wl_t 30 ++ wl_k kw KC ++ wl_p pd pu pn i) ++ (if i = 0 then [58] else [44]) → M.length ≤ N.length → N.length ≤ M.length + 9 → wl_O N b u → am_A (mh_G X) SC (d + 11) mX12_writesRule Q 99 [(0, .inr (.inr (some (9, 0)))), (1, .inl (l : Int)), (2, .inl (q : Int)), (3, .inl (i : Int))] [] u bc bs := fun u N eN a1 a2 hu => by
        refine wl_99 hPV hX hl hq i3 d2 u2 n2 d1 n1 u1 ⟨Nat.le_trans m1 a1, wl_c5 m2 a2⟩ c4 c27 hu (fun u' M' bc' bs' e1 e2 eM _ _ hu' => ih (i + 1) u' M' bc' bs' i5 (c5 bc' e1) (c28 bs' e2) ?_ hu')
        rw [eM, eN, if_neg (Nat.succ_ne_zero i)]
        conv => rhs; unfold wl_p
        by_cases z : i = 0
        · rw [if_pos z, if_pos z]; simp only [List.append_assoc, List.cons_append, List.nil_append]
        · rw [if_neg z, if_neg z]; simp only [List.append_assoc, List.cons_append, List.nil_append]
      refine am_iload_n dX12_writesRule_75 (by repeat (first | exact List.Mem.head _ | apply List.Mem.tail)) ?_
      refine am_aload_n dX12_writesRule_76 (by repeat (first | exact List.Mem.head _ | apply List.Mem.tail)) ?_
      refine am_getf (f := 9) (v := .inr (.inr (some (72, 0)))) dX12_writesRule_77 hc_10 (by decide) wd_1558 (by decide) rfl rfl ?_
      refine am_iload_n dX12_writesRule_80 (by repeat (first | exact List.Mem.head _ | apply List.Mem.tail)) ?_
      refine am_aaload (kd := 5) (r := some (73, l)) dX12_writesRule_81 (by decide) rfl (by decide) (by decide) l0 l7 rfl ?_
      refine am_iload_n dX12_writesRule_82 (by repeat (first | exact List.Mem.head _ | apply List.Mem.tail)) ?_
      refine am_iaload (v := (PC : Int)) dX12_writesRule_83 (by decide) rfl q0 q30 (by rw [← p1, ← h.2.2.1 73 (by decide)]; rfl) ?_
      refine am_icmpge (tgt := 189) dX12_writesRule_84 (by decide) (fun c => absurd c i6) (fun _ => ?_)
      refine am_iload_n dX12_writesRule_87 (by repeat (first | exact List.Mem.head _ | apply List.Mem.tail)) ?_
      refine am_ifle (tgt := 99) dX12_writesRule_88 (by decide) (fun c => ?_) (fun c => ?_)
      · have z := iz.mp c
        refine go w M ?_ (Nat.le_refl _) (Nat.le_add_right _ _) h
        rw [hM, if_pos z, if_pos z, z]; show _ = _ ++ [] ++ _; rw [List.append_nil]
      · refine am_aload_n dX12_writesRule_91 (by repeat (first | exact List.Mem.head _ | apply List.Mem.tail)) ?_
        refine am_ldcwS (sid := 88) dX12_writesRule_92 rfl ?_
        refine am_iconst dX12_writesRule_95 (by unfold am_rg; omega) ?_
        refine am_callv (d' := d + 10) (kc := 0) (ks := 0) (as := [.inr (.inr (some (1000, 88))), .inl 1]) dX12_writesRule_96 wc_X12_writes wd_2258 wd_2260 wd_108 wd_122 ds_X12_writes (by decide) (by omega) (Nat.le_of_ble_eq_true rfl) (Nat.zero_le _) (Nat.zero_le _) hc_10 (by decide) rfl rfl (pX12_wr (d := d + 4) (j := 88) hX (by decide) (Nat.le_trans m2 (by decide)) h (Or.inl ⟨by decide, rfl⟩) (fun u1 N1 eN1 a1 a2 hu1 => ?_))
        have z : ¬ i = 0 := fun e => c (iz.mpr e)
        refine go u1 N1 ?_ a1 a2 hu1
        rw [eN1, hM, if_neg z, if_neg z, List.append_nil]; rfl
  have BK : ∀ (n i : Nat) (w : am_W) (bc bs : Nat), n + i = KC → 16 ≤ bc → 108 ≤ bs → wl_O (wl_t 30 ++ wl_k kw i) b w → am_A (mh_G X) SC (d + 11) mX12_writesRule Q 15 [(0, .inr (.inr (some (9, 0)))), (1, .inl (l : Int)), (2, .inl (q : Int)), (3, .inl (i : Int))] [] w bc bs := by
    intro n
    induction n with
    | zero =>
      intro i w bc bs hi hbc hbs h
      obtain rfl : i = KC := by omega
      have j2 : (i : Int) ≤ (i : Int) := Int.le_refl _
      have j4 : 4 * PC ≤ bc := by omega
      have j5 : 27 * PC ≤ bs := by omega
      have b1 := bk i (Nat.le_refl _)
      have m2 : (wl_t 30 ++ wl_k kw i).length ≤ 300 := by
        simp only [List.length_append]
        rw [← h30]
        exact Nat.le_trans (wl_c1 l30 b1 k3) (by decide)
      refine am_iload_n dX12_writesRule_15 (by repeat (first | exact List.Mem.head _ | apply List.Mem.tail)) ?_
      refine am_aload_n dX12_writesRule_16 (by repeat (first | exact List.Mem.head _ | apply List.Mem.tail)) ?_
      refine am_getf (f := 8) (v := .inr (.inr (some (70, 0)))) dX12_writesRule_17 hc_10 (by decide) wd_1557 (by decide) rfl rfl ?_
      refine am_iload_n dX12_writesRule_20 (by repeat (first | exact List.Mem.head _ | apply List.Mem.tail)) ?_
      refine am_aaload (kd := 5) (r := some (71, l)) dX12_writesRule_21 (by decide) rfl (by decide) (by decide) l0 l7 rfl ?_
      refine am_iload_n dX12_writesRule_22 (by repeat (first | exact List.Mem.head _ | apply List.Mem.tail)) ?_
      refine am_iaload (v := (i : Int)) dX12_writesRule_23 (by decide) rfl q0 q30 (by rw [← k1, ← h.2.2.1 71 (by decide)]; rfl) ?_
      refine am_icmpge (tgt := 65) dX12_writesRule_24 (by decide) (fun _ => ?_) (fun c => absurd j2 c)
      refine am_aload_n dX12_writesRule_65 (by repeat (first | exact List.Mem.head _ | apply List.Mem.tail)) ?_
      refine am_ldcwS (sid := 87) dX12_writesRule_66 rfl ?_
      refine am_iconst dX12_writesRule_69 (by unfold am_rg; omega) ?_
      refine am_callv (d' := d + 10) (kc := 0) (ks := 0) (as := [.inr (.inr (some (1000, 87))), .inl 1]) dX12_writesRule_70 wc_X12_writes wd_2258 wd_2260 wd_108 wd_122 ds_X12_writes (by decide) (by omega) (Nat.le_of_ble_eq_true rfl) (Nat.zero_le _) (Nat.zero_le _) hc_10 (by decide) rfl rfl (pX12_wr (d := d + 4) (j := 87) hX (by decide) m2 h (Or.inl ⟨by decide, rfl⟩) (fun u1 N1 eN1 a1 a2 hu1 => ?_))
      refine am_iconst dX12_writesRule_73 (by unfold am_rg; omega) ?_
      refine am_istore_n (ls' := [(3, .inl 0), (0, .inr (.inr (some (9, 0)))), (1, .inl (l : Int)), (2, .inl (q : Int))]) dX12_writesRule_74 (by decide) rfl ?_
      refine am_sub [1, 2, 3, 0] rfl (BP PC 0 u1 N1 _ _ rfl j4 j5 ?_ hu1)
      rw [eN1, if_pos rfl, List.append_nil]; rfl
    | succ n ih =>
      intro i w bc bs hi hbc hbs h
      have i1 : i < KC := by omega
      have i3 : i ≤ 3 := by omega
      have i5 : n + (i + 1) = KC := by omega
      have i6 : ¬ (KC : Int) ≤ (i : Int) := by omega
      have iz : (i : Int) ≤ 0 ↔ i = 0 := by omega
      obtain ⟨c1, c2⟩ := k4 i i1
      have b1 := bk i (Nat.le_of_lt i1)
      have m1 : 1 ≤ (wl_t 30 ++ wl_k kw i).length := wl_1 g30
      have m2 : (wl_t 30 ++ wl_k kw i).length ≤ 290 := by
        simp only [List.length_append]
        rw [← h30]
        exact wl_c1 l30 b1 (Nat.le_succ_of_le i3)
      have go : ∀ (u : am_W) (N : List Int), N = wl_t 30 ++ wl_k kw i ++ (if i = 0 then [] else [32, 111, 102]) → 1 ≤ N.length → N.length ≤ 300 → wl_O N b u → am_A (mh_G X) SC (d + 11) mX12_writesRule Q 39 [(0, .inr (.inr (some (9, 0)))), (1, .inl (l : Int)), (2, .inl (q : Int)), (3, .inl (i : Int))] [] u bc bs := fun u N eN a1 a2 hu => by
        refine wl_39 hX hl hq i3 c2 c1 ⟨a1, a2⟩ hu (fun u' M' eM _ _ hu' => ih (i + 1) u' bc bs i5 hbc hbs ?_)
        rw [eM, eN] at hu'
        unfold wl_k
        by_cases z : i = 0
        · rw [if_pos z]; rw [if_pos z] at hu'; simp only [List.append_assoc, List.cons_append, List.nil_append] at hu' ⊢; exact hu'
        · rw [if_neg z]; rw [if_neg z] at hu'; simp only [List.append_assoc, List.cons_append, List.nil_append] at hu' ⊢; exact hu' 
      refine am_iload_n dX12_writesRule_15 (by repeat (first | exact List.Mem.head _ | apply List.Mem.tail)) ?_
      refine am_aload_n dX12_writesRule_16 (by repeat (first | exact List.Mem.head _ | apply List.Mem.tail)) ?_
      refine am_getf (f := 8) (v := .inr (.inr (some (70, 0)))) dX12_writesRule_17 hc_10 (by decide) wd_1557 (by decide) rfl rfl ?_
      refine am_iload_n dX12_writesRule_20 (by repeat (first | exact List.Mem.head _ | apply List.Mem.tail)) ?_
      refine am_aaload (kd := 5) (r := some (71, l)) dX12_writesRule_21 (by decide) rfl (by decide) (by decide) l0 l7 rfl ?_
      refine am_iload_n dX12_writesRule_22 (by repeat (first | exact List.Mem.head _ | apply List.Mem.tail)) ?_
      refine am_iaload (v := (KC : Int)) dX12_writesRule_23 (by decide) rfl q0 q30 (by rw [← k1, ← h.2.2.1 71 (by decide)]; rfl) ?_
      refine am_icmpge (tgt := 65) dX12_writesRule_24 (by decide) (fun c => absurd c i6) (fun _ => ?_)
      refine am_iload_n dX12_writesRule_27 (by repeat (first | exact List.Mem.head _ | apply List.Mem.tail)) ?_
      refine am_ifle (tgt := 39) dX12_writesRule_28 (by decide) (fun c => ?_) (fun c => ?_)
      · refine go w _ ?_ m1 (Nat.le_trans m2 (by decide)) h
        rw [if_pos (iz.mp c), List.append_nil]
      · refine am_aload_n dX12_writesRule_31 (by repeat (first | exact List.Mem.head _ | apply List.Mem.tail)) ?_
        refine am_ldcwS (sid := 77) dX12_writesRule_32 rfl ?_
        refine am_iconst dX12_writesRule_35 (by unfold am_rg; omega) ?_
        refine am_callv (d' := d + 10) (kc := 0) (ks := 0) (as := [.inr (.inr (some (1000, 77))), .inl 0]) dX12_writesRule_36 wc_X12_writes wd_2258 wd_2260 wd_108 wd_122 ds_X12_writes (by decide) (by omega) (Nat.le_of_ble_eq_true rfl) (Nat.zero_le _) (Nat.zero_le _) hc_10 (by decide) rfl rfl (pX12_wr (d := d + 4) (j := 77) hX (by decide) (Nat.le_trans m2 (by decide)) h (Or.inr (Or.inr ⟨rfl, m1, rfl⟩)) (fun u1 N1 eN1 a1 a2 hu1 => ?_))
        refine go u1 N1 ?_ (Nat.le_trans m1 a1) (Nat.le_trans a2 (Nat.le_trans (Nat.add_le_add_right m2 9) (by decide))) hu1
        rw [eN1, if_neg (fun e => c (iz.mpr e)), List.append_assoc]; rfl
  refine am_M_of (by decide) (Nat.le_of_ble_eq_true rfl) ?_
  refine am_aload_n dX12_writesRule_0 (by repeat (first | exact List.Mem.head _ | apply List.Mem.tail)) ?_
  refine am_iconst dX12_writesRule_1 (by unfold am_rg; omega) ?_
  refine am_putf (f := 98) dX12_writesRule_2 hc_10 (by decide) wd_1647 rfl (Or.inl rfl) (Or.inl (by decide)) rfl ?_
  have h0 : wl_O [] b (am_up b.1 9 0 98 0, b.2) := ⟨by dsimp only; rw [am_up_s]; rfl, fun k hk => absurd hk (Nat.not_lt_zero k), fun t ht => am_up_t (fun e => ht (by rw [e]; decide)), fun k hk => am_up_k hk, fun _ _ => rfl⟩
  refine am_aload_n dX12_writesRule_5 (by repeat (first | exact List.Mem.head _ | apply List.Mem.tail)) ?_
  refine am_ldcwS (sid := 76) dX12_writesRule_6 rfl ?_
  refine am_iconst dX12_writesRule_9 (by unfold am_rg; omega) ?_
  refine am_callv (d' := d + 10) (kc := 0) (ks := 0) (as := [.inr (.inr (some (1000, 76))), .inl 0]) dX12_writesRule_10 wc_X12_writes wd_2258 wd_2260 wd_108 wd_122 ds_X12_writes (by decide) (by omega) (Nat.le_of_ble_eq_true rfl) (Nat.zero_le _) (Nat.zero_le _) hc_10 (by decide) rfl rfl (pX12_wr (d := d + 4) (j := 76) hX (by decide) (by decide) h0 (Or.inr (Or.inl ⟨rfl, rfl, rfl⟩)) (fun u1 N1 eN1 a1 a2 hu1 => ?_))
  refine am_iconst dX12_writesRule_13 (by unfold am_rg; omega) ?_
  refine am_istore_n (ls' := [(3, .inl 0), (0, .inr (.inr (some (9, 0)))), (1, .inl (l : Int)), (2, .inl (q : Int))]) dX12_writesRule_14 (by decide) rfl ?_
  refine am_sub [1, 2, 3, 0] rfl (BK KC 0 u1 _ _ rfl hkc hks ?_)
  rw [eN1] at hu1
  exact hu1
