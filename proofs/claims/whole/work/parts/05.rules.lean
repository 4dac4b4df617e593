-- RULES: an instruction each: stack, locals, numbers, branches
section AMR
variable {G : am_G} {SC : Nat → Nat} {d : Nat} {Y : am_Y} {Q : Option am_V → am_W → Prop} {pc bc bs : Nat} {ls : List (Nat × am_V)} {st : List am_V} {w : am_W}
theorem am_iconst {n : Int} (hd : decode Y.2.1 pc = .ok (.iconst n, 1)) (hn : am_rg n) (k : am_A G SC d Y Q (pc + 1) ls (.inl n :: st) w bc bs) : am_A G SC d Y Q pc ls st w bc bs := by
  intro p l e R s m args below meth c H locs cells slots QQ Dg cI ad A lsA ad0 w0 hX hH hg h1 h2 hl ho hs hR
  exact lv_iconst hX.1 hX.2.1 hd rfl (k p l e R s m args below meth c H locs cells slots QQ Dg cI ad A lsA ad0 w0 hX hH hg h1 h2 hl ho (am_oc hn hs) hR)
theorem am_bipush {n : Int} (hd : decode Y.2.1 pc = .ok (.bipush n, 2)) (hv : (Int8.ofInt n).toInt32 = Int32.ofInt n) (hn : am_rg n) (k : am_A G SC d Y Q (pc + 2) ls (.inl n :: st) w bc bs) : am_A G SC d Y Q pc ls st w bc bs := by
  intro p l e R s m args below meth c H locs cells slots QQ Dg cI ad A lsA ad0 w0 hX hH hg h1 h2 hl ho hs hR
  exact lv_bipush hX.1 hX.2.1 hd hv (k p l e R s m args below meth c H locs cells slots QQ Dg cI ad A lsA ad0 w0 hX hH hg h1 h2 hl ho (am_oc hn hs) hR)
theorem am_sipush {n : Int} (hd : decode Y.2.1 pc = .ok (.sipush n, 3)) (hv : (Int16.ofInt n).toInt32 = Int32.ofInt n) (hn : am_rg n) (k : am_A G SC d Y Q (pc + 3) ls (.inl n :: st) w bc bs) : am_A G SC d Y Q pc ls st w bc bs := by
  intro p l e R s m args below meth c H locs cells slots QQ Dg cI ad A lsA ad0 w0 hX hH hg h1 h2 hl ho hs hR
  exact lv_sipush hX.1 hX.2.1 hd hv (k p l e R s m args below meth c H locs cells slots QQ Dg cI ad A lsA ad0 w0 hX hH hg h1 h2 hl ho (am_oc hn hs) hR)
theorem am_ldc {n : Int} {i : Nat} (hd : decode Y.2.1 pc = .ok (.ldc i, 2)) (hw : Cond.constant Y.1.cls i (Int32.ofInt n) ∈ am_TW) (hn : am_rg n) (k : am_A G SC d Y Q (pc + 2) ls (.inl n :: st) w bc bs) : am_A G SC d Y Q pc ls st w bc bs := by
  intro p l e R s m args below meth c H locs cells slots QQ Dg cI ad A lsA ad0 w0 hX hH hg h1 h2 hl ho hs hR
  exact lv_ldc hX.1 hX.2.1 hX.2.2.2.2.2.1 (hX.2.2.2.2.2.2.1 _ hw) hd (k p l e R s m args below meth c H locs cells slots QQ Dg cI ad A lsA ad0 w0 hX hH hg h1 h2 hl ho (am_oc hn hs) hR)
theorem am_ldcw {n : Int} {i : Nat} (hd : decode Y.2.1 pc = .ok (.ldc_w i, 3)) (hw : Cond.constant Y.1.cls i (Int32.ofInt n) ∈ am_TW) (hn : am_rg n) (k : am_A G SC d Y Q (pc + 3) ls (.inl n :: st) w bc bs) : am_A G SC d Y Q pc ls st w bc bs := by
  intro p l e R s m args below meth c H locs cells slots QQ Dg cI ad A lsA ad0 w0 hX hH hg h1 h2 hl ho hs hR
  exact lv_ldcw hX.1 hX.2.1 hX.2.2.2.2.2.1 (hX.2.2.2.2.2.2.1 _ hw) hd (k p l e R s m args below meth c H locs cells slots QQ Dg cI ad A lsA ad0 w0 hX hH hg h1 h2 hl ho (am_oc hn hs) hR)
theorem am_ldc2 {x : Int64} {i : Nat} (hd : decode Y.2.1 pc = .ok (.ldc2_w i, 3)) (hw : Cond.constantLong Y.1.cls i x ∈ am_TW) (k : am_A G SC d Y Q (pc + 3) ls (.inr (.inl x) :: st) w bc bs) : am_A G SC d Y Q pc ls st w bc bs := by
  intro p l e R s m args below meth c H locs cells slots QQ Dg cI ad A lsA ad0 w0 hX hH hg h1 h2 hl ho hs hR
  exact lv_ldc2 hX.1 hX.2.1 hX.2.2.2.2.2.1 (hX.2.2.2.2.2.2.1 _ hw) hd (k p l e R s m args below meth c H locs cells slots QQ Dg cI ad A lsA ad0 w0 hX hH hg h1 h2 hl ho (am_oc trivial hs) hR)
theorem am_lconst {n : Fin 2} {x : Int64} (hd : decode Y.2.1 pc = .ok (.lconst n, 1)) (hv : Int64.ofNat (n : Nat) = x) (k : am_A G SC d Y Q (pc + 1) ls (.inr (.inl x) :: st) w bc bs) : am_A G SC d Y Q pc ls st w bc bs := by
  intro p l e R s m args below meth c H locs cells slots QQ Dg cI ad A lsA ad0 w0 hX hH hg h1 h2 hl ho hs hR
  exact lv_lconst hX.1 hX.2.1 hd hv (k p l e R s m args below meth c H locs cells slots QQ Dg cI ad A lsA ad0 w0 hX hH hg h1 h2 hl ho (am_oc trivial hs) hR)
theorem am_null (hd : decode Y.2.1 pc = .ok (.aconst_null, 1)) (k : am_A G SC d Y Q (pc + 1) ls (.inr (.inr none) :: st) w bc bs) : am_A G SC d Y Q pc ls st w bc bs := by
  intro p l e R s m args below meth c H locs cells slots QQ Dg cI ad A lsA ad0 w0 hX hH hg h1 h2 hl ho hs hR
  exact lv_null hX.1 hX.2.1 hd (k p l e R s m args below meth c H locs cells slots QQ Dg cI ad A lsA ad0 w0 hX hH hg h1 h2 hl ho (am_oc trivial hs) hR)
-- loads and stores
theorem am_iload_n {n : Fin 4} {x : Int} (hd : decode Y.2.1 pc = .ok (.iload_n n, 1)) (hm : ((n : Nat), (.inl x : am_V)) ∈ ls) (k : am_A G SC d Y Q (pc + 1) ls (.inl x :: st) w bc bs) : am_A G SC d Y Q pc ls st w bc bs := by
  intro p l e R s m args below meth c H locs cells slots QQ Dg cI ad A lsA ad0 w0 hX hH hg h1 h2 hl ho hs hR
  exact lv_iload_n hX.1 hX.2.1 hd rfl (am_lat hl hm) (k p l e R s m args below meth c H locs cells slots QQ Dg cI ad A lsA ad0 w0 hX hH hg h1 h2 hl ho (am_oc (ho _ hm) hs) hR)
theorem am_iload {n : Nat} {x : Int} (hd : decode Y.2.1 pc = .ok (.iload n, 2)) (hm : (n, (.inl x : am_V)) ∈ ls) (k : am_A G SC d Y Q (pc + 2) ls (.inl x :: st) w bc bs) : am_A G SC d Y Q pc ls st w bc bs := by
  intro p l e R s m args below meth c H locs cells slots QQ Dg cI ad A lsA ad0 w0 hX hH hg h1 h2 hl ho hs hR
  exact lv_iload hX.1 hX.2.1 hd (am_lat hl hm) (k p l e R s m args below meth c H locs cells slots QQ Dg cI ad A lsA ad0 w0 hX hH hg h1 h2 hl ho (am_oc (ho _ hm) hs) hR)
theorem am_lload_n {n : Fin 4} {x : Int64} (hd : decode Y.2.1 pc = .ok (.lload_n n, 1)) (hm : ((n : Nat), (.inr (.inl x) : am_V)) ∈ ls) (k : am_A G SC d Y Q (pc + 1) ls (.inr (.inl x) :: st) w bc bs) : am_A G SC d Y Q pc ls st w bc bs := by
  intro p l e R s m args below meth c H locs cells slots QQ Dg cI ad A lsA ad0 w0 hX hH hg h1 h2 hl ho hs hR
  exact lv_lload_n hX.1 hX.2.1 hd rfl (am_lat hl hm) (k p l e R s m args below meth c H locs cells slots QQ Dg cI ad A lsA ad0 w0 hX hH hg h1 h2 hl ho (am_oc trivial hs) hR)
theorem am_lload {n : Nat} {x : Int64} (hd : decode Y.2.1 pc = .ok (.lload n, 2)) (hm : (n, (.inr (.inl x) : am_V)) ∈ ls) (k : am_A G SC d Y Q (pc + 2) ls (.inr (.inl x) :: st) w bc bs) : am_A G SC d Y Q pc ls st w bc bs := by
  intro p l e R s m args below meth c H locs cells slots QQ Dg cI ad A lsA ad0 w0 hX hH hg h1 h2 hl ho hs hR
  exact lv_lload hX.1 hX.2.1 hd (am_lat hl hm) (k p l e R s m args below meth c H locs cells slots QQ Dg cI ad A lsA ad0 w0 hX hH hg h1 h2 hl ho (am_oc trivial hs) hR)
theorem am_aload_n {n : Fin 4} {r : Option am_I} (hd : decode Y.2.1 pc = .ok (.aload_n n, 1)) (hm : ((n : Nat), (.inr (.inr r) : am_V)) ∈ ls) (k : am_A G SC d Y Q (pc + 1) ls (.inr (.inr r) :: st) w bc bs) : am_A G SC d Y Q pc ls st w bc bs := by
  intro p l e R s m args below meth c H locs cells slots QQ Dg cI ad A lsA ad0 w0 hX hH hg h1 h2 hl ho hs hR
  have q := k p l e R s m args below meth c H locs cells slots QQ Dg cI ad A lsA ad0 w0 hX hH hg h1 h2 hl ho (am_oc (ho _ hm) hs) hR
  have hl2 := am_lat hl hm
  cases r with
  | none => exact lv_aload_nN hX.1 hX.2.1 hd rfl hl2 q
  | some id => exact lv_aload_n hX.1 hX.2.1 hd rfl hl2 q
theorem am_aload {n : Nat} {r : Option am_I} (hd : decode Y.2.1 pc = .ok (.aload n, 2)) (hm : (n, (.inr (.inr r) : am_V)) ∈ ls) (k : am_A G SC d Y Q (pc + 2) ls (.inr (.inr r) :: st) w bc bs) : am_A G SC d Y Q pc ls st w bc bs := by
  intro p l e R s m args below meth c H locs cells slots QQ Dg cI ad A lsA ad0 w0 hX hH hg h1 h2 hl ho hs hR
  have q := k p l e R s m args below meth c H locs cells slots QQ Dg cI ad A lsA ad0 w0 hX hH hg h1 h2 hl ho (am_oc (ho _ hm) hs) hR
  have hl2 := am_lat hl hm
  cases r with
  | none => exact lv_aloadN hX.1 hX.2.1 hd hl2 q
  | some id => exact lv_aload hX.1 hX.2.1 hd hl2 q
theorem am_istore_n {n : Fin 4} {x : Int} {ls' : List (Nat × am_V)} (hd : decode Y.2.1 pc = .ok (.istore_n n, 1)) (hn : (n : Nat) < Y.2.2.1) (hl' : am_s1 n (.inl x) ls = ls') (k : am_A G SC d Y Q (pc + 1) ls' st w bc bs) : am_A G SC d Y Q pc ls (.inl x :: st) w bc bs := by
  intro p l e R s m args below meth c H locs cells slots QQ Dg cI ad A lsA ad0 w0 hX hH hg h1 h2 hl ho hs hR
  subst hl'
  exact lv_istore_n hX.1 hX.2.1 hd rfl hl hn (am_s1_cl ad n (.inl x) ls) (fun ls2 hl2 => k p l e R s m args below meth c H locs cells slots QQ Dg cI ad A ls2 ad0 w0 hX hH hg h1 h2 hl2 (am_s1_ok (am_o1 hs) ho) (am_o2 hs) hR)
theorem am_istore {n : Nat} {x : Int} {ls' : List (Nat × am_V)} (hd : decode Y.2.1 pc = .ok (.istore n, 2)) (hn : n < Y.2.2.1) (hl' : am_s1 n (.inl x) ls = ls') (k : am_A G SC d Y Q (pc + 2) ls' st w bc bs) : am_A G SC d Y Q pc ls (.inl x :: st) w bc bs := by
  intro p l e R s m args below meth c H locs cells slots QQ Dg cI ad A lsA ad0 w0 hX hH hg h1 h2 hl ho hs hR
  subst hl'
  exact lv_istore hX.1 hX.2.1 hd hl hn (am_s1_cl ad n (.inl x) ls) (fun ls2 hl2 => k p l e R s m args below meth c H locs cells slots QQ Dg cI ad A ls2 ad0 w0 hX hH hg h1 h2 hl2 (am_s1_ok (am_o1 hs) ho) (am_o2 hs) hR)
theorem am_lstore_n {n : Fin 4} {x : Int64} {ls' : List (Nat × am_V)} (hd : decode Y.2.1 pc = .ok (.lstore_n n, 1)) (hn : (n : Nat) + 1 < Y.2.2.1) (hl' : am_s2 n (.inr (.inl x)) ls = ls') (k : am_A G SC d Y Q (pc + 1) ls' st w bc bs) : am_A G SC d Y Q pc ls (.inr (.inl x) :: st) w bc bs := by
  intro p l e R s m args below meth c H locs cells slots QQ Dg cI ad A lsA ad0 w0 hX hH hg h1 h2 hl ho hs hR
  subst hl'
  exact lv_lstore_n hX.1 hX.2.1 hd rfl hl hn (am_s2_cl ad n (.inr (.inl x)) ls) (fun ls2 hl2 => k p l e R s m args below meth c H locs cells slots QQ Dg cI ad A ls2 ad0 w0 hX hH hg h1 h2 hl2 (am_s2_ok trivial ho) (am_o2 hs) hR)
theorem am_lstore {n : Nat} {x : Int64} {ls' : List (Nat × am_V)} (hd : decode Y.2.1 pc = .ok (.lstore n, 2)) (hn : n + 1 < Y.2.2.1) (hl' : am_s2 n (.inr (.inl x)) ls = ls') (k : am_A G SC d Y Q (pc + 2) ls' st w bc bs) : am_A G SC d Y Q pc ls (.inr (.inl x) :: st) w bc bs := by
  intro p l e R s m args below meth c H locs cells slots QQ Dg cI ad A lsA ad0 w0 hX hH hg h1 h2 hl ho hs hR
  subst hl'
  exact lv_lstore hX.1 hX.2.1 hd hl hn (am_s2_cl ad n (.inr (.inl x)) ls) (fun ls2 hl2 => k p l e R s m args below meth c H locs cells slots QQ Dg cI ad A ls2 ad0 w0 hX hH hg h1 h2 hl2 (am_s2_ok trivial ho) (am_o2 hs) hR)
theorem am_astore_n {n : Fin 4} {r : Option am_I} {ls' : List (Nat × am_V)} (hd : decode Y.2.1 pc = .ok (.astore_n n, 1)) (hn : (n : Nat) < Y.2.2.1) (hl' : am_s1 n (.inr (.inr r)) ls = ls') (k : am_A G SC d Y Q (pc + 1) ls' st w bc bs) : am_A G SC d Y Q pc ls (.inr (.inr r) :: st) w bc bs := by
  intro p l e R s m args below meth c H locs cells slots QQ Dg cI ad A lsA ad0 w0 hX hH hg h1 h2 hl ho hs hR
  subst hl'
  have q := fun ls2 hl2 => k p l e R s m args below meth c H locs cells slots QQ Dg cI ad A ls2 ad0 w0 hX hH hg h1 h2 hl2 (am_s1_ok (am_o1 hs) ho) (am_o2 hs) hR
  cases r with
  | none => exact lv_astore_nN hX.1 hX.2.1 hd rfl hl hn (am_s1_cl ad n (.inr (.inr none)) ls) q
  | some id => exact lv_astore_n hX.1 hX.2.1 hd rfl hl hn (am_s1_cl ad n (.inr (.inr (some id))) ls) q
theorem am_astore {n : Nat} {r : Option am_I} {ls' : List (Nat × am_V)} (hd : decode Y.2.1 pc = .ok (.astore n, 2)) (hn : n < Y.2.2.1) (hl' : am_s1 n (.inr (.inr r)) ls = ls') (k : am_A G SC d Y Q (pc + 2) ls' st w bc bs) : am_A G SC d Y Q pc ls (.inr (.inr r) :: st) w bc bs := by
  intro p l e R s m args below meth c H locs cells slots QQ Dg cI ad A lsA ad0 w0 hX hH hg h1 h2 hl ho hs hR
  subst hl'
  have q := fun ls2 hl2 => k p l e R s m args below meth c H locs cells slots QQ Dg cI ad A ls2 ad0 w0 hX hH hg h1 h2 hl2 (am_s1_ok (am_o1 hs) ho) (am_o2 hs) hR
  cases r with
  | none => exact lv_astoreN hX.1 hX.2.1 hd hl hn (am_s1_cl ad n (.inr (.inr none)) ls) q
  | some id => exact lv_astore hX.1 hX.2.1 hd hl hn (am_s1_cl ad n (.inr (.inr (some id))) ls) q
theorem am_iinc {n : Nat} {z x : Int} {ls' : List (Nat × am_V)} (hd : decode Y.2.1 pc = .ok (.iinc n z, 3)) (hm : (n, (.inl x : am_V)) ∈ ls) (hn : n < Y.2.2.1) (hl' : am_s1 n (.inl (am_w (x + z))) ls = ls') (k : am_A G SC d Y Q (pc + 3) ls' st w bc bs) : am_A G SC d Y Q pc ls st w bc bs := by
  intro p l e R s m args below meth c H locs cells slots QQ Dg cI ad A lsA ad0 w0 hX hH hg h1 h2 hl ho hs hR
  subst hl'
  obtain ⟨i, hi⟩ := List.getElem?_of_mem hm
  have hi2 : (am_cl2 ad ls)[i]? = some (n, .int (Int32.ofInt x)) := by unfold am_cl2; rw [List.getElem?_map, hi]; rfl
  exact lv_iinc hX.1 hX.2.1 hd hl hi2 (v := Int32.ofInt (am_w (x + z))) (am_addI x z) hn (am_s1_cl ad n (.inl (am_w (x + z))) ls) (fun ls2 hl2 => k p l e R s m args below meth c H locs cells slots QQ Dg cI ad A ls2 ad0 w0 hX hH hg h1 h2 hl2 (am_s1_ok (am_w_rg _) ho) hs hR)
-- arithmetic
theorem am_iadd {x y : Int} (hd : decode Y.2.1 pc = .ok (.iadd, 1)) (k : am_A G SC d Y Q (pc + 1) ls (.inl (am_w (x + y)) :: st) w bc bs) : am_A G SC d Y Q pc ls (.inl y :: .inl x :: st) w bc bs := by
  intro p l e R s m args below meth c H locs cells slots QQ Dg cI ad A lsA ad0 w0 hX hH hg h1 h2 hl ho hs hR
  refine lv_iadd hX.1 hX.2.1 hd ?_
  rw [am_addI]
  exact k p l e R s m args below meth c H locs cells slots QQ Dg cI ad A lsA ad0 w0 hX hH hg h1 h2 hl ho (am_oc (am_w_rg _) (am_o2 (am_o2 hs))) hR
theorem am_isub {x y : Int} (hd : decode Y.2.1 pc = .ok (.isub, 1)) (k : am_A G SC d Y Q (pc + 1) ls (.inl (am_w (x - y)) :: st) w bc bs) : am_A G SC d Y Q pc ls (.inl y :: .inl x :: st) w bc bs := by
  intro p l e R s m args below meth c H locs cells slots QQ Dg cI ad A lsA ad0 w0 hX hH hg h1 h2 hl ho hs hR
  refine lv_isub hX.1 hX.2.1 hd ?_
  rw [am_subI]
  exact k p l e R s m args below meth c H locs cells slots QQ Dg cI ad A lsA ad0 w0 hX hH hg h1 h2 hl ho (am_oc (am_w_rg _) (am_o2 (am_o2 hs))) hR
theorem am_imul {x y : Int} (hd : decode Y.2.1 pc = .ok (.imul, 1)) (k : am_A G SC d Y Q (pc + 1) ls (.inl (am_w (x * y)) :: st) w bc bs) : am_A G SC d Y Q pc ls (.inl y :: .inl x :: st) w bc bs := by
  intro p l e R s m args below meth c H locs cells slots QQ Dg cI ad A lsA ad0 w0 hX hH hg h1 h2 hl ho hs hR
  refine lv_imul hX.1 hX.2.1 hd ?_
  rw [am_mulI]
  exact k p l e R s m args below meth c H locs cells slots QQ Dg cI ad A lsA ad0 w0 hX hH hg h1 h2 hl ho (am_oc (am_w_rg _) (am_o2 (am_o2 hs))) hR
theorem am_idiv {x y : Int} (hd : decode Y.2.1 pc = .ok (.idiv, 1)) (hy : y ≠ 0) (k : am_A G SC d Y Q (pc + 1) ls (.inl (am_w (x.tdiv y)) :: st) w bc bs) : am_A G SC d Y Q pc ls (.inl y :: .inl x :: st) w bc bs := by
  intro p l e R s m args below meth c H locs cells slots QQ Dg cI ad A lsA ad0 w0 hX hH hg h1 h2 hl ho hs hR
  have ry : am_rg y := am_o1 hs
  have rx : am_rg x := am_o1 (am_o2 hs)
  refine lv_idiv hX.1 hX.2.1 hd (fun q => hy ((am_eqI ry am_rg0).mp (by rw [am_0]; exact q))) ?_
  rw [am_divI rx ry]
  exact k p l e R s m args below meth c H locs cells slots QQ Dg cI ad A lsA ad0 w0 hX hH hg h1 h2 hl ho (am_oc (am_w_rg _) (am_o2 (am_o2 hs))) hR
theorem am_irem {x y : Int} (hd : decode Y.2.1 pc = .ok (.irem, 1)) (hy : y ≠ 0) (k : am_A G SC d Y Q (pc + 1) ls (.inl (am_w (x.tmod y)) :: st) w bc bs) : am_A G SC d Y Q pc ls (.inl y :: .inl x :: st) w bc bs := by
  intro p l e R s m args below meth c H locs cells slots QQ Dg cI ad A lsA ad0 w0 hX hH hg h1 h2 hl ho hs hR
  have ry : am_rg y := am_o1 hs
  have rx : am_rg x := am_o1 (am_o2 hs)
  refine lv_irem hX.1 hX.2.1 hd (fun q => hy ((am_eqI ry am_rg0).mp (by rw [am_0]; exact q))) ?_
  rw [am_remI rx ry]
  exact k p l e R s m args below meth c H locs cells slots QQ Dg cI ad A lsA ad0 w0 hX hH hg h1 h2 hl ho (am_oc (am_w_rg _) (am_o2 (am_o2 hs))) hR
def am_and (x y : Int) : Int := (Int32.ofInt x &&& Int32.ofInt y).toInt
def am_or (x y : Int) : Int := (Int32.ofInt x ||| Int32.ofInt y).toInt
def am_xor (x y : Int) : Int := (Int32.ofInt x ^^^ Int32.ofInt y).toInt
def am_shl (x y : Int) : Int := (Int32.ofInt x <<< (Int32.ofInt y &&& 31)).toInt
def am_shr (x y : Int) : Int := (Int32.ofInt x >>> (Int32.ofInt y &&& 31)).toInt
def am_ushr (x y : Int) : Int := ((Int32.ofInt x).toUInt32 >>> ((Int32.ofInt y).toUInt32 &&& Int32.toUInt32 31)).toInt32.toInt
def am_i2b (x : Int) : Int := (Int32.ofInt x).toInt8.toInt32.toInt
def am_i2s (x : Int) : Int := (Int32.ofInt x).toInt16.toInt32.toInt
def am_i2c (x : Int) : Int := ((Int32.ofInt x).toUInt32 % 65536).toInt32.toInt
theorem am_iand {x y : Int} (hd : decode Y.2.1 pc = .ok (.iand, 1)) (k : am_A G SC d Y Q (pc + 1) ls (.inl (am_and x y) :: st) w bc bs) : am_A G SC d Y Q pc ls (.inl y :: .inl x :: st) w bc bs := by
  intro p l e R s m args below meth c H locs cells slots QQ Dg cI ad A lsA ad0 w0 hX hH hg h1 h2 hl ho hs hR
  have q := k p l e R s m args below meth c H locs cells slots QQ Dg cI ad A lsA ad0 w0 hX hH hg h1 h2 hl ho (am_oc (am_T_rg _) (am_o2 (am_o2 hs))) hR
  refine lv_iand hX.1 hX.2.1 hd ?_
  simp only [List.map_cons, am_cv, am_and, am_ofT] at q
  exact q
theorem am_ior {x y : Int} (hd : decode Y.2.1 pc = .ok (.ior, 1)) (k : am_A G SC d Y Q (pc + 1) ls (.inl (am_or x y) :: st) w bc bs) : am_A G SC d Y Q pc ls (.inl y :: .inl x :: st) w bc bs := by
  intro p l e R s m args below meth c H locs cells slots QQ Dg cI ad A lsA ad0 w0 hX hH hg h1 h2 hl ho hs hR
  have q := k p l e R s m args below meth c H locs cells slots QQ Dg cI ad A lsA ad0 w0 hX hH hg h1 h2 hl ho (am_oc (am_T_rg _) (am_o2 (am_o2 hs))) hR
  refine lv_ior hX.1 hX.2.1 hd ?_
  simp only [List.map_cons, am_cv, am_or, am_ofT] at q
  exact q
theorem am_ixor {x y : Int} (hd : decode Y.2.1 pc = .ok (.ixor, 1)) (k : am_A G SC d Y Q (pc + 1) ls (.inl (am_xor x y) :: st) w bc bs) : am_A G SC d Y Q pc ls (.inl y :: .inl x :: st) w bc bs := by
  intro p l e R s m args below meth c H locs cells slots QQ Dg cI ad A lsA ad0 w0 hX hH hg h1 h2 hl ho hs hR
  have q := k p l e R s m args below meth c H locs cells slots QQ Dg cI ad A lsA ad0 w0 hX hH hg h1 h2 hl ho (am_oc (am_T_rg _) (am_o2 (am_o2 hs))) hR
  refine lv_ixor hX.1 hX.2.1 hd ?_
  simp only [List.map_cons, am_cv, am_xor, am_ofT] at q
  exact q
theorem am_ishl {x y : Int} (hd : decode Y.2.1 pc = .ok (.ishl, 1)) (k : am_A G SC d Y Q (pc + 1) ls (.inl (am_shl x y) :: st) w bc bs) : am_A G SC d Y Q pc ls (.inl y :: .inl x :: st) w bc bs := by
  intro p l e R s m args below meth c H locs cells slots QQ Dg cI ad A lsA ad0 w0 hX hH hg h1 h2 hl ho hs hR
  have q := k p l e R s m args below meth c H locs cells slots QQ Dg cI ad A lsA ad0 w0 hX hH hg h1 h2 hl ho (am_oc (am_T_rg _) (am_o2 (am_o2 hs))) hR
  refine lv_ishl hX.1 hX.2.1 hd ?_
  simp only [List.map_cons, am_cv, am_shl, am_ofT] at q
  exact q
theorem am_ishr {x y : Int} (hd : decode Y.2.1 pc = .ok (.ishr, 1)) (k : am_A G SC d Y Q (pc + 1) ls (.inl (am_shr x y) :: st) w bc bs) : am_A G SC d Y Q pc ls (.inl y :: .inl x :: st) w bc bs := by
  intro p l e R s m args below meth c H locs cells slots QQ Dg cI ad A lsA ad0 w0 hX hH hg h1 h2 hl ho hs hR
  have q := k p l e R s m args below meth c H locs cells slots QQ Dg cI ad A lsA ad0 w0 hX hH hg h1 h2 hl ho (am_oc (am_T_rg _) (am_o2 (am_o2 hs))) hR
  refine lv_ishr hX.1 hX.2.1 hd ?_
  simp only [List.map_cons, am_cv, am_shr, am_ofT] at q
  exact q
theorem am_iushr {x y : Int} (hd : decode Y.2.1 pc = .ok (.iushr, 1)) (k : am_A G SC d Y Q (pc + 1) ls (.inl (am_ushr x y) :: st) w bc bs) : am_A G SC d Y Q pc ls (.inl y :: .inl x :: st) w bc bs := by
  intro p l e R s m args below meth c H locs cells slots QQ Dg cI ad A lsA ad0 w0 hX hH hg h1 h2 hl ho hs hR
  have q := k p l e R s m args below meth c H locs cells slots QQ Dg cI ad A lsA ad0 w0 hX hH hg h1 h2 hl ho (am_oc (am_T_rg _) (am_o2 (am_o2 hs))) hR
  refine lv_iushr hX.1 hX.2.1 hd rfl ?_
  simp only [List.map_cons, am_cv, am_ushr, am_ofT] at q
  exact q
theorem am_i2bR {x : Int} (hd : decode Y.2.1 pc = .ok (.i2b, 1)) (k : am_A G SC d Y Q (pc + 1) ls (.inl (am_i2b x) :: st) w bc bs) : am_A G SC d Y Q pc ls (.inl x :: st) w bc bs := by
  intro p l e R s m args below meth c H locs cells slots QQ Dg cI ad A lsA ad0 w0 hX hH hg h1 h2 hl ho hs hR
  have q := k p l e R s m args below meth c H locs cells slots QQ Dg cI ad A lsA ad0 w0 hX hH hg h1 h2 hl ho (am_oc (am_T_rg _) (am_o2 hs)) hR
  refine lv_i2b hX.1 hX.2.1 hd rfl ?_
  simp only [List.map_cons, am_cv, am_i2b, am_ofT] at q
  exact q
theorem am_i2sR {x : Int} (hd : decode Y.2.1 pc = .ok (.i2s, 1)) (k : am_A G SC d Y Q (pc + 1) ls (.inl (am_i2s x) :: st) w bc bs) : am_A G SC d Y Q pc ls (.inl x :: st) w bc bs := by
  intro p l e R s m args below meth c H locs cells slots QQ Dg cI ad A lsA ad0 w0 hX hH hg h1 h2 hl ho hs hR
  have q := k p l e R s m args below meth c H locs cells slots QQ Dg cI ad A lsA ad0 w0 hX hH hg h1 h2 hl ho (am_oc (am_T_rg _) (am_o2 hs)) hR
  refine lv_i2s hX.1 hX.2.1 hd rfl ?_
  simp only [List.map_cons, am_cv, am_i2s, am_ofT] at q
  exact q
theorem am_i2cR {x : Int} (hd : decode Y.2.1 pc = .ok (.i2c, 1)) (k : am_A G SC d Y Q (pc + 1) ls (.inl (am_i2c x) :: st) w bc bs) : am_A G SC d Y Q pc ls (.inl x :: st) w bc bs := by
  intro p l e R s m args below meth c H locs cells slots QQ Dg cI ad A lsA ad0 w0 hX hH hg h1 h2 hl ho hs hR
  have q := k p l e R s m args below meth c H locs cells slots QQ Dg cI ad A lsA ad0 w0 hX hH hg h1 h2 hl ho (am_oc (am_T_rg _) (am_o2 hs)) hR
  refine lv_i2c hX.1 hX.2.1 hd rfl ?_
  simp only [List.map_cons, am_cv, am_i2c, am_ofT] at q
  exact q
theorem am_ladd {x y : Int64} (hd : decode Y.2.1 pc = .ok (.ladd, 1)) (k : am_A G SC d Y Q (pc + 1) ls (.inr (.inl (x + y)) :: st) w bc bs) : am_A G SC d Y Q pc ls (.inr (.inl y) :: .inr (.inl x) :: st) w bc bs := by
  intro p l e R s m args below meth c H locs cells slots QQ Dg cI ad A lsA ad0 w0 hX hH hg h1 h2 hl ho hs hR
  exact lv_ladd hX.1 hX.2.1 hd (k p l e R s m args below meth c H locs cells slots QQ Dg cI ad A lsA ad0 w0 hX hH hg h1 h2 hl ho (am_oc trivial (am_o2 (am_o2 hs))) hR)
theorem am_lsub {x y : Int64} (hd : decode Y.2.1 pc = .ok (.lsub, 1)) (k : am_A G SC d Y Q (pc + 1) ls (.inr (.inl (x - y)) :: st) w bc bs) : am_A G SC d Y Q pc ls (.inr (.inl y) :: .inr (.inl x) :: st) w bc bs := by
  intro p l e R s m args below meth c H locs cells slots QQ Dg cI ad A lsA ad0 w0 hX hH hg h1 h2 hl ho hs hR
  exact lv_lsub hX.1 hX.2.1 hd (k p l e R s m args below meth c H locs cells slots QQ Dg cI ad A lsA ad0 w0 hX hH hg h1 h2 hl ho (am_oc trivial (am_o2 (am_o2 hs))) hR)
theorem am_lmul {x y : Int64} (hd : decode Y.2.1 pc = .ok (.lmul, 1)) (k : am_A G SC d Y Q (pc + 1) ls (.inr (.inl (x * y)) :: st) w bc bs) : am_A G SC d Y Q pc ls (.inr (.inl y) :: .inr (.inl x) :: st) w bc bs := by
  intro p l e R s m args below meth c H locs cells slots QQ Dg cI ad A lsA ad0 w0 hX hH hg h1 h2 hl ho hs hR
  exact lv_lmul hX.1 hX.2.1 hd (k p l e R s m args below meth c H locs cells slots QQ Dg cI ad A lsA ad0 w0 hX hH hg h1 h2 hl ho (am_oc trivial (am_o2 (am_o2 hs))) hR)
theorem am_land {x y : Int64} (hd : decode Y.2.1 pc = .ok (.land, 1)) (k : am_A G SC d Y Q (pc + 1) ls (.inr (.inl (x &&& y)) :: st) w bc bs) : am_A G SC d Y Q pc ls (.inr (.inl y) :: .inr (.inl x) :: st) w bc bs := by
  intro p l e R s m args below meth c H locs cells slots QQ Dg cI ad A lsA ad0 w0 hX hH hg h1 h2 hl ho hs hR
  exact lv_land hX.1 hX.2.1 hd (k p l e R s m args below meth c H locs cells slots QQ Dg cI ad A lsA ad0 w0 hX hH hg h1 h2 hl ho (am_oc trivial (am_o2 (am_o2 hs))) hR)
theorem am_lor {x y : Int64} (hd : decode Y.2.1 pc = .ok (.lor, 1)) (k : am_A G SC d Y Q (pc + 1) ls (.inr (.inl (x ||| y)) :: st) w bc bs) : am_A G SC d Y Q pc ls (.inr (.inl y) :: .inr (.inl x) :: st) w bc bs := by
  intro p l e R s m args below meth c H locs cells slots QQ Dg cI ad A lsA ad0 w0 hX hH hg h1 h2 hl ho hs hR
  exact lv_lor hX.1 hX.2.1 hd (k p l e R s m args below meth c H locs cells slots QQ Dg cI ad A lsA ad0 w0 hX hH hg h1 h2 hl ho (am_oc trivial (am_o2 (am_o2 hs))) hR)
theorem am_lxor {x y : Int64} (hd : decode Y.2.1 pc = .ok (.lxor, 1)) (k : am_A G SC d Y Q (pc + 1) ls (.inr (.inl (x ^^^ y)) :: st) w bc bs) : am_A G SC d Y Q pc ls (.inr (.inl y) :: .inr (.inl x) :: st) w bc bs := by
  intro p l e R s m args below meth c H locs cells slots QQ Dg cI ad A lsA ad0 w0 hX hH hg h1 h2 hl ho hs hR
  exact lv_lxor hX.1 hX.2.1 hd (k p l e R s m args below meth c H locs cells slots QQ Dg cI ad A lsA ad0 w0 hX hH hg h1 h2 hl ho (am_oc trivial (am_o2 (am_o2 hs))) hR)
theorem am_lshl {x : Int64} {y : Int} (hd : decode Y.2.1 pc = .ok (.lshl, 1)) (k : am_A G SC d Y Q (pc + 1) ls (.inr (.inl (x <<< ((Int32.ofInt y).toInt64 &&& 63))) :: st) w bc bs) : am_A G SC d Y Q pc ls (.inl y :: .inr (.inl x) :: st) w bc bs := by
  intro p l e R s m args below meth c H locs cells slots QQ Dg cI ad A lsA ad0 w0 hX hH hg h1 h2 hl ho hs hR
  exact lv_lshl hX.1 hX.2.1 hd rfl (k p l e R s m args below meth c H locs cells slots QQ Dg cI ad A lsA ad0 w0 hX hH hg h1 h2 hl ho (am_oc trivial (am_o2 (am_o2 hs))) hR)
theorem am_lshr {x : Int64} {y : Int} (hd : decode Y.2.1 pc = .ok (.lshr, 1)) (k : am_A G SC d Y Q (pc + 1) ls (.inr (.inl (x >>> ((Int32.ofInt y).toInt64 &&& 63))) :: st) w bc bs) : am_A G SC d Y Q pc ls (.inl y :: .inr (.inl x) :: st) w bc bs := by
  intro p l e R s m args below meth c H locs cells slots QQ Dg cI ad A lsA ad0 w0 hX hH hg h1 h2 hl ho hs hR
  exact lv_lshr hX.1 hX.2.1 hd rfl (k p l e R s m args below meth c H locs cells slots QQ Dg cI ad A lsA ad0 w0 hX hH hg h1 h2 hl ho (am_oc trivial (am_o2 (am_o2 hs))) hR)
theorem am_i2l {x : Int} (hd : decode Y.2.1 pc = .ok (.i2l, 1)) (k : am_A G SC d Y Q (pc + 1) ls (.inr (.inl (Int32.ofInt x).toInt64) :: st) w bc bs) : am_A G SC d Y Q pc ls (.inl x :: st) w bc bs := by
  intro p l e R s m args below meth c H locs cells slots QQ Dg cI ad A lsA ad0 w0 hX hH hg h1 h2 hl ho hs hR
  exact lv_i2l hX.1 hX.2.1 hd rfl (k p l e R s m args below meth c H locs cells slots QQ Dg cI ad A lsA ad0 w0 hX hH hg h1 h2 hl ho (am_oc trivial (am_o2 hs)) hR)
def am_lcmpv (x y : Int64) : Int := if y < x then 1 else if x = y then 0 else -1
theorem am_lcmp {x y : Int64} (hd : decode Y.2.1 pc = .ok (.lcmp, 1)) (k : am_A G SC d Y Q (pc + 1) ls (.inl (am_lcmpv x y) :: st) w bc bs) : am_A G SC d Y Q pc ls (.inr (.inl y) :: .inr (.inl x) :: st) w bc bs := by
  intro p l e R s m args below meth c H locs cells slots QQ Dg cI ad A lsA ad0 w0 hX hH hg h1 h2 hl ho hs hR
  have hr : am_rg (am_lcmpv x y) := by unfold am_lcmpv am_rg; split <;> (try split) <;> omega
  have q := k p l e R s m args below meth c H locs cells slots QQ Dg cI ad A lsA ad0 w0 hX hH hg h1 h2 hl ho (am_oc hr (am_o2 (am_o2 hs))) hR
  refine W.lcmp hX.1 hX.2.1 hd ?_
  have e : Int32.ofInt (am_lcmpv x y) = lg_cmp x y := by
    unfold am_lcmpv lg_cmp
    by_cases h : y < x
    · rw [if_pos h, if_pos h]; decide
    · rw [if_neg h, if_neg h]
      by_cases h' : x = y
      · rw [if_pos h', if_pos h']; decide
      · rw [if_neg h', if_neg h']; decide
  simp only [List.map_cons, am_cv, e] at q
  exact q
-- the stack
theorem am_dup {v : am_V} (hd : decode Y.2.1 pc = .ok (.dup, 1)) (hc : am_cat v = 1) (k : am_A G SC d Y Q (pc + 1) ls (v :: v :: st) w bc bs) : am_A G SC d Y Q pc ls (v :: st) w bc bs := by
  intro p l e R s m args below meth c H locs cells slots QQ Dg cI ad A lsA ad0 w0 hX hH hg h1 h2 hl ho hs hR
  exact lv_dup hX.1 hX.2.1 hd (by rw [am_cat_cv]; exact hc) (k p l e R s m args below meth c H locs cells slots QQ Dg cI ad A lsA ad0 w0 hX hH hg h1 h2 hl ho (am_oc (am_o1 hs) hs) hR)
theorem am_pop {v : am_V} (hd : decode Y.2.1 pc = .ok (.pop, 1)) (hc : am_cat v = 1) (k : am_A G SC d Y Q (pc + 1) ls st w bc bs) : am_A G SC d Y Q pc ls (v :: st) w bc bs := by
  intro p l e R s m args below meth c H locs cells slots QQ Dg cI ad A lsA ad0 w0 hX hH hg h1 h2 hl ho hs hR
  exact lv_pop hX.1 hX.2.1 hd (by rw [am_cat_cv]; exact hc) (k p l e R s m args below meth c H locs cells slots QQ Dg cI ad A lsA ad0 w0 hX hH hg h1 h2 hl ho (am_o2 hs) hR)
theorem am_dup_x1 {v u : am_V} (hd : decode Y.2.1 pc = .ok (.dup_x1, 1)) (hc : am_cat v = 1) (hc2 : am_cat u = 1) (k : am_A G SC d Y Q (pc + 1) ls (v :: u :: v :: st) w bc bs) : am_A G SC d Y Q pc ls (v :: u :: st) w bc bs := by
  intro p l e R s m args below meth c H locs cells slots QQ Dg cI ad A lsA ad0 w0 hX hH hg h1 h2 hl ho hs hR
  exact lv_dup_x1 hX.1 hX.2.1 hd (by rw [am_cat_cv]; exact hc) (by rw [am_cat_cv]; exact hc2) (k p l e R s m args below meth c H locs cells slots QQ Dg cI ad A lsA ad0 w0 hX hH hg h1 h2 hl ho (am_oc (am_o1 hs) (am_oc (am_o1 (am_o2 hs)) (am_oc (am_o1 hs) (am_o2 (am_o2 hs))))) hR)
theorem am_dup2 {v u : am_V} (hd : decode Y.2.1 pc = .ok (.dup2, 1)) (hc : am_cat v = 1) (hc2 : am_cat u = 1) (k : am_A G SC d Y Q (pc + 1) ls (v :: u :: v :: u :: st) w bc bs) : am_A G SC d Y Q pc ls (v :: u :: st) w bc bs := by
  intro p l e R s m args below meth c H locs cells slots QQ Dg cI ad A lsA ad0 w0 hX hH hg h1 h2 hl ho hs hR
  exact lv_dup2_11 hX.1 hX.2.1 hd (by rw [am_cat_cv]; exact hc) (by rw [am_cat_cv]; exact hc2) (k p l e R s m args below meth c H locs cells slots QQ Dg cI ad A lsA ad0 w0 hX hH hg h1 h2 hl ho (am_oc (am_o1 hs) (am_oc (am_o1 (am_o2 hs)) hs)) hR)
-- branches
theorem am_goto {off : Int} {tgt : Nat} (hd : decode Y.2.1 pc = .ok (.goto off, 3)) (ht : (pc : Int) + off = (tgt : Int)) (k : am_A G SC d Y Q tgt ls st w bc bs) : am_A G SC d Y Q pc ls st w bc bs := by
  intro p l e R s m args below meth c H locs cells slots QQ Dg cI ad A lsA ad0 w0 hX hH hg h1 h2 hl ho hs hR
  exact lv_goto hX.1 hX.2.1 hd ht (k p l e R s m args below meth c H locs cells slots QQ Dg cI ad A lsA ad0 w0 hX hH hg h1 h2 hl ho hs hR)
theorem am_ifeq {x : Int} {off : Int} {tgt : Nat} (hd : decode Y.2.1 pc = .ok (.ifCond .eq off, 3)) (ht : (pc : Int) + off = (tgt : Int)) (kt : x = 0 → am_A G SC d Y Q tgt ls st w bc bs) (kf : ¬ x = 0 → am_A G SC d Y Q (pc + 3) ls st w bc bs) : am_A G SC d Y Q pc ls (.inl x :: st) w bc bs := by
  intro p l e R s m args below meth c H locs cells slots QQ Dg cI ad A lsA ad0 w0 hX hH hg h1 h2 hl ho hs hR
  have rx : am_rg x := am_o1 hs
  have e9 := am_eqI rx am_rg0
  rw [am_0] at e9
  have ht9 := fun q => kt q p l e R s m args below meth c H locs cells slots QQ Dg cI ad A lsA ad0 w0 hX hH hg h1 h2 hl ho (am_o2 hs) hR
  have hf9 := fun q => kf q p l e R s m args below meth c H locs cells slots QQ Dg cI ad A lsA ad0 w0 hX hH hg h1 h2 hl ho (am_o2 hs) hR
  exact lv_if_eq hX.1 hX.2.1 hd ht (fun q => ht9 (e9.mp q)) (fun q => hf9 (fun z => q (e9.mpr z)))
theorem am_ifne {x : Int} {off : Int} {tgt : Nat} (hd : decode Y.2.1 pc = .ok (.ifCond .ne off, 3)) (ht : (pc : Int) + off = (tgt : Int)) (kt : ¬ x = 0 → am_A G SC d Y Q tgt ls st w bc bs) (kf : x = 0 → am_A G SC d Y Q (pc + 3) ls st w bc bs) : am_A G SC d Y Q pc ls (.inl x :: st) w bc bs := by
  intro p l e R s m args below meth c H locs cells slots QQ Dg cI ad A lsA ad0 w0 hX hH hg h1 h2 hl ho hs hR
  have rx : am_rg x := am_o1 hs
  have e9 := am_eqI rx am_rg0
  rw [am_0] at e9
  have ht9 := fun q => kt q p l e R s m args below meth c H locs cells slots QQ Dg cI ad A lsA ad0 w0 hX hH hg h1 h2 hl ho (am_o2 hs) hR
  have hf9 := fun q => kf q p l e R s m args below meth c H locs cells slots QQ Dg cI ad A lsA ad0 w0 hX hH hg h1 h2 hl ho (am_o2 hs) hR
  exact lv_if_ne hX.1 hX.2.1 hd ht (fun q => (ht9 (fun z => q (e9.mpr z)))) (fun q => (hf9 (e9.mp q)))
theorem am_iflt {x : Int} {off : Int} {tgt : Nat} (hd : decode Y.2.1 pc = .ok (.ifCond .lt off, 3)) (ht : (pc : Int) + off = (tgt : Int)) (kt : x < 0 → am_A G SC d Y Q tgt ls st w bc bs) (kf : ¬ x < 0 → am_A G SC d Y Q (pc + 3) ls st w bc bs) : am_A G SC d Y Q pc ls (.inl x :: st) w bc bs := by
  intro p l e R s m args below meth c H locs cells slots QQ Dg cI ad A lsA ad0 w0 hX hH hg h1 h2 hl ho hs hR
  have rx : am_rg x := am_o1 hs
  have e9 := am_ltI rx am_rg0
  rw [am_0] at e9
  have ht9 := fun q => kt q p l e R s m args below meth c H locs cells slots QQ Dg cI ad A lsA ad0 w0 hX hH hg h1 h2 hl ho (am_o2 hs) hR
  have hf9 := fun q => kf q p l e R s m args below meth c H locs cells slots QQ Dg cI ad A lsA ad0 w0 hX hH hg h1 h2 hl ho (am_o2 hs) hR
  exact lv_if_lt hX.1 hX.2.1 hd ht (fun q => ht9 (e9.mp q)) (fun q => hf9 (fun z => q (e9.mpr z)))
theorem am_ifge {x : Int} {off : Int} {tgt : Nat} (hd : decode Y.2.1 pc = .ok (.ifCond .ge off, 3)) (ht : (pc : Int) + off = (tgt : Int)) (kt : 0 ≤ x → am_A G SC d Y Q tgt ls st w bc bs) (kf : ¬ 0 ≤ x → am_A G SC d Y Q (pc + 3) ls st w bc bs) : am_A G SC d Y Q pc ls (.inl x :: st) w bc bs := by
  intro p l e R s m args below meth c H locs cells slots QQ Dg cI ad A lsA ad0 w0 hX hH hg h1 h2 hl ho hs hR
  have rx : am_rg x := am_o1 hs
  have e9 := am_leI am_rg0 rx
  rw [am_0] at e9
  have ht9 := fun q => kt q p l e R s m args below meth c H locs cells slots QQ Dg cI ad A lsA ad0 w0 hX hH hg h1 h2 hl ho (am_o2 hs) hR
  have hf9 := fun q => kf q p l e R s m args below meth c H locs cells slots QQ Dg cI ad A lsA ad0 w0 hX hH hg h1 h2 hl ho (am_o2 hs) hR
  exact lv_if_ge hX.1 hX.2.1 hd ht (fun q => ht9 (e9.mp q)) (fun q => hf9 (fun z => q (e9.mpr z)))
theorem am_ifgt {x : Int} {off : Int} {tgt : Nat} (hd : decode Y.2.1 pc = .ok (.ifCond .gt off, 3)) (ht : (pc : Int) + off = (tgt : Int)) (kt : 0 < x → am_A G SC d Y Q tgt ls st w bc bs) (kf : ¬ 0 < x → am_A G SC d Y Q (pc + 3) ls st w bc bs) : am_A G SC d Y Q pc ls (.inl x :: st) w bc bs := by
  intro p l e R s m args below meth c H locs cells slots QQ Dg cI ad A lsA ad0 w0 hX hH hg h1 h2 hl ho hs hR
  have rx : am_rg x := am_o1 hs
  have e9 := am_ltI am_rg0 rx
  rw [am_0] at e9
  have ht9 := fun q => kt q p l e R s m args below meth c H locs cells slots QQ Dg cI ad A lsA ad0 w0 hX hH hg h1 h2 hl ho (am_o2 hs) hR
  have hf9 := fun q => kf q p l e R s m args below meth c H locs cells slots QQ Dg cI ad A lsA ad0 w0 hX hH hg h1 h2 hl ho (am_o2 hs) hR
  exact lv_if_gt hX.1 hX.2.1 hd ht (fun q => ht9 (e9.mp q)) (fun q => hf9 (fun z => q (e9.mpr z)))
theorem am_ifle {x : Int} {off : Int} {tgt : Nat} (hd : decode Y.2.1 pc = .ok (.ifCond .le off, 3)) (ht : (pc : Int) + off = (tgt : Int)) (kt : x ≤ 0 → am_A G SC d Y Q tgt ls st w bc bs) (kf : ¬ x ≤ 0 → am_A G SC d Y Q (pc + 3) ls st w bc bs) : am_A G SC d Y Q pc ls (.inl x :: st) w bc bs := by
  intro p l e R s m args below meth c H locs cells slots QQ Dg cI ad A lsA ad0 w0 hX hH hg h1 h2 hl ho hs hR
  have rx : am_rg x := am_o1 hs
  have e9 := am_leI rx am_rg0
  rw [am_0] at e9
  have ht9 := fun q => kt q p l e R s m args below meth c H locs cells slots QQ Dg cI ad A lsA ad0 w0 hX hH hg h1 h2 hl ho (am_o2 hs) hR
  have hf9 := fun q => kf q p l e R s m args below meth c H locs cells slots QQ Dg cI ad A lsA ad0 w0 hX hH hg h1 h2 hl ho (am_o2 hs) hR
  exact lv_if_le hX.1 hX.2.1 hd ht (fun q => ht9 (e9.mp q)) (fun q => hf9 (fun z => q (e9.mpr z)))
theorem am_icmpeq {x y : Int} {off : Int} {tgt : Nat} (hd : decode Y.2.1 pc = .ok (.if_icmp .eq off, 3)) (ht : (pc : Int) + off = (tgt : Int)) (kt : x = y → am_A G SC d Y Q tgt ls st w bc bs) (kf : ¬ x = y → am_A G SC d Y Q (pc + 3) ls st w bc bs) : am_A G SC d Y Q pc ls (.inl y :: .inl x :: st) w bc bs := by
  intro p l e R s m args below meth c H locs cells slots QQ Dg cI ad A lsA ad0 w0 hX hH hg h1 h2 hl ho hs hR
  have ry : am_rg y := am_o1 hs
  have rx : am_rg x := am_o1 (am_o2 hs)
  have e9 := am_eqI rx ry
  have ht9 := fun q => kt q p l e R s m args below meth c H locs cells slots QQ Dg cI ad A lsA ad0 w0 hX hH hg h1 h2 hl ho (am_o2 (am_o2 hs)) hR
  have hf9 := fun q => kf q p l e R s m args below meth c H locs cells slots QQ Dg cI ad A lsA ad0 w0 hX hH hg h1 h2 hl ho (am_o2 (am_o2 hs)) hR
  exact lv_icmp_eq hX.1 hX.2.1 hd ht (fun q => ht9 (e9.mp q)) (fun q => hf9 (fun z => q (e9.mpr z)))
theorem am_icmpne {x y : Int} {off : Int} {tgt : Nat} (hd : decode Y.2.1 pc = .ok (.if_icmp .ne off, 3)) (ht : (pc : Int) + off = (tgt : Int)) (kt : ¬ x = y → am_A G SC d Y Q tgt ls st w bc bs) (kf : x = y → am_A G SC d Y Q (pc + 3) ls st w bc bs) : am_A G SC d Y Q pc ls (.inl y :: .inl x :: st) w bc bs := by
  intro p l e R s m args below meth c H locs cells slots QQ Dg cI ad A lsA ad0 w0 hX hH hg h1 h2 hl ho hs hR
  have ry : am_rg y := am_o1 hs
  have rx : am_rg x := am_o1 (am_o2 hs)
  have e9 := am_eqI rx ry
  have ht9 := fun q => kt q p l e R s m args below meth c H locs cells slots QQ Dg cI ad A lsA ad0 w0 hX hH hg h1 h2 hl ho (am_o2 (am_o2 hs)) hR
  have hf9 := fun q => kf q p l e R s m args below meth c H locs cells slots QQ Dg cI ad A lsA ad0 w0 hX hH hg h1 h2 hl ho (am_o2 (am_o2 hs)) hR
  exact lv_icmp_ne hX.1 hX.2.1 hd ht (fun q => (ht9 (fun z => q (e9.mpr z)))) (fun q => (hf9 (e9.mp q)))
theorem am_icmplt {x y : Int} {off : Int} {tgt : Nat} (hd : decode Y.2.1 pc = .ok (.if_icmp .lt off, 3)) (ht : (pc : Int) + off = (tgt : Int)) (kt : x < y → am_A G SC d Y Q tgt ls st w bc bs) (kf : ¬ x < y → am_A G SC d Y Q (pc + 3) ls st w bc bs) : am_A G SC d Y Q pc ls (.inl y :: .inl x :: st) w bc bs := by
  intro p l e R s m args below meth c H locs cells slots QQ Dg cI ad A lsA ad0 w0 hX hH hg h1 h2 hl ho hs hR
  have ry : am_rg y := am_o1 hs
  have rx : am_rg x := am_o1 (am_o2 hs)
  have e9 := am_ltI rx ry
  have ht9 := fun q => kt q p l e R s m args below meth c H locs cells slots QQ Dg cI ad A lsA ad0 w0 hX hH hg h1 h2 hl ho (am_o2 (am_o2 hs)) hR
  have hf9 := fun q => kf q p l e R s m args below meth c H locs cells slots QQ Dg cI ad A lsA ad0 w0 hX hH hg h1 h2 hl ho (am_o2 (am_o2 hs)) hR
  exact lv_icmp_lt hX.1 hX.2.1 hd ht (fun q => ht9 (e9.mp q)) (fun q => hf9 (fun z => q (e9.mpr z)))
theorem am_icmpge {x y : Int} {off : Int} {tgt : Nat} (hd : decode Y.2.1 pc = .ok (.if_icmp .ge off, 3)) (ht : (pc : Int) + off = (tgt : Int)) (kt : y ≤ x → am_A G SC d Y Q tgt ls st w bc bs) (kf : ¬ y ≤ x → am_A G SC d Y Q (pc + 3) ls st w bc bs) : am_A G SC d Y Q pc ls (.inl y :: .inl x :: st) w bc bs := by
  intro p l e R s m args below meth c H locs cells slots QQ Dg cI ad A lsA ad0 w0 hX hH hg h1 h2 hl ho hs hR
  have ry : am_rg y := am_o1 hs
  have rx : am_rg x := am_o1 (am_o2 hs)
  have e9 := am_leI ry rx
  have ht9 := fun q => kt q p l e R s m args below meth c H locs cells slots QQ Dg cI ad A lsA ad0 w0 hX hH hg h1 h2 hl ho (am_o2 (am_o2 hs)) hR
  have hf9 := fun q => kf q p l e R s m args below meth c H locs cells slots QQ Dg cI ad A lsA ad0 w0 hX hH hg h1 h2 hl ho (am_o2 (am_o2 hs)) hR
  exact lv_icmp_ge hX.1 hX.2.1 hd ht (fun q => ht9 (e9.mp q)) (fun q => hf9 (fun z => q (e9.mpr z)))
theorem am_icmpgt {x y : Int} {off : Int} {tgt : Nat} (hd : decode Y.2.1 pc = .ok (.if_icmp .gt off, 3)) (ht : (pc : Int) + off = (tgt : Int)) (kt : y < x → am_A G SC d Y Q tgt ls st w bc bs) (kf : ¬ y < x → am_A G SC d Y Q (pc + 3) ls st w bc bs) : am_A G SC d Y Q pc ls (.inl y :: .inl x :: st) w bc bs := by
  intro p l e R s m args below meth c H locs cells slots QQ Dg cI ad A lsA ad0 w0 hX hH hg h1 h2 hl ho hs hR
  have ry : am_rg y := am_o1 hs
  have rx : am_rg x := am_o1 (am_o2 hs)
  have e9 := am_ltI ry rx
  have ht9 := fun q => kt q p l e R s m args below meth c H locs cells slots QQ Dg cI ad A lsA ad0 w0 hX hH hg h1 h2 hl ho (am_o2 (am_o2 hs)) hR
  have hf9 := fun q => kf q p l e R s m args below meth c H locs cells slots QQ Dg cI ad A lsA ad0 w0 hX hH hg h1 h2 hl ho (am_o2 (am_o2 hs)) hR
  exact lv_icmp_gt hX.1 hX.2.1 hd ht (fun q => ht9 (e9.mp q)) (fun q => hf9 (fun z => q (e9.mpr z)))
theorem am_icmple {x y : Int} {off : Int} {tgt : Nat} (hd : decode Y.2.1 pc = .ok (.if_icmp .le off, 3)) (ht : (pc : Int) + off = (tgt : Int)) (kt : x ≤ y → am_A G SC d Y Q tgt ls st w bc bs) (kf : ¬ x ≤ y → am_A G SC d Y Q (pc + 3) ls st w bc bs) : am_A G SC d Y Q pc ls (.inl y :: .inl x :: st) w bc bs := by
  intro p l e R s m args below meth c H locs cells slots QQ Dg cI ad A lsA ad0 w0 hX hH hg h1 h2 hl ho hs hR
  have ry : am_rg y := am_o1 hs
  have rx : am_rg x := am_o1 (am_o2 hs)
  have e9 := am_leI rx ry
  have ht9 := fun q => kt q p l e R s m args below meth c H locs cells slots QQ Dg cI ad A lsA ad0 w0 hX hH hg h1 h2 hl ho (am_o2 (am_o2 hs)) hR
  have hf9 := fun q => kf q p l e R s m args below meth c H locs cells slots QQ Dg cI ad A lsA ad0 w0 hX hH hg h1 h2 hl ho (am_o2 (am_o2 hs)) hR
  exact lv_icmp_le hX.1 hX.2.1 hd ht (fun q => ht9 (e9.mp q)) (fun q => hf9 (fun z => q (e9.mpr z)))
theorem am_ifnull {r : Option am_I} {off : Int} {tgt : Nat} (hd : decode Y.2.1 pc = .ok (.ifnull off, 3)) (ht : (pc : Int) + off = (tgt : Int)) (kt : r = none → am_A G SC d Y Q tgt ls st w bc bs) (kf : ¬ r = none → am_A G SC d Y Q (pc + 3) ls st w bc bs) : am_A G SC d Y Q pc ls (.inr (.inr r) :: st) w bc bs := by
  intro p l e R s m args below meth c H locs cells slots QQ Dg cI ad A lsA ad0 w0 hX hH hg h1 h2 hl ho hs hR
  cases r with
  | none => exact lv_ifnullN hX.1 hX.2.1 hd ht (kt rfl p l e R s m args below meth c H locs cells slots QQ Dg cI ad A lsA ad0 w0 hX hH hg h1 h2 hl ho (am_o2 hs) hR)
  | some id => exact lv_ifnull hX.1 hX.2.1 hd (kf (fun q => by cases q) p l e R s m args below meth c H locs cells slots QQ Dg cI ad A lsA ad0 w0 hX hH hg h1 h2 hl ho (am_o2 hs) hR)
theorem am_ifnonnull {r : Option am_I} {off : Int} {tgt : Nat} (hd : decode Y.2.1 pc = .ok (.ifnonnull off, 3)) (ht : (pc : Int) + off = (tgt : Int)) (kt : ¬ r = none → am_A G SC d Y Q tgt ls st w bc bs) (kf : r = none → am_A G SC d Y Q (pc + 3) ls st w bc bs) : am_A G SC d Y Q pc ls (.inr (.inr r) :: st) w bc bs := by
  intro p l e R s m args below meth c H locs cells slots QQ Dg cI ad A lsA ad0 w0 hX hH hg h1 h2 hl ho hs hR
  cases r with
  | none => exact lv_ifnonnullN hX.1 hX.2.1 hd (kf rfl p l e R s m args below meth c H locs cells slots QQ Dg cI ad A lsA ad0 w0 hX hH hg h1 h2 hl ho (am_o2 hs) hR)
  | some id => exact lv_ifnonnull hX.1 hX.2.1 hd ht (kt (fun q => by cases q) p l e R s m args below meth c H locs cells slots QQ Dg cI ad A lsA ad0 w0 hX hH hg h1 h2 hl ho (am_o2 hs) hR)
-- switches: a place of the table, or none
theorem am_tswIn {dflt lo hi : Int} {offs : Array Int} {len : Nat} {x : Int} {off : Int} {tgt : Nat} (hd : decode Y.2.1 pc = .ok (.tableswitch dflt lo hi offs, len)) (hlo : ¬ x < lo) (hhi : ¬ hi < x) (ho' : offs[(x - lo).toNat]? = some off) (ht : (pc : Int) + off = (tgt : Int)) (k : am_A G SC d Y Q tgt ls st w bc bs) : am_A G SC d Y Q pc ls (.inl x :: st) w bc bs := by
  intro p l e R s m args below meth c H locs cells slots QQ Dg cI ad A lsA ad0 w0 hX hH hg h1 h2 hl ho hs hR
  have rx : am_rg x := am_o1 hs
  exact lv_tableIn hX.1 hX.2.1 hd (by rw [am_toI rx]; exact hlo) (by rw [am_toI rx]; exact hhi) (by rw [am_toI rx]; exact ho') ht (k p l e R s m args below meth c H locs cells slots QQ Dg cI ad A lsA ad0 w0 hX hH hg h1 h2 hl ho (am_o2 hs) hR)
theorem am_tswOut {dflt lo hi : Int} {offs : Array Int} {len : Nat} {x : Int} {tgt : Nat} (hd : decode Y.2.1 pc = .ok (.tableswitch dflt lo hi offs, len)) (h : x < lo ∨ hi < x) (ht : (pc : Int) + dflt = (tgt : Int)) (k : am_A G SC d Y Q tgt ls st w bc bs) : am_A G SC d Y Q pc ls (.inl x :: st) w bc bs := by
  intro p l e R s m args below meth c H locs cells slots QQ Dg cI ad A lsA ad0 w0 hX hH hg h1 h2 hl ho hs hR
  have rx : am_rg x := am_o1 hs
  exact lv_tableOut hX.1 hX.2.1 hd (by rw [am_toI rx]; exact h) ht (k p l e R s m args below meth c H locs cells slots QQ Dg cI ad A lsA ad0 w0 hX hH hg h1 h2 hl ho (am_o2 hs) hR)
theorem am_lsw {dflt : Int} {ps : Array (Int × Int)} {len : Nat} {x : Int} {off : Int} {tgt : Nat} (hd : decode Y.2.1 pc = .ok (.lookupswitch dflt ps, len)) (hp : (ps.toList.zip (ps.toList.drop 1)).all (fun (a, next) => a.1 < next.1) = true) (ho' : Op.lookupswitch.offset ps.toList dflt x = off) (ht : (pc : Int) + off = (tgt : Int)) (k : am_A G SC d Y Q tgt ls st w bc bs) : am_A G SC d Y Q pc ls (.inl x :: st) w bc bs := by
  intro p l e R s m args below meth c H locs cells slots QQ Dg cI ad A lsA ad0 w0 hX hH hg h1 h2 hl ho hs hR
  have rx : am_rg x := am_o1 hs
  exact lv_lookup hX.1 hX.2.1 hd hp (by rw [am_toI rx]; exact ho') ht (k p l e R s m args below meth c H locs cells slots QQ Dg cI ad A lsA ad0 w0 hX hH hg h1 h2 hl ho (am_o2 hs) hR)
-- answers
theorem am_ret {r : Option am_V} (hd : decode Y.2.1 pc = .ok (am_ri r, 1)) (ht : am_rty Y.2.2.2 r) (hst : r.toList = st) (k : Q r w) : am_A G SC d Y Q pc ls st w bc bs := by
  intro p l e R s m args below meth c H locs cells slots QQ Dg cI ad A lsA ad0 w0 hX hH hg h1 h2 hl ho hs hR
  subst hst
  have hok : am_okr SC w r := by
    cases r with
    | none => trivial
    | some v => exact hs v (by simp)
  have e : (r.map (am_cv ad)).toList = r.toList.map (am_cv ad) := by cases r <;> rfl
  rw [← e]
  exact hR r w ad H locs cells slots pc lsA k hH hg hok ht (by omega) (by omega) hd
end AMR
