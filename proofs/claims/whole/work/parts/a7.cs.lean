-- CONSTRUCTORS: worlds as tables of the cells made (kind, length, references, ints)
abbrev cs_C : Type := Nat × Nat × List (Nat × am_I) × List (Nat × Int)
def cs_d : cs_C := (0, 0, [], [])
def cs_r (l : List (Nat × am_I)) (k : Nat) : Option am_I := l.lookup k
def cs_i (l : List (Nat × Int)) (k : Nat) : Int := (l.lookup k).getD 0
def cs_W (C : List cs_C) : am_W := (fun t j k => if t = 999 then cs_i (C.getD j cs_d).2.2.2 k else 0, fun _ _ _ => 0, fun j k => cs_r (C.getD j cs_d).2.2.1 k, fun j => ((C.getD j cs_d).1, (C.getD j cs_d).2.1), C.length)
theorem cs_app (C : List cs_C) (x : cs_C) (j : Nat) : (C ++ [x]).getD j cs_d = if j = C.length then x else C.getD j cs_d := by
  rw [List.getD_eq_getElem?_getD, List.getD_eq_getElem?_getD]
  by_cases h : j < C.length
  · rw [List.getElem?_append_left h, if_neg (by omega)]
  · rw [List.getElem?_append_right (by omega)]
    by_cases h2 : j = C.length
    · rw [if_pos h2, h2, Nat.sub_self]; rfl
    · rw [if_neg h2, List.getElem?_eq_none (l := C) (by omega), List.getElem?_eq_none (by simp; omega)]
theorem cs_mid (A B : List cs_C) (c c' : cs_C) (j : Nat) : (A ++ c' :: B).getD j cs_d = if j = A.length then c' else (A ++ c :: B).getD j cs_d := by
  rw [List.getD_eq_getElem?_getD, List.getD_eq_getElem?_getD]
  by_cases h : j < A.length
  · rw [List.getElem?_append_left h, List.getElem?_append_left h, if_neg (by omega)]
  · rw [List.getElem?_append_right (by omega), List.getElem?_append_right (by omega)]
    by_cases h2 : j = A.length
    · rw [if_pos h2, h2, Nat.sub_self]; rfl
    · rw [if_neg h2]
      obtain ⟨k, hk⟩ : ∃ k, j - A.length = k + 1 := ⟨j - A.length - 1, by omega⟩
      rw [hk, List.getElem?_cons_succ, List.getElem?_cons_succ]
theorem cs_at (A B : List cs_C) (c : cs_C) : (A ++ c :: B).getD A.length cs_d = c := by rw [cs_mid A B c c, if_pos rfl]
theorem cs_len (A B : List cs_C) (c : cs_C) : (A ++ c :: B).length = A.length + (B.length + 1) := by rw [List.length_append, List.length_cons]
/-- one more cell, blank -/
theorem cs_fr (C : List cs_C) (kd ln : Nat) : am_fr (cs_W C) kd ln = cs_W (C ++ [(kd, ln, [], [])]) := by
  unfold am_fr cs_W
  refine Prod.ext ?_ (Prod.ext ?_ (Prod.ext ?_ (Prod.ext ?_ ?_)))
  · funext t j k
    show (if t = 999 ∧ j = C.length then 0 else if t = 999 then cs_i (C.getD j cs_d).2.2.2 k else 0) = if t = 999 then cs_i ((C ++ [(kd, ln, [], [])]).getD j cs_d).2.2.2 k else 0
    rw [cs_app]
    by_cases h : t = 999
    · by_cases h2 : j = C.length
      · rw [if_pos ⟨h, h2⟩, if_pos h, if_pos h2]; rfl
      · rw [if_neg (fun q => h2 q.2), if_pos h, if_pos h, if_neg h2]
    · rw [if_neg (fun q => h q.1), if_neg h, if_neg h]
  · funext t j k
    show (if t = 999 ∧ j = C.length then (0 : Int64) else 0) = 0
    rw [ite_self]
  · funext j k
    show (if j = C.length then none else cs_r (C.getD j cs_d).2.2.1 k) = cs_r ((C ++ [(kd, ln, [], [])]).getD j cs_d).2.2.1 k
    rw [cs_app]
    by_cases h2 : j = C.length
    · rw [if_pos h2, if_pos h2]; rfl
    · rw [if_neg h2, if_neg h2]
  · funext j
    show (if j = C.length then (kd, ln) else ((C.getD j cs_d).1, (C.getD j cs_d).2.1)) = (((C ++ [(kd, ln, [], [])]).getD j cs_d).1, ((C ++ [(kd, ln, [], [])]).getD j cs_d).2.1)
    rw [cs_app]
    by_cases h2 : j = C.length
    · rw [if_pos h2, if_pos h2]
    · rw [if_neg h2, if_neg h2]
  · show C.length + 1 = (C ++ [(kd, ln, [], [])]).length
    rw [List.length_append]; rfl
theorem cs_r_cons (k f : Nat) (r : am_I) (rs : List (Nat × am_I)) : cs_r ((f, r) :: rs) k = if k = f then some r else cs_r rs k := by
  unfold cs_r
  rw [List.lookup_cons]
  by_cases h : k = f
  · rw [if_pos h, h]; simp
  · rw [if_neg h]
    have : (k == f) = false := by simpa using h
    rw [this]
theorem cs_i_cons (k f : Nat) (v : Int) (is : List (Nat × Int)) : cs_i ((f, v) :: is) k = if k = f then v else cs_i is k := by
  unfold cs_i
  rw [List.lookup_cons]
  by_cases h : k = f
  · rw [if_pos h, h]; simp
  · rw [if_neg h]
    have : (k == f) = false := by simpa using h
    rw [this]
/-- a reference is written -/
theorem cs_upr (A B : List cs_C) (ck cl f : Nat) (rs : List (Nat × am_I)) (is : List (Nat × Int)) (r : am_I) : am_upr (cs_W (A ++ (ck, cl, rs, is) :: B)) A.length f (some r) = cs_W (A ++ (ck, cl, (f, r) :: rs, is) :: B) := by
  unfold am_upr cs_W
  refine Prod.ext ?_ (Prod.ext rfl (Prod.ext ?_ (Prod.ext ?_ ?_)))
  · funext t j k
    show (if t = 999 then cs_i ((A ++ (ck, cl, rs, is) :: B).getD j cs_d).2.2.2 k else 0) = if t = 999 then cs_i ((A ++ (ck, cl, (f, r) :: rs, is) :: B).getD j cs_d).2.2.2 k else 0
    rw [cs_mid A B (ck, cl, rs, is) (ck, cl, (f, r) :: rs, is)]
    by_cases h : j = A.length
    · rw [if_pos h, h, cs_at]
    · rw [if_neg h]
  · funext j k
    show (if j = A.length ∧ k = f then some r else cs_r ((A ++ (ck, cl, rs, is) :: B).getD j cs_d).2.2.1 k) = cs_r ((A ++ (ck, cl, (f, r) :: rs, is) :: B).getD j cs_d).2.2.1 k
    rw [cs_mid A B (ck, cl, rs, is) (ck, cl, (f, r) :: rs, is)]
    by_cases h : j = A.length
    · rw [if_pos h, h, cs_at]
      show _ = cs_r ((f, r) :: rs) k
      rw [cs_r_cons]
      by_cases h2 : k = f
      · rw [if_pos ⟨rfl, h2⟩, if_pos h2]
      · rw [if_neg (fun q => h2 q.2), if_neg h2]
    · rw [if_neg h, if_neg (fun q => h q.1)]
  · funext j
    show (((A ++ (ck, cl, rs, is) :: B).getD j cs_d).1, ((A ++ (ck, cl, rs, is) :: B).getD j cs_d).2.1) = (((A ++ (ck, cl, (f, r) :: rs, is) :: B).getD j cs_d).1, ((A ++ (ck, cl, (f, r) :: rs, is) :: B).getD j cs_d).2.1)
    rw [cs_mid A B (ck, cl, rs, is) (ck, cl, (f, r) :: rs, is)]
    by_cases h : j = A.length
    · rw [if_pos h, h, cs_at]
    · rw [if_neg h]
  · show (A ++ (ck, cl, rs, is) :: B).length = (A ++ (ck, cl, (f, r) :: rs, is) :: B).length
    rw [cs_len, cs_len]
/-- an int is written -/
theorem cs_upi (A B : List cs_C) (ck cl f : Nat) (rs : List (Nat × am_I)) (is : List (Nat × Int)) (v : Int) : (am_up (cs_W (A ++ (ck, cl, rs, is) :: B)).1 999 A.length f v, (cs_W (A ++ (ck, cl, rs, is) :: B)).2) = cs_W (A ++ (ck, cl, rs, (f, v) :: is) :: B) := by
  refine Prod.ext ?_ (Prod.ext rfl (Prod.ext ?_ (Prod.ext ?_ ?_)))
  · funext t j k
    show (if t = 999 ∧ j = A.length ∧ k = f then v else if t = 999 then cs_i ((A ++ (ck, cl, rs, is) :: B).getD j cs_d).2.2.2 k else 0) = if t = 999 then cs_i ((A ++ (ck, cl, rs, (f, v) :: is) :: B).getD j cs_d).2.2.2 k else 0
    rw [cs_mid A B (ck, cl, rs, is) (ck, cl, rs, (f, v) :: is)]
    by_cases h0 : t = 999
    · rw [if_pos h0, if_pos h0]
      by_cases h : j = A.length
      · rw [if_pos h, h, cs_at]
        show _ = cs_i ((f, v) :: is) k
        rw [cs_i_cons]
        by_cases h2 : k = f
        · rw [if_pos ⟨h0, rfl, h2⟩, if_pos h2]
        · rw [if_neg (fun q => h2 q.2.2), if_neg h2]
      · rw [if_neg h, if_neg (fun q => h q.2.1)]
    · rw [if_neg (fun q => h0 q.1), if_neg h0, if_neg h0]
  · funext j k
    show cs_r ((A ++ (ck, cl, rs, is) :: B).getD j cs_d).2.2.1 k = cs_r ((A ++ (ck, cl, rs, (f, v) :: is) :: B).getD j cs_d).2.2.1 k
    rw [cs_mid A B (ck, cl, rs, is) (ck, cl, rs, (f, v) :: is)]
    by_cases h : j = A.length
    · rw [if_pos h, h, cs_at]
    · rw [if_neg h]
  · funext j
    show (((A ++ (ck, cl, rs, is) :: B).getD j cs_d).1, ((A ++ (ck, cl, rs, is) :: B).getD j cs_d).2.1) = (((A ++ (ck, cl, rs, (f, v) :: is) :: B).getD j cs_d).1, ((A ++ (ck, cl, rs, (f, v) :: is) :: B).getD j cs_d).2.1)
    rw [cs_mid A B (ck, cl, rs, is) (ck, cl, rs, (f, v) :: is)]
    by_cases h : j = A.length
    · rw [if_pos h, h, cs_at]
    · rw [if_neg h]
  · show (A ++ (ck, cl, rs, is) :: B).length = (A ++ (ck, cl, rs, (f, v) :: is) :: B).length
    rw [cs_len, cs_len]
/-- a 0 is written where a 0 stands -/
theorem cs_up0 (A B : List cs_C) (ck cl f : Nat) (rs : List (Nat × am_I)) (is : List (Nat × Int)) (h0 : cs_i is f = 0) : (am_up (cs_W (A ++ (ck, cl, rs, is) :: B)).1 999 A.length f 0, (cs_W (A ++ (ck, cl, rs, is) :: B)).2) = cs_W (A ++ (ck, cl, rs, is) :: B) := by
  refine Prod.ext ?_ rfl
  funext t j k
  show (if t = 999 ∧ j = A.length ∧ k = f then 0 else (cs_W (A ++ (ck, cl, rs, is) :: B)).1 t j k) = _
  by_cases h : t = 999 ∧ j = A.length ∧ k = f
  · rw [if_pos h, h.1, h.2.1, h.2.2]
    show 0 = if 999 = 999 then cs_i ((A ++ (ck, cl, rs, is) :: B).getD A.length cs_d).2.2.2 f else 0
    rw [if_pos rfl, cs_at]
    exact h0.symm
  · rw [if_neg h]
theorem cs_upl0 (C : List cs_C) (j f : Nat) : ((cs_W C).1, am_up (cs_W C).2.1 999 j f 0, (cs_W C).2.2) = cs_W C := by
  refine Prod.ext rfl (Prod.ext ?_ rfl)
  funext t a k
  show (if t = 999 ∧ a = j ∧ k = f then (0 : Int64) else 0) = 0
  rw [ite_self]
theorem cs_kd {G : am_G} (A B : List cs_C) (ck cl : Nat) (rs : List (Nat × am_I)) (is : List (Nat × Int)) : am_kd G (cs_W (A ++ (ck, cl, rs, is) :: B)) 999 A.length = ck := by
  unfold am_kd
  rw [if_pos rfl]
  show ((A ++ (ck, cl, rs, is) :: B).getD A.length cs_d).1 = ck
  rw [cs_at]
theorem cs_ln {G : am_G} (A B : List cs_C) (ck cl : Nat) (rs : List (Nat × am_I)) (is : List (Nat × Int)) : am_ln G (cs_W (A ++ (ck, cl, rs, is) :: B)) 999 A.length = cl := by
  unfold am_ln
  rw [if_pos rfl]
  show ((A ++ (ck, cl, rs, is) :: B).getD A.length cs_d).2.1 = cl
  rw [cs_at]
theorem cs_gr {G : am_G} (A B : List cs_C) (ck cl k : Nat) (rs : List (Nat × am_I)) (is : List (Nat × Int)) : am_gr G (cs_W (A ++ (ck, cl, rs, is) :: B)) 999 A.length k = cs_r rs k := by
  unfold am_gr
  rw [if_pos rfl]
  show cs_r ((A ++ (ck, cl, rs, is) :: B).getD A.length cs_d).2.2.1 k = _
  rw [cs_at]
theorem cs_as (A B S : List cs_C) (c : cs_C) : (A ++ c :: B) ++ S = A ++ c :: (B ++ S) := by rw [List.append_assoc, List.cons_append]
-- grids
def cs_rf (base step : Nat) : Nat → List (Nat × am_I)
  | 0 => []
  | i + 1 => (i, (999, base + step * i)) :: cs_rf base step i
def cs_rows (R : Nat → List cs_C) (b q : Nat) : Nat → List cs_C
  | 0 => []
  | i + 1 => cs_rows R b q i ++ R (b + q * i)
theorem cs_rows_l {R : Nat → List cs_C} {q : Nat} (hq : ∀ n, (R n).length = q) (b : Nat) : ∀ i, (cs_rows R b q i).length = q * i
  | 0 => rfl
  | i + 1 => by
    show (cs_rows R b q i ++ R (b + q * i)).length = _
    rw [List.length_append, cs_rows_l hq b i, hq, Nat.mul_succ]
theorem cs_mk {F : am_W → am_W} {R : Nat → List cs_C} {q : Nat} (hF : ∀ C, F (cs_W C) = cs_W (C ++ R C.length)) (hq : ∀ n, (R n).length = q) (kd ln : Nat) (C : List cs_C) : am_mk F kd ln (cs_W C) = cs_W (C ++ (kd, ln, cs_rf (C.length + 1) q ln, []) :: cs_rows R (C.length + 1) q ln) := by
  have key : ∀ i, am_mkI F C.length (cs_W (C ++ [(kd, ln, [], [])])) i = cs_W (C ++ (kd, ln, cs_rf (C.length + 1) q i, []) :: cs_rows R (C.length + 1) q i) := by
    intro i
    induction i with
    | zero => rfl
    | succ i ih =>
      have hl : (C ++ (kd, ln, cs_rf (C.length + 1) q i, []) :: cs_rows R (C.length + 1) q i).length = C.length + 1 + q * i := by
        rw [cs_len, cs_rows_l hq]; omega
      show am_upr (F (am_mkI F C.length (cs_W (C ++ [(kd, ln, [], [])])) i)) C.length i (some (999, (am_mkI F C.length (cs_W (C ++ [(kd, ln, [], [])])) i).2.2.2.2)) = _
      rw [ih, hF]
      show am_upr (cs_W ((C ++ (kd, ln, cs_rf (C.length + 1) q i, []) :: cs_rows R (C.length + 1) q i) ++ R (C ++ (kd, ln, cs_rf (C.length + 1) q i, []) :: cs_rows R (C.length + 1) q i).length)) C.length i (some (999, (C ++ (kd, ln, cs_rf (C.length + 1) q i, []) :: cs_rows R (C.length + 1) q i).length)) = _
      rw [hl, cs_as, cs_upr]
      rfl
  unfold am_mk
  rw [cs_fr]
  exact key ln
def cs_g2 (a b n : Nat) : List cs_C := (5, a, cs_rf (n + 1) 1 a, []) :: cs_rows (fun _ => [(0, b, [], [])]) (n + 1) 1 a
theorem cs_g2_l (a b n : Nat) : (cs_g2 a b n).length = 1 + a := by
  unfold cs_g2
  rw [List.length_cons, cs_rows_l (q := 1) (fun _ => rfl)]
  omega
def cs_g3 (a b o n : Nat) : List cs_C := (6, a, cs_rf (n + 1) (1 + b) a, []) :: cs_rows (cs_g2 b o) (n + 1) (1 + b) a
theorem cs_g3_l (a b o n : Nat) : (cs_g3 a b o n).length = 1 + (1 + b) * a := by
  unfold cs_g3
  rw [List.length_cons, cs_rows_l (cs_g2_l b o)]
  omega
theorem cs_e1 (A S R L : List cs_C) (c x : cs_C) : (A ++ c :: x :: (S ++ R)) ++ L = (A ++ [c]) ++ x :: (S ++ (R ++ L)) := by simp
theorem cs_e2 (A B : List cs_C) (c x : cs_C) : (A ++ [c]) ++ x :: B = A ++ c :: x :: B := by simp
theorem cs_e3 (A : List cs_C) (c : cs_C) : (A ++ [c]).length = A.length + 1 := by simp
section CSR
variable {G : am_G} {SC : Nat → Nat} {d : Nat} {Y : am_Y} {Q : Option am_V → am_W → Prop} {pc bc bs : Nat} {ls : List (Nat × am_V)} {st : List am_V}
/-- newarray; putfield -/
theorem cs_newput {A B : List cs_C} {ck kd ln f ci N idx nb : Nat} {rs : List (Nat × am_I)} {is : List (Nat × Int)} {C : String} {T : u_T} {atype : ArrayType} {n : Int} (hd : decode Y.2.1 pc = .ok (.newarray atype, 2)) (hd2 : decode Y.2.1 (pc + 2) = .ok (.putfield idx, 3)) (hty : newarray.typeOf atype = am_aty kd) (hkd : kd < 5) (hw : Cond.arrayClass (newarray.typeOf atype) ∈ am_TW) (hn : n = (ln : Int)) (hln : ln ≤ 10000000) (hc : 1 ≤ bc) (hs' : ln ≤ bs)
    (hcl : am_cl[ci]? = some (C, T, N)) (hf : f < N) (hlk : Cond.fieldLink Y.1.cls idx (T f).1 (T f).2.1 (T f).2.2.1 ∈ am_TW) (hfin : (T f).2.2.2 = false ∨ ((T f).2.2.2 = true ∧ Y.1.name = "<init>" ∧ (T f).1 = Y.1.cls)) (hz : am_fT ci f = 2) (hck : ck = 100 + ci) (hb : B.length + 1 = nb)
    (k : am_A G SC d Y Q (pc + 2 + 3) ls st (cs_W (A ++ (ck, 0, (f, (999, A.length + nb)) :: rs, is) :: (B ++ [(kd, ln, [], [])]))) (bc - 1) (bs - ln)) :
    am_A G SC d Y Q pc ls (.inl n :: .inr (.inr (some (999, A.length))) :: st) (cs_W (A ++ (ck, 0, rs, is) :: B)) bc bs := by
  subst hck hb
  refine am_newarr (kd := kd) (ln := ln) hd hty hkd hw hn hln hc hs' ?_
  rw [cs_fr, cs_as]
  show am_A G SC d Y Q (pc + 2) ls (.inr (.inr (some (999, (A ++ (100 + ci, 0, rs, is) :: B).length))) :: .inr (.inr (some (999, A.length))) :: st) _ (bc - 1) (bs - ln)
  rw [cs_len]
  refine am_putr hd2 hcl hf hlk hfin hz (cs_kd _ _ _ _ _ _) ?_
  rw [cs_upr]
  exact k
/-- putfield of a reference that is there -/
theorem cs_putr {A B : List cs_C} {ck f ci N idx : Nat} {rs : List (Nat × am_I)} {is : List (Nat × Int)} {C : String} {T : u_T} {r : am_I} (hd2 : decode Y.2.1 pc = .ok (.putfield idx, 3)) 
    (hcl : am_cl[ci]? = some (C, T, N)) (hf : f < N) (hlk : Cond.fieldLink Y.1.cls idx (T f).1 (T f).2.1 (T f).2.2.1 ∈ am_TW) (hfin : (T f).2.2.2 = false ∨ ((T f).2.2.2 = true ∧ Y.1.name = "<init>" ∧ (T f).1 = Y.1.cls)) (hz : am_fT ci f = 2) (hck : ck = 100 + ci)
    (k : am_A G SC d Y Q (pc + 3) ls st (cs_W (A ++ (ck, 0, (f, r) :: rs, is) :: B)) bc bs) :
    am_A G SC d Y Q pc ls (.inr (.inr (some r)) :: .inr (.inr (some (999, A.length))) :: st) (cs_W (A ++ (ck, 0, rs, is) :: B)) bc bs := by
  subst hck
  refine am_putr hd2 hcl hf hlk hfin hz (cs_kd _ _ _ _ _ _) ?_
  rw [cs_upr]
  exact k
/-- putfield of an int -/
theorem cs_puti {A B : List cs_C} {ck f ci N idx : Nat} {rs : List (Nat × am_I)} {is : List (Nat × Int)} {C : String} {T : u_T} {z : Int} (hd2 : decode Y.2.1 pc = .ok (.putfield idx, 3)) 
    (hcl : am_cl[ci]? = some (C, T, N)) (hf : f < N) (hlk : Cond.fieldLink Y.1.cls idx (T f).1 (T f).2.1 (T f).2.2.1 ∈ am_TW) (hfin : (T f).2.2.2 = false) (hz : am_fT ci f = 0 ∨ (am_fT ci f = 3 ∧ (z = 0 ∨ z = 1)) ∨ (am_fT ci f = 4 ∧ -128 ≤ z ∧ z < 128)) (hck : ck = 100 + ci)
    (k : am_A G SC d Y Q (pc + 3) ls st (cs_W (A ++ (ck, 0, rs, (f, z) :: is) :: B)) bc bs) :
    am_A G SC d Y Q pc ls (.inl z :: .inr (.inr (some (999, A.length))) :: st) (cs_W (A ++ (ck, 0, rs, is) :: B)) bc bs := by
  subst hck
  refine am_putf hd2 hcl hf hlk hfin hz (Or.inr rfl) (cs_kd _ _ _ _ _ _) ?_
  rw [cs_upi]
  exact k
/-- putfield of a 0 where a 0 stands -/
theorem cs_put0 {A B : List cs_C} {ck f ci N idx : Nat} {rs : List (Nat × am_I)} {is : List (Nat × Int)} {C : String} {T : u_T} (hd2 : decode Y.2.1 pc = .ok (.putfield idx, 3)) 
    (hcl : am_cl[ci]? = some (C, T, N)) (hf : f < N) (hlk : Cond.fieldLink Y.1.cls idx (T f).1 (T f).2.1 (T f).2.2.1 ∈ am_TW) (hfin : (T f).2.2.2 = false) (hz : am_fT ci f = 0 ∨ am_fT ci f = 3) (hck : ck = 100 + ci) (h0 : cs_i is f = 0)
    (k : am_A G SC d Y Q (pc + 3) ls st (cs_W (A ++ (ck, 0, rs, is) :: B)) bc bs) :
    am_A G SC d Y Q pc ls (.inl 0 :: .inr (.inr (some (999, A.length))) :: st) (cs_W (A ++ (ck, 0, rs, is) :: B)) bc bs := by
  subst hck
  refine am_putf hd2 hcl hf hlk hfin (hz.elim Or.inl (fun h => Or.inr (Or.inl ⟨h, Or.inl rfl⟩))) (Or.inr rfl) (cs_kd _ _ _ _ _ _) ?_
  rw [cs_up0 _ _ _ _ _ _ _ h0]
  exact k
/-- putfield of a long 0 -/
theorem cs_putl0 {A B : List cs_C} {ck f ci N idx : Nat} {rs : List (Nat × am_I)} {is : List (Nat × Int)} {C : String} {T : u_T} (hd2 : decode Y.2.1 pc = .ok (.putfield idx, 3)) 
    (hcl : am_cl[ci]? = some (C, T, N)) (hf : f < N) (hlk : Cond.fieldLink Y.1.cls idx (T f).1 (T f).2.1 (T f).2.2.1 ∈ am_TW) (hfin : (T f).2.2.2 = false) (hz : am_fT ci f = 1) (hck : ck = 100 + ci)
    (k : am_A G SC d Y Q (pc + 3) ls st (cs_W (A ++ (ck, 0, rs, is) :: B)) bc bs) :
    am_A G SC d Y Q pc ls (.inr (.inl (0 : Int64)) :: .inr (.inr (some (999, A.length))) :: st) (cs_W (A ++ (ck, 0, rs, is) :: B)) bc bs := by
  subst hck
  refine am_putl hd2 hcl hf hlk hfin hz (Or.inr rfl) (cs_kd _ _ _ _ _ _) ?_
  rw [cs_upl0]
  exact k
/-- new -/
theorem cs_new {P : List cs_C} {idx ci N : Nat} {C : String} {T : u_T} (hd : decode Y.2.1 pc = .ok (.new idx, 3)) (hc : am_cl[ci]? = some (C, T, N)) (hcl : Cond.classLink Y.1.cls idx C ∈ am_TW) (hins : Cond.instantiable C N ∈ am_TW) (hini : Cond.initialized C ∈ am_TW) (hbc : 1 ≤ bc) (hbs : N ≤ bs) (k : am_A G SC d Y Q (pc + 3) ls (.inr (.inr (some (999, P.length))) :: st) (cs_W (P ++ [(100 + ci, 0, [], [])])) (bc - 1) (bs - N)) : am_A G SC d Y Q pc ls st (cs_W P) bc bs := by
  refine am_new hd hc hcl hins hini hbc hbs ?_
  rw [cs_fr]
  exact k
/-- anewarray -/
theorem cs_anew {P : List cs_C} {idx kd ln : Nat} {C : String} {n : Int} (hd : decode Y.2.1 pc = .ok (.anewarray idx, 3)) (hty : am_aty kd = .object C) (h7 : 7 ≤ kd) (h10 : kd < 10) (hcl : Cond.classLink Y.1.cls idx C ∈ am_TW) (hov : FieldType.object C ∈ am_aot) (hn : n = (ln : Int)) (hln : ln ≤ 10000000) (hc : 1 ≤ bc) (hs' : ln ≤ bs) (k : am_A G SC d Y Q (pc + 3) ls (.inr (.inr (some (999, P.length))) :: st) (cs_W (P ++ [(kd, ln, [], [])])) (bc - 1) (bs - ln)) : am_A G SC d Y Q pc ls (.inl n :: st) (cs_W P) bc bs := by
  refine am_anew hd hty h7 h10 hcl hov hn hln hc hs' ?_
  rw [cs_fr]
  exact k
/-- anewarray; putfield -/
theorem cs_anewput {A B : List cs_C} {ck kd ln f ci N idx idx2 nb : Nat} {rs : List (Nat × am_I)} {is : List (Nat × Int)} {C C' : String} {T : u_T} {n : Int} (hd : decode Y.2.1 pc = .ok (.anewarray idx2, 3)) (hd2 : decode Y.2.1 (pc + 3) = .ok (.putfield idx, 3)) (hty : am_aty kd = .object C') (h7 : 7 ≤ kd) (h10 : kd < 10) (hcl' : Cond.classLink Y.1.cls idx2 C' ∈ am_TW) (hov : FieldType.object C' ∈ am_aot) (hn : n = (ln : Int)) (hln : ln ≤ 10000000) (hc : 1 ≤ bc) (hs' : ln ≤ bs)
    (hcl : am_cl[ci]? = some (C, T, N)) (hf : f < N) (hlk : Cond.fieldLink Y.1.cls idx (T f).1 (T f).2.1 (T f).2.2.1 ∈ am_TW) (hfin : (T f).2.2.2 = false ∨ ((T f).2.2.2 = true ∧ Y.1.name = "<init>" ∧ (T f).1 = Y.1.cls)) (hz : am_fT ci f = 2) (hck : ck = 100 + ci) (hb : B.length + 1 = nb)
    (k : am_A G SC d Y Q (pc + 3 + 3) ls st (cs_W (A ++ (ck, 0, (f, (999, A.length + nb)) :: rs, is) :: (B ++ [(kd, ln, [], [])]))) (bc - 1) (bs - ln)) :
    am_A G SC d Y Q pc ls (.inl n :: .inr (.inr (some (999, A.length))) :: st) (cs_W (A ++ (ck, 0, rs, is) :: B)) bc bs := by
  subst hck hb
  refine cs_anew hd hty h7 h10 hcl' hov hn hln hc hs' ?_
  rw [cs_as, cs_len]
  refine am_putr hd2 hcl hf hlk hfin hz (cs_kd _ _ _ _ _ _) ?_
  rw [cs_upr]
  exact k
/-- a grid of two dimensions; putfield -/
theorem cs_grid2 {A B : List cs_C} {ck f ci N idx idx2 nb a b : Nat} {rs : List (Nat × am_I)} {is : List (Nat × Int)} {C : String} {T : u_T} {za zb : Int} (hd : decode Y.2.1 pc = .ok (.multianewarray idx2 2, 4)) (hd2 : decode Y.2.1 (pc + 4) = .ok (.putfield idx, 3)) (hcl' : Cond.classLink Y.1.cls idx2 "[[I" ∈ am_TW) (hov : FieldType.array .int ∈ am_aot) (hza : za = (a : Int)) (hzb : zb = (b : Int)) (ha : a ≤ 10000000) (hb' : b ≤ 10000000) (hc : 1 + a * 1 ≤ bc) (hs' : a + a * b ≤ bs)
    (hcl : am_cl[ci]? = some (C, T, N)) (hf : f < N) (hlk : Cond.fieldLink Y.1.cls idx (T f).1 (T f).2.1 (T f).2.2.1 ∈ am_TW) (hfin : (T f).2.2.2 = false ∨ ((T f).2.2.2 = true ∧ Y.1.name = "<init>" ∧ (T f).1 = Y.1.cls)) (hz : am_fT ci f = 2) (hck : ck = 100 + ci) (hb : B.length + 1 = nb)
    (k : am_A G SC d Y Q (pc + 4 + 3) ls st (cs_W (A ++ (ck, 0, (f, (999, A.length + nb)) :: rs, is) :: (B ++ cs_g2 a b (A.length + nb)))) (bc - (1 + a * 1)) (bs - (a + a * b))) :
    am_A G SC d Y Q pc ls (.inl zb :: .inl za :: .inr (.inr (some (999, A.length))) :: st) (cs_W (A ++ (ck, 0, rs, is) :: B)) bc bs := by
  subst hck hb
  refine am_mna2 hd hcl' hov hza hzb ha hb' hc hs' ?_
  rw [cs_mk (R := fun _ => [(0, b, [], [])]) (q := 1) (fun C => cs_fr C 0 b) (fun _ => rfl)]
  show am_A G SC d Y Q (pc + 4) ls (.inr (.inr (some (999, (A ++ (100 + ci, 0, rs, is) :: B).length))) :: .inr (.inr (some (999, A.length))) :: st) (cs_W ((A ++ (100 + ci, 0, rs, is) :: B) ++ cs_g2 a b (A ++ (100 + ci, 0, rs, is) :: B).length)) (bc - (1 + a * 1)) (bs - (a + a * b))
  rw [cs_as, cs_len]
  refine am_putr hd2 hcl hf hlk hfin hz (cs_kd _ _ _ _ _ _) ?_
  rw [cs_upr]
  exact k
/-- a grid of three dimensions; putfield -/
theorem cs_grid3 {A B : List cs_C} {ck f ci N idx idx2 nb a b o : Nat} {rs : List (Nat × am_I)} {is : List (Nat × Int)} {C : String} {T : u_T} {za zb zo : Int} (hd : decode Y.2.1 pc = .ok (.multianewarray idx2 3, 4)) (hd2 : decode Y.2.1 (pc + 4) = .ok (.putfield idx, 3)) (hcl' : Cond.classLink Y.1.cls idx2 "[[[I" ∈ am_TW) (hov5 : FieldType.array .int ∈ am_aot) (hov : FieldType.array (.array .int) ∈ am_aot) (hza : za = (a : Int)) (hzb : zb = (b : Int)) (hzo : zo = (o : Int)) (ha : a ≤ 10000000) (hb' : b ≤ 10000000) (ho' : o ≤ 10000000) (hc : 1 + a * (1 + b * 1) ≤ bc) (hs' : a + a * (b + b * o) ≤ bs)
    (hcl : am_cl[ci]? = some (C, T, N)) (hf : f < N) (hlk : Cond.fieldLink Y.1.cls idx (T f).1 (T f).2.1 (T f).2.2.1 ∈ am_TW) (hfin : (T f).2.2.2 = false ∨ ((T f).2.2.2 = true ∧ Y.1.name = "<init>" ∧ (T f).1 = Y.1.cls)) (hz : am_fT ci f = 2) (hck : ck = 100 + ci) (hb : B.length + 1 = nb)
    (k : am_A G SC d Y Q (pc + 4 + 3) ls st (cs_W (A ++ (ck, 0, (f, (999, A.length + nb)) :: rs, is) :: (B ++ cs_g3 a b o (A.length + nb)))) (bc - (1 + a * (1 + b * 1))) (bs - (a + a * (b + b * o)))) :
    am_A G SC d Y Q pc ls (.inl zo :: .inl zb :: .inl za :: .inr (.inr (some (999, A.length))) :: st) (cs_W (A ++ (ck, 0, rs, is) :: B)) bc bs := by
  subst hck hb
  refine am_mna3 hd hcl' hov5 hov hza hzb hzo ha hb' ho' hc hs' ?_
  rw [cs_mk (R := cs_g2 b o) (q := 1 + b) (fun C => cs_mk (R := fun _ => [(0, o, [], [])]) (q := 1) (fun C => cs_fr C 0 o) (fun _ => rfl) 5 b C) (cs_g2_l b o)]
  show am_A G SC d Y Q (pc + 4) ls (.inr (.inr (some (999, (A ++ (100 + ci, 0, rs, is) :: B).length))) :: .inr (.inr (some (999, A.length))) :: st) (cs_W ((A ++ (100 + ci, 0, rs, is) :: B) ++ cs_g3 a b o (A ++ (100 + ci, 0, rs, is) :: B).length)) (bc - (1 + a * (1 + b * 1))) (bs - (a + a * (b + b * o)))
  rw [cs_as, cs_len]
  refine am_putr hd2 hcl hf hlk hfin hz (cs_kd _ _ _ _ _ _) ?_
  rw [cs_upr]
  exact k
/-- putfield of the array that was made last -/
theorem cs_putlast {A B : List cs_C} {x : cs_C} {ck f ci N idx nb n : Nat} {rs : List (Nat × am_I)} {is : List (Nat × Int)} {C : String} {T : u_T} (hd2 : decode Y.2.1 pc = .ok (.putfield idx, 3)) 
    (hcl : am_cl[ci]? = some (C, T, N)) (hf : f < N) (hlk : Cond.fieldLink Y.1.cls idx (T f).1 (T f).2.1 (T f).2.2.1 ∈ am_TW) (hfin : (T f).2.2.2 = false ∨ ((T f).2.2.2 = true ∧ Y.1.name = "<init>" ∧ (T f).1 = Y.1.cls)) (hz : am_fT ci f = 2) (hck : ck = 100 + ci) (hb : B.length + 1 = nb) (hn : n = (A ++ (ck, 0, rs, is) :: B).length)
    (k : am_A G SC d Y Q (pc + 3) ls st (cs_W (A ++ (ck, 0, (f, (999, A.length + nb)) :: rs, is) :: (B ++ [x]))) bc bs) :
    am_A G SC d Y Q pc ls (.inr (.inr (some (999, n))) :: .inr (.inr (some (999, A.length))) :: st) (cs_W ((A ++ (ck, 0, rs, is) :: B) ++ [x])) bc bs := by
  subst hck hb hn
  rw [cs_as, cs_len]
  refine am_putr hd2 hcl hf hlk hfin hz (cs_kd _ _ _ _ _ _) ?_
  rw [cs_upr]
  exact k
/-- aastore into an array that was made -/
theorem cs_aast {A B : List cs_C} {kd ln ci N t' j' i : Nat} {rs : List (Nat × am_I)} {C : String} {T : u_T} {z : Int} (hd : decode Y.2.1 pc = .ok (.aastore, 1)) (h7 : 7 ≤ kd) (h10 : kd < 10) (hc : am_cl[ci]? = some (C, T, N)) (hty : am_aty kd = .object C) (ht' : t' < 1100) (hkv : am_kd G (cs_W (A ++ (kd, ln, rs, []) :: B)) t' j' = 100 + ci) (hz : z = (i : Int)) (hi : i < ln)
    (k : am_A G SC d Y Q (pc + 1) ls st (cs_W (A ++ (kd, ln, (i, (t', j')) :: rs, []) :: B)) bc bs) : am_A G SC d Y Q pc ls (.inr (.inr (some (t', j'))) :: .inl z :: .inr (.inr (some (999, A.length))) :: st) (cs_W (A ++ (kd, ln, rs, []) :: B)) bc bs := by
  subst hz
  refine am_aastore hd (cs_kd _ _ _ _ _ _) h7 h10 hc hty ht' hkv (Int.natCast_nonneg _) (by rw [cs_ln]; omega) ?_
  rw [Int.toNat_natCast, cs_upr]
  exact k
/-- getfield of a reference -/
theorem cs_getr {A B : List cs_C} {ck f ci N idx : Nat} {rs : List (Nat × am_I)} {is : List (Nat × Int)} {C : String} {T : u_T} {r : am_I} (hd : decode Y.2.1 pc = .ok (.getfield idx, 3)) (hc : am_cl[ci]? = some (C, T, N)) (hf : f < N) (hw : Cond.fieldLink Y.1.cls idx (T f).1 (T f).2.1 (T f).2.2.1 ∈ am_TW) (hz : am_fT ci f = 2) (hck : ck = 100 + ci) (hr : cs_r rs f = some r)
    (k : am_A G SC d Y Q (pc + 3) ls (.inr (.inr (some r)) :: st) (cs_W (A ++ (ck, 0, rs, is) :: B)) bc bs) : am_A G SC d Y Q pc ls (.inr (.inr (some (999, A.length))) :: st) (cs_W (A ++ (ck, 0, rs, is) :: B)) bc bs := by
  subst hck
  refine am_getf hd hc hf hw (by decide) (cs_kd _ _ _ _ _ _) (v := .inr (.inr (some r))) ?_ k
  unfold am_fv
  rw [if_neg (by omega), if_pos hz, cs_gr, hr]
end CSR
