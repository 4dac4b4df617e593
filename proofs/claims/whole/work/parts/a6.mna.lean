-- THE KIT'S RULE THAT WAS LACKING: multianewarray, of two and of three dimensions
section AMMN
variable {G : am_G} {SC : Nat → Nat} {Dg : va_G} {cI : Nat → ClassId} {s : State} {A : Nat → Prop} {ad : am_I → Nat} {w : am_W} {H : Heap} {locs : List Loc}
/-- an array is pushed behind the heap -/
theorem am_pushA {kd ln : Nat} (h : am_H G SC Dg cI s A ad w H locs) {a0 : vp_A} (hE : am_cE cI G (am_ad1 ad w.2.2.2.2 H.size) (am_fr w kd ln) (999, w.2.2.2.2) = .inl (cI kd, a0)) {cell : Cell} (hc : cell = vp_cell (cI kd) a0) : am_H G SC Dg cI s A (am_ad1 ad w.2.2.2.2 H.size) (am_fr w kd ln) (H.push cell) locs := by
  subst hc
  generalize hH1 : H.push (vp_cell (cI kd) a0) = H1
  have z1 : H1.size = H.size + 1 := by rw [← hH1, Array.size_push]
  have e1 : H1[H.size]? = some (vp_cell (cI kd) a0) := by rw [← hH1, Array.getElem?_push_size]
  have o1 : ∀ q : Nat, q < H.size → H1[q]? = H[q]? := fun q hq => by rw [← hH1, Array.getElem?_push, if_neg (Nat.ne_of_lt hq)]
  have hP := h.1
  have hD := h.2.1
  have hS := h.2.2.1
  have hA := h.2.2.2.1
  have hk : ∀ (k : Nat) (x : Nat × va_E), (am_wsl G SC cI ad w)[k]? = some x → H1[x.1]? = H[x.1]? := fun k x hx => o1 x.1 ((hP k x hx).lt)
  refine am_frH h hE ((hP.kept hk).app (fun k x hx => ?_)) (hD.push hP rfl (hA _ hS.1)) ⟨Nat.le_trans hS.1 (by omega), fun x h1 h2 => (o1 x (Nat.lt_of_lt_of_le h1 hS.1)).trans (hS.2.1 x h1 h2), hS.2.2⟩
  have hz : k < 1 := (List.getElem?_eq_some_iff.mp hx).1
  rw [show k = 0 by omega] at hx
  cases hx
  exact e1
/-- a reference is written into an array of arrays -/
theorem am_setA {j kd i : Nat} {r : am_I} (h : am_H G SC Dg cI s A ad w H locs) (hlv : am_lv SC w (999, j)) (hkd : am_kd G w 999 j = kd) (h5 : 5 ≤ kd) (h10 : kd < 10) (hr : am_lv SC w r) (hi : i < am_ln G w 999 j) :
    ∃ cell : Cell, H[ad (999, j)]? = some cell ∧ cell.cls = cI kd ∧ cell.vm = .none ∧ cell.slots.size = am_ln G w 999 j ∧ ∀ H1 : Heap, H1[ad (999, j)]? = some (cell.setSlot i (.ref (ad r))) → H1.size = H.size → (∀ q : Nat, q ≠ ad (999, j) → H1[q]? = H[q]?) → am_H G SC Dg cI s A ad (am_upr w j i (some r)) H1 (locs ++ [⟨ad (999, j), i⟩]) := by
  obtain ⟨q0, hq, hk9⟩ := am_wr (w' := am_upr w j i (some r)) h hlv (show 999 < 1000 by decide) rfl (fun y hy => am_upr_cE hy) (am_wf_r (fun id e => by cases e; exact hr) h.2.2.2.2.1)
  rw [am_cE_r hkd (by omega) (by omega)] at hq
  have hcell := h.1 q0 _ hq
  have hS := h.2.2.1
  have hD := h.2.1
  obtain ⟨ff, hff⟩ : ∃ ff : Nat → Option Nat, ff = fun k => if k < am_ln G w 999 j then (am_gr G w 999 j k).map ad else none := ⟨_, rfl⟩
  have hcell' : H[ad (999, j)]? = some (arrV (cI kd) (am_ln G w 999 j) (fun k => va_rf (ff k))) := by rw [hff]; exact hcell
  have hce : am_cE cI G ad (am_upr w j i (some r)) (999, j) = .inl (cI kd, am_ln G w 999 j, .inr (.inr (.inr (.inr (fun k => if k = i then some (ad r) else ff k))))) := by
    rw [am_cE_r (w := am_upr w j i (some r)) (show am_kd G (am_upr w j i (some r)) 999 j = kd from hkd) (by omega) (by omega)]
    refine congrArg (fun g => (.inl (cI kd, am_ln G w 999 j, .inr (.inr (.inr (.inr g)))) : va_E)) (funext fun k9 => ?_)
    rw [am_upr_gr, hff]
    show (if k9 < am_ln G w 999 j then _ else none) = _
    by_cases e9 : k9 = i
    · rw [if_pos e9, if_pos (by omega), if_pos ⟨rfl, rfl, e9⟩]; rfl
    · rw [if_neg (fun e : (999 : Nat) = 999 ∧ j = j ∧ k9 = i => e9 e.2.2)]
      exact (if_neg e9).symm
  have hnew : (arrV (cI kd) (am_ln G w 999 j) (fun k => va_rf (ff k))).setSlot i (.ref (ad r)) = vp_cell (cI kd) (am_ln G w 999 j, .inr (.inr (.inr (.inr (fun k => if k = i then some (ad r) else ff k))))) := by
    rw [arrV_store]
    show _ = arrV (cI kd) (am_ln G w 999 j) (fun k => va_rf (if k = i then some (ad r) else ff k))
    refine congrArg (arrV (cI kd) (am_ln G w 999 j)) (funext fun k9 => ?_)
    unfold updV
    by_cases e9 : k9 = i
    · rw [if_pos e9, if_pos e9]; rfl
    · rw [if_neg e9, if_neg e9]
  refine ⟨_, hcell', rfl, rfl, arrV_size _ _ _, fun H1 e1 z1 o1 => ?_⟩
  rw [hnew] at e1
  exact hk9 _ H1 _ hce (h.1.set hD hq e1 o1) (hD.set hq) ⟨by rw [z1]; exact hS.1, fun q g1 g2 => by
      rw [o1 q (fun e => g2 (by rw [e]; exact hD.2 q0 _ hq))]
      exact hS.2.1 q g1 g2, fun q hq' => by
      rcases List.mem_append.mp hq' with h | h
      · exact hS.2.2 q h
      · cases List.mem_singleton.mp h
        exact hD.2 q0 _ hq⟩
end AMMN
/-- the worlds of a grid in the making: F makes a row, N is the outer array -/
def am_mkI (F : am_W → am_W) (N : Nat) (w0 : am_W) : Nat → am_W
  | 0 => w0
  | i + 1 => am_upr (F (am_mkI F N w0 i)) N i (some (999, (am_mkI F N w0 i).2.2.2.2))
def am_mk (F : am_W → am_W) (kd ln : Nat) (w : am_W) : am_W := am_mkI F w.2.2.2.2 (am_fr w kd ln) ln
def am_Fok (F : am_W → am_W) : Prop := (∀ u : am_W, u.2.2.2.2 < (F u).2.2.2.2) ∧ ∀ (u : am_W) (j : Nat), j < u.2.2.2.2 → (F u).2.2.2.1 j = u.2.2.2.1 j
theorem am_Fok_fr (kd ln : Nat) : am_Fok (fun w => am_fr w kd ln) := ⟨fun u => Nat.lt_succ_self _, fun u j hj => if_neg (Nat.ne_of_lt hj)⟩
theorem am_mkI_ok {F : am_W → am_W} (hF : am_Fok F) (N : Nat) (w0 : am_W) : ∀ i, w0.2.2.2.2 ≤ (am_mkI F N w0 i).2.2.2.2 ∧ ∀ j, j < w0.2.2.2.2 → (am_mkI F N w0 i).2.2.2.1 j = w0.2.2.2.1 j
  | 0 => ⟨Nat.le_refl _, fun _ _ => rfl⟩
  | i + 1 => by
    obtain ⟨h1, h2⟩ := am_mkI_ok hF N w0 i
    refine ⟨?_, fun j hj => ?_⟩
    · show w0.2.2.2.2 ≤ (F (am_mkI F N w0 i)).2.2.2.2
      have := hF.1 (am_mkI F N w0 i)
      omega
    · show (F (am_mkI F N w0 i)).2.2.2.1 j = _
      rw [hF.2 _ _ (by omega)]
      exact h2 j hj
theorem am_Fok_mk {F : am_W → am_W} (hF : am_Fok F) (kd ln : Nat) : am_Fok (am_mk F kd ln) := by
  refine ⟨fun u => ?_, fun u j hj => ?_⟩
  · have := (am_mkI_ok hF u.2.2.2.2 (am_fr u kd ln) ln).1
    exact Nat.lt_of_lt_of_le (Nat.lt_succ_self _) this
  · exact ((am_mkI_ok hF u.2.2.2.2 (am_fr u kd ln) ln).2 j (Nat.lt_succ_of_lt hj)).trans (if_neg (Nat.ne_of_lt hj))
section AMMW
variable {G : am_G} {SC : Nat → Nat} {Dg : va_G} {cI : Nat → ClassId} {A : Nat → Prop} {p : Program} {l : Launch} {e : Env} {R : Room} {s : State} {m : MethodId} {args : Array Value} {below : List Frame} {meth : Method} {c : Code}
/-- what 'make' does: from any state that holds w it comes to one that holds F w, with a name for what was made; ci cells, si places -/
def am_MK (G : am_G) (SC : Nat → Nat) (Dg : va_G) (cI : Nat → ClassId) (A : Nat → Prop) (p : Program) (l : Launch) (e : Env) (R : Room) (s : State) (m : MethodId) (args : Array Value) (below : List Frame) (meth : Method) (c : Code) (F : am_W → am_W) (ci si : Nat) (mk : Sem Addr) : Prop :=
  ∀ (T : State) (ad : am_I → Nat) (w : am_W) (locs : List Loc) (cells slots : Nat), am_H G SC Dg cI s A ad w T.heap locs → Stand p l e R s m args below meth c T locs cells slots → cells + ci ≤ R.cells → slots + si ≤ R.slots →
    ∃ (T' : State) (ad' : am_I → Nat) (locs' : List Loc), am_H G SC Dg cI s A ad' (F w) T'.heap locs' ∧ Stand p l e R s m args below meth c T' locs' (cells + ci) (slots + si) ∧ am_ag SC ad w ad' (F w) ∧ ad' (999, w.2.2.2.2) = T.heap.size ∧
      ∀ (g : JFrame) (E : CtlPost) (d : Bool) (acts : List Action) (Q : Addr → Pre), (∀ d' acts', Q T.heap.size d' acts' (T'.setTop g)) → wp mk Q E e d acts (T.setTop g)
theorem am_wp_new {U : State} {E : CtlPost} {d : Bool} {acts : List Action} {cA comp : ClassId} {k : Class} {ty : FieldType} {n : Nat} {init : Value} {Q : Addr → Pre} {T : State} {locs : List Loc} {cells slots : Nat} (X : Stand p l e R s m args below meth c T locs cells slots) (hU1 : U.vm = T.vm) (hU2 : U.heap.size = T.heap.size) (hU3 : U.slotsUsed = T.slotsUsed)
    (hk : s.vm.classes[cA]? = some k) (hkind : k.kind = .array comp ty) (hn : n ≤ 10000000) (hcb : componentBytes ty ≤ 8) (hfit : fits ty init = true) (hc : cells + 1 ≤ R.cells) (hs : slots + n ≤ R.slots) (hq : ∀ acts', Q U.heap.size d acts' (U.pushCell { cls := cA, slots := Array.replicate n init })) : wp (Jvm.newArray cA n init) Q E e d acts U := by
  have hal : s.vm.Alike T.vm := X.warmed.alike
  obtain ⟨k', hk', he⟩ := hal.2.2 _ _ hk
  obtain ⟨hr1, hr2⟩ := X.roomAbove hc hs
  have hm : n * componentBytes ty ≤ n * 8 := Nat.mul_le_mul_left _ hcb
  refine W.newArray_of (k := k') (comp := comp) (type := ty) (by rw [hU1]; exact hk') (by rw [he]; exact hkind) ?_ ?_ (by rw [hU2]; omega) (by rw [hU3]; exact hr2) hfit hq
  · rw [Launch.admits_arrayLengthLimit X.admits]; omega
  · rw [Launch.admits_maxHeapBytes X.admits]; omega
/-- the innermost dimension -/
theorem am_MK_leaf {n : Int32} {ln : Nat} (hn : ¬ n < 0) (hN : n.toNatClampNeg = ln) (hl : ln ≤ 10000000) (hK : va_K Dg am_cl (am_tys cI) s) : am_MK G SC Dg cI A p l e R s m args below meth c (fun w => am_fr w 0 ln) 1 ln (multianewarray.make (cI 0) [n]) := by
  intro T ad w locs cells slots hH X hc hs
  obtain ⟨-, k, hk, comp, hkind⟩ := (hK.2 0 _ (am_tys_at cI (by decide))).1 0 (fun _ => .null)
  have hkind' : k.kind = .array comp .int := hkind
  have hk' : s.vm.classes[cI 0]? = some k := hk
  have hE : am_cE cI G (am_ad1 ad w.2.2.2.2 T.heap.size) (am_fr w 0 ln) (999, w.2.2.2.2) = .inl (cI 0, (ln, .inl (fun _ => Int32.ofInt 0))) := by
    rw [am_cE_i am_fr_kd (by decide) (by decide), am_fr_ln]
    simp only [am_fr_gi]
  have hX := X.pushed { cls := cI 0, slots := Array.replicate ln (.int 0), vm := .none }
  rw [show ({ cls := cI 0, slots := Array.replicate ln (.int 0), vm := .none } : Cell).slots.size = ln from Array.size_replicate] at hX
  refine ⟨T.pushCell { cls := cI 0, slots := Array.replicate ln (.int 0), vm := .none }, _, locs, am_pushA hH hE (arrV_new _ _ _), hX, am_fr_ag, if_pos rfl, fun g E d acts Q hq => ?_⟩
  have hal : s.vm.Alike T.vm := X.warmed.alike
  obtain ⟨k1, hk1, he1⟩ := hal.2.2 _ _ hk'
  have hk2 : (T.setTop g).vm.classes[cI 0]? = some k1 := hk1
  have hkind2 : k1.kind = .array comp .int := by rw [he1]; exact hkind'
  rw [multianewarray.make]
  simp only [wp_bind', W.ite, hn, if_false, wp_pure', W.theClass, hk2, hkind2, Option.some.injEq, exists_eq_left']
  rw [hN]
  exact am_wp_new X rfl rfl rfl hk' hkind' hl (by decide) rfl hc hs (fun acts' => hq d acts')
/-- the loop over the rows -/
theorem am_MK_loop {F : am_W → am_W} {ci si kd ln : Nat} {mk : Sem Addr} {f : Nat → PUnit → Sem (ForInStep PUnit)} {a : Nat} {kA : Class} {comp : ClassId} (hF : am_Fok F) (hM : am_MK G SC Dg cI A p l e R s m args below meth c F ci si mk) (h5 : 5 ≤ kd) (h10 : kd < 10) (hk : s.vm.classes[cI kd]? = some kA) (hkind : kA.kind = .array comp (am_aty kd)) (href : ∀ r : Nat, fits (am_aty kd) (.ref r) = true)
    (hf : ∀ i u, f i u = (mk >>= fun r => writeLoc a i (.ref r) >>= fun _ => Pure.pure (ForInStep.yield PUnit.unit))) {N : Nat} {w0 : am_W} (hN : N < w0.2.2.2.2) (hsh : w0.2.2.2.1 N = (kd, ln)) :
    ∀ (k i : Nat) (T : State) (ad : am_I → Nat) (locs : List Loc) (cells slots : Nat), i + k = ln → am_H G SC Dg cI s A ad (am_mkI F N w0 i) T.heap locs → Stand p l e R s m args below meth c T locs cells slots → cells + k * ci ≤ R.cells → slots + k * si ≤ R.slots → ad (999, N) = a →
    ∃ (T' : State) (ad' : am_I → Nat) (locs' : List Loc), am_H G SC Dg cI s A ad' (am_mkI F N w0 ln) T'.heap locs' ∧ Stand p l e R s m args below meth c T' locs' (cells + k * ci) (slots + k * si) ∧ am_ag SC ad (am_mkI F N w0 i) ad' (am_mkI F N w0 ln) ∧
      ∀ (g : JFrame) (E : CtlPost) (d : Bool) (acts : List Action) (Q : PUnit → Pre), (∀ d' acts', Q PUnit.unit d' acts' (T'.setTop g)) → wp (forIn (List.range' i k 1) PUnit.unit f) Q E e d acts (T.setTop g) := by
  intro k
  induction k with
  | zero =>
    intro i T ad locs cells slots hi hH X hc hs ha
    obtain rfl : i = ln := by omega
    refine ⟨T, ad, locs, hH, by simpa using X, am_ag.refl, fun g E d acts Q hq => ?_⟩
    simp only [List.range'_zero, List.forIn_nil, wp_pure']
    exact hq _ _
  | succ k ih =>
    intro i T ad locs cells slots hi hH X hc hs ha
    have m1 : (k + 1) * ci = ci + k * ci := by rw [Nat.succ_mul, Nat.add_comm]
    have m2 : (k + 1) * si = si + k * si := by rw [Nat.succ_mul, Nat.add_comm]
    rw [m1] at hc
    rw [m2] at hs
    obtain ⟨T1, ad1, locs1, hH1, X1, hag1, hb1, hw1⟩ := hM T ad (am_mkI F N w0 i) locs cells slots hH X (by omega) (by omega)
    obtain ⟨o1, o2⟩ := am_mkI_ok hF N w0 i
    have oF := hF.1 (am_mkI F N w0 i)
    have hl1 : am_lv SC (F (am_mkI F N w0 i)) (999, N) := Or.inl ⟨rfl, by show N < (F (am_mkI F N w0 i)).2.2.2.2; omega⟩
    have hsh1 : (F (am_mkI F N w0 i)).2.2.2.1 N = (kd, ln) := by rw [hF.2 _ _ (by omega), o2 N hN, hsh]
    have hkd1 : am_kd G (F (am_mkI F N w0 i)) 999 N = kd := by unfold am_kd; rw [if_pos rfl, hsh1]
    have hln1 : am_ln G (F (am_mkI F N w0 i)) 999 N = ln := by unfold am_ln; rw [if_pos rfl, hsh1]
    have hr1 : am_lv SC (F (am_mkI F N w0 i)) (999, (am_mkI F N w0 i).2.2.2.2) := Or.inl ⟨rfl, oF⟩
    have ha1 : ad1 (999, N) = a := by rw [hag1.2 (999, N) (Or.inl ⟨rfl, by show N < (am_mkI F N w0 i).2.2.2.2; omega⟩)]; exact ha
    obtain ⟨cell, c1, c2, c3, c4, c5⟩ := am_setA (i := i) hH1 hl1 hkd1 h5 h10 hr1 (by rw [hln1]; omega)
    have hlt : ad1 (999, N) < T1.heap.size := (Array.getElem?_eq_some_iff.mp c1).1
    have hH2 := c5 (T1.setCell (ad1 (999, N)) (cell.setSlot i (.ref (ad1 (999, (am_mkI F N w0 i).2.2.2.2))))).heap (heapAt_setCell_self _ hlt) (size_setCell _ _ _) (fun q hq => heapAt_setCell_ne _ (Ne.symm hq))
    have X2 := X1.stored c1 i (.ref (ad1 (999, (am_mkI F N w0 i).2.2.2.2)))
    obtain ⟨T', ad', locs', g1, g2, g3, g4⟩ := ih (i + 1) _ ad1 _ (cells + ci) (slots + si) (by omega) hH2 X2 (by omega) (by omega) ha1
    refine ⟨T', ad', locs', g1, ?_, hag1.trans g3, fun g E d acts Q hq => ?_⟩
    · rw [m1, m2, ← Nat.add_assoc, ← Nat.add_assoc]
      exact g2
    · rw [List.range'_succ]
      simp only [List.forIn_cons, wp_bind', hf]
      refine hw1 g E d acts _ (fun d' acts' => ?_)
      simp only [wp_bind', W.writeLoc, wp_pure']
      have hal : s.vm.Alike T1.vm := X1.warmed.alike
      obtain ⟨k1, hk1, he1⟩ := hal.2.2 _ _ hk
      have hk2 : (T1.setTop g).vm.classes[cI kd]? = some k1 := hk1
      have hkind2 : k1.kind = .array comp (am_aty kd) := by rw [he1]; exact hkind
      refine ⟨cell, by rw [← ha1]; exact c1, by rw [c3]; exact (fun h => nomatch h), by rw [c4, hln1]; omega, ?_, ?_⟩
      · rw [c2, c3]
        simp [State.fitsSlot, State.slotType?, hk1, hkind2, href]
      · have q9 := g4 g E true (writeActs ⟨a, i⟩ Mode.plain (.ref T.heap.size) acts') Q hq
        rw [hb1, ha1] at q9
        exact q9
/-- one dimension more -/
theorem am_MK_dim {F : am_W → am_W} {ci si kd kd' ln : Nat} {n n1 : Int32} {ns : List Int32} {kA : Class} (hF : am_Fok F) (hM : am_MK G SC Dg cI A p l e R s m args below meth c F ci si (multianewarray.make (cI kd') (n1 :: ns))) (h5 : 5 ≤ kd) (h10 : kd < 10) (hk : s.vm.classes[cI kd]? = some kA) (hkind : kA.kind = .array (cI kd') (am_aty kd)) (href : ∀ r : Nat, fits (am_aty kd) (.ref r) = true) (hnul : fits (am_aty kd) .null = true) (hcb : componentBytes (am_aty kd) ≤ 8)
    (hn : ¬ n < 0) (hN : n.toNatClampNeg = ln) (hl : ln ≤ 10000000) (hfind : ((n1 :: ns).find? (· < 0)) = none) : am_MK G SC Dg cI A p l e R s m args below meth c (am_mk F kd ln) (1 + ln * ci) (ln + ln * si) (multianewarray.make (cI kd) (n :: n1 :: ns)) := by
  intro T ad w locs cells slots hH X hc hs
  have hE : am_cE cI G (am_ad1 ad w.2.2.2.2 T.heap.size) (am_fr w kd ln) (999, w.2.2.2.2) = .inl (cI kd, (ln, .inr (.inr (.inr (.inr (fun _ => none)))))) := by
    rw [am_cE_r am_fr_kd (by omega) (by omega), am_fr_ln]
    simp only [am_fr_gr, Option.map_none, ite_self]
  have hX := X.pushed { cls := cI kd, slots := Array.replicate ln .null, vm := .none }
  rw [show ({ cls := cI kd, slots := Array.replicate ln .null, vm := .none } : Cell).slots.size = ln from Array.size_replicate] at hX
  have hH0 := am_pushA hH hE (arrV_new _ _ .null)
  obtain ⟨f, hf⟩ : ∃ f : Nat → PUnit → Sem (ForInStep PUnit), f = fun i _ => (multianewarray.make (cI kd') (n1 :: ns) >>= fun r => writeLoc T.heap.size i (.ref r) >>= fun _ => Pure.pure (ForInStep.yield PUnit.unit)) := ⟨_, rfl⟩
  obtain ⟨T', ad', locs', g1, g2, g3, g4⟩ := am_MK_loop (f := f) (a := T.heap.size) hF hM h5 h10 hk hkind href (fun i u => by rw [hf]) (N := w.2.2.2.2) (w0 := am_fr w kd ln) (Nat.lt_succ_self _) (if_pos rfl) ln 0 (T.pushCell { cls := cI kd, slots := Array.replicate ln .null, vm := .none }) _ locs (cells + 1) (slots + ln) (by omega) hH0 hX (by omega) (by omega) (if_pos rfl)
  refine ⟨T', ad', locs', g1, by rw [← Nat.add_assoc, ← Nat.add_assoc]; exact g2, am_fr_ag.trans g3, ?_, fun g E d acts Q hq => ?_⟩
  · rw [g3.2 (999, w.2.2.2.2) (Or.inl ⟨rfl, Nat.lt_succ_self _⟩)]
    exact if_pos rfl
  · have hal : s.vm.Alike T.vm := X.warmed.alike
    obtain ⟨k1, hk1, he1⟩ := hal.2.2 _ _ hk
    have hk2 : (T.setTop g).vm.classes[cI kd]? = some k1 := hk1
    have hkind2 : k1.kind = .array (cI kd') (am_aty kd) := by rw [he1]; exact hkind
    rw [multianewarray.make]
    simp only [wp_bind', W.ite, hn, if_false, wp_pure', W.theClass, hk2, hkind2, Option.some.injEq, exists_eq_left']
    rw [hN]
    refine am_wp_new X rfl rfl rfl hk hkind hl hcb hnul (by omega) (by omega) (fun acts' => ?_)
    simp only [hfind]
    rw [ite_self, wp_bind', Std.Legacy.Range.forIn_eq_forIn_range']
    rw [show ([:ln] : Std.Legacy.Range).size = ln by simp [Std.Legacy.Range.size]]
    have q9 := g4 g E d acts' (fun _ d' acts' s' => Q T.heap.size d' acts' s') (fun d' acts' => hq d' acts')
    rw [hf] at q9
    exact q9
end AMMW
section AMMA
variable {G : am_G} {SC : Nat → Nat} {d : Nat} {Y : am_Y} {Q : Option am_V → am_W → Prop} {pc bc bs : Nat} {ls : List (Nat × am_V)} {st : List am_V} {w : am_W}
theorem am_nat32 {n : Nat} (hn : n ≤ 10000000) : ¬ Int32.ofInt (n : Int) < 0 ∧ (Int32.ofInt (n : Int)).toNatClampNeg = n := by
  have hr : am_rg (n : Int) := ⟨by omega, by omega⟩
  refine ⟨fun h => ?_, by rw [am_vix hr, Int.toNat_natCast]⟩
  rw [← am_0, am_ltI hr am_rg0] at h
  omega
theorem am_sz2 : ("[" ++ (FieldType.array FieldType.int).toString) = "[[I" := by decide +kernel
theorem am_sz3 : ("[" ++ (FieldType.array (FieldType.array FieldType.int)).toString) = "[[[I" := by decide +kernel
theorem am_sz1 : (FieldType.array FieldType.int).toString = "[" ++ FieldType.int.toString := by decide +kernel
theorem am_sz4 : (FieldType.array (FieldType.array FieldType.int)).toString = "[" ++ (FieldType.array FieldType.int).toString := by decide +kernel
/-- the class of int[][] -/
theorem am_k5 {Dg : va_G} {cI : Nat → ClassId} {s : State} {args : Array Value} (hK : va_K Dg am_cl (am_tys cI) s) (hov : (Cond.arrayOver (.array .int)).before args s = true) : s.vm.findClass "[[I" = some (cI 5) ∧ ∃ k : Class, s.vm.classes[cI 5]? = some k ∧ k.kind = .array (cI 0) (am_aty 5) := by
  obtain ⟨comp, c5, k5, f1, -, f2, f3, f4⟩ := arrayOverA_spec hov
  have h5 : s.vm.findClass ("[" ++ (FieldType.array FieldType.int).toString) = some (cI 5) := am_ra (hK.2 5 _ (am_tys_at cI (by decide))).2
  have h0 : s.vm.findClass ("[" ++ FieldType.int.toString) = some (cI 0) := am_ra (hK.2 0 _ (am_tys_at cI (by decide))).2
  have e5 : c5 = cI 5 := Option.some.inj (f4.symm.trans h5)
  rw [am_sz1] at f1
  have e0 : comp = cI 0 := Option.some.inj (f1.symm.trans h0)
  subst e5 e0
  rw [am_sz2] at h5
  exact ⟨h5, k5, f2, f3⟩
theorem am_k6 {Dg : va_G} {cI : Nat → ClassId} {s : State} {args : Array Value} (hK : va_K Dg am_cl (am_tys cI) s) (hov : (Cond.arrayOver (.array (.array .int))).before args s = true) : s.vm.findClass "[[[I" = some (cI 6) ∧ ∃ k : Class, s.vm.classes[cI 6]? = some k ∧ k.kind = .array (cI 5) (am_aty 6) := by
  obtain ⟨comp, c5, k5, f1, -, f2, f3, f4⟩ := arrayOverA_spec hov
  have h5 : s.vm.findClass ("[" ++ (FieldType.array (FieldType.array FieldType.int)).toString) = some (cI 6) := am_ra (hK.2 6 _ (am_tys_at cI (by decide))).2
  have h0 : s.vm.findClass ("[" ++ (FieldType.array FieldType.int).toString) = some (cI 5) := am_ra (hK.2 5 _ (am_tys_at cI (by decide))).2
  have e5 : c5 = cI 6 := Option.some.inj (f4.symm.trans h5)
  rw [am_sz4] at f1
  have e0 : comp = cI 5 := Option.some.inj (f1.symm.trans h0)
  subst e5 e0
  rw [am_sz3] at h5
  exact ⟨h5, k5, f2, f3⟩
theorem am_mna2 {idx n m : Nat} {zn zm : Int} (hd : decode Y.2.1 pc = .ok (.multianewarray idx 2, 4)) (hcl : Cond.classLink Y.1.cls idx "[[I" ∈ am_TW) (hov : FieldType.array .int ∈ am_aot) (hzn : zn = (n : Int)) (hzm : zm = (m : Int)) (hn : n ≤ 10000000) (hm : m ≤ 10000000) (hc : 1 + n * 1 ≤ bc) (hs' : n + n * m ≤ bs)
    (k : am_A G SC d Y Q (pc + 4) ls (.inr (.inr (some (999, w.2.2.2.2))) :: st) (am_mk (fun u => am_fr u 0 m) 5 n w) (bc - (1 + n * 1)) (bs - (n + n * m))) : am_A G SC d Y Q pc ls (.inl zm :: .inl zn :: st) w bc bs := by
  intro p l e R s mm args below meth c H locs cells slots QQ Dg cI ad A lsA ad0 w0 hX hH hg h1 h2 hl ho hs hR
  subst hzn hzm
  obtain ⟨x1, x2, x3, x4, x5, x6, x7, x8, x9, x10, x11⟩ := id hX
  obtain ⟨hf5, k5, hk5, hkind5⟩ := am_k5 x8 (am_AO.use (X := #[]) (hH.2.2.2.2.2.2.2.1.2.2 _ hov))
  obtain ⟨n1, n2⟩ := am_nat32 hn
  obtain ⟨m1, m2⟩ := am_nat32 hm
  show W p l e R s mm args below meth c H locs cells slots QQ (F0 mm pc lsA (.int (Int32.ofInt (m : Int)) :: .int (Int32.ofInt (n : Int)) :: st.map (am_cv ad)))
  intro T hT X
  subst hT
  have hpl : e.platform.magicAccessors = ({} : Platform).magicAccessors := by rw [X.admits.platform]
  obtain ⟨c0, hfc0, hcl'⟩ := Cond.classLink_spec x6 (x7 _ hcl) e.platform hpl
  obtain rfl : cI 5 = c0 := Option.some.inj (hf5.symm.trans hfc0)
  obtain ⟨hg₁, hwarm₁, hready₁⟩ := State.classEntry (e := e) X.warmed hcl'
  generalize T.vm.noted mm.cls idx (.cls (cI 5)) = vm₁ at hg₁ hwarm₁ hready₁
  have hMK := am_MK_dim (G := G) (SC := SC) (Dg := Dg) (A := A) (p := p) (l := l) (e := e) (R := R) (args := args) (below := below) (meth := meth) (c := c) (m := mm) (n := Int32.ofInt (n : Int)) (ln := n) (am_Fok_fr 0 m) (am_MK_leaf (G := G) (SC := SC) (A := A) (p := p) (l := l) (e := e) (R := R) (args := args) (below := below) (meth := meth) (c := c) (m := mm) (ln := m) m1 m2 hm x8) (by decide) (by decide) hk5 hkind5 (fun _ => rfl) rfl (by decide) n1 n2 hn (by simp [m1])
  obtain ⟨T', ad', locs', g1, g2, g3, g4, g5⟩ := hMK (T.setVm vm₁) ad w locs cells slots hH (X.noted hwarm₁) (by omega) (by omega)
  have hst := am_o2 (am_o2 hs)
  have q := k p l e R s mm args below meth c T'.heap locs' (cells + (1 + n * 1)) (slots + (n + n * m)) QQ Dg cI ad' A lsA ad0 w0 hX g1 (hg.trans g3) (by omega) (by omega) (by unfold am_cl2; rw [g3.ls ho]; exact hl) (fun q hq => am_ok_grow g3.1 (ho q hq)) (am_oc (Or.inl ⟨rfl, (am_Fok_mk (am_Fok_fr 0 m) 5 n).1 w⟩) (fun v hv => am_ok_grow g3.1 (hst v hv))) hR
  obtain ⟨t, a1, b1⟩ := q T' rfl g2
  refine ⟨t, ?_, b1⟩
  have hdg : decode c.code pc = .ok (.multianewarray idx 2, 4) := by rw [x2]; exact hd
  have e9 : ((.inr (.inr (some (999, w.2.2.2.2))) : am_V) :: st).map (am_cv ad') = .ref T.heap.size :: st.map (am_cv ad) := by
    rw [List.map_cons, g3.st hst]
    show va_rf ((some (999, w.2.2.2.2)).map ad') :: _ = _
    rw [Option.map_some, g4]
    rfl
  rw [e9] at a1
  jvm_step X.here [x1, hdg]
  simp only [multianewarray.sem, wp_bind', W.resolveClassAt_links (State.method?_setTop (F0 mm pc lsA (.int (Int32.ofInt (m : Int)) :: .int (Int32.ofInt (n : Int)) :: st.map (am_cv ad))) X.here.top) hg₁]
  rw [W.popN, if_neg (by decide)]
  refine ⟨F0 mm pc lsA (.int (Int32.ofInt (m : Int)) :: .int (Int32.ofInt (n : Int)) :: st.map (am_cv ad)), State.topJava?_setTop' (s := T.setVm vm₁) _ X.here.top, [.int (Int32.ofInt (n : Int)), .int (Int32.ofInt (m : Int))], st.map (am_cv ad), rfl, rfl, ?_⟩
  simp only [List.mapM_cons, List.mapM_nil, wp_bind', wp_pure']
  have eS : ((T.setTop (F0 mm pc lsA (.int (Int32.ofInt (m : Int)) :: .int (Int32.ofInt (n : Int)) :: st.map (am_cv ad)))).setVm vm₁).setTop (F0 mm pc lsA (st.map (am_cv ad))) = (T.setVm vm₁).setTop (F0 mm pc lsA (st.map (am_cv ad))) := by
    show ((T.setVm vm₁).setTop _).setTop _ = _
    rw [State.setTop_setTop]
  refine Eq.mpr (congrArg _ eS) ?_
  refine g5 _ _ _ _ _ (fun d' acts' => ?_)
  simp only [wp_bind', W.mark, W.pushRef, State.topJava?_setTop' _ g2.here.top, Option.some.injEq, exists_eq_left', State.setTop_setTop, State.heap_setTop]
  intro acts
  simp [jvm, g2.here.top]
  exact a1
theorem am_mna3 {idx n m o : Nat} {zn zm zo : Int} (hd : decode Y.2.1 pc = .ok (.multianewarray idx 3, 4)) (hcl : Cond.classLink Y.1.cls idx "[[[I" ∈ am_TW) (hov5 : FieldType.array .int ∈ am_aot) (hov : FieldType.array (.array .int) ∈ am_aot) (hzn : zn = (n : Int)) (hzm : zm = (m : Int)) (hzo : zo = (o : Int)) (hn : n ≤ 10000000) (hm : m ≤ 10000000) (ho9 : o ≤ 10000000) (hc : 1 + n * (1 + m * 1) ≤ bc) (hs' : n + n * (m + m * o) ≤ bs)
    (k : am_A G SC d Y Q (pc + 4) ls (.inr (.inr (some (999, w.2.2.2.2))) :: st) (am_mk (am_mk (fun u => am_fr u 0 o) 5 m) 6 n w) (bc - (1 + n * (1 + m * 1))) (bs - (n + n * (m + m * o)))) : am_A G SC d Y Q pc ls (.inl zo :: .inl zm :: .inl zn :: st) w bc bs := by
  intro p l e R s mm args below meth c H locs cells slots QQ Dg cI ad A lsA ad0 w0 hX hH hg h1 h2 hl ho hs hR
  subst hzn hzm hzo
  obtain ⟨x1, x2, x3, x4, x5, x6, x7, x8, x9, x10, x11⟩ := id hX
  obtain ⟨hf5, k5, hk5, hkind5⟩ := am_k5 x8 (am_AO.use (X := #[]) (hH.2.2.2.2.2.2.2.1.2.2 _ hov5))
  obtain ⟨hf6, k6, hk6, hkind6⟩ := am_k6 x8 (am_AO.use (X := #[]) (hH.2.2.2.2.2.2.2.1.2.2 _ hov))
  obtain ⟨n1, n2⟩ := am_nat32 hn
  obtain ⟨m1, m2⟩ := am_nat32 hm
  obtain ⟨o1, o2⟩ := am_nat32 ho9
  show W p l e R s mm args below meth c H locs cells slots QQ (F0 mm pc lsA (.int (Int32.ofInt (o : Int)) :: .int (Int32.ofInt (m : Int)) :: .int (Int32.ofInt (n : Int)) :: st.map (am_cv ad)))
  intro T hT X
  subst hT
  have hpl : e.platform.magicAccessors = ({} : Platform).magicAccessors := by rw [X.admits.platform]
  obtain ⟨c0, hfc0, hcl'⟩ := Cond.classLink_spec x6 (x7 _ hcl) e.platform hpl
  obtain rfl : cI 6 = c0 := Option.some.inj (hf6.symm.trans hfc0)
  obtain ⟨hg₁, hwarm₁, hready₁⟩ := State.classEntry (e := e) X.warmed hcl'
  generalize T.vm.noted mm.cls idx (.cls (cI 6)) = vm₁ at hg₁ hwarm₁ hready₁
  have hMK0 := am_MK_dim (G := G) (SC := SC) (Dg := Dg) (A := A) (p := p) (l := l) (e := e) (R := R) (args := args) (below := below) (meth := meth) (c := c) (m := mm) (n := Int32.ofInt (m : Int)) (ln := m) (am_Fok_fr 0 o) (am_MK_leaf (G := G) (SC := SC) (A := A) (p := p) (l := l) (e := e) (R := R) (args := args) (below := below) (meth := meth) (c := c) (m := mm) (ln := o) o1 o2 ho9 x8) (by decide) (by decide) hk5 hkind5 (fun _ => rfl) rfl (by decide) m1 m2 hm (by simp [o1])
  have hMK := am_MK_dim (n := Int32.ofInt (n : Int)) (ln := n) (am_Fok_mk (am_Fok_fr 0 o) 5 m) hMK0 (by decide) (by decide) hk6 hkind6 (fun _ => rfl) rfl (by decide) n1 n2 hn (by simp [m1, o1])
  obtain ⟨T', ad', locs', g1, g2, g3, g4, g5⟩ := hMK (T.setVm vm₁) ad w locs cells slots hH (X.noted hwarm₁) (by omega) (by omega)
  have hst := am_o2 (am_o2 (am_o2 hs))
  have q := k p l e R s mm args below meth c T'.heap locs' (cells + (1 + n * (1 + m * 1))) (slots + (n + n * (m + m * o))) QQ Dg cI ad' A lsA ad0 w0 hX g1 (hg.trans g3) (by omega) (by omega) (by unfold am_cl2; rw [g3.ls ho]; exact hl) (fun q hq => am_ok_grow g3.1 (ho q hq)) (am_oc (Or.inl ⟨rfl, (am_Fok_mk (am_Fok_mk (am_Fok_fr 0 o) 5 m) 6 n).1 w⟩) (fun v hv => am_ok_grow g3.1 (hst v hv))) hR
  obtain ⟨t, a1, b1⟩ := q T' rfl g2
  refine ⟨t, ?_, b1⟩
  have hdg : decode c.code pc = .ok (.multianewarray idx 3, 4) := by rw [x2]; exact hd
  have e9 : ((.inr (.inr (some (999, w.2.2.2.2))) : am_V) :: st).map (am_cv ad') = .ref T.heap.size :: st.map (am_cv ad) := by
    rw [List.map_cons, g3.st hst]
    show va_rf ((some (999, w.2.2.2.2)).map ad') :: _ = _
    rw [Option.map_some, g4]
    rfl
  rw [e9] at a1
  jvm_step X.here [x1, hdg]
  simp only [multianewarray.sem, wp_bind', W.resolveClassAt_links (State.method?_setTop (F0 mm pc lsA (.int (Int32.ofInt (o : Int)) :: .int (Int32.ofInt (m : Int)) :: .int (Int32.ofInt (n : Int)) :: st.map (am_cv ad))) X.here.top) hg₁]
  rw [W.popN, if_neg (by decide)]
  refine ⟨F0 mm pc lsA (.int (Int32.ofInt (o : Int)) :: .int (Int32.ofInt (m : Int)) :: .int (Int32.ofInt (n : Int)) :: st.map (am_cv ad)), State.topJava?_setTop' (s := T.setVm vm₁) _ X.here.top, [.int (Int32.ofInt (n : Int)), .int (Int32.ofInt (m : Int)), .int (Int32.ofInt (o : Int))], st.map (am_cv ad), rfl, rfl, ?_⟩
  simp only [List.mapM_cons, List.mapM_nil, wp_bind', wp_pure']
  have eS : ((T.setTop (F0 mm pc lsA (.int (Int32.ofInt (o : Int)) :: .int (Int32.ofInt (m : Int)) :: .int (Int32.ofInt (n : Int)) :: st.map (am_cv ad)))).setVm vm₁).setTop (F0 mm pc lsA (st.map (am_cv ad))) = (T.setVm vm₁).setTop (F0 mm pc lsA (st.map (am_cv ad))) := by
    show ((T.setVm vm₁).setTop _).setTop _ = _
    rw [State.setTop_setTop]
  refine Eq.mpr (congrArg _ eS) ?_
  refine g5 _ _ _ _ _ (fun d' acts' => ?_)
  simp only [wp_bind', W.mark, W.pushRef, State.topJava?_setTop' _ g2.here.top, Option.some.injEq, exists_eq_left', State.setTop_setTop, State.heap_setTop]
  intro acts
  simp [jvm, g2.here.top]
  exact a1
end AMMA
