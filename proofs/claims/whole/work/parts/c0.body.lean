-- THE LAW: from its entry to the loop
theorem mh_E0 : mh_E mh_W0 mh_W0 := by
  have z : ∀ t, ¬ t = 11 → mh_W0.1 t = fun _ _ => 0 := fun t ht => by
    funext a b
    show (if t = 11 ∧ b = 3 then (-1 : Int) else 0) = 0
    rw [if_neg (fun q => ht q.1)]
  have zl : mh_W0.2.1 = fun _ _ _ => 0 := rfl
  have bt : ∀ j, ¬ mh_bt 0 j := fun j => by unfold mh_bt; simp
  unfold mh_E mh_Wr mh_We mh_RN mh_RT mh_RL mh_RK mh_RO mh_RD mh_RP mh_Wi
  simp only [z 1 (by decide), z 2 (by decide), z 3 (by decide), z 4 (by decide), z 5 (by decide), z 7 (by decide), z 9 (by decide), z 20 (by decide), z 21 (by decide), z 22 (by decide), z 24 (by decide), z 27 (by decide), z 29 (by decide), z 30 (by decide), z 31 (by decide), z 32 (by decide), z 33 (by decide), z 34 (by decide), z 35 (by decide), z 36 (by decide), z 37 (by decide), z 38 (by decide), z 39 (by decide), z 40 (by decide), z 44 (by decide), z 45 (by decide), z 46 (by decide), z 47 (by decide), z 50 (by decide), z 51 (by decide), z 52 (by decide), z 53 (by decide), z 54 (by decide), z 55 (by decide), z 56 (by decide), z 57 (by decide), z 66 (by decide), z 126 (by decide), z 127 (by decide), z 128 (by decide), z 129 (by decide), z 130 (by decide), z 131 (by decide), z 132 (by decide), z 143 (by decide), zl]
  have lv : ∀ k, ¬ mh_lv 0 0 ((0 : Int).toNat) k := fun k h => by
    rcases h with h | ⟨-, h⟩
    · exact absurd h (Nat.not_lt_zero _)
    · exact absurd h (Nat.not_lt_zero _)
  have nl : ∀ k : Nat, ¬ (k : Int) < 0 := fun k => by omega
  refine ⟨⟨⟨⟨(by first | trivial | omega), (by first | trivial | omega)⟩, ⟨(by first | trivial | omega), (by first | trivial | omega), (by first | trivial | omega)⟩, ⟨(by first | trivial | omega), (by first | trivial | omega)⟩, ⟨Nat.le_refl _, Nat.le_refl _, by decide⟩, (by first | trivial | rfl), fun k => (by first | trivial | omega), fun k => (by first | trivial | omega), fun k => (by first | trivial | omega), fun k h => absurd h (lv k), fun k l h => absurd h (lv k), fun j => ⟨Or.inl (by first | trivial | rfl), ⟨fun h => (by first | trivial | omega), fun ⟨k, h, _⟩ => absurd h (lv k)⟩⟩⟩, ⟨(by first | trivial | rfl), (by first | trivial | rfl), (by first | trivial | rfl)⟩, fun _ => (by first | trivial | rfl), fun _ => (by first | trivial | rfl), fun _ => (by first | trivial | rfl), fun _ => (by first | trivial | rfl), fun _ => (by first | trivial | rfl), fun _ => (by first | trivial | rfl), fun _ => (by first | trivial | rfl)⟩, ⟨(by first | trivial | rfl), (by first | trivial | omega), (by first | trivial | omega)⟩, ⟨⟨(by first | trivial | rfl), (by first | trivial | omega), (by first | trivial | omega)⟩, ⟨(by first | trivial | rfl), (by first | trivial | rfl), (by first | trivial | rfl)⟩, fun k => ⟨⟨(by first | trivial | omega), (by first | trivial | omega)⟩, (by first | trivial | rfl)⟩⟩, ⟨⟨(by first | trivial | rfl), (by first | trivial | omega), (by first | trivial | omega)⟩, fun l h => absurd h (nl l)⟩, ⟨⟨(by first | trivial | rfl), (by first | trivial | omega), (by first | trivial | omega)⟩, ⟨(by first | trivial | rfl), (by first | trivial | omega), (by first | trivial | omega)⟩, fun p h => absurd h (nl p), ⟨fun p j => ⟨fun h => absurd h (bt j), fun h => absurd h.1 (nl j)⟩, fun p j => ⟨fun h => absurd h (bt j), fun h => absurd h.1 (nl p)⟩, fun p j => ⟨fun h => absurd h (bt j), fun h => absurd h.1.1 (nl p)⟩, fun j => ⟨fun h => absurd h (bt j), fun h => absurd h.1 (nl j)⟩⟩, fun k h => absurd h (nl k)⟩, ⟨⟨(by first | trivial | rfl), (by first | trivial | omega), (by first | trivial | omega)⟩, fun k h => absurd h (nl k)⟩, ⟨⟨(by first | trivial | rfl), (by first | trivial | omega), (by first | trivial | omega)⟩, fun k h => absurd h (nl k)⟩, ⟨⟨(by first | trivial | rfl), (by first | trivial | omega), (by first | trivial | omega)⟩, fun k h => absurd h (nl k)⟩⟩
variable {X : mh_X} {r : Option am_I}
theorem lw_body (hst : mh_st X r) (hL : X.2.1 ≤ 3072) (hx : ∀ k, am_rg (X.1 k)) (h8 : ∀ q ∈ X.2.2, ∀ id : am_I, q.2.2.2 = .inr (.inr (some id)) → 1000 ≤ id.1) : am_A (mh_G X) mh_S0 1400 lw_Y (fun r _ => r = some (.inl 1)) 0 [(0, .inr (.inr (some (1002, 0))))] [] (cs_W []) 600000 7302250 := by
  refine cs_new (P := []) (ci := 0) dl_0 hc_0 wd_136 wd_137 wd_112 (by omega) (by omega) ?_
  refine am_dup dl_3 rfl ?_
  refine am_calli (d' := 1000 + 3) (kc := 239) (ks := 9216) (as := []) dl_4 wc_X11_init wd_138 wd_139 rfl rfl wd_112 ds_X11_init (by decide) (by decide) (Nat.le_of_ble_eq_true rfl) (by omega) (by omega) rfl (pX11_init (d := 1000) (A := []) (Nat.le_refl _) (Nat.le_refl _) ?_)
  refine am_astore_n (ls' := [(1, .inr (.inr (some (999, 0)))), (0, .inr (.inr (some (1002, 0))))]) dl_7 (by decide) rfl ?_
  refine cs_new (P := cs_X11 0) (ci := 10) dl_8 hc_10 wd_1508 wd_1509 wd_122 (by omega) (by omega) ?_
  refine am_dup dl_11 rfl ?_
  refine am_calli (d' := 1000 + 1) (kc := 588) (ks := 19155) (as := []) dl_12 wc_X12_init wd_1510 wd_1511 rfl rfl wd_122 ds_X12_init (by decide) (by decide) (Nat.le_of_ble_eq_true rfl) (by omega) (by omega) rfl (pX12_init (d := 1000) (A := cs_X11 0) (Nat.le_refl _) (Nat.le_refl _) ?_)
  rw [cs_X11_l]
  refine am_astore_n (ls' := [(2, .inr (.inr (some (999, 240)))), (1, .inr (.inr (some (999, 0)))), (0, .inr (.inr (some (1002, 0))))]) dl_15 (by decide) rfl ?_
  refine am_iconst dl_16 (by unfold am_rg; omega) ?_
  refine am_istore_n (ls' := [(3, .inl 0), (2, .inr (.inr (some (999, 240)))), (1, .inr (.inr (some (999, 0)))), (0, .inr (.inr (some (1002, 0))))]) dl_17 (by decide) rfl ?_
  refine mh_seam (ls' := lw_ls 0) h8 (fun ad => rfl) (fun q hq => ?_) ?_
  · rcases List.mem_cons.mp hq with rfl | hq
    · show am_rg ((0 : Nat) : Int); unfold am_rg; omega
    rcases List.mem_cons.mp hq with rfl | hq
    · exact Or.inr ⟨by decide, by decide⟩
    rcases List.mem_cons.mp hq with rfl | hq
    · exact Or.inr ⟨by decide, by decide⟩
    rcases List.mem_cons.mp hq with rfl | hq
    · exact Or.inr ⟨by decide, by decide⟩
    · cases hq
  · exact lw_loop hst hL hx 512 0 mh_W0 _ _ mh_E0 (by omega) (by omega) (by omega) (by omega)
