-- THE LAW: its cases
abbrev lw_ls (i : Nat) : List (Nat × am_V) := [(3, .inl (i : Int)), (2, .inr (.inr (some (9, 0)))), (1, .inr (.inr (some (1, 0)))), (0, .inr (.inr (some (1002, 0))))]
theorem mh_E_aw {a a' b : am_W} (h : mh_E a b) (g : ∀ t, t ∉ mh_tr → ¬ t = 999 → a'.1 t = a.1 t) (gl : ∀ t, ¬ t = 999 → a'.2.1 t = a.2.1 t) : mh_E a' b := by
  obtain ⟨⟨h1, h2⟩, h3, h4, h5, h6, h7, h8, h9⟩ := h
  have e1 : a'.1 1 = a.1 1 := g 1 (by decide) (by decide)
  have e2 : a'.1 2 = a.1 2 := g 2 (by decide) (by decide)
  have e3 : a'.1 3 = a.1 3 := g 3 (by decide) (by decide)
  have e4 : a'.1 4 = a.1 4 := g 4 (by decide) (by decide)
  have e5 : a'.1 5 = a.1 5 := g 5 (by decide) (by decide)
  have hn : a.1 1 0 12 ≤ a'.1 1 0 12 := by rw [e1]; exact Int.le_refl _
  have F : ∀ (l : List Nat), (∀ t, t ∈ l → t ∉ mh_tr ∧ ¬ t = 999) → ∀ t, t ∈ l → a'.1 t = a.1 t := fun l q t ht => g t (q t ht).1 (q t ht).2
  refine ⟨⟨mh_Wr_s h1 (F _ (by decide)), mh_We_s h2 (F _ (by decide)) (fun _ _ => rfl) (fun _ _ => rfl)⟩, ?_, ?_, ?_, ?_, ?_, ?_, ?_⟩
  · unfold mh_RN at *
    rw [e1]; exact h3
  · exact mh_RT_s h4 (fun k _ => by rw [e2]) (g 24 (by decide) (by decide)) rfl (fun _ _ => rfl)
  · exact mh_RL_s h5 hn (by rw [e4]) (F _ (by decide)) (fun _ _ => rfl) rfl
  · exact mh_RK_s h6 hn (fun k _ => by rw [e5]) (F _ (by decide)) (fun t ht => gl t (by intro e; rw [e] at ht; exact absurd ht (by decide))) (by rw [gl 5 (by decide)]) (fun _ _ => rfl) (fun _ _ => rfl)
  · exact mh_RO_s h7 (by rw [e4]) (F _ (by decide)) (fun _ _ => rfl) rfl
  · exact mh_RD_s h8 hn (by rw [e5]; exact Int.le_refl _) (by rw [e1]) (F _ (by decide)) (fun _ _ => rfl) rfl
  · exact mh_RP_s h9 (by rw [e3]) (g 27 (by decide) (by decide)) rfl rfl
variable {X : mh_X} {r : Option am_I} {Q : Option am_V → am_W → Prop}
/-- script[i + k] -/
theorem lw_arg {SC : Nat → Nat} {d pc kn i bc bs : Nat} {k : Int} {st : List am_V} {w : am_W} (a0 : decode lw_Y.2.1 pc = .ok (.aload_n 0, 1)) (a1 : decode lw_Y.2.1 (pc + 1) = .ok (.iload_n 3, 1)) (a2 : decode lw_Y.2.1 (pc + 1 + 1) = .ok (.iconst k, 1)) (a3 : decode lw_Y.2.1 (pc + 1 + 1 + 1) = .ok (.iadd, 1)) (a4 : decode lw_Y.2.1 (pc + 1 + 1 + 1 + 1) = .ok (.iaload, 1)) (hk : k = (kn : Int)) (h5 : kn ≤ 5) (hi : i + 6 ≤ X.2.1) (hL : X.2.1 ≤ 3072) (hx : ∀ k, am_rg (X.1 k))
    (K : am_A (mh_G X) SC d lw_Y Q (pc + 1 + 1 + 1 + 1 + 1) (lw_ls i) (.inl (X.1 (i + kn)) :: st) w bc bs) : am_A (mh_G X) SC d lw_Y Q pc (lw_ls i) st w bc bs := by
  subst hk
  refine am_aload_n a0 (by repeat (first | exact List.Mem.head _ | apply List.Mem.tail)) ?_
  refine am_iload_n a1 (by repeat (first | exact List.Mem.head _ | apply List.Mem.tail)) ?_
  refine am_iconst a2 (by unfold am_rg; omega) ?_
  refine am_iadd a3 ?_
  rw [am_w_id (by unfold am_rg; omega)]
  refine am_iaload (v := X.1 (i + kn)) a4 (by decide) rfl (by omega) ?_ ?_ K
  · show (i : Int) + (kn : Int) < ((X.2.1 : Nat) : Int)
    omega
  · show X.1 ((i : Int) + (kn : Int)).toNat = X.1 (i + kn)
    rw [show ((i : Int) + (kn : Int)).toNat = i + kn by omega]
/-- feed -/
theorem lc_0 {w : am_W} {i bc bs : Nat} (E : mh_E w w) (hst : mh_st X r) (hi : i + 6 ≤ X.2.1) (hL : X.2.1 ≤ 3072) (hx : ∀ k, am_rg (X.1 k)) (hb : 16 ≤ bc) (hs : 108 ≤ bs) (K : ∀ (w' : am_W) (bc' bs' : Nat), mh_E w' w' → bc ≤ bc' + 16 → bs ≤ bs' + 108 → am_A (mh_G X) mh_SC 1400 lw_Y Q 1423 (lw_ls i) [] w' bc' bs') : am_A (mh_G X) mh_SC 1400 lw_Y Q 188 (lw_ls i) [] w bc bs := by
  refine am_aload_n dl_188 (by repeat (first | exact List.Mem.head _ | apply List.Mem.tail)) ?_
  refine lw_arg (kn := 1) dl_189 dl_190 dl_191 dl_192 dl_193 rfl (by decide) hi hL hx ?_
  refine lw_arg (kn := 2) dl_194 dl_195 dl_196 dl_197 dl_198 rfl (by decide) hi hL hx ?_
  refine lw_arg (kn := 3) dl_199 dl_200 dl_201 dl_202 dl_203 rfl (by decide) hi hL hx ?_
  refine lw_arg (kn := 4) dl_204 dl_205 dl_206 dl_207 dl_208 rfl (by decide) hi hL hx ?_
  refine lw_arg (kn := 5) dl_209 dl_210 dl_211 dl_212 dl_213 rfl (by decide) hi hL hx ?_
  refine am_callv (d' := 1000 + 2) (kc := 0) (ks := 0) (as := [.inl (X.1 (i + 1)), .inl (X.1 (i + 2)), .inl (X.1 (i + 3)), .inl (X.1 (i + 4)), .inl (X.1 (i + 5))]) dl_214 wc_X11_feed wd_609 wd_610 wd_611 wd_112 ds_X11_feed (by decide) (by decide) (Nat.le_of_ble_eq_true rfl) (Nat.zero_le _) (Nat.zero_le _) hc_0 (by decide) rfl rfl (qX_feed w w E 1000 0 0 _ (fun v a' ha hb' => ?_))
  refine am_aload_n dl_217 (by repeat (first | exact List.Mem.head _ | apply List.Mem.tail)) ?_
  refine lw_arg (kn := 1) dl_218 dl_219 dl_220 dl_221 dl_222 rfl (by decide) hi hL hx ?_
  refine lw_arg (kn := 2) dl_223 dl_224 dl_225 dl_226 dl_227 rfl (by decide) hi hL hx ?_
  refine lw_arg (kn := 3) dl_228 dl_229 dl_230 dl_231 dl_232 rfl (by decide) hi hL hx ?_
  refine lw_arg (kn := 4) dl_233 dl_234 dl_235 dl_236 dl_237 rfl (by decide) hi hL hx ?_
  refine lw_arg (kn := 5) dl_238 dl_239 dl_240 dl_241 dl_242 rfl (by decide) hi hL hx ?_
  refine am_callv (d' := 1000 + 2) (kc := 0) (ks := 0) (as := [.inl (X.1 (i + 1)), .inl (X.1 (i + 2)), .inl (X.1 (i + 3)), .inl (X.1 (i + 4)), .inl (X.1 (i + 5))]) dl_243 wc_X12_feed wd_1895 wd_1896 wd_1897 wd_122 ds_X12_feed (by decide) (by decide) (Nat.le_of_ble_eq_true rfl) (Nat.zero_le _) (Nat.zero_le _) hc_10 (by decide) rfl rfl (hb' a' (mh_E_b E ha) 1000 0 0 _ (fun b' e1 e2 e3 => ?_))
  refine am_icmpeq (tgt := 1423) dl_246 (by decide) (fun _ => ?_) (fun c => absurd rfl c)
  exact K b' _ _ (mh_E_a e1 e2 e3) (by omega) (by omega)
/-- end -/
theorem lc_1 {w : am_W} {i bc bs : Nat} (E : mh_E w w) (hst : mh_st X r) (hi : i + 6 ≤ X.2.1) (hL : X.2.1 ≤ 3072) (hx : ∀ k, am_rg (X.1 k)) (hb : 16 ≤ bc) (hs : 108 ≤ bs) (K : ∀ (w' : am_W) (bc' bs' : Nat), mh_E w' w' → bc ≤ bc' + 16 → bs ≤ bs' + 108 → am_A (mh_G X) mh_SC 1400 lw_Y Q 1423 (lw_ls i) [] w' bc' bs') : am_A (mh_G X) mh_SC 1400 lw_Y Q 251 (lw_ls i) [] w bc bs := by
  refine am_aload_n dl_251 (by repeat (first | exact List.Mem.head _ | apply List.Mem.tail)) ?_
  refine lw_arg (kn := 1) dl_252 dl_253 dl_254 dl_255 dl_256 rfl (by decide) hi hL hx ?_
  refine am_callv (d' := 1000 + 1) (kc := 0) (ks := 0) (as := [.inl (X.1 (i + 1))]) dl_257 wc_X11_end wd_621 wd_622 wd_623 wd_112 ds_X11_end (by decide) (by decide) (Nat.le_of_ble_eq_true rfl) (Nat.zero_le _) (Nat.zero_le _) hc_0 (by decide) rfl rfl (qX_end w w E 1000 0 0 _ (fun v a' ha hb' => ?_))
  refine am_aload_n dl_260 (by repeat (first | exact List.Mem.head _ | apply List.Mem.tail)) ?_
  refine lw_arg (kn := 1) dl_261 dl_262 dl_263 dl_264 dl_265 rfl (by decide) hi hL hx ?_
  refine am_callv (d' := 1000 + 2) (kc := 0) (ks := 0) (as := [.inl (X.1 (i + 1))]) dl_266 wc_X12_end wd_1903 wd_1904 wd_1905 wd_122 ds_X12_end (by decide) (by decide) (Nat.le_of_ble_eq_true rfl) (Nat.zero_le _) (Nat.zero_le _) hc_10 (by decide) rfl rfl (hb' a' (mh_E_b E ha) 1000 0 0 _ (fun b' e1 e2 e3 => ?_))
  refine am_icmpeq (tgt := 1423) dl_269 (by decide) (fun _ => ?_) (fun c => absurd rfl c)
  exact K b' _ _ (mh_E_a e1 e2 e3) (by omega) (by omega)
/-- take -/
theorem lc_2 {w : am_W} {i bc bs : Nat} (E : mh_E w w) (hst : mh_st X r) (hi : i + 6 ≤ X.2.1) (hL : X.2.1 ≤ 3072) (hx : ∀ k, am_rg (X.1 k)) (hb : 16 ≤ bc) (hs : 108 ≤ bs) (K : ∀ (w' : am_W) (bc' bs' : Nat), mh_E w' w' → bc ≤ bc' + 16 → bs ≤ bs' + 108 → am_A (mh_G X) mh_SC 1400 lw_Y Q 1423 (lw_ls i) [] w' bc' bs') : am_A (mh_G X) mh_SC 1400 lw_Y Q 274 (lw_ls i) [] w bc bs := by
  refine am_aload_n dl_274 (by repeat (first | exact List.Mem.head _ | apply List.Mem.tail)) ?_
  refine am_callv (d' := 1000 + 12) (kc := 0) (ks := 0) (as := []) dl_275 wc_X11_take wd_625 wd_626 wd_627 wd_112 ds_X11_take (by decide) (by decide) (Nat.le_of_ble_eq_true rfl) (Nat.zero_le _) (Nat.zero_le _) hc_0 (by decide) rfl rfl (qX_take hst w w E 1000 0 0 _ (fun v a' ha hb' => ?_))
  refine am_aload_n dl_278 (by repeat (first | exact List.Mem.head _ | apply List.Mem.tail)) ?_
  refine am_callv (d' := 1000 + 12) (kc := 0) (ks := 0) (as := []) dl_279 wc_X12_take wd_1907 wd_1908 wd_1909 wd_122 ds_X12_take (by decide) (by decide) (Nat.le_of_ble_eq_true rfl) (Nat.zero_le _) (Nat.zero_le _) hc_10 (by decide) rfl rfl (hb' a' (mh_E_b E ha) 1000 0 0 _ (fun b' e1 e2 e3 => ?_))
  refine am_icmpeq (tgt := 1423) dl_282 (by decide) (fun _ => ?_) (fun c => absurd rfl c)
  exact K b' _ _ (mh_E_a e1 e2 e3) (by omega) (by omega)
/-- fault -/
theorem lc_3 {w : am_W} {i bc bs : Nat} (E : mh_E w w) (hst : mh_st X r) (hi : i + 6 ≤ X.2.1) (hL : X.2.1 ≤ 3072) (hx : ∀ k, am_rg (X.1 k)) (hb : 16 ≤ bc) (hs : 108 ≤ bs) (K : ∀ (w' : am_W) (bc' bs' : Nat), mh_E w' w' → bc ≤ bc' + 16 → bs ≤ bs' + 108 → am_A (mh_G X) mh_SC 1400 lw_Y Q 1423 (lw_ls i) [] w' bc' bs') : am_A (mh_G X) mh_SC 1400 lw_Y Q 287 (lw_ls i) [] w bc bs := by
  refine am_aload_n dl_287 (by repeat (first | exact List.Mem.head _ | apply List.Mem.tail)) ?_
  refine lw_arg (kn := 1) dl_288 dl_289 dl_290 dl_291 dl_292 rfl (by decide) hi hL hx ?_
  refine am_callv (d' := 1000 + 1) (kc := 0) (ks := 0) (as := [.inl (X.1 (i + 1))]) dl_293 wc_X11_fault wd_917 wd_918 wd_919 wd_112 ds_X11_fault (by decide) (by decide) (Nat.le_of_ble_eq_true rfl) (Nat.zero_le _) (Nat.zero_le _) hc_0 (by decide) rfl rfl (qX_fault w w E 1000 0 0 _ (fun v a' ha hb' => ?_))
  refine am_aload_n dl_296 (by repeat (first | exact List.Mem.head _ | apply List.Mem.tail)) ?_
  refine lw_arg (kn := 1) dl_297 dl_298 dl_299 dl_300 dl_301 rfl (by decide) hi hL hx ?_
  refine am_callv (d' := 1000 + 1) (kc := 0) (ks := 0) (as := [.inl (X.1 (i + 1))]) dl_302 wc_X12_fault wd_1998 wd_1999 wd_2000 wd_122 ds_X12_fault (by decide) (by decide) (Nat.le_of_ble_eq_true rfl) (Nat.zero_le _) (Nat.zero_le _) hc_10 (by decide) rfl rfl (hb' a' (mh_E_b E ha) 1000 0 0 _ (fun b' e1 e2 e3 => ?_))
  refine am_icmpeq (tgt := 1423) dl_305 (by decide) (fun _ => ?_) (fun c => absurd rfl c)
  exact K b' _ _ (mh_E_a e1 e2 e3) (by omega) (by omega)
/-- date -/
theorem lc_4 {w : am_W} {i bc bs : Nat} (E : mh_E w w) (hst : mh_st X r) (hi : i + 6 ≤ X.2.1) (hL : X.2.1 ≤ 3072) (hx : ∀ k, am_rg (X.1 k)) (hb : 16 ≤ bc) (hs : 108 ≤ bs) (K : ∀ (w' : am_W) (bc' bs' : Nat), mh_E w' w' → bc ≤ bc' + 16 → bs ≤ bs' + 108 → am_A (mh_G X) mh_SC 1400 lw_Y Q 1423 (lw_ls i) [] w' bc' bs') : am_A (mh_G X) mh_SC 1400 lw_Y Q 310 (lw_ls i) [] w bc bs := by
  refine am_aload_n dl_310 (by repeat (first | exact List.Mem.head _ | apply List.Mem.tail)) ?_
  refine lw_arg (kn := 1) dl_311 dl_312 dl_313 dl_314 dl_315 rfl (by decide) hi hL hx ?_
  refine am_callv (d' := 1000 + 2) (kc := 0) (ks := 0) (as := [.inl (X.1 (i + 1))]) dl_316 wc_X11_date wd_1000 wd_1001 wd_1002 wd_112 ds_X11_date (by decide) (by decide) (Nat.le_of_ble_eq_true rfl) (Nat.zero_le _) (Nat.zero_le _) hc_0 (by decide) rfl rfl (qY_date w w E 1000 0 0 _ (fun v a' ha hb' => ?_))
  refine am_aload_n dl_319 (by repeat (first | exact List.Mem.head _ | apply List.Mem.tail)) ?_
  refine lw_arg (kn := 1) dl_320 dl_321 dl_322 dl_323 dl_324 rfl (by decide) hi hL hx ?_
  refine am_callv (d' := 1000 + 7) (kc := 0) (ks := 0) (as := [.inl (X.1 (i + 1))]) dl_325 wc_X12_date wd_1850 wd_1851 wd_1852 wd_122 ds_X12_date (by decide) (by decide) (Nat.le_of_ble_eq_true rfl) (Nat.zero_le _) (Nat.zero_le _) hc_10 (by decide) rfl rfl (hb' a' (mh_E_b E ha) 1000 0 0 _ (fun b' e1 e2 e3 => ?_))
  refine am_icmpeq (tgt := 1423) dl_328 (by decide) (fun _ => ?_) (fun c => absurd rfl c)
  exact K b' _ _ (mh_E_a e1 e2 e3) (by omega) (by omega)
/-- day -/
theorem lc_5 {w : am_W} {i bc bs : Nat} (E : mh_E w w) (hst : mh_st X r) (hi : i + 6 ≤ X.2.1) (hL : X.2.1 ≤ 3072) (hx : ∀ k, am_rg (X.1 k)) (hb : 16 ≤ bc) (hs : 108 ≤ bs) (K : ∀ (w' : am_W) (bc' bs' : Nat), mh_E w' w' → bc ≤ bc' + 16 → bs ≤ bs' + 108 → am_A (mh_G X) mh_SC 1400 lw_Y Q 1423 (lw_ls i) [] w' bc' bs') : am_A (mh_G X) mh_SC 1400 lw_Y Q 333 (lw_ls i) [] w bc bs := by
  refine am_aload_n dl_333 (by repeat (first | exact List.Mem.head _ | apply List.Mem.tail)) ?_
  refine lw_arg (kn := 1) dl_334 dl_335 dl_336 dl_337 dl_338 rfl (by decide) hi hL hx ?_
  refine am_callv (d' := 1000 + 3) (kc := 0) (ks := 0) (as := [.inl (X.1 (i + 1))]) dl_339 wc_X11_day wd_1016 wd_1017 wd_1018 wd_112 ds_X11_day (by decide) (by decide) (Nat.le_of_ble_eq_true rfl) (Nat.zero_le _) (Nat.zero_le _) hc_0 (by decide) rfl rfl (qY_day (hx _) w w E 1000 0 0 _ (fun v a' ha hb' => ?_))
  refine am_aload_n dl_342 (by repeat (first | exact List.Mem.head _ | apply List.Mem.tail)) ?_
  refine lw_arg (kn := 1) dl_343 dl_344 dl_345 dl_346 dl_347 rfl (by decide) hi hL hx ?_
  refine am_callv (d' := 1000 + 4) (kc := 0) (ks := 0) (as := [.inl (X.1 (i + 1))]) dl_348 wc_X12_day wd_1883 wd_1884 wd_1885 wd_122 ds_X12_day (by decide) (by decide) (Nat.le_of_ble_eq_true rfl) (Nat.zero_le _) (Nat.zero_le _) hc_10 (by decide) rfl rfl (hb' a' (mh_E_b E ha) 1000 0 0 _ (fun b' e1 e2 e3 => ?_))
  refine am_icmpeq (tgt := 1423) dl_351 (by decide) (fun _ => ?_) (fun c => absurd rfl c)
  exact K b' _ _ (mh_E_a e1 e2 e3) (by omega) (by omega)
/-- months -/
theorem lc_6 {w : am_W} {i bc bs : Nat} (E : mh_E w w) (hst : mh_st X r) (hi : i + 6 ≤ X.2.1) (hL : X.2.1 ≤ 3072) (hx : ∀ k, am_rg (X.1 k)) (hb : 16 ≤ bc) (hs : 108 ≤ bs) (K : ∀ (w' : am_W) (bc' bs' : Nat), mh_E w' w' → bc ≤ bc' + 16 → bs ≤ bs' + 108 → am_A (mh_G X) mh_SC 1400 lw_Y Q 1423 (lw_ls i) [] w' bc' bs') : am_A (mh_G X) mh_SC 1400 lw_Y Q 356 (lw_ls i) [] w bc bs := by
  refine am_aload_n dl_356 (by repeat (first | exact List.Mem.head _ | apply List.Mem.tail)) ?_
  refine lw_arg (kn := 1) dl_357 dl_358 dl_359 dl_360 dl_361 rfl (by decide) hi hL hx ?_
  refine lw_arg (kn := 2) dl_362 dl_363 dl_364 dl_365 dl_366 rfl (by decide) hi hL hx ?_
  refine am_callv (d' := 1000 + 3) (kc := 0) (ks := 0) (as := [.inl (X.1 (i + 1)), .inl (X.1 (i + 2))]) dl_367 wc_X11_months wd_1029 wd_1030 wd_1031 wd_112 ds_X11_months (by decide) (by decide) (Nat.le_of_ble_eq_true rfl) (Nat.zero_le _) (Nat.zero_le _) hc_0 (by decide) rfl rfl (qY_months w w E 1000 0 0 _ (fun v a' ha hb' => ?_))
  refine am_aload_n dl_370 (by repeat (first | exact List.Mem.head _ | apply List.Mem.tail)) ?_
  refine lw_arg (kn := 1) dl_371 dl_372 dl_373 dl_374 dl_375 rfl (by decide) hi hL hx ?_
  refine lw_arg (kn := 2) dl_376 dl_377 dl_378 dl_379 dl_380 rfl (by decide) hi hL hx ?_
  refine am_callv (d' := 1000 + 8) (kc := 0) (ks := 0) (as := [.inl (X.1 (i + 1)), .inl (X.1 (i + 2))]) dl_381 wc_X12_months wd_1888 wd_1889 wd_1890 wd_122 ds_X12_months (by decide) (by decide) (Nat.le_of_ble_eq_true rfl) (Nat.zero_le _) (Nat.zero_le _) hc_10 (by decide) rfl rfl (hb' a' (mh_E_b E ha) 1000 0 0 _ (fun b' e1 e2 e3 => ?_))
  refine am_icmpeq (tgt := 1423) dl_384 (by decide) (fun _ => ?_) (fun c => absurd rfl c)
  exact K b' _ _ (mh_E_a e1 e2 e3) (by omega) (by omega)
/-- go -/
theorem lc_7 {w : am_W} {i bc bs : Nat} (E : mh_E w w) (hst : mh_st X r) (hi : i + 6 ≤ X.2.1) (hL : X.2.1 ≤ 3072) (hx : ∀ k, am_rg (X.1 k)) (hb : 16 ≤ bc) (hs : 108 ≤ bs) (K : ∀ (w' : am_W) (bc' bs' : Nat), mh_E w' w' → bc ≤ bc' + 16 → bs ≤ bs' + 108 → am_A (mh_G X) mh_SC 1400 lw_Y Q 1423 (lw_ls i) [] w' bc' bs') : am_A (mh_G X) mh_SC 1400 lw_Y Q 389 (lw_ls i) [] w bc bs := by
  refine am_aload_n dl_389 (by repeat (first | exact List.Mem.head _ | apply List.Mem.tail)) ?_
  refine lw_arg (kn := 1) dl_390 dl_391 dl_392 dl_393 dl_394 rfl (by decide) hi hL hx ?_
  refine am_callv (d' := 1000 + 5) (kc := 0) (ks := 0) (as := [.inl (X.1 (i + 1))]) dl_395 wc_X11_go wd_1039 wd_1040 wd_1041 wd_112 ds_X11_go (by decide) (by decide) (Nat.le_of_ble_eq_true rfl) (Nat.zero_le _) (Nat.zero_le _) hc_0 (by decide) rfl rfl (qX_go w w E 1000 0 0 _ (fun v a' ha hb' => ?_))
  refine am_aload_n dl_398 (by repeat (first | exact List.Mem.head _ | apply List.Mem.tail)) ?_
  refine lw_arg (kn := 1) dl_399 dl_400 dl_401 dl_402 dl_403 rfl (by decide) hi hL hx ?_
  refine am_callv (d' := 1000 + 3) (kc := 0) (ks := 0) (as := [.inl (X.1 (i + 1))]) dl_404 wc_X12_go wd_2002 wd_2003 wd_2004 wd_122 ds_X12_go (by decide) (by decide) (Nat.le_of_ble_eq_true rfl) (Nat.zero_le _) (Nat.zero_le _) hc_10 (by decide) rfl rfl (hb' a' (mh_E_b E ha) 1000 0 0 _ (fun b' e1 e2 e3 => ?_))
  refine am_icmpeq (tgt := 1423) dl_407 (by decide) (fun _ => ?_) (fun c => absurd rfl c)
  exact K b' _ _ (mh_E_a e1 e2 e3) (by omega) (by omega)
/-- person -/
theorem lc_8 {w : am_W} {i bc bs : Nat} (E : mh_E w w) (hst : mh_st X r) (hi : i + 6 ≤ X.2.1) (hL : X.2.1 ≤ 3072) (hx : ∀ k, am_rg (X.1 k)) (hb : 16 ≤ bc) (hs : 108 ≤ bs) (K : ∀ (w' : am_W) (bc' bs' : Nat), mh_E w' w' → bc ≤ bc' + 16 → bs ≤ bs' + 108 → am_A (mh_G X) mh_SC 1400 lw_Y Q 1423 (lw_ls i) [] w' bc' bs') : am_A (mh_G X) mh_SC 1400 lw_Y Q 412 (lw_ls i) [] w bc bs := by
  refine am_aload_n dl_412 (by repeat (first | exact List.Mem.head _ | apply List.Mem.tail)) ?_
  refine lw_arg (kn := 1) dl_413 dl_414 dl_415 dl_416 dl_417 rfl (by decide) hi hL hx ?_
  refine lw_arg (kn := 2) dl_418 dl_419 dl_420 dl_421 dl_422 rfl (by decide) hi hL hx ?_
  refine lw_arg (kn := 3) dl_423 dl_424 dl_425 dl_426 dl_427 rfl (by decide) hi hL hx ?_
  refine lw_arg (kn := 4) dl_428 dl_429 dl_430 dl_431 dl_432 rfl (by decide) hi hL hx ?_
  refine am_callv (d' := 1000 + 4) (kc := 0) (ks := 0) (as := [.inl (X.1 (i + 1)), .inl (X.1 (i + 2)), .inl (X.1 (i + 3)), .inl (X.1 (i + 4))]) dl_433 wc_X11_person wd_1065 wd_1066 wd_1067 wd_112 ds_X11_person (by decide) (by decide) (Nat.le_of_ble_eq_true rfl) (Nat.zero_le _) (Nat.zero_le _) hc_0 (by decide) rfl rfl (qX_person (hx _) w w E 1000 0 0 _ (fun v a' ha hb' => ?_))
  refine am_aload_n dl_436 (by repeat (first | exact List.Mem.head _ | apply List.Mem.tail)) ?_
  refine lw_arg (kn := 1) dl_437 dl_438 dl_439 dl_440 dl_441 rfl (by decide) hi hL hx ?_
  refine lw_arg (kn := 2) dl_442 dl_443 dl_444 dl_445 dl_446 rfl (by decide) hi hL hx ?_
  refine lw_arg (kn := 3) dl_447 dl_448 dl_449 dl_450 dl_451 rfl (by decide) hi hL hx ?_
  refine lw_arg (kn := 4) dl_452 dl_453 dl_454 dl_455 dl_456 rfl (by decide) hi hL hx ?_
  refine am_callv (d' := 1000 + 3) (kc := 0) (ks := 0) (as := [.inl (X.1 (i + 1)), .inl (X.1 (i + 2)), .inl (X.1 (i + 3)), .inl (X.1 (i + 4))]) dl_457 wc_X12_person wd_2014 wd_2015 wd_2016 wd_122 ds_X12_person (by decide) (by decide) (Nat.le_of_ble_eq_true rfl) (Nat.zero_le _) (Nat.zero_le _) hc_10 (by decide) rfl rfl (hb' a' (mh_E_b E ha) 1000 0 0 _ (fun b' e1 e2 e3 => ?_))
  refine am_icmpeq (tgt := 1423) dl_460 (by decide) (fun _ => ?_) (fun c => absurd rfl c)
  exact K b' _ _ (mh_E_a e1 e2 e3) (by omega) (by omega)
/-- death -/
theorem lc_9 {w : am_W} {i bc bs : Nat} (E : mh_E w w) (hst : mh_st X r) (hi : i + 6 ≤ X.2.1) (hL : X.2.1 ≤ 3072) (hx : ∀ k, am_rg (X.1 k)) (hb : 16 ≤ bc) (hs : 108 ≤ bs) (K : ∀ (w' : am_W) (bc' bs' : Nat), mh_E w' w' → bc ≤ bc' + 16 → bs ≤ bs' + 108 → am_A (mh_G X) mh_SC 1400 lw_Y Q 1423 (lw_ls i) [] w' bc' bs') : am_A (mh_G X) mh_SC 1400 lw_Y Q 465 (lw_ls i) [] w bc bs := by
  refine am_aload_n dl_465 (by repeat (first | exact List.Mem.head _ | apply List.Mem.tail)) ?_
  refine lw_arg (kn := 1) dl_466 dl_467 dl_468 dl_469 dl_470 rfl (by decide) hi hL hx ?_
  refine lw_arg (kn := 2) dl_471 dl_472 dl_473 dl_474 dl_475 rfl (by decide) hi hL hx ?_
  refine am_callv (d' := 1000 + 3) (kc := 0) (ks := 0) (as := [.inl (X.1 (i + 1)), .inl (X.1 (i + 2))]) dl_476 wc_X11_death wd_1098 wd_1099 wd_1100 wd_112 ds_X11_death (by decide) (by decide) (Nat.le_of_ble_eq_true rfl) (Nat.zero_le _) (Nat.zero_le _) hc_0 (by decide) rfl rfl (qX_death w w E 1000 0 0 _ (fun v a' ha hb' => ?_))
  refine am_aload_n dl_479 (by repeat (first | exact List.Mem.head _ | apply List.Mem.tail)) ?_
  refine lw_arg (kn := 1) dl_480 dl_481 dl_482 dl_483 dl_484 rfl (by decide) hi hL hx ?_
  refine lw_arg (kn := 2) dl_485 dl_486 dl_487 dl_488 dl_489 rfl (by decide) hi hL hx ?_
  refine am_callv (d' := 1000 + 3) (kc := 0) (ks := 0) (as := [.inl (X.1 (i + 1)), .inl (X.1 (i + 2))]) dl_490 wc_X12_death wd_2022 wd_2023 wd_2024 wd_122 ds_X12_death (by decide) (by decide) (Nat.le_of_ble_eq_true rfl) (Nat.zero_le _) (Nat.zero_le _) hc_10 (by decide) rfl rfl (hb' a' (mh_E_b E ha) 1000 0 0 _ (fun b' e1 e2 e3 => ?_))
  refine am_icmpeq (tgt := 1423) dl_493 (by decide) (fun _ => ?_) (fun c => absurd rfl c)
  exact K b' _ _ (mh_E_a e1 e2 e3) (by omega) (by omega)
/-- wed -/
theorem lc_10 {w : am_W} {i bc bs : Nat} (E : mh_E w w) (hst : mh_st X r) (hi : i + 6 ≤ X.2.1) (hL : X.2.1 ≤ 3072) (hx : ∀ k, am_rg (X.1 k)) (hb : 16 ≤ bc) (hs : 108 ≤ bs) (K : ∀ (w' : am_W) (bc' bs' : Nat), mh_E w' w' → bc ≤ bc' + 16 → bs ≤ bs' + 108 → am_A (mh_G X) mh_SC 1400 lw_Y Q 1423 (lw_ls i) [] w' bc' bs') : am_A (mh_G X) mh_SC 1400 lw_Y Q 498 (lw_ls i) [] w bc bs := by
  refine am_aload_n dl_498 (by repeat (first | exact List.Mem.head _ | apply List.Mem.tail)) ?_
  refine lw_arg (kn := 1) dl_499 dl_500 dl_501 dl_502 dl_503 rfl (by decide) hi hL hx ?_
  refine lw_arg (kn := 2) dl_504 dl_505 dl_506 dl_507 dl_508 rfl (by decide) hi hL hx ?_
  refine lw_arg (kn := 3) dl_509 dl_510 dl_511 dl_512 dl_513 rfl (by decide) hi hL hx ?_
  refine am_callv (d' := 1000 + 3) (kc := 0) (ks := 0) (as := [.inl (X.1 (i + 1)), .inl (X.1 (i + 2)), .inl (X.1 (i + 3))]) dl_514 wc_X11_wed wd_1111 wd_1112 wd_1113 wd_112 ds_X11_wed (by decide) (by decide) (Nat.le_of_ble_eq_true rfl) (Nat.zero_le _) (Nat.zero_le _) hc_0 (by decide) rfl rfl (qX_wed w w E 1000 0 0 _ (fun v a' ha hb' => ?_))
  refine am_aload_n dl_517 (by repeat (first | exact List.Mem.head _ | apply List.Mem.tail)) ?_
  refine lw_arg (kn := 1) dl_518 dl_519 dl_520 dl_521 dl_522 rfl (by decide) hi hL hx ?_
  refine lw_arg (kn := 2) dl_523 dl_524 dl_525 dl_526 dl_527 rfl (by decide) hi hL hx ?_
  refine lw_arg (kn := 3) dl_528 dl_529 dl_530 dl_531 dl_532 rfl (by decide) hi hL hx ?_
  refine am_callv (d' := 1000 + 3) (kc := 0) (ks := 0) (as := [.inl (X.1 (i + 1)), .inl (X.1 (i + 2)), .inl (X.1 (i + 3))]) dl_533 wc_X12_wed wd_2026 wd_2027 wd_2028 wd_122 ds_X12_wed (by decide) (by decide) (Nat.le_of_ble_eq_true rfl) (Nat.zero_le _) (Nat.zero_le _) hc_10 (by decide) rfl rfl (hb' a' (mh_E_b E ha) 1000 0 0 _ (fun b' e1 e2 e3 => ?_))
  refine am_icmpeq (tgt := 1423) dl_536 (by decide) (fun _ => ?_) (fun c => absurd rfl c)
  exact K b' _ _ (mh_E_a e1 e2 e3) (by omega) (by omega)
/-- court -/
theorem lc_11 {w : am_W} {i bc bs : Nat} (E : mh_E w w) (hst : mh_st X r) (hi : i + 6 ≤ X.2.1) (hL : X.2.1 ≤ 3072) (hx : ∀ k, am_rg (X.1 k)) (hb : 16 ≤ bc) (hs : 108 ≤ bs) (K : ∀ (w' : am_W) (bc' bs' : Nat), mh_E w' w' → bc ≤ bc' + 16 → bs ≤ bs' + 108 → am_A (mh_G X) mh_SC 1400 lw_Y Q 1423 (lw_ls i) [] w' bc' bs') : am_A (mh_G X) mh_SC 1400 lw_Y Q 541 (lw_ls i) [] w bc bs := by
  refine am_aload_n dl_541 (by repeat (first | exact List.Mem.head _ | apply List.Mem.tail)) ?_
  refine lw_arg (kn := 1) dl_542 dl_543 dl_544 dl_545 dl_546 rfl (by decide) hi hL hx ?_
  refine lw_arg (kn := 2) dl_547 dl_548 dl_549 dl_550 dl_551 rfl (by decide) hi hL hx ?_
  refine lw_arg (kn := 3) dl_552 dl_553 dl_554 dl_555 dl_556 rfl (by decide) hi hL hx ?_
  refine am_callv (d' := 1000 + 2) (kc := 0) (ks := 0) (as := [.inl (X.1 (i + 1)), .inl (X.1 (i + 2)), .inl (X.1 (i + 3))]) dl_557 wc_X11_court wd_1123 wd_1124 wd_1125 wd_112 ds_X11_court (by decide) (by decide) (Nat.le_of_ble_eq_true rfl) (Nat.zero_le _) (Nat.zero_le _) hc_0 (by decide) rfl rfl (qX_court w w E 1000 0 0 _ (fun v a' ha hb' => ?_))
  refine am_aload_n dl_560 (by repeat (first | exact List.Mem.head _ | apply List.Mem.tail)) ?_
  refine lw_arg (kn := 1) dl_561 dl_562 dl_563 dl_564 dl_565 rfl (by decide) hi hL hx ?_
  refine lw_arg (kn := 2) dl_566 dl_567 dl_568 dl_569 dl_570 rfl (by decide) hi hL hx ?_
  refine lw_arg (kn := 3) dl_571 dl_572 dl_573 dl_574 dl_575 rfl (by decide) hi hL hx ?_
  refine am_callv (d' := 1000 + 3) (kc := 0) (ks := 0) (as := [.inl (X.1 (i + 1)), .inl (X.1 (i + 2)), .inl (X.1 (i + 3))]) dl_576 wc_X12_court wd_2030 wd_2031 wd_2032 wd_122 ds_X12_court (by decide) (by decide) (Nat.le_of_ble_eq_true rfl) (Nat.zero_le _) (Nat.zero_le _) hc_10 (by decide) rfl rfl (hb' a' (mh_E_b E ha) 1000 0 0 _ (fun b' e1 e2 e3 => ?_))
  refine am_icmpeq (tgt := 1423) dl_579 (by decide) (fun _ => ?_) (fun c => absurd rfl c)
  exact K b' _ _ (mh_E_a e1 e2 e3) (by omega) (by omega)
/-- kin -/
theorem lc_12 {w : am_W} {i bc bs : Nat} (E : mh_E w w) (hst : mh_st X r) (hi : i + 6 ≤ X.2.1) (hL : X.2.1 ≤ 3072) (hx : ∀ k, am_rg (X.1 k)) (hb : 16 ≤ bc) (hs : 108 ≤ bs) (K : ∀ (w' : am_W) (bc' bs' : Nat), mh_E w' w' → bc ≤ bc' + 16 → bs ≤ bs' + 108 → am_A (mh_G X) mh_SC 1400 lw_Y Q 1423 (lw_ls i) [] w' bc' bs') : am_A (mh_G X) mh_SC 1400 lw_Y Q 584 (lw_ls i) [] w bc bs := by
  refine am_aload_n dl_584 (by repeat (first | exact List.Mem.head _ | apply List.Mem.tail)) ?_
  refine lw_arg (kn := 1) dl_585 dl_586 dl_587 dl_588 dl_589 rfl (by decide) hi hL hx ?_
  refine lw_arg (kn := 2) dl_590 dl_591 dl_592 dl_593 dl_594 rfl (by decide) hi hL hx ?_
  refine lw_arg (kn := 3) dl_595 dl_596 dl_597 dl_598 dl_599 rfl (by decide) hi hL hx ?_
  refine lw_arg (kn := 4) dl_600 dl_601 dl_602 dl_603 dl_604 rfl (by decide) hi hL hx ?_
  refine am_callv (d' := 1000 + 4) (kc := 0) (ks := 0) (as := [.inl (X.1 (i + 1)), .inl (X.1 (i + 2)), .inl (X.1 (i + 3)), .inl (X.1 (i + 4))]) dl_605 wc_X11_kin wd_1135 wd_1136 wd_1137 wd_112 ds_X11_kin (by decide) (by decide) (Nat.le_of_ble_eq_true rfl) (Nat.zero_le _) (Nat.zero_le _) hc_0 (by decide) rfl rfl (qX_kin w w E 1000 0 0 _ (fun v a' ha hb' => ?_))
  refine am_aload_n dl_608 (by repeat (first | exact List.Mem.head _ | apply List.Mem.tail)) ?_
  refine lw_arg (kn := 1) dl_609 dl_610 dl_611 dl_612 dl_613 rfl (by decide) hi hL hx ?_
  refine lw_arg (kn := 2) dl_614 dl_615 dl_616 dl_617 dl_618 rfl (by decide) hi hL hx ?_
  refine lw_arg (kn := 3) dl_619 dl_620 dl_621 dl_622 dl_623 rfl (by decide) hi hL hx ?_
  refine lw_arg (kn := 4) dl_624 dl_625 dl_626 dl_627 dl_628 rfl (by decide) hi hL hx ?_
  refine am_callv (d' := 1000 + 4) (kc := 0) (ks := 0) (as := [.inl (X.1 (i + 1)), .inl (X.1 (i + 2)), .inl (X.1 (i + 3)), .inl (X.1 (i + 4))]) dl_629 wc_X12_kin wd_2034 wd_2035 wd_2036 wd_122 ds_X12_kin (by decide) (by decide) (Nat.le_of_ble_eq_true rfl) (Nat.zero_le _) (Nat.zero_le _) hc_10 (by decide) rfl rfl (hb' a' (mh_E_b E ha) 1000 0 0 _ (fun b' e1 e2 e3 => ?_))
  refine am_icmpeq (tgt := 1423) dl_632 (by decide) (fun _ => ?_) (fun c => absurd rfl c)
  exact K b' _ _ (mh_E_a e1 e2 e3) (by omega) (by omega)
/-- mourns -/
theorem lc_13 {w : am_W} {i bc bs : Nat} (E : mh_E w w) (hst : mh_st X r) (hi : i + 6 ≤ X.2.1) (hL : X.2.1 ≤ 3072) (hx : ∀ k, am_rg (X.1 k)) (hb : 16 ≤ bc) (hs : 108 ≤ bs) (K : ∀ (w' : am_W) (bc' bs' : Nat), mh_E w' w' → bc ≤ bc' + 16 → bs ≤ bs' + 108 → am_A (mh_G X) mh_SC 1400 lw_Y Q 1423 (lw_ls i) [] w' bc' bs') : am_A (mh_G X) mh_SC 1400 lw_Y Q 637 (lw_ls i) [] w bc bs := by
  refine am_aload_n dl_637 (by repeat (first | exact List.Mem.head _ | apply List.Mem.tail)) ?_
  refine lw_arg (kn := 1) dl_638 dl_639 dl_640 dl_641 dl_642 rfl (by decide) hi hL hx ?_
  refine lw_arg (kn := 2) dl_643 dl_644 dl_645 dl_646 dl_647 rfl (by decide) hi hL hx ?_
  refine lw_arg (kn := 3) dl_648 dl_649 dl_650 dl_651 dl_652 rfl (by decide) hi hL hx ?_
  refine am_callv (d' := 1000 + 5) (kc := 0) (ks := 0) (as := [.inl (X.1 (i + 1)), .inl (X.1 (i + 2)), .inl (X.1 (i + 3))]) dl_653 wc_X11_mourns wd_1161 wd_1162 wd_1163 wd_112 ds_X11_mourns (by decide) (by decide) (Nat.le_of_ble_eq_true rfl) (Nat.zero_le _) (Nat.zero_le _) hc_0 (by decide) rfl rfl (qX_mourns w w E 1000 0 0 _ (fun v a' ha hb' => ?_))
  refine am_aload_n dl_656 (by repeat (first | exact List.Mem.head _ | apply List.Mem.tail)) ?_
  refine lw_arg (kn := 1) dl_657 dl_658 dl_659 dl_660 dl_661 rfl (by decide) hi hL hx ?_
  refine lw_arg (kn := 2) dl_662 dl_663 dl_664 dl_665 dl_666 rfl (by decide) hi hL hx ?_
  refine lw_arg (kn := 3) dl_667 dl_668 dl_669 dl_670 dl_671 rfl (by decide) hi hL hx ?_
  refine am_callv (d' := 1000 + 5) (kc := 0) (ks := 0) (as := [.inl (X.1 (i + 1)), .inl (X.1 (i + 2)), .inl (X.1 (i + 3))]) dl_672 wc_X12_mourns wd_2065 wd_2066 wd_2067 wd_122 ds_X12_mourns (by decide) (by decide) (Nat.le_of_ble_eq_true rfl) (Nat.zero_le _) (Nat.zero_le _) hc_10 (by decide) rfl rfl (hb' a' (mh_E_b E ha) 1000 0 0 _ (fun b' e1 e2 e3 => ?_))
  refine am_icmpeq (tgt := 1423) dl_675 (by decide) (fun _ => ?_) (fun c => absurd rfl c)
  exact K b' _ _ (mh_E_a e1 e2 e3) (by omega) (by omega)
/-- depth -/
theorem lc_14 {w : am_W} {i bc bs : Nat} (E : mh_E w w) (hst : mh_st X r) (hi : i + 6 ≤ X.2.1) (hL : X.2.1 ≤ 3072) (hx : ∀ k, am_rg (X.1 k)) (hb : 16 ≤ bc) (hs : 108 ≤ bs) (K : ∀ (w' : am_W) (bc' bs' : Nat), mh_E w' w' → bc ≤ bc' + 16 → bs ≤ bs' + 108 → am_A (mh_G X) mh_SC 1400 lw_Y Q 1423 (lw_ls i) [] w' bc' bs') : am_A (mh_G X) mh_SC 1400 lw_Y Q 680 (lw_ls i) [] w bc bs := by
  refine am_aload_n dl_680 (by repeat (first | exact List.Mem.head _ | apply List.Mem.tail)) ?_
  refine lw_arg (kn := 1) dl_681 dl_682 dl_683 dl_684 dl_685 rfl (by decide) hi hL hx ?_
  refine lw_arg (kn := 2) dl_686 dl_687 dl_688 dl_689 dl_690 rfl (by decide) hi hL hx ?_
  refine lw_arg (kn := 3) dl_691 dl_692 dl_693 dl_694 dl_695 rfl (by decide) hi hL hx ?_
  refine am_callv (d' := 1000 + 7) (kc := 0) (ks := 0) (as := [.inl (X.1 (i + 1)), .inl (X.1 (i + 2)), .inl (X.1 (i + 3))]) dl_696 wc_X11_depth wd_1176 wd_1177 wd_1178 wd_112 ds_X11_depth (by decide) (by decide) (Nat.le_of_ble_eq_true rfl) (Nat.zero_le _) (Nat.zero_le _) hc_0 (by decide) rfl rfl (qX_depth w w E 1000 0 0 _ (fun v a' ha hb' => ?_))
  refine am_aload_n dl_699 (by repeat (first | exact List.Mem.head _ | apply List.Mem.tail)) ?_
  refine lw_arg (kn := 1) dl_700 dl_701 dl_702 dl_703 dl_704 rfl (by decide) hi hL hx ?_
  refine lw_arg (kn := 2) dl_705 dl_706 dl_707 dl_708 dl_709 rfl (by decide) hi hL hx ?_
  refine lw_arg (kn := 3) dl_710 dl_711 dl_712 dl_713 dl_714 rfl (by decide) hi hL hx ?_
  refine am_callv (d' := 1000 + 12) (kc := 0) (ks := 0) (as := [.inl (X.1 (i + 1)), .inl (X.1 (i + 2)), .inl (X.1 (i + 3))]) dl_715 wc_X12_depth wd_2081 wd_2082 wd_2083 wd_122 ds_X12_depth (by decide) (by decide) (Nat.le_of_ble_eq_true rfl) (Nat.zero_le _) (Nat.zero_le _) hc_10 (by decide) rfl rfl (hb' a' (mh_E_b E ha) 1000 0 0 _ (fun b' e1 e2 e3 => ?_))
  refine am_icmpeq (tgt := 1423) dl_718 (by decide) (fun _ => ?_) (fun c => absurd rfl c)
  exact K b' _ _ (mh_E_a e1 e2 e3) (by omega) (by omega)
/-- last -/
theorem lc_15 {w : am_W} {i bc bs : Nat} (E : mh_E w w) (hst : mh_st X r) (hi : i + 6 ≤ X.2.1) (hL : X.2.1 ≤ 3072) (hx : ∀ k, am_rg (X.1 k)) (hb : 16 ≤ bc) (hs : 108 ≤ bs) (K : ∀ (w' : am_W) (bc' bs' : Nat), mh_E w' w' → bc ≤ bc' + 16 → bs ≤ bs' + 108 → am_A (mh_G X) mh_SC 1400 lw_Y Q 1423 (lw_ls i) [] w' bc' bs') : am_A (mh_G X) mh_SC 1400 lw_Y Q 723 (lw_ls i) [] w bc bs := by
  refine am_aload_n dl_723 (by repeat (first | exact List.Mem.head _ | apply List.Mem.tail)) ?_
  refine lw_arg (kn := 1) dl_724 dl_725 dl_726 dl_727 dl_728 rfl (by decide) hi hL hx ?_
  refine lw_arg (kn := 2) dl_729 dl_730 dl_731 dl_732 dl_733 rfl (by decide) hi hL hx ?_
  refine am_callv (d' := 1000 + 7) (kc := 0) (ks := 0) (as := [.inl (X.1 (i + 1)), .inl (X.1 (i + 2))]) dl_734 wc_X11_last wd_1288 wd_1289 wd_1290 wd_112 ds_X11_last (by decide) (by decide) (Nat.le_of_ble_eq_true rfl) (Nat.zero_le _) (Nat.zero_le _) hc_0 (by decide) rfl rfl (qX_last w w E 1000 0 0 _ (fun v a' ha hb' => ?_))
  refine am_aload_n dl_737 (by repeat (first | exact List.Mem.head _ | apply List.Mem.tail)) ?_
  refine lw_arg (kn := 1) dl_738 dl_739 dl_740 dl_741 dl_742 rfl (by decide) hi hL hx ?_
  refine lw_arg (kn := 2) dl_743 dl_744 dl_745 dl_746 dl_747 rfl (by decide) hi hL hx ?_
  refine am_callv (d' := 1000 + 11) (kc := 0) (ks := 0) (as := [.inl (X.1 (i + 1)), .inl (X.1 (i + 2))]) dl_748 wc_X12_last wd_2139 wd_2140 wd_2141 wd_122 ds_X12_last (by decide) (by decide) (Nat.le_of_ble_eq_true rfl) (Nat.zero_le _) (Nat.zero_le _) hc_10 (by decide) rfl rfl (hb' a' (mh_E_b E ha) 1000 0 0 _ (fun b' e1 e2 e3 => ?_))
  refine am_icmpeq (tgt := 1423) dl_751 (by decide) (fun _ => ?_) (fun c => absurd rfl c)
  exact K b' _ _ (mh_E_a e1 e2 e3) (by omega) (by omega)
/-- edge -/
theorem lc_16 {w : am_W} {i bc bs : Nat} (E : mh_E w w) (hst : mh_st X r) (hi : i + 6 ≤ X.2.1) (hL : X.2.1 ≤ 3072) (hx : ∀ k, am_rg (X.1 k)) (hb : 16 ≤ bc) (hs : 108 ≤ bs) (K : ∀ (w' : am_W) (bc' bs' : Nat), mh_E w' w' → bc ≤ bc' + 16 → bs ≤ bs' + 108 → am_A (mh_G X) mh_SC 1400 lw_Y Q 1423 (lw_ls i) [] w' bc' bs') : am_A (mh_G X) mh_SC 1400 lw_Y Q 756 (lw_ls i) [] w bc bs := by
  refine am_aload_n dl_756 (by repeat (first | exact List.Mem.head _ | apply List.Mem.tail)) ?_
  refine lw_arg (kn := 1) dl_757 dl_758 dl_759 dl_760 dl_761 rfl (by decide) hi hL hx ?_
  refine lw_arg (kn := 2) dl_762 dl_763 dl_764 dl_765 dl_766 rfl (by decide) hi hL hx ?_
  refine am_callv (d' := 1000 + 7) (kc := 0) (ks := 0) (as := [.inl (X.1 (i + 1)), .inl (X.1 (i + 2))]) dl_767 wc_X11_edge wd_1298 wd_1299 wd_1300 wd_112 ds_X11_edge (by decide) (by decide) (Nat.le_of_ble_eq_true rfl) (Nat.zero_le _) (Nat.zero_le _) hc_0 (by decide) rfl rfl (qX_edge w w E 1000 0 0 _ (fun v a' ha hb' => ?_))
  refine am_aload_n dl_770 (by repeat (first | exact List.Mem.head _ | apply List.Mem.tail)) ?_
  refine lw_arg (kn := 1) dl_771 dl_772 dl_773 dl_774 dl_775 rfl (by decide) hi hL hx ?_
  refine lw_arg (kn := 2) dl_776 dl_777 dl_778 dl_779 dl_780 rfl (by decide) hi hL hx ?_
  refine am_callv (d' := 1000 + 12) (kc := 0) (ks := 0) (as := [.inl (X.1 (i + 1)), .inl (X.1 (i + 2))]) dl_781 wc_X12_edge wd_2144 wd_2145 wd_2146 wd_122 ds_X12_edge (by decide) (by decide) (Nat.le_of_ble_eq_true rfl) (Nat.zero_le _) (Nat.zero_le _) hc_10 (by decide) rfl rfl (hb' a' (mh_E_b E ha) 1000 0 0 _ (fun b' e1 e2 e3 => ?_))
  refine am_icmpeq (tgt := 1423) dl_784 (by decide) (fun _ => ?_) (fun c => absurd rfl c)
  exact K b' _ _ (mh_E_a e1 e2 e3) (by omega) (by omega)
/-- may -/
theorem lc_17 {w : am_W} {i bc bs : Nat} (E : mh_E w w) (hst : mh_st X r) (hi : i + 6 ≤ X.2.1) (hL : X.2.1 ≤ 3072) (hx : ∀ k, am_rg (X.1 k)) (hb : 16 ≤ bc) (hs : 108 ≤ bs) (K : ∀ (w' : am_W) (bc' bs' : Nat), mh_E w' w' → bc ≤ bc' + 16 → bs ≤ bs' + 108 → am_A (mh_G X) mh_SC 1400 lw_Y Q 1423 (lw_ls i) [] w' bc' bs') : am_A (mh_G X) mh_SC 1400 lw_Y Q 789 (lw_ls i) [] w bc bs := by
  refine am_aload_n dl_789 (by repeat (first | exact List.Mem.head _ | apply List.Mem.tail)) ?_
  refine lw_arg (kn := 1) dl_790 dl_791 dl_792 dl_793 dl_794 rfl (by decide) hi hL hx ?_
  refine lw_arg (kn := 2) dl_795 dl_796 dl_797 dl_798 dl_799 rfl (by decide) hi hL hx ?_
  refine lw_arg (kn := 3) dl_800 dl_801 dl_802 dl_803 dl_804 rfl (by decide) hi hL hx ?_
  refine lw_arg (kn := 4) dl_805 dl_806 dl_807 dl_808 dl_809 rfl (by decide) hi hL hx ?_
  refine am_callv (d' := 1000 + 7) (kc := 0) (ks := 0) (as := [.inl (X.1 (i + 1)), .inl (X.1 (i + 2)), .inl (X.1 (i + 3)), .inl (X.1 (i + 4))]) dl_810 wc_X11_may wd_1307 wd_1308 wd_1309 wd_112 ds_X11_may (by decide) (by decide) (Nat.le_of_ble_eq_true rfl) (Nat.zero_le _) (Nat.zero_le _) hc_0 (by decide) rfl rfl (qX_may w w E 1000 0 0 _ (fun v a' ha hb' => ?_))
  refine am_aload_n dl_813 (by repeat (first | exact List.Mem.head _ | apply List.Mem.tail)) ?_
  refine lw_arg (kn := 1) dl_814 dl_815 dl_816 dl_817 dl_818 rfl (by decide) hi hL hx ?_
  refine lw_arg (kn := 2) dl_819 dl_820 dl_821 dl_822 dl_823 rfl (by decide) hi hL hx ?_
  refine lw_arg (kn := 3) dl_824 dl_825 dl_826 dl_827 dl_828 rfl (by decide) hi hL hx ?_
  refine lw_arg (kn := 4) dl_829 dl_830 dl_831 dl_832 dl_833 rfl (by decide) hi hL hx ?_
  refine am_callv (d' := 1000 + 13) (kc := 0) (ks := 0) (as := [.inl (X.1 (i + 1)), .inl (X.1 (i + 2)), .inl (X.1 (i + 3)), .inl (X.1 (i + 4))]) dl_834 wc_X12_may wd_2148 wd_2149 wd_2150 wd_122 ds_X12_may (by decide) (by decide) (Nat.le_of_ble_eq_true rfl) (Nat.zero_le _) (Nat.zero_le _) hc_10 (by decide) rfl rfl (hb' a' (mh_E_b E ha) 1000 0 0 _ (fun b' e1 e2 e3 => ?_))
  refine am_icmpeq (tgt := 1423) dl_837 (by decide) (fun _ => ?_) (fun c => absurd rfl c)
  exact K b' _ _ (mh_E_a e1 e2 e3) (by omega) (by omega)
/-- deed -/
theorem lc_18 {w : am_W} {i bc bs : Nat} (E : mh_E w w) (hst : mh_st X r) (hi : i + 6 ≤ X.2.1) (hL : X.2.1 ≤ 3072) (hx : ∀ k, am_rg (X.1 k)) (hb : 16 ≤ bc) (hs : 108 ≤ bs) (K : ∀ (w' : am_W) (bc' bs' : Nat), mh_E w' w' → bc ≤ bc' + 16 → bs ≤ bs' + 108 → am_A (mh_G X) mh_SC 1400 lw_Y Q 1423 (lw_ls i) [] w' bc' bs') : am_A (mh_G X) mh_SC 1400 lw_Y Q 842 (lw_ls i) [] w bc bs := by
  refine am_aload_n dl_842 (by repeat (first | exact List.Mem.head _ | apply List.Mem.tail)) ?_
  refine lw_arg (kn := 1) dl_843 dl_844 dl_845 dl_846 dl_847 rfl (by decide) hi hL hx ?_
  refine lw_arg (kn := 2) dl_848 dl_849 dl_850 dl_851 dl_852 rfl (by decide) hi hL hx ?_
  refine am_callv (d' := 1000 + 7) (kc := 0) (ks := 0) (as := [.inl (X.1 (i + 1)), .inl (X.1 (i + 2))]) dl_853 wc_X11_deed wd_1318 wd_1319 wd_1320 wd_112 ds_X11_deed (by decide) (by decide) (Nat.le_of_ble_eq_true rfl) (Nat.zero_le _) (Nat.zero_le _) hc_0 (by decide) rfl rfl (qX_deed w w E 1000 0 0 _ (fun v a' ha hb' => ?_))
  refine am_aload_n dl_856 (by repeat (first | exact List.Mem.head _ | apply List.Mem.tail)) ?_
  refine lw_arg (kn := 1) dl_857 dl_858 dl_859 dl_860 dl_861 rfl (by decide) hi hL hx ?_
  refine lw_arg (kn := 2) dl_862 dl_863 dl_864 dl_865 dl_866 rfl (by decide) hi hL hx ?_
  refine am_callv (d' := 1000 + 12) (kc := 0) (ks := 0) (as := [.inl (X.1 (i + 1)), .inl (X.1 (i + 2))]) dl_867 wc_X12_deed wd_2163 wd_2164 wd_2165 wd_122 ds_X12_deed (by decide) (by decide) (Nat.le_of_ble_eq_true rfl) (Nat.zero_le _) (Nat.zero_le _) hc_10 (by decide) rfl rfl (hb' a' (mh_E_b E ha) 1000 0 0 _ (fun b' e1 e2 e3 => ?_))
  refine am_icmpeq (tgt := 1423) dl_870 (by decide) (fun _ => ?_) (fun c => absurd rfl c)
  exact K b' _ _ (mh_E_a e1 e2 e3) (by omega) (by omega)
/-- stands -/
theorem lc_19 {w : am_W} {i bc bs : Nat} (E : mh_E w w) (hst : mh_st X r) (hi : i + 6 ≤ X.2.1) (hL : X.2.1 ≤ 3072) (hx : ∀ k, am_rg (X.1 k)) (hb : 16 ≤ bc) (hs : 108 ≤ bs) (K : ∀ (w' : am_W) (bc' bs' : Nat), mh_E w' w' → bc ≤ bc' + 16 → bs ≤ bs' + 108 → am_A (mh_G X) mh_SC 1400 lw_Y Q 1423 (lw_ls i) [] w' bc' bs') : am_A (mh_G X) mh_SC 1400 lw_Y Q 875 (lw_ls i) [] w bc bs := by
  refine am_aload_n dl_875 (by repeat (first | exact List.Mem.head _ | apply List.Mem.tail)) ?_
  refine lw_arg (kn := 1) dl_876 dl_877 dl_878 dl_879 dl_880 rfl (by decide) hi hL hx ?_
  refine lw_arg (kn := 2) dl_881 dl_882 dl_883 dl_884 dl_885 rfl (by decide) hi hL hx ?_
  refine am_callv (d' := 1000 + 8) (kc := 0) (ks := 0) (as := [.inl (X.1 (i + 1)), .inl (X.1 (i + 2))]) dl_886 wc_X11_stands wd_1322 wd_1323 wd_1324 wd_112 ds_X11_stands (by decide) (by decide) (Nat.le_of_ble_eq_true rfl) (Nat.zero_le _) (Nat.zero_le _) hc_0 (by decide) rfl rfl (qX_stands w w E 1000 0 0 _ (fun v a' ha hb' => ?_))
  refine am_aload_n dl_889 (by repeat (first | exact List.Mem.head _ | apply List.Mem.tail)) ?_
  refine lw_arg (kn := 1) dl_890 dl_891 dl_892 dl_893 dl_894 rfl (by decide) hi hL hx ?_
  refine lw_arg (kn := 2) dl_895 dl_896 dl_897 dl_898 dl_899 rfl (by decide) hi hL hx ?_
  refine am_callv (d' := 1000 + 13) (kc := 0) (ks := 0) (as := [.inl (X.1 (i + 1)), .inl (X.1 (i + 2))]) dl_900 wc_X12_stands wd_2167 wd_2168 wd_2169 wd_122 ds_X12_stands (by decide) (by decide) (Nat.le_of_ble_eq_true rfl) (Nat.zero_le _) (Nat.zero_le _) hc_10 (by decide) rfl rfl (hb' a' (mh_E_b E ha) 1000 0 0 _ (fun b' e1 e2 e3 => ?_))
  refine am_icmpeq (tgt := 1423) dl_903 (by decide) (fun _ => ?_) (fun c => absurd rfl c)
  exact K b' _ _ (mh_E_a e1 e2 e3) (by omega) (by omega)
/-- best -/
theorem lc_20 {w : am_W} {i bc bs : Nat} (E : mh_E w w) (hst : mh_st X r) (hi : i + 6 ≤ X.2.1) (hL : X.2.1 ≤ 3072) (hx : ∀ k, am_rg (X.1 k)) (hb : 16 ≤ bc) (hs : 108 ≤ bs) (K : ∀ (w' : am_W) (bc' bs' : Nat), mh_E w' w' → bc ≤ bc' + 16 → bs ≤ bs' + 108 → am_A (mh_G X) mh_SC 1400 lw_Y Q 1423 (lw_ls i) [] w' bc' bs') : am_A (mh_G X) mh_SC 1400 lw_Y Q 908 (lw_ls i) [] w bc bs := by
  refine am_aload_n dl_908 (by repeat (first | exact List.Mem.head _ | apply List.Mem.tail)) ?_
  refine lw_arg (kn := 1) dl_909 dl_910 dl_911 dl_912 dl_913 rfl (by decide) hi hL hx ?_
  refine lw_arg (kn := 2) dl_914 dl_915 dl_916 dl_917 dl_918 rfl (by decide) hi hL hx ?_
  refine lw_arg (kn := 3) dl_919 dl_920 dl_921 dl_922 dl_923 rfl (by decide) hi hL hx ?_
  refine lw_arg (kn := 4) dl_924 dl_925 dl_926 dl_927 dl_928 rfl (by decide) hi hL hx ?_
  refine am_callv (d' := 1000 + 8) (kc := 0) (ks := 0) (as := [.inl (X.1 (i + 1)), .inl (X.1 (i + 2)), .inl (X.1 (i + 3)), .inl (X.1 (i + 4))]) dl_929 wc_X11_best wd_1330 wd_1331 wd_1332 wd_112 ds_X11_best (by decide) (by decide) (Nat.le_of_ble_eq_true rfl) (Nat.zero_le _) (Nat.zero_le _) hc_0 (by decide) rfl rfl (qX_best w w E 1000 0 0 _ (fun v a' ha hb' => ?_))
  refine am_aload_n dl_932 (by repeat (first | exact List.Mem.head _ | apply List.Mem.tail)) ?_
  refine lw_arg (kn := 1) dl_933 dl_934 dl_935 dl_936 dl_937 rfl (by decide) hi hL hx ?_
  refine lw_arg (kn := 2) dl_938 dl_939 dl_940 dl_941 dl_942 rfl (by decide) hi hL hx ?_
  refine lw_arg (kn := 3) dl_943 dl_944 dl_945 dl_946 dl_947 rfl (by decide) hi hL hx ?_
  refine lw_arg (kn := 4) dl_948 dl_949 dl_950 dl_951 dl_952 rfl (by decide) hi hL hx ?_
  refine am_callv (d' := 1000 + 11) (kc := 0) (ks := 0) (as := [.inl (X.1 (i + 1)), .inl (X.1 (i + 2)), .inl (X.1 (i + 3)), .inl (X.1 (i + 4))]) dl_953 wc_X12_best wd_2171 wd_2172 wd_2173 wd_122 ds_X12_best (by decide) (by decide) (Nat.le_of_ble_eq_true rfl) (Nat.zero_le _) (Nat.zero_le _) hc_10 (by decide) rfl rfl (hb' a' (mh_E_b E ha) 1000 0 0 _ (fun b' e1 e2 e3 => ?_))
  refine am_icmpeq (tgt := 1423) dl_956 (by decide) (fun _ => ?_) (fun c => absurd rfl c)
  exact K b' _ _ (mh_E_a e1 e2 e3) (by omega) (by omega)
/-- first -/
theorem lc_21 {w : am_W} {i bc bs : Nat} (E : mh_E w w) (hst : mh_st X r) (hi : i + 6 ≤ X.2.1) (hL : X.2.1 ≤ 3072) (hx : ∀ k, am_rg (X.1 k)) (hb : 16 ≤ bc) (hs : 108 ≤ bs) (K : ∀ (w' : am_W) (bc' bs' : Nat), mh_E w' w' → bc ≤ bc' + 16 → bs ≤ bs' + 108 → am_A (mh_G X) mh_SC 1400 lw_Y Q 1423 (lw_ls i) [] w' bc' bs') : am_A (mh_G X) mh_SC 1400 lw_Y Q 961 (lw_ls i) [] w bc bs := by
  refine am_aload_n dl_961 (by repeat (first | exact List.Mem.head _ | apply List.Mem.tail)) ?_
  refine lw_arg (kn := 1) dl_962 dl_963 dl_964 dl_965 dl_966 rfl (by decide) hi hL hx ?_
  refine lw_arg (kn := 2) dl_967 dl_968 dl_969 dl_970 dl_971 rfl (by decide) hi hL hx ?_
  refine lw_arg (kn := 3) dl_972 dl_973 dl_974 dl_975 dl_976 rfl (by decide) hi hL hx ?_
  refine am_callv (d' := 1000 + 7) (kc := 0) (ks := 0) (as := [.inl (X.1 (i + 1)), .inl (X.1 (i + 2)), .inl (X.1 (i + 3))]) dl_977 wc_X11_first wd_1341 wd_1342 wd_1343 wd_112 ds_X11_first (by decide) (by decide) (Nat.le_of_ble_eq_true rfl) (Nat.zero_le _) (Nat.zero_le _) hc_0 (by decide) rfl rfl (qX_first w w E 1000 0 0 _ (fun v a' ha hb' => ?_))
  refine am_aload_n dl_980 (by repeat (first | exact List.Mem.head _ | apply List.Mem.tail)) ?_
  refine lw_arg (kn := 1) dl_981 dl_982 dl_983 dl_984 dl_985 rfl (by decide) hi hL hx ?_
  refine lw_arg (kn := 2) dl_986 dl_987 dl_988 dl_989 dl_990 rfl (by decide) hi hL hx ?_
  refine lw_arg (kn := 3) dl_991 dl_992 dl_993 dl_994 dl_995 rfl (by decide) hi hL hx ?_
  refine am_callv (d' := 1000 + 11) (kc := 0) (ks := 0) (as := [.inl (X.1 (i + 1)), .inl (X.1 (i + 2)), .inl (X.1 (i + 3))]) dl_996 wc_X12_first wd_2175 wd_2176 wd_2177 wd_122 ds_X12_first (by decide) (by decide) (Nat.le_of_ble_eq_true rfl) (Nat.zero_le _) (Nat.zero_le _) hc_10 (by decide) rfl rfl (hb' a' (mh_E_b E ha) 1000 0 0 _ (fun b' e1 e2 e3 => ?_))
  refine am_icmpeq (tgt := 1423) dl_999 (by decide) (fun _ => ?_) (fun c => absurd rfl c)
  exact K b' _ _ (mh_E_a e1 e2 e3) (by omega) (by omega)
/-- dress -/
theorem lc_22 {w : am_W} {i bc bs : Nat} (E : mh_E w w) (hst : mh_st X r) (hi : i + 6 ≤ X.2.1) (hL : X.2.1 ≤ 3072) (hx : ∀ k, am_rg (X.1 k)) (hb : 16 ≤ bc) (hs : 108 ≤ bs) (K : ∀ (w' : am_W) (bc' bs' : Nat), mh_E w' w' → bc ≤ bc' + 16 → bs ≤ bs' + 108 → am_A (mh_G X) mh_SC 1400 lw_Y Q 1423 (lw_ls i) [] w' bc' bs') : am_A (mh_G X) mh_SC 1400 lw_Y Q 1004 (lw_ls i) [] w bc bs := by
  refine am_aload_n dl_1004 (by repeat (first | exact List.Mem.head _ | apply List.Mem.tail)) ?_
  refine lw_arg (kn := 1) dl_1005 dl_1006 dl_1007 dl_1008 dl_1009 rfl (by decide) hi hL hx ?_
  refine lw_arg (kn := 2) dl_1010 dl_1011 dl_1012 dl_1013 dl_1014 rfl (by decide) hi hL hx ?_
  refine am_callv (d' := 1000 + 3) (kc := 0) (ks := 0) (as := [.inl (X.1 (i + 1)), .inl (X.1 (i + 2))]) dl_1015 wc_X11_dress wd_1345 wd_1346 wd_1347 wd_112 ds_X11_dress (by decide) (by decide) (Nat.le_of_ble_eq_true rfl) (Nat.zero_le _) (Nat.zero_le _) hc_0 (by decide) rfl rfl (qX_dress w w E 1000 0 0 _ (fun v a' ha hb' => ?_))
  refine am_aload_n dl_1018 (by repeat (first | exact List.Mem.head _ | apply List.Mem.tail)) ?_
  refine lw_arg (kn := 1) dl_1019 dl_1020 dl_1021 dl_1022 dl_1023 rfl (by decide) hi hL hx ?_
  refine lw_arg (kn := 2) dl_1024 dl_1025 dl_1026 dl_1027 dl_1028 rfl (by decide) hi hL hx ?_
  refine am_callv (d' := 1000 + 3) (kc := 0) (ks := 0) (as := [.inl (X.1 (i + 1)), .inl (X.1 (i + 2))]) dl_1029 wc_X12_dress wd_2179 wd_2180 wd_2181 wd_122 ds_X12_dress (by decide) (by decide) (Nat.le_of_ble_eq_true rfl) (Nat.zero_le _) (Nat.zero_le _) hc_10 (by decide) rfl rfl (hb' a' (mh_E_b E ha) 1000 0 0 _ (fun b' e1 e2 e3 => ?_))
  refine am_icmpeq (tgt := 1423) dl_1032 (by decide) (fun _ => ?_) (fun c => absurd rfl c)
  exact K b' _ _ (mh_E_a e1 e2 e3) (by omega) (by omega)
/-- cloth -/
theorem lc_23 {w : am_W} {i bc bs : Nat} (E : mh_E w w) (hst : mh_st X r) (hi : i + 6 ≤ X.2.1) (hL : X.2.1 ≤ 3072) (hx : ∀ k, am_rg (X.1 k)) (hb : 16 ≤ bc) (hs : 108 ≤ bs) (K : ∀ (w' : am_W) (bc' bs' : Nat), mh_E w' w' → bc ≤ bc' + 16 → bs ≤ bs' + 108 → am_A (mh_G X) mh_SC 1400 lw_Y Q 1423 (lw_ls i) [] w' bc' bs') : am_A (mh_G X) mh_SC 1400 lw_Y Q 1037 (lw_ls i) [] w bc bs := by
  refine am_aload_n dl_1037 (by repeat (first | exact List.Mem.head _ | apply List.Mem.tail)) ?_
  refine lw_arg (kn := 1) dl_1038 dl_1039 dl_1040 dl_1041 dl_1042 rfl (by decide) hi hL hx ?_
  refine lw_arg (kn := 2) dl_1043 dl_1044 dl_1045 dl_1046 dl_1047 rfl (by decide) hi hL hx ?_
  refine am_callv (d' := 1000 + 3) (kc := 0) (ks := 0) (as := [.inl (X.1 (i + 1)), .inl (X.1 (i + 2))]) dl_1048 wc_X11_cloth wd_1357 wd_1358 wd_1359 wd_112 ds_X11_cloth (by decide) (by decide) (Nat.le_of_ble_eq_true rfl) (Nat.zero_le _) (Nat.zero_le _) hc_0 (by decide) rfl rfl (qX_cloth w w E 1000 0 0 _ (fun v a' ha hb' => ?_))
  refine am_aload_n dl_1051 (by repeat (first | exact List.Mem.head _ | apply List.Mem.tail)) ?_
  refine lw_arg (kn := 1) dl_1052 dl_1053 dl_1054 dl_1055 dl_1056 rfl (by decide) hi hL hx ?_
  refine lw_arg (kn := 2) dl_1057 dl_1058 dl_1059 dl_1060 dl_1061 rfl (by decide) hi hL hx ?_
  refine am_callv (d' := 1000 + 3) (kc := 0) (ks := 0) (as := [.inl (X.1 (i + 1)), .inl (X.1 (i + 2))]) dl_1062 wc_X12_cloth wd_2190 wd_2191 wd_2192 wd_122 ds_X12_cloth (by decide) (by decide) (Nat.le_of_ble_eq_true rfl) (Nat.zero_le _) (Nat.zero_le _) hc_10 (by decide) rfl rfl (hb' a' (mh_E_b E ha) 1000 0 0 _ (fun b' e1 e2 e3 => ?_))
  refine am_icmpeq (tgt := 1423) dl_1065 (by decide) (fun _ => ?_) (fun c => absurd rfl c)
  exact K b' _ _ (mh_E_a e1 e2 e3) (by omega) (by omega)
/-- hands -/
theorem lc_24 {w : am_W} {i bc bs : Nat} (E : mh_E w w) (hst : mh_st X r) (hi : i + 6 ≤ X.2.1) (hL : X.2.1 ≤ 3072) (hx : ∀ k, am_rg (X.1 k)) (hb : 16 ≤ bc) (hs : 108 ≤ bs) (K : ∀ (w' : am_W) (bc' bs' : Nat), mh_E w' w' → bc ≤ bc' + 16 → bs ≤ bs' + 108 → am_A (mh_G X) mh_SC 1400 lw_Y Q 1423 (lw_ls i) [] w' bc' bs') : am_A (mh_G X) mh_SC 1400 lw_Y Q 1070 (lw_ls i) [] w bc bs := by
  refine am_aload_n dl_1070 (by repeat (first | exact List.Mem.head _ | apply List.Mem.tail)) ?_
  refine lw_arg (kn := 1) dl_1071 dl_1072 dl_1073 dl_1074 dl_1075 rfl (by decide) hi hL hx ?_
  refine am_callv (d' := 1000 + 1) (kc := 0) (ks := 0) (as := [.inl (X.1 (i + 1))]) dl_1076 wc_X11_hands wd_1369 wd_1370 wd_1371 wd_112 ds_X11_hands (by decide) (by decide) (Nat.le_of_ble_eq_true rfl) (Nat.zero_le _) (Nat.zero_le _) hc_0 (by decide) rfl rfl (qX_hands w w E 1000 0 0 _ (fun v a' ha hb' => ?_))
  refine am_aload_n dl_1079 (by repeat (first | exact List.Mem.head _ | apply List.Mem.tail)) ?_
  refine lw_arg (kn := 1) dl_1080 dl_1081 dl_1082 dl_1083 dl_1084 rfl (by decide) hi hL hx ?_
  refine am_callv (d' := 1000 + 2) (kc := 0) (ks := 0) (as := [.inl (X.1 (i + 1))]) dl_1085 wc_X12_hands wd_2194 wd_2195 wd_2196 wd_122 ds_X12_hands (by decide) (by decide) (Nat.le_of_ble_eq_true rfl) (Nat.zero_le _) (Nat.zero_le _) hc_10 (by decide) rfl rfl (hb' a' (mh_E_b E ha) 1000 0 0 _ (fun b' e1 e2 e3 => ?_))
  refine am_icmpeq (tgt := 1423) dl_1088 (by decide) (fun _ => ?_) (fun c => absurd rfl c)
  exact K b' _ _ (mh_E_a e1 e2 e3) (by omega) (by omega)
/-- dye -/
theorem lc_25 {w : am_W} {i bc bs : Nat} (E : mh_E w w) (hst : mh_st X r) (hi : i + 6 ≤ X.2.1) (hL : X.2.1 ≤ 3072) (hx : ∀ k, am_rg (X.1 k)) (hb : 16 ≤ bc) (hs : 108 ≤ bs) (K : ∀ (w' : am_W) (bc' bs' : Nat), mh_E w' w' → bc ≤ bc' + 16 → bs ≤ bs' + 108 → am_A (mh_G X) mh_SC 1400 lw_Y Q 1423 (lw_ls i) [] w' bc' bs') : am_A (mh_G X) mh_SC 1400 lw_Y Q 1093 (lw_ls i) [] w bc bs := by
  refine am_aload_n dl_1093 (by repeat (first | exact List.Mem.head _ | apply List.Mem.tail)) ?_
  refine lw_arg (kn := 1) dl_1094 dl_1095 dl_1096 dl_1097 dl_1098 rfl (by decide) hi hL hx ?_
  refine lw_arg (kn := 2) dl_1099 dl_1100 dl_1101 dl_1102 dl_1103 rfl (by decide) hi hL hx ?_
  refine am_callv (d' := 1000 + 3) (kc := 0) (ks := 0) (as := [.inl (X.1 (i + 1)), .inl (X.1 (i + 2))]) dl_1104 wc_X11_dye wd_1373 wd_1374 wd_1375 wd_112 ds_X11_dye (by decide) (by decide) (Nat.le_of_ble_eq_true rfl) (Nat.zero_le _) (Nat.zero_le _) hc_0 (by decide) rfl rfl (qX_dye w w E 1000 0 0 _ (fun v a' ha hb' => ?_))
  refine am_aload_n dl_1107 (by repeat (first | exact List.Mem.head _ | apply List.Mem.tail)) ?_
  refine lw_arg (kn := 1) dl_1108 dl_1109 dl_1110 dl_1111 dl_1112 rfl (by decide) hi hL hx ?_
  refine lw_arg (kn := 2) dl_1113 dl_1114 dl_1115 dl_1116 dl_1117 rfl (by decide) hi hL hx ?_
  refine am_callv (d' := 1000 + 3) (kc := 0) (ks := 0) (as := [.inl (X.1 (i + 1)), .inl (X.1 (i + 2))]) dl_1118 wc_X12_dye wd_2198 wd_2199 wd_2200 wd_122 ds_X12_dye (by decide) (by decide) (Nat.le_of_ble_eq_true rfl) (Nat.zero_le _) (Nat.zero_le _) hc_10 (by decide) rfl rfl (hb' a' (mh_E_b E ha) 1000 0 0 _ (fun b' e1 e2 e3 => ?_))
  refine am_icmpeq (tgt := 1423) dl_1121 (by decide) (fun _ => ?_) (fun c => absurd rfl c)
  exact K b' _ _ (mh_E_a e1 e2 e3) (by omega) (by omega)
/-- make -/
theorem lc_26 {w : am_W} {i bc bs : Nat} (E : mh_E w w) (hst : mh_st X r) (hi : i + 6 ≤ X.2.1) (hL : X.2.1 ≤ 3072) (hx : ∀ k, am_rg (X.1 k)) (hb : 16 ≤ bc) (hs : 108 ≤ bs) (K : ∀ (w' : am_W) (bc' bs' : Nat), mh_E w' w' → bc ≤ bc' + 16 → bs ≤ bs' + 108 → am_A (mh_G X) mh_SC 1400 lw_Y Q 1423 (lw_ls i) [] w' bc' bs') : am_A (mh_G X) mh_SC 1400 lw_Y Q 1126 (lw_ls i) [] w bc bs := by
  refine am_aload_n dl_1126 (by repeat (first | exact List.Mem.head _ | apply List.Mem.tail)) ?_
  refine lw_arg (kn := 1) dl_1127 dl_1128 dl_1129 dl_1130 dl_1131 rfl (by decide) hi hL hx ?_
  refine lw_arg (kn := 2) dl_1132 dl_1133 dl_1134 dl_1135 dl_1136 rfl (by decide) hi hL hx ?_
  refine am_callv (d' := 1000 + 4) (kc := 0) (ks := 0) (as := [.inl (X.1 (i + 1)), .inl (X.1 (i + 2))]) dl_1137 wc_X11_make wd_1389 wd_1390 wd_1391 wd_112 ds_X11_make (by decide) (by decide) (Nat.le_of_ble_eq_true rfl) (Nat.zero_le _) (Nat.zero_le _) hc_0 (by decide) rfl rfl (qX_make w w E 1000 0 0 _ (fun v a' ha hb' => ?_))
  refine am_aload_n dl_1140 (by repeat (first | exact List.Mem.head _ | apply List.Mem.tail)) ?_
  refine lw_arg (kn := 1) dl_1141 dl_1142 dl_1143 dl_1144 dl_1145 rfl (by decide) hi hL hx ?_
  refine lw_arg (kn := 2) dl_1146 dl_1147 dl_1148 dl_1149 dl_1150 rfl (by decide) hi hL hx ?_
  refine am_callv (d' := 1000 + 3) (kc := 0) (ks := 0) (as := [.inl (X.1 (i + 1)), .inl (X.1 (i + 2))]) dl_1151 wc_X12_make wd_2210 wd_2211 wd_2212 wd_122 ds_X12_make (by decide) (by decide) (Nat.le_of_ble_eq_true rfl) (Nat.zero_le _) (Nat.zero_le _) hc_10 (by decide) rfl rfl (hb' a' (mh_E_b E ha) 1000 0 0 _ (fun b' e1 e2 e3 => ?_))
  refine am_icmpeq (tgt := 1423) dl_1154 (by decide) (fun _ => ?_) (fun c => absurd rfl c)
  exact K b' _ _ (mh_E_a e1 e2 e3) (by omega) (by omega)
/-- plan -/
theorem lc_27 {w : am_W} {i bc bs : Nat} (E : mh_E w w) (hst : mh_st X r) (hi : i + 6 ≤ X.2.1) (hL : X.2.1 ≤ 3072) (hx : ∀ k, am_rg (X.1 k)) (hb : 16 ≤ bc) (hs : 108 ≤ bs) (K : ∀ (w' : am_W) (bc' bs' : Nat), mh_E w' w' → bc ≤ bc' + 16 → bs ≤ bs' + 108 → am_A (mh_G X) mh_SC 1400 lw_Y Q 1423 (lw_ls i) [] w' bc' bs') : am_A (mh_G X) mh_SC 1400 lw_Y Q 1159 (lw_ls i) [] w bc bs := by
  refine am_aload_n dl_1159 (by repeat (first | exact List.Mem.head _ | apply List.Mem.tail)) ?_
  refine lw_arg (kn := 1) dl_1160 dl_1161 dl_1162 dl_1163 dl_1164 rfl (by decide) hi hL hx ?_
  refine lw_arg (kn := 2) dl_1165 dl_1166 dl_1167 dl_1168 dl_1169 rfl (by decide) hi hL hx ?_
  refine lw_arg (kn := 3) dl_1170 dl_1171 dl_1172 dl_1173 dl_1174 rfl (by decide) hi hL hx ?_
  refine am_callv (d' := 1000 + 24) (kc := 0) (ks := 0) (as := [.inl (X.1 (i + 1)), .inl (X.1 (i + 2)), .inl (X.1 (i + 3))]) dl_1175 wc_X11_plan wd_1402 wd_1403 wd_1404 wd_112 ds_X11_plan (by decide) (by decide) (Nat.le_of_ble_eq_true rfl) (Nat.zero_le _) (Nat.zero_le _) hc_0 (by decide) rfl rfl (qX_plan (hx _) w w E 1000 0 0 _ (fun v a' ha hb' => ?_))
  refine am_aload_n dl_1178 (by repeat (first | exact List.Mem.head _ | apply List.Mem.tail)) ?_
  refine lw_arg (kn := 1) dl_1179 dl_1180 dl_1181 dl_1182 dl_1183 rfl (by decide) hi hL hx ?_
  refine lw_arg (kn := 2) dl_1184 dl_1185 dl_1186 dl_1187 dl_1188 rfl (by decide) hi hL hx ?_
  refine lw_arg (kn := 3) dl_1189 dl_1190 dl_1191 dl_1192 dl_1193 rfl (by decide) hi hL hx ?_
  refine am_callv (d' := 1000 + 15) (kc := 0) (ks := 0) (as := [.inl (X.1 (i + 1)), .inl (X.1 (i + 2)), .inl (X.1 (i + 3))]) dl_1194 wc_X12_plan wd_2214 wd_2215 wd_2216 wd_122 ds_X12_plan (by decide) (by decide) (Nat.le_of_ble_eq_true rfl) (Nat.zero_le _) (Nat.zero_le _) hc_10 (by decide) rfl rfl (hb' a' (mh_E_b E ha) 1000 0 0 _ (fun b' e1 e2 e3 => ?_))
  refine am_icmpeq (tgt := 1423) dl_1197 (by decide) (fun _ => ?_) (fun c => absurd rfl c)
  exact K b' _ _ (mh_E_a e1 e2 e3) (by omega) (by omega)
/-- planned -/
theorem lc_28 {w : am_W} {i bc bs : Nat} (E : mh_E w w) (hst : mh_st X r) (hi : i + 6 ≤ X.2.1) (hL : X.2.1 ≤ 3072) (hx : ∀ k, am_rg (X.1 k)) (hb : 16 ≤ bc) (hs : 108 ≤ bs) (K : ∀ (w' : am_W) (bc' bs' : Nat), mh_E w' w' → bc ≤ bc' + 16 → bs ≤ bs' + 108 → am_A (mh_G X) mh_SC 1400 lw_Y Q 1423 (lw_ls i) [] w' bc' bs') : am_A (mh_G X) mh_SC 1400 lw_Y Q 1202 (lw_ls i) [] w bc bs := by
  refine am_aload_n dl_1202 (by repeat (first | exact List.Mem.head _ | apply List.Mem.tail)) ?_
  refine lw_arg (kn := 1) dl_1203 dl_1204 dl_1205 dl_1206 dl_1207 rfl (by decide) hi hL hx ?_
  refine lw_arg (kn := 2) dl_1208 dl_1209 dl_1210 dl_1211 dl_1212 rfl (by decide) hi hL hx ?_
  refine lw_arg (kn := 3) dl_1213 dl_1214 dl_1215 dl_1216 dl_1217 rfl (by decide) hi hL hx ?_
  refine am_callv (d' := 1000 + 24) (kc := 0) (ks := 0) (as := [.inl (X.1 (i + 1)), .inl (X.1 (i + 2)), .inl (X.1 (i + 3))]) dl_1218 wc_X11_planned wd_1478 wd_1479 wd_1480 wd_112 ds_X11_planned (by decide) (by decide) (Nat.le_of_ble_eq_true rfl) (Nat.zero_le _) (Nat.zero_le _) hc_0 (by decide) rfl rfl (qX_planned (hx _) w w E 1000 0 0 _ (fun v a' ha hb' => ?_))
  refine am_aload_n dl_1221 (by repeat (first | exact List.Mem.head _ | apply List.Mem.tail)) ?_
  refine lw_arg (kn := 1) dl_1222 dl_1223 dl_1224 dl_1225 dl_1226 rfl (by decide) hi hL hx ?_
  refine lw_arg (kn := 2) dl_1227 dl_1228 dl_1229 dl_1230 dl_1231 rfl (by decide) hi hL hx ?_
  refine lw_arg (kn := 3) dl_1232 dl_1233 dl_1234 dl_1235 dl_1236 rfl (by decide) hi hL hx ?_
  refine am_callv (d' := 1000 + 15) (kc := 0) (ks := 0) (as := [.inl (X.1 (i + 1)), .inl (X.1 (i + 2)), .inl (X.1 (i + 3))]) dl_1237 wc_X12_planned wd_2242 wd_2243 wd_2244 wd_122 ds_X12_planned (by decide) (by decide) (Nat.le_of_ble_eq_true rfl) (Nat.zero_le _) (Nat.zero_le _) hc_10 (by decide) rfl rfl (hb' a' (mh_E_b E ha) 1000 0 0 _ (fun b' e1 e2 e3 => ?_))
  refine am_icmpeq (tgt := 1423) dl_1240 (by decide) (fun _ => ?_) (fun c => absurd rfl c)
  exact K b' _ _ (mh_E_a e1 e2 e3) (by omega) (by omega)
/-- write -/
theorem lc_29 {w : am_W} {i bc bs : Nat} (E : mh_E w w) (hst : mh_st X r) (hi : i + 6 ≤ X.2.1) (hL : X.2.1 ≤ 3072) (hx : ∀ k, am_rg (X.1 k)) (hb : 16 ≤ bc) (hs : 108 ≤ bs) (K : ∀ (w' : am_W) (bc' bs' : Nat), mh_E w' w' → bc ≤ bc' + 16 → bs ≤ bs' + 108 → am_A (mh_G X) mh_SC 1400 lw_Y Q 1423 (lw_ls i) [] w' bc' bs') : am_A (mh_G X) mh_SC 1400 lw_Y Q 1245 (lw_ls i) [] w bc bs := by
  refine am_aload_n dl_1245 (by repeat (first | exact List.Mem.head _ | apply List.Mem.tail)) ?_
  refine lw_arg (kn := 1) dl_1246 dl_1247 dl_1248 dl_1249 dl_1250 rfl (by decide) hi hL hx ?_
  refine lw_arg (kn := 2) dl_1251 dl_1252 dl_1253 dl_1254 dl_1255 rfl (by decide) hi hL hx ?_
  refine am_callv (d' := 1000 + 9) (kc := 0) (ks := 0) (as := [.inl (X.1 (i + 1)), .inl (X.1 (i + 2))]) dl_1256 wc_X11_write wd_921 wd_922 wd_923 wd_112 ds_X11_write (by decide) (by decide) (Nat.le_of_ble_eq_true rfl) (Nat.zero_le _) (Nat.zero_le _) hc_0 (by decide) rfl rfl (qY_write hst (hx _) (hx _) w w E 1000 0 0 _ (fun v a' ha hb' => ?_))
  refine am_aload_n dl_1259 (by repeat (first | exact List.Mem.head _ | apply List.Mem.tail)) ?_
  refine lw_arg (kn := 1) dl_1260 dl_1261 dl_1262 dl_1263 dl_1264 rfl (by decide) hi hL hx ?_
  refine lw_arg (kn := 2) dl_1265 dl_1266 dl_1267 dl_1268 dl_1269 rfl (by decide) hi hL hx ?_
  refine am_callv (d' := 1000 + 12) (kc := 16) (ks := 108) (as := [.inl (X.1 (i + 1)), .inl (X.1 (i + 2))]) dl_1270 wc_X12_write wd_2246 wd_2247 wd_2248 wd_122 ds_X12_write (by decide) (by decide) (Nat.le_of_ble_eq_true rfl) hb hs hc_10 (by decide) rfl rfl (hb' a' (mh_E_b E ha) 1000 16 108 _ (Nat.le_refl _) (Nat.le_refl _) (fun b' e1 e2 e3 => ?_))
  refine am_icmpeq (tgt := 1423) dl_1273 (by decide) (fun _ => ?_) (fun c => absurd rfl c)
  exact K b' _ _ (mh_E_aw e1 e2 e3) (by omega) (by omega)
/-- out -/
theorem lc_30 {w : am_W} {i bc bs : Nat} (E : mh_E w w) (hst : mh_st X r) (hi : i + 6 ≤ X.2.1) (hL : X.2.1 ≤ 3072) (hx : ∀ k, am_rg (X.1 k)) (hb : 16 ≤ bc) (hs : 108 ≤ bs) (K : ∀ (w' : am_W) (bc' bs' : Nat), mh_E w' w' → bc ≤ bc' + 16 → bs ≤ bs' + 108 → am_A (mh_G X) mh_SC 1400 lw_Y Q 1423 (lw_ls i) [] w' bc' bs') : am_A (mh_G X) mh_SC 1400 lw_Y Q 1278 (lw_ls i) [] w bc bs := by
  refine am_aload_n dl_1278 (by repeat (first | exact List.Mem.head _ | apply List.Mem.tail)) ?_
  refine lw_arg (kn := 1) dl_1279 dl_1280 dl_1281 dl_1282 dl_1283 rfl (by decide) hi hL hx ?_
  refine am_callv (d' := 1000 + 2) (kc := 0) (ks := 0) (as := [.inl (X.1 (i + 1))]) dl_1284 wc_X11_out wd_976 wd_977 wd_978 wd_112 ds_X11_out (by decide) (by decide) (Nat.le_of_ble_eq_true rfl) (Nat.zero_le _) (Nat.zero_le _) hc_0 (by decide) rfl rfl (qX_out w w E 1000 0 0 _ (fun v a' ha hb' => ?_))
  refine am_aload_n dl_1287 (by repeat (first | exact List.Mem.head _ | apply List.Mem.tail)) ?_
  refine lw_arg (kn := 1) dl_1288 dl_1289 dl_1290 dl_1291 dl_1292 rfl (by decide) hi hL hx ?_
  refine am_callv (d' := 1000 + 2) (kc := 0) (ks := 0) (as := [.inl (X.1 (i + 1))]) dl_1293 wc_X12_out wd_2475 wd_2476 wd_2477 wd_122 ds_X12_out (by decide) (by decide) (Nat.le_of_ble_eq_true rfl) (Nat.zero_le _) (Nat.zero_le _) hc_10 (by decide) rfl rfl (hb' a' (mh_E_b E ha) 1000 0 0 _ (fun b' e1 e2 e3 => ?_))
  refine am_icmpeq (tgt := 1423) dl_1296 (by decide) (fun _ => ?_) (fun c => absurd rfl c)
  exact K b' _ _ (mh_E_a e1 e2 e3) (by omega) (by omega)
/-- quarrel -/
theorem lc_31 {w : am_W} {i bc bs : Nat} (E : mh_E w w) (hst : mh_st X r) (hi : i + 6 ≤ X.2.1) (hL : X.2.1 ≤ 3072) (hx : ∀ k, am_rg (X.1 k)) (hb : 16 ≤ bc) (hs : 108 ≤ bs) (K : ∀ (w' : am_W) (bc' bs' : Nat), mh_E w' w' → bc ≤ bc' + 16 → bs ≤ bs' + 108 → am_A (mh_G X) mh_SC 1400 lw_Y Q 1423 (lw_ls i) [] w' bc' bs') : am_A (mh_G X) mh_SC 1400 lw_Y Q 1301 (lw_ls i) [] w bc bs := by
  refine am_aload_n dl_1301 (by repeat (first | exact List.Mem.head _ | apply List.Mem.tail)) ?_
  refine lw_arg (kn := 1) dl_1302 dl_1303 dl_1304 dl_1305 dl_1306 rfl (by decide) hi hL hx ?_
  refine lw_arg (kn := 2) dl_1307 dl_1308 dl_1309 dl_1310 dl_1311 rfl (by decide) hi hL hx ?_
  refine am_callv (d' := 1000 + 4) (kc := 0) (ks := 0) (as := [.inl (X.1 (i + 1)), .inl (X.1 (i + 2))]) dl_1312 wc_X11_quarrel wd_984 wd_985 wd_986 wd_112 ds_X11_quarrel (by decide) (by decide) (Nat.le_of_ble_eq_true rfl) (Nat.zero_le _) (Nat.zero_le _) hc_0 (by decide) rfl rfl (qX_quarrel (hx _) w w E 1000 0 0 _ (fun v a' ha hb' => ?_))
  refine am_aload_n dl_1315 (by repeat (first | exact List.Mem.head _ | apply List.Mem.tail)) ?_
  refine lw_arg (kn := 1) dl_1316 dl_1317 dl_1318 dl_1319 dl_1320 rfl (by decide) hi hL hx ?_
  refine lw_arg (kn := 2) dl_1321 dl_1322 dl_1323 dl_1324 dl_1325 rfl (by decide) hi hL hx ?_
  refine am_callv (d' := 1000 + 2) (kc := 0) (ks := 0) (as := [.inl (X.1 (i + 1)), .inl (X.1 (i + 2))]) dl_1326 wc_X12_quarrel wd_2479 wd_2480 wd_2481 wd_122 ds_X12_quarrel (by decide) (by decide) (Nat.le_of_ble_eq_true rfl) (Nat.zero_le _) (Nat.zero_le _) hc_10 (by decide) rfl rfl (hb' a' (mh_E_b E ha) 1000 0 0 _ (fun b' e1 e2 e3 => ?_))
  refine am_icmpeq (tgt := 1423) dl_1329 (by decide) (fun _ => ?_) (fun c => absurd rfl c)
  exact K b' _ _ (mh_E_a e1 e2 e3) (by omega) (by omega)
/-- worn -/
theorem lc_32 {w : am_W} {i bc bs : Nat} (E : mh_E w w) (hst : mh_st X r) (hi : i + 6 ≤ X.2.1) (hL : X.2.1 ≤ 3072) (hx : ∀ k, am_rg (X.1 k)) (hb : 16 ≤ bc) (hs : 108 ≤ bs) (K : ∀ (w' : am_W) (bc' bs' : Nat), mh_E w' w' → bc ≤ bc' + 16 → bs ≤ bs' + 108 → am_A (mh_G X) mh_SC 1400 lw_Y Q 1423 (lw_ls i) [] w' bc' bs') : am_A (mh_G X) mh_SC 1400 lw_Y Q 1334 (lw_ls i) [] w bc bs := by
  refine am_aload_n dl_1334 (by repeat (first | exact List.Mem.head _ | apply List.Mem.tail)) ?_
  refine lw_arg (kn := 1) dl_1335 dl_1336 dl_1337 dl_1338 dl_1339 rfl (by decide) hi hL hx ?_
  refine lw_arg (kn := 2) dl_1340 dl_1341 dl_1342 dl_1343 dl_1344 rfl (by decide) hi hL hx ?_
  refine am_callv (d' := 1000 + 2) (kc := 0) (ks := 0) (as := [.inl (X.1 (i + 1)), .inl (X.1 (i + 2))]) dl_1345 wc_X11_worn wd_1486 wd_1487 wd_1488 wd_112 ds_X11_worn (by decide) (by decide) (Nat.le_of_ble_eq_true rfl) (Nat.zero_le _) (Nat.zero_le _) hc_0 (by decide) rfl rfl (qX_worn w w E 1000 0 0 _ (fun v a' ha hb' => ?_))
  refine am_aload_n dl_1348 (by repeat (first | exact List.Mem.head _ | apply List.Mem.tail)) ?_
  refine lw_arg (kn := 1) dl_1349 dl_1350 dl_1351 dl_1352 dl_1353 rfl (by decide) hi hL hx ?_
  refine lw_arg (kn := 2) dl_1354 dl_1355 dl_1356 dl_1357 dl_1358 rfl (by decide) hi hL hx ?_
  refine am_callv (d' := 1000 + 2) (kc := 0) (ks := 0) (as := [.inl (X.1 (i + 1)), .inl (X.1 (i + 2))]) dl_1359 wc_X12_worn wd_2491 wd_2492 wd_2493 wd_122 ds_X12_worn (by decide) (by decide) (Nat.le_of_ble_eq_true rfl) (Nat.zero_le _) (Nat.zero_le _) hc_10 (by decide) rfl rfl (hb' a' (mh_E_b E ha) 1000 0 0 _ (fun b' e1 e2 e3 => ?_))
  refine am_icmpeq (tgt := 1423) dl_1362 (by decide) (fun _ => ?_) (fun c => absurd rfl c)
  exact K b' _ _ (mh_E_a e1 e2 e3) (by omega) (by omega)
/-- told -/
theorem lc_33 {w : am_W} {i bc bs : Nat} (E : mh_E w w) (hst : mh_st X r) (hi : i + 6 ≤ X.2.1) (hL : X.2.1 ≤ 3072) (hx : ∀ k, am_rg (X.1 k)) (hb : 16 ≤ bc) (hs : 108 ≤ bs) (K : ∀ (w' : am_W) (bc' bs' : Nat), mh_E w' w' → bc ≤ bc' + 16 → bs ≤ bs' + 108 → am_A (mh_G X) mh_SC 1400 lw_Y Q 1423 (lw_ls i) [] w' bc' bs') : am_A (mh_G X) mh_SC 1400 lw_Y Q 1367 (lw_ls i) [] w bc bs := by
  refine am_aload_n dl_1367 (by repeat (first | exact List.Mem.head _ | apply List.Mem.tail)) ?_
  refine lw_arg (kn := 1) dl_1368 dl_1369 dl_1370 dl_1371 dl_1372 rfl (by decide) hi hL hx ?_
  refine lw_arg (kn := 2) dl_1373 dl_1374 dl_1375 dl_1376 dl_1377 rfl (by decide) hi hL hx ?_
  refine am_callv (d' := 1000 + 3) (kc := 0) (ks := 0) (as := [.inl (X.1 (i + 1)), .inl (X.1 (i + 2))]) dl_1378 wc_X11_told wd_1491 wd_1492 wd_1493 wd_112 ds_X11_told (by decide) (by decide) (Nat.le_of_ble_eq_true rfl) (Nat.zero_le _) (Nat.zero_le _) hc_0 (by decide) rfl rfl (qX_told w w E 1000 0 0 _ (fun v a' ha hb' => ?_))
  refine am_aload_n dl_1381 (by repeat (first | exact List.Mem.head _ | apply List.Mem.tail)) ?_
  refine lw_arg (kn := 1) dl_1382 dl_1383 dl_1384 dl_1385 dl_1386 rfl (by decide) hi hL hx ?_
  refine lw_arg (kn := 2) dl_1387 dl_1388 dl_1389 dl_1390 dl_1391 rfl (by decide) hi hL hx ?_
  refine am_callv (d' := 1000 + 3) (kc := 0) (ks := 0) (as := [.inl (X.1 (i + 1)), .inl (X.1 (i + 2))]) dl_1392 wc_X12_told wd_2495 wd_2496 wd_2497 wd_122 ds_X12_told (by decide) (by decide) (Nat.le_of_ble_eq_true rfl) (Nat.zero_le _) (Nat.zero_le _) hc_10 (by decide) rfl rfl (hb' a' (mh_E_b E ha) 1000 0 0 _ (fun b' e1 e2 e3 => ?_))
  refine am_icmpeq (tgt := 1423) dl_1395 (by decide) (fun _ => ?_) (fun c => absurd rfl c)
  exact K b' _ _ (mh_E_a e1 e2 e3) (by omega) (by omega)
/-- count -/
theorem lc_34 {w : am_W} {i bc bs : Nat} (E : mh_E w w) (hst : mh_st X r) (hi : i + 6 ≤ X.2.1) (hL : X.2.1 ≤ 3072) (hx : ∀ k, am_rg (X.1 k)) (hb : 16 ≤ bc) (hs : 108 ≤ bs) (K : ∀ (w' : am_W) (bc' bs' : Nat), mh_E w' w' → bc ≤ bc' + 16 → bs ≤ bs' + 108 → am_A (mh_G X) mh_SC 1400 lw_Y Q 1423 (lw_ls i) [] w' bc' bs') : am_A (mh_G X) mh_SC 1400 lw_Y Q 1400 (lw_ls i) [] w bc bs := by
  refine am_aload_n dl_1400 (by repeat (first | exact List.Mem.head _ | apply List.Mem.tail)) ?_
  refine lw_arg (kn := 1) dl_1401 dl_1402 dl_1403 dl_1404 dl_1405 rfl (by decide) hi hL hx ?_
  refine am_callv (d' := 1000 + 2) (kc := 0) (ks := 0) (as := [.inl (X.1 (i + 1))]) dl_1406 wc_X11_count wd_1500 wd_1501 wd_1502 wd_112 ds_X11_count (by decide) (by decide) (Nat.le_of_ble_eq_true rfl) (Nat.zero_le _) (Nat.zero_le _) hc_0 (by decide) rfl rfl (qX_count (hx _) w w E 1000 0 0 _ (fun v a' ha hb' => ?_))
  refine am_aload_n dl_1409 (by repeat (first | exact List.Mem.head _ | apply List.Mem.tail)) ?_
  refine lw_arg (kn := 1) dl_1410 dl_1411 dl_1412 dl_1413 dl_1414 rfl (by decide) hi hL hx ?_
  refine am_callv (d' := 1000 + 2) (kc := 0) (ks := 0) (as := [.inl (X.1 (i + 1))]) dl_1415 wc_X12_count wd_2499 wd_2500 wd_2501 wd_122 ds_X12_count (by decide) (by decide) (Nat.le_of_ble_eq_true rfl) (Nat.zero_le _) (Nat.zero_le _) hc_10 (by decide) rfl rfl (hb' a' (mh_E_b E ha) 1000 0 0 _ (fun b' e1 e2 e3 => ?_))
  refine am_icmpeq (tgt := 1423) dl_1418 (by decide) (fun _ => ?_) (fun c => absurd rfl c)
  exact K b' _ _ (mh_E_a e1 e2 e3) (by omega) (by omega)
