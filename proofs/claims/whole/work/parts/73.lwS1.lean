set_option maxHeartbeats 4000000 in
set_option maxRecDepth 100000 in
theorem st_home {p : Program} {l : Launch} {e : Env} {s : State} {m : MethodId} {below : List Frame} {meth : Method} {c : Code} {b L : Nat} {xs : Nat → Int32} {Q : State → Prop} {D : va_G} {cI cZ cM : ClassId} {adK adV : Nat → Nat} {x0 : Nat} {f : Nat → Nat} {k0 : Nat} {f2 : Nat → Nat} {i : Nat} {ls : Array Slot} {H : Heap} {locs : List Loc} (C0 : lw_At p s m meth c b L xs) (hL : L ≤ 2048) (hK : KK D cI cZ cM s) (hE : ENV (fun q : Nat => s.heap.size ≤ q) adK adV s s.heap) (hi3 : i + 3 < L) (hl : lv_has ls 4 [(0, .ref b), (1, .ref x0), (2, .ref k0), (3, .int (nI i))]) (hI : INV D cI cZ cM x0 f k0 f2 (fun q : Nat => s.heap.size ≤ q) s.heap H locs) (kk : ∀ (H1 : Heap) (locs1 : List Loc), INV D cI cZ cM x0 f k0 f2 (fun q : Nat => s.heap.size ≤ q) s.heap H1 locs1 → W p l e room_1 s m #[Value.ref b] below meth c H1 locs1 107 7060 Q (F0 m 729 ls [])) : W p l e room_1 s m #[Value.ref b] below meth c H locs 107 7060 Q (F0 m 278 ls []) := by
  obtain ⟨hx, hb, hr, hml, hown, hts0, hX, hbl, hlocks, hgv⟩ := C0
  have hb : c.code = cL_law := hb
  have hown : s.vm.findClass RL = some m.cls := hown
  have hts : ∀ w ∈ wsL_law, w.before #[Value.ref b] s = true := fun w h => hts0 w (wsL_law_in w h)
  have hA : ∀ q : Nat, s.heap.size ≤ q → (fun q : Nat => s.heap.size ≤ q) q := fun _ h => h
  have hbA : ¬ (fun q : Nat => s.heap.size ≤ q) b := Nat.not_le.mpr hbl
  have hin1 : vp_in (nI i + nI 1) L := by rw [nI_add]; exact vp_in_nI (by omega) (by omega)
  have hin2 : vp_in (nI i + nI 2) L := by rw [nI_add]; exact vp_in_nI (by omega) (by omega)
  obtain ⟨r, T, hist, Y, Z, tl, S, N, o, mm, a_n, a_L, a_U, a_H, a_O, a_B, b_n, b_L, b_U, b_H, b_O, b_B, w_a, t_st, t_nx, t_kd, t_by, r_cl, r_no, u_is, g_rl, g_n, g_ri, g_ne, g_re, g_ts, q_nt, q_iv, q_fd, q_or, q_df, q_se, q_co, q_ch, v_n, v_L, v_U, v_H, v_O, v_B, k_fi, k_be, k_to, k_cl, k_do, k_ro, k_ke, k_te, k_nu, k_no, k_tu, ⟨hom, ho, hc, hk, hH, hSR, hT1, hT2, hB⟩, hP, hD, hS⟩ := hI
  have hN := hH.2.1
  obtain ⟨ho0, hm0⟩ := OM_0 hN hom
  have hg : hsF f (nI N).toNatClampNeg = some (f (20 + 6 * o 0)) := by rw [nI_clamp (by omega), ho0]; rfl
  obtain ⟨ra, c1, S1, N1, ym, k1, r1, e1, e2, hc1, hist1, ho1, hk1, hH1, hg7⟩ := E_home hH ho hc hk (Nat.le_refl 1100) (xs (nI i + nI 1).toNatClampNeg) (xs (nI i + nI 2).toNatClampNeg)
  rw [← hm0] at e1
  refine lv_aload_n hx hb dL_law_278 rfl (lv_at hl 1 rfl) ?_
  refine lv_aload_n hx hb dL_law_279 rfl (lv_at hl 0 rfl) ?_
  refine lv_iload_n hx hb dL_law_280 rfl (lv_at hl 3 rfl) ?_
  refine lv_iconst (v := nI 1) hx hb dL_law_281 ic_1 ?_
  refine lv_iadd hx hb dL_law_282 ?_
  refine va_sld hx hb hX hbl hbA hS hin1 dL_law_283 ?_
  refine lv_aload_n hx hb dL_law_284 rfl (lv_at hl 0 rfl) ?_
  refine lv_iload_n hx hb dL_law_285 rfl (lv_at hl 3 rfl) ?_
  refine lv_iconst (v := nI 2) hx hb dL_law_286 ic_2 ?_
  refine lv_iadd hx hb dL_law_287 ?_
  refine va_sld hx hb hX hbl hbA hS hin2 dL_law_288 ?_
  refine muF (w' := (wF cI cZ cM x0 f k0 f2 (hsF f) (usF f) o (updY mm 0 ym) Z a_n a_L a_U c1 a_O a_B b_n b_L b_U b_H b_O b_B w_a (nI tl) t_st t_nx t_kd t_by r_cl r_no (nI S1) (nI N1) u_is g_rl g_n g_ri g_ne g_re g_ts q_nt q_iv q_fd q_or q_df q_se q_co q_ch v_n v_L v_U v_H v_O v_B (nI S) (nI tl) k_fi k_be k_to k_cl k_do k_ro k_ke k_te k_nu (nmA 48) k_no k_tu)) (va_runV (As := [.int (xs (nI i + nI 1).toNatClampNeg), .int (xs (nI i + nI 2).toNatClampNeg)]) (rest := []) ⟨hx, hb, hml, hown, hts⟩ (c_X6_home l D cI cZ cM x0 (f 1) (f 2) (f 3) (f 4) (f 5) (f 6) (f 18) (f 19) (f (20 + 6 * o 0)) (f (21 + 6 * o 0)) (f (22 + 6 * o 0)) (f (23 + 6 * o 0)) (f (24 + 6 * o 0)) (f (25 + 6 * o 0)) (f 7) (f 13) (f 14) (f 16) (f 68) (f 69) (f 82) (f 87) _ a_n a_L a_U a_H a_O a_B (nI S) (nI N) (hsF f) (mm 0).1 (mm 0).2.1 (mm 0).2.2.1 (mm 0).2.2.2.1 (mm 0).2.2.2.2.1 (mm 0).2.2.2.2.2 (xs (nI i + nI 1).toNatClampNeg) (xs (nI i + nI 2).toNatClampNeg) hg 1100 ra c1 (nI S1) (nI N1) ym.1 ym.2.1 ym.2.2.1 ym.2.2.2.1 ym.2.2.2.2.1 ym.2.2.2.2.2 e1) (cwV 2 hts gL_law_X6_home rfl rfl rfl ⟨rfl, hdc_X6_home⟩ ⟨Nat.le_of_ble_eq_true rfl, Nat.le_of_ble_eq_true rfl⟩) (pmV hK hP hD [0, 1, 2, 3, 4, 5, 6, 18, 19, 20, 21, 22, 23, 24, 25] (by decide) rfl rfl (ci := 6) (q0 := 0) rfl rfl) rfl rfl hl.1 rfl (lv_room (Nat.le_of_ble_eq_true rfl)) dL_law_289 ⟨Nat.le_of_ble_eq_true rfl, Nat.le_of_ble_eq_true rfl⟩) hP hD hS hA [0, 1, 2, 3, 4, 5, 6, 18, 19, 20, 21, 22, 23, 24, 25] rfl rfl ?_ (fun H locs hP hD hS => ?_)
  · repeat (first | exact sX_n | refine sX_e ?_ | refine sX_c rfl (by decide) ?_)
  refine lv_aload_n hx hb dL_law_292 rfl (lv_at hl 2 rfl) ?_
  refine lv_aload_n hx hb dL_law_293 rfl (lv_at hl 0 rfl) ?_
  refine lv_iload_n hx hb dL_law_294 rfl (lv_at hl 3 rfl) ?_
  refine lv_iconst (v := nI 1) hx hb dL_law_295 ic_1 ?_
  refine lv_iadd hx hb dL_law_296 ?_
  refine va_sld hx hb hX hbl hbA hS hin1 dL_law_297 ?_
  refine lv_aload_n hx hb dL_law_298 rfl (lv_at hl 0 rfl) ?_
  refine lv_iload_n hx hb dL_law_299 rfl (lv_at hl 3 rfl) ?_
  refine lv_iconst (v := nI 2) hx hb dL_law_300 ic_2 ?_
  refine lv_iadd hx hb dL_law_301 ?_
  refine va_sld hx hb hX hbl hbA hS hin2 dL_law_302 ?_
  refine muF (w' := (wF cI cZ cM x0 f k0 f2 (hsF f) (usF f) o (updY mm 0 ym) Z a_n a_L a_U c1 a_O a_B b_n b_L b_U b_H b_O b_B w_a (nI tl) t_st t_nx t_kd t_by r_cl r_no (nI S1) (nI N1) u_is g_rl g_n g_ri g_ne g_re g_ts q_nt q_iv q_fd q_or q_df q_se q_co q_ch v_n v_L v_U v_H v_O v_B (nI S1) (nI tl) k_fi k_be k_to k_cl k_do k1 k_ke k_te k_nu (nmA 48) k_no k_tu)) (va_runV (As := [.int (xs (nI i + nI 1).toNatClampNeg), .int (xs (nI i + nI 2).toNatClampNeg)]) (rest := [.int ra]) ⟨hx, hb, hml, hown, hts⟩ (c_X7_home l D cI cZ cM k0 (f2 1) (f2 2) (f2 3) (f2 4) (f2 5) (f2 6) (f2 7) _ (nI S) (nI tl) k_fi k_be k_to k_cl k_do k_ro k_ke k_te k_nu (nmA 48) k_no k_tu (xs (nI i + nI 1).toNatClampNeg) (xs (nI i + nI 2).toNatClampNeg) 1100 ra (nI S1) k1 e2) (cwV 2 hts gL_law_X7_home rfl rfl rfl ⟨rfl, hdc_X7_home⟩ ⟨Nat.le_of_ble_eq_true rfl, Nat.le_of_ble_eq_true rfl⟩) (pmV hK hP hD [99, 100, 101, 102, 103, 104, 105, 106] (by decide) rfl rfl (ci := 7) (q0 := 99) rfl rfl) rfl rfl hl.1 rfl (lv_room (Nat.le_of_ble_eq_true rfl)) dL_law_303 ⟨Nat.le_of_ble_eq_true rfl, Nat.le_of_ble_eq_true rfl⟩) hP hD hS hA [99, 100, 101, 102, 103, 104, 105, 106] rfl rfl ?_ (fun H locs hP hD hS => ?_)
  · repeat (first | exact sX_n | refine sX_e ?_ | refine sX_c rfl (by decide) ?_)
  refine lv_icmp_eq (tgt := 729) hx hb dL_law_306 (by decide) (fun _ => ?_) (fun h => absurd rfl h)
  exact kk _ _ (INV_mk N hN (OM_upd hN hom ym) ho1 hc1 hk1 hH1 (SR_keep hSR hg7) hT1 hT2 hB hP hD hS)
set_option maxHeartbeats 4000000 in
set_option maxRecDepth 100000 in
theorem st_ahead {p : Program} {l : Launch} {e : Env} {s : State} {m : MethodId} {below : List Frame} {meth : Method} {c : Code} {b L : Nat} {xs : Nat → Int32} {Q : State → Prop} {D : va_G} {cI cZ cM : ClassId} {adK adV : Nat → Nat} {x0 : Nat} {f : Nat → Nat} {k0 : Nat} {f2 : Nat → Nat} {i : Nat} {ls : Array Slot} {H : Heap} {locs : List Loc} (C0 : lw_At p s m meth c b L xs) (hL : L ≤ 2048) (hK : KK D cI cZ cM s) (hE : ENV (fun q : Nat => s.heap.size ≤ q) adK adV s s.heap) (hi3 : i + 3 < L) (hl : lv_has ls 4 [(0, .ref b), (1, .ref x0), (2, .ref k0), (3, .int (nI i))]) (hI : INV D cI cZ cM x0 f k0 f2 (fun q : Nat => s.heap.size ≤ q) s.heap H locs) (kk : ∀ (H1 : Heap) (locs1 : List Loc), INV D cI cZ cM x0 f k0 f2 (fun q : Nat => s.heap.size ≤ q) s.heap H1 locs1 → W p l e room_1 s m #[Value.ref b] below meth c H1 locs1 107 7060 Q (F0 m 729 ls [])) : W p l e room_1 s m #[Value.ref b] below meth c H locs 107 7060 Q (F0 m 311 ls []) := by
  obtain ⟨hx, hb, hr, hml, hown, hts0, hX, hbl, hlocks, hgv⟩ := C0
  have hb : c.code = cL_law := hb
  have hown : s.vm.findClass RL = some m.cls := hown
  have hts : ∀ w ∈ wsL_law, w.before #[Value.ref b] s = true := fun w h => hts0 w (wsL_law_in w h)
  have hA : ∀ q : Nat, s.heap.size ≤ q → (fun q : Nat => s.heap.size ≤ q) q := fun _ h => h
  have hbA : ¬ (fun q : Nat => s.heap.size ≤ q) b := Nat.not_le.mpr hbl
  have hin1 : vp_in (nI i + nI 1) L := by rw [nI_add]; exact vp_in_nI (by omega) (by omega)
  have hin2 : vp_in (nI i + nI 2) L := by rw [nI_add]; exact vp_in_nI (by omega) (by omega)
  obtain ⟨r, T, hist, Y, Z, tl, S, N, o, mm, a_n, a_L, a_U, a_H, a_O, a_B, b_n, b_L, b_U, b_H, b_O, b_B, w_a, t_st, t_nx, t_kd, t_by, r_cl, r_no, u_is, g_rl, g_n, g_ri, g_ne, g_re, g_ts, q_nt, q_iv, q_fd, q_or, q_df, q_se, q_co, q_ch, v_n, v_L, v_U, v_H, v_O, v_B, k_fi, k_be, k_to, k_cl, k_do, k_ro, k_ke, k_te, k_nu, k_no, k_tu, ⟨hom, ho, hc, hk, hH, hSR, hT1, hT2, hB⟩, hP, hD, hS⟩ := hI
  have hN := hH.2.1
  obtain ⟨ho0, hm0⟩ := OM_0 hN hom
  have hg : hsF f (nI N).toNatClampNeg = some (f (20 + 6 * o 0)) := by rw [nI_clamp (by omega), ho0]; rfl
  obtain ⟨ra, c1, S1, N1, ym, k1, r1, e1, e2, hc1, hist1, ho1, hk1, hH1, hg7⟩ := E_ahead hH ho hc hk (Nat.le_refl 1100) (xs (nI i + nI 1).toNatClampNeg) (xs (nI i + nI 2).toNatClampNeg)
  rw [← hm0] at e1
  refine lv_aload_n hx hb dL_law_311 rfl (lv_at hl 1 rfl) ?_
  refine lv_aload_n hx hb dL_law_312 rfl (lv_at hl 0 rfl) ?_
  refine lv_iload_n hx hb dL_law_313 rfl (lv_at hl 3 rfl) ?_
  refine lv_iconst (v := nI 1) hx hb dL_law_314 ic_1 ?_
  refine lv_iadd hx hb dL_law_315 ?_
  refine va_sld hx hb hX hbl hbA hS hin1 dL_law_316 ?_
  refine lv_aload_n hx hb dL_law_317 rfl (lv_at hl 0 rfl) ?_
  refine lv_iload_n hx hb dL_law_318 rfl (lv_at hl 3 rfl) ?_
  refine lv_iconst (v := nI 2) hx hb dL_law_319 ic_2 ?_
  refine lv_iadd hx hb dL_law_320 ?_
  refine va_sld hx hb hX hbl hbA hS hin2 dL_law_321 ?_
  refine muF (w' := (wF cI cZ cM x0 f k0 f2 (hsF f) (usF f) o (updY mm 0 ym) Z a_n a_L a_U a_H a_O c1 b_n b_L b_U b_H b_O b_B w_a (nI tl) t_st t_nx t_kd t_by r_cl r_no (nI S1) (nI N1) u_is g_rl g_n g_ri g_ne g_re g_ts q_nt q_iv q_fd q_or q_df q_se q_co q_ch v_n v_L v_U v_H v_O v_B (nI S) (nI tl) k_fi k_be k_to k_cl k_do k_ro k_ke k_te k_nu (nmA 48) k_no k_tu)) (va_runV (As := [.int (xs (nI i + nI 1).toNatClampNeg), .int (xs (nI i + nI 2).toNatClampNeg)]) (rest := []) ⟨hx, hb, hml, hown, hts⟩ (c_X6_ahead l D cI cZ cM x0 (f 1) (f 2) (f 3) (f 4) (f 5) (f 6) (f 18) (f 19) (f (20 + 6 * o 0)) (f (21 + 6 * o 0)) (f (22 + 6 * o 0)) (f (23 + 6 * o 0)) (f (24 + 6 * o 0)) (f (25 + 6 * o 0)) (f 7) (f 13) (f 14) (f 16) (f 68) (f 69) (f 82) (f 87) _ a_n a_L a_U a_H a_O a_B (nI S) (nI N) (hsF f) (mm 0).1 (mm 0).2.1 (mm 0).2.2.1 (mm 0).2.2.2.1 (mm 0).2.2.2.2.1 (mm 0).2.2.2.2.2 (xs (nI i + nI 1).toNatClampNeg) (xs (nI i + nI 2).toNatClampNeg) hg 1100 ra c1 (nI S1) (nI N1) ym.1 ym.2.1 ym.2.2.1 ym.2.2.2.1 ym.2.2.2.2.1 ym.2.2.2.2.2 e1) (cwV 2 hts gL_law_X6_ahead rfl rfl rfl ⟨rfl, hdc_X6_ahead⟩ ⟨Nat.le_of_ble_eq_true rfl, Nat.le_of_ble_eq_true rfl⟩) (pmV hK hP hD [0, 1, 2, 3, 4, 5, 6, 18, 19, 20, 21, 22, 23, 24, 25] (by decide) rfl rfl (ci := 6) (q0 := 0) rfl rfl) rfl rfl hl.1 rfl (lv_room (Nat.le_of_ble_eq_true rfl)) dL_law_322 ⟨Nat.le_of_ble_eq_true rfl, Nat.le_of_ble_eq_true rfl⟩) hP hD hS hA [0, 1, 2, 3, 4, 5, 6, 18, 19, 20, 21, 22, 23, 24, 25] rfl rfl ?_ (fun H locs hP hD hS => ?_)
  · repeat (first | exact sX_n | refine sX_e ?_ | refine sX_c rfl (by decide) ?_)
  refine lv_aload_n hx hb dL_law_325 rfl (lv_at hl 2 rfl) ?_
  refine lv_aload_n hx hb dL_law_326 rfl (lv_at hl 0 rfl) ?_
  refine lv_iload_n hx hb dL_law_327 rfl (lv_at hl 3 rfl) ?_
  refine lv_iconst (v := nI 1) hx hb dL_law_328 ic_1 ?_
  refine lv_iadd hx hb dL_law_329 ?_
  refine va_sld hx hb hX hbl hbA hS hin1 dL_law_330 ?_
  refine lv_aload_n hx hb dL_law_331 rfl (lv_at hl 0 rfl) ?_
  refine lv_iload_n hx hb dL_law_332 rfl (lv_at hl 3 rfl) ?_
  refine lv_iconst (v := nI 2) hx hb dL_law_333 ic_2 ?_
  refine lv_iadd hx hb dL_law_334 ?_
  refine va_sld hx hb hX hbl hbA hS hin2 dL_law_335 ?_
  refine muF (w' := (wF cI cZ cM x0 f k0 f2 (hsF f) (usF f) o (updY mm 0 ym) Z a_n a_L a_U a_H a_O c1 b_n b_L b_U b_H b_O b_B w_a (nI tl) t_st t_nx t_kd t_by r_cl r_no (nI S1) (nI N1) u_is g_rl g_n g_ri g_ne g_re g_ts q_nt q_iv q_fd q_or q_df q_se q_co q_ch v_n v_L v_U v_H v_O v_B (nI S1) (nI tl) k_fi k_be k_to k_cl k_do k1 k_ke k_te k_nu (nmA 48) k_no k_tu)) (va_runV (As := [.int (xs (nI i + nI 1).toNatClampNeg), .int (xs (nI i + nI 2).toNatClampNeg)]) (rest := [.int ra]) ⟨hx, hb, hml, hown, hts⟩ (c_X7_ahead l D cI cZ cM k0 (f2 1) (f2 2) (f2 3) (f2 4) (f2 5) (f2 6) (f2 7) _ (nI S) (nI tl) k_fi k_be k_to k_cl k_do k_ro k_ke k_te k_nu (nmA 48) k_no k_tu (xs (nI i + nI 1).toNatClampNeg) (xs (nI i + nI 2).toNatClampNeg) 1100 ra (nI S1) k1 e2) (cwV 2 hts gL_law_X7_ahead rfl rfl rfl ⟨rfl, hdc_X7_ahead⟩ ⟨Nat.le_of_ble_eq_true rfl, Nat.le_of_ble_eq_true rfl⟩) (pmV hK hP hD [99, 100, 101, 102, 103, 104, 105, 106] (by decide) rfl rfl (ci := 7) (q0 := 99) rfl rfl) rfl rfl hl.1 rfl (lv_room (Nat.le_of_ble_eq_true rfl)) dL_law_336 ⟨Nat.le_of_ble_eq_true rfl, Nat.le_of_ble_eq_true rfl⟩) hP hD hS hA [99, 100, 101, 102, 103, 104, 105, 106] rfl rfl ?_ (fun H locs hP hD hS => ?_)
  · repeat (first | exact sX_n | refine sX_e ?_ | refine sX_c rfl (by decide) ?_)
  refine lv_icmp_eq (tgt := 729) hx hb dL_law_339 (by decide) (fun _ => ?_) (fun h => absurd rfl h)
  exact kk _ _ (INV_mk N hN (OM_upd hN hom ym) ho1 hc1 hk1 hH1 (SR_keep hSR hg7) hT1 hT2 hB hP hD hS)
set_option maxHeartbeats 4000000 in
set_option maxRecDepth 100000 in
theorem st_loosen {p : Program} {l : Launch} {e : Env} {s : State} {m : MethodId} {below : List Frame} {meth : Method} {c : Code} {b L : Nat} {xs : Nat → Int32} {Q : State → Prop} {D : va_G} {cI cZ cM : ClassId} {adK adV : Nat → Nat} {x0 : Nat} {f : Nat → Nat} {k0 : Nat} {f2 : Nat → Nat} {i : Nat} {ls : Array Slot} {H : Heap} {locs : List Loc} (C0 : lw_At p s m meth c b L xs) (hL : L ≤ 2048) (hK : KK D cI cZ cM s) (hE : ENV (fun q : Nat => s.heap.size ≤ q) adK adV s s.heap) (hi3 : i + 3 < L) (hl : lv_has ls 4 [(0, .ref b), (1, .ref x0), (2, .ref k0), (3, .int (nI i))]) (hI : INV D cI cZ cM x0 f k0 f2 (fun q : Nat => s.heap.size ≤ q) s.heap H locs) (kk : ∀ (H1 : Heap) (locs1 : List Loc), INV D cI cZ cM x0 f k0 f2 (fun q : Nat => s.heap.size ≤ q) s.heap H1 locs1 → W p l e room_1 s m #[Value.ref b] below meth c H1 locs1 107 7060 Q (F0 m 729 ls [])) : W p l e room_1 s m #[Value.ref b] below meth c H locs 107 7060 Q (F0 m 344 ls []) := by
  obtain ⟨hx, hb, hr, hml, hown, hts0, hX, hbl, hlocks, hgv⟩ := C0
  have hb : c.code = cL_law := hb
  have hown : s.vm.findClass RL = some m.cls := hown
  have hts : ∀ w ∈ wsL_law, w.before #[Value.ref b] s = true := fun w h => hts0 w (wsL_law_in w h)
  have hA : ∀ q : Nat, s.heap.size ≤ q → (fun q : Nat => s.heap.size ≤ q) q := fun _ h => h
  have hbA : ¬ (fun q : Nat => s.heap.size ≤ q) b := Nat.not_le.mpr hbl
  have hin1 : vp_in (nI i + nI 1) L := by rw [nI_add]; exact vp_in_nI (by omega) (by omega)
  have hin2 : vp_in (nI i + nI 2) L := by rw [nI_add]; exact vp_in_nI (by omega) (by omega)
  obtain ⟨r, T, hist, Y, Z, tl, S, N, o, mm, a_n, a_L, a_U, a_H, a_O, a_B, b_n, b_L, b_U, b_H, b_O, b_B, w_a, t_st, t_nx, t_kd, t_by, r_cl, r_no, u_is, g_rl, g_n, g_ri, g_ne, g_re, g_ts, q_nt, q_iv, q_fd, q_or, q_df, q_se, q_co, q_ch, v_n, v_L, v_U, v_H, v_O, v_B, k_fi, k_be, k_to, k_cl, k_do, k_ro, k_ke, k_te, k_nu, k_no, k_tu, ⟨hom, ho, hc, hk, hH, hSR, hT1, hT2, hB⟩, hP, hD, hS⟩ := hI
  have hN := hH.2.1
  obtain ⟨ho0, hm0⟩ := OM_0 hN hom
  have hg : hsF f (nI N).toNatClampNeg = some (f (20 + 6 * o 0)) := by rw [nI_clamp (by omega), ho0]; rfl
  obtain ⟨ra, c1, S1, N1, ym, k1, r1, e1, e2, hc1, hist1, ho1, hk1, hH1, hg7⟩ := E_loosen hH ho hc hk (Nat.le_refl 1100) (xs (nI i + nI 1).toNatClampNeg) (xs (nI i + nI 2).toNatClampNeg)
  rw [← hm0] at e1
  refine lv_aload_n hx hb dL_law_344 rfl (lv_at hl 1 rfl) ?_
  refine lv_aload_n hx hb dL_law_345 rfl (lv_at hl 0 rfl) ?_
  refine lv_iload_n hx hb dL_law_346 rfl (lv_at hl 3 rfl) ?_
  refine lv_iconst (v := nI 1) hx hb dL_law_347 ic_1 ?_
  refine lv_iadd hx hb dL_law_348 ?_
  refine va_sld hx hb hX hbl hbA hS hin1 dL_law_349 ?_
  refine lv_aload_n hx hb dL_law_350 rfl (lv_at hl 0 rfl) ?_
  refine lv_iload_n hx hb dL_law_351 rfl (lv_at hl 3 rfl) ?_
  refine lv_iconst (v := nI 2) hx hb dL_law_352 ic_2 ?_
  refine lv_iadd hx hb dL_law_353 ?_
  refine va_sld hx hb hX hbl hbA hS hin2 dL_law_354 ?_
  refine muF (w' := (wF cI cZ cM x0 f k0 f2 (hsF f) (usF f) o (updY mm 0 ym) Z a_n a_L a_U a_H a_O c1 b_n b_L b_U b_H b_O b_B w_a (nI tl) t_st t_nx t_kd t_by r_cl r_no (nI S1) (nI N1) u_is g_rl g_n g_ri g_ne g_re g_ts q_nt q_iv q_fd q_or q_df q_se q_co q_ch v_n v_L v_U v_H v_O v_B (nI S) (nI tl) k_fi k_be k_to k_cl k_do k_ro k_ke k_te k_nu (nmA 48) k_no k_tu)) (va_runV (As := [.int (xs (nI i + nI 1).toNatClampNeg), .int (xs (nI i + nI 2).toNatClampNeg)]) (rest := []) ⟨hx, hb, hml, hown, hts⟩ (c_X6_loosen l D cI cZ cM x0 (f 1) (f 2) (f 3) (f 4) (f 5) (f 6) (f 18) (f 19) (f (20 + 6 * o 0)) (f (21 + 6 * o 0)) (f (22 + 6 * o 0)) (f (23 + 6 * o 0)) (f (24 + 6 * o 0)) (f (25 + 6 * o 0)) (f 7) (f 13) (f 14) (f 16) (f 68) (f 69) (f 82) (f 87) _ a_n a_L a_U a_H a_O a_B (nI S) (nI N) (hsF f) (mm 0).1 (mm 0).2.1 (mm 0).2.2.1 (mm 0).2.2.2.1 (mm 0).2.2.2.2.1 (mm 0).2.2.2.2.2 (xs (nI i + nI 1).toNatClampNeg) (xs (nI i + nI 2).toNatClampNeg) hg 1100 ra c1 (nI S1) (nI N1) ym.1 ym.2.1 ym.2.2.1 ym.2.2.2.1 ym.2.2.2.2.1 ym.2.2.2.2.2 e1) (cwV 2 hts gL_law_X6_loosen rfl rfl rfl ⟨rfl, hdc_X6_loosen⟩ ⟨Nat.le_of_ble_eq_true rfl, Nat.le_of_ble_eq_true rfl⟩) (pmV hK hP hD [0, 1, 2, 3, 4, 5, 6, 18, 19, 20, 21, 22, 23, 24, 25] (by decide) rfl rfl (ci := 6) (q0 := 0) rfl rfl) rfl rfl hl.1 rfl (lv_room (Nat.le_of_ble_eq_true rfl)) dL_law_355 ⟨Nat.le_of_ble_eq_true rfl, Nat.le_of_ble_eq_true rfl⟩) hP hD hS hA [0, 1, 2, 3, 4, 5, 6, 18, 19, 20, 21, 22, 23, 24, 25] rfl rfl ?_ (fun H locs hP hD hS => ?_)
  · repeat (first | exact sX_n | refine sX_e ?_ | refine sX_c rfl (by decide) ?_)
  refine lv_aload_n hx hb dL_law_358 rfl (lv_at hl 2 rfl) ?_
  refine lv_aload_n hx hb dL_law_359 rfl (lv_at hl 0 rfl) ?_
  refine lv_iload_n hx hb dL_law_360 rfl (lv_at hl 3 rfl) ?_
  refine lv_iconst (v := nI 1) hx hb dL_law_361 ic_1 ?_
  refine lv_iadd hx hb dL_law_362 ?_
  refine va_sld hx hb hX hbl hbA hS hin1 dL_law_363 ?_
  refine lv_aload_n hx hb dL_law_364 rfl (lv_at hl 0 rfl) ?_
  refine lv_iload_n hx hb dL_law_365 rfl (lv_at hl 3 rfl) ?_
  refine lv_iconst (v := nI 2) hx hb dL_law_366 ic_2 ?_
  refine lv_iadd hx hb dL_law_367 ?_
  refine va_sld hx hb hX hbl hbA hS hin2 dL_law_368 ?_
  refine muF (w' := (wF cI cZ cM x0 f k0 f2 (hsF f) (usF f) o (updY mm 0 ym) Z a_n a_L a_U a_H a_O c1 b_n b_L b_U b_H b_O b_B w_a (nI tl) t_st t_nx t_kd t_by r_cl r_no (nI S1) (nI N1) u_is g_rl g_n g_ri g_ne g_re g_ts q_nt q_iv q_fd q_or q_df q_se q_co q_ch v_n v_L v_U v_H v_O v_B (nI S1) (nI tl) k_fi k_be k_to k_cl k_do k1 k_ke k_te k_nu (nmA 48) k_no k_tu)) (va_runV (As := [.int (xs (nI i + nI 1).toNatClampNeg), .int (xs (nI i + nI 2).toNatClampNeg)]) (rest := [.int ra]) ⟨hx, hb, hml, hown, hts⟩ (c_X7_loosen l D cI cZ cM k0 (f2 1) (f2 2) (f2 3) (f2 4) (f2 5) (f2 6) (f2 7) _ (nI S) (nI tl) k_fi k_be k_to k_cl k_do k_ro k_ke k_te k_nu (nmA 48) k_no k_tu (xs (nI i + nI 1).toNatClampNeg) (xs (nI i + nI 2).toNatClampNeg) 1100 ra (nI S1) k1 e2) (cwV 2 hts gL_law_X7_loosen rfl rfl rfl ⟨rfl, hdc_X7_loosen⟩ ⟨Nat.le_of_ble_eq_true rfl, Nat.le_of_ble_eq_true rfl⟩) (pmV hK hP hD [99, 100, 101, 102, 103, 104, 105, 106] (by decide) rfl rfl (ci := 7) (q0 := 99) rfl rfl) rfl rfl hl.1 rfl (lv_room (Nat.le_of_ble_eq_true rfl)) dL_law_369 ⟨Nat.le_of_ble_eq_true rfl, Nat.le_of_ble_eq_true rfl⟩) hP hD hS hA [99, 100, 101, 102, 103, 104, 105, 106] rfl rfl ?_ (fun H locs hP hD hS => ?_)
  · repeat (first | exact sX_n | refine sX_e ?_ | refine sX_c rfl (by decide) ?_)
  refine lv_icmp_eq (tgt := 729) hx hb dL_law_372 (by decide) (fun _ => ?_) (fun h => absurd rfl h)
  exact kk _ _ (INV_mk N hN (OM_upd hN hom ym) ho1 hc1 hk1 hH1 (SR_keep hSR hg7) hT1 hT2 hB hP hD hS)
set_option maxHeartbeats 4000000 in
set_option maxRecDepth 100000 in
theorem st_move {p : Program} {l : Launch} {e : Env} {s : State} {m : MethodId} {below : List Frame} {meth : Method} {c : Code} {b L : Nat} {xs : Nat → Int32} {Q : State → Prop} {D : va_G} {cI cZ cM : ClassId} {adK adV : Nat → Nat} {x0 : Nat} {f : Nat → Nat} {k0 : Nat} {f2 : Nat → Nat} {i : Nat} {ls : Array Slot} {H : Heap} {locs : List Loc} (C0 : lw_At p s m meth c b L xs) (hL : L ≤ 2048) (hK : KK D cI cZ cM s) (hE : ENV (fun q : Nat => s.heap.size ≤ q) adK adV s s.heap) (hi3 : i + 3 < L) (hl : lv_has ls 4 [(0, .ref b), (1, .ref x0), (2, .ref k0), (3, .int (nI i))]) (hI : INV D cI cZ cM x0 f k0 f2 (fun q : Nat => s.heap.size ≤ q) s.heap H locs) (kk : ∀ (H1 : Heap) (locs1 : List Loc), INV D cI cZ cM x0 f k0 f2 (fun q : Nat => s.heap.size ≤ q) s.heap H1 locs1 → W p l e room_1 s m #[Value.ref b] below meth c H1 locs1 107 7060 Q (F0 m 729 ls [])) : W p l e room_1 s m #[Value.ref b] below meth c H locs 107 7060 Q (F0 m 377 ls []) := by
  obtain ⟨hx, hb, hr, hml, hown, hts0, hX, hbl, hlocks, hgv⟩ := C0
  have hb : c.code = cL_law := hb
  have hown : s.vm.findClass RL = some m.cls := hown
  have hts : ∀ w ∈ wsL_law, w.before #[Value.ref b] s = true := fun w h => hts0 w (wsL_law_in w h)
  have hA : ∀ q : Nat, s.heap.size ≤ q → (fun q : Nat => s.heap.size ≤ q) q := fun _ h => h
  have hbA : ¬ (fun q : Nat => s.heap.size ≤ q) b := Nat.not_le.mpr hbl
  have hin1 : vp_in (nI i + nI 1) L := by rw [nI_add]; exact vp_in_nI (by omega) (by omega)
  have hin2 : vp_in (nI i + nI 2) L := by rw [nI_add]; exact vp_in_nI (by omega) (by omega)
  obtain ⟨r, T, hist, Y, Z, tl, S, N, o, mm, a_n, a_L, a_U, a_H, a_O, a_B, b_n, b_L, b_U, b_H, b_O, b_B, w_a, t_st, t_nx, t_kd, t_by, r_cl, r_no, u_is, g_rl, g_n, g_ri, g_ne, g_re, g_ts, q_nt, q_iv, q_fd, q_or, q_df, q_se, q_co, q_ch, v_n, v_L, v_U, v_H, v_O, v_B, k_fi, k_be, k_to, k_cl, k_do, k_ro, k_ke, k_te, k_nu, k_no, k_tu, ⟨hom, ho, hc, hk, hH, hSR, hT1, hT2, hB⟩, hP, hD, hS⟩ := hI
  have hN := hH.2.1
  obtain ⟨ho0, hm0⟩ := OM_0 hN hom
  have hg : hsF f (nI N).toNatClampNeg = some (f (20 + 6 * o 0)) := by rw [nI_clamp (by omega), ho0]; rfl
  obtain ⟨ra, O1, S1, N1, y1, y2, y3, y4, y5, y6, w1, k1, nu1, r1, e1, e2, hc1, hist1, ho1, hk1, hH1, hg7⟩ := E_move hH ho hc hk (Nat.le_refl 1100) w_a k_nu (xs (nI i + nI 1).toNatClampNeg) (xs (nI i + nI 2).toNatClampNeg)
  rw [← hm0] at e1
  refine lv_aload_n hx hb dL_law_377 rfl (lv_at hl 1 rfl) ?_
  refine lv_aload_n hx hb dL_law_378 rfl (lv_at hl 0 rfl) ?_
  refine lv_iload_n hx hb dL_law_379 rfl (lv_at hl 3 rfl) ?_
  refine lv_iconst (v := nI 1) hx hb dL_law_380 ic_1 ?_
  refine lv_iadd hx hb dL_law_381 ?_
  refine va_sld hx hb hX hbl hbA hS hin1 dL_law_382 ?_
  refine lv_aload_n hx hb dL_law_383 rfl (lv_at hl 0 rfl) ?_
  refine lv_iload_n hx hb dL_law_384 rfl (lv_at hl 3 rfl) ?_
  refine lv_iconst (v := nI 2) hx hb dL_law_385 ic_2 ?_
  refine lv_iadd hx hb dL_law_386 ?_
  refine va_sld hx hb hX hbl hbA hS hin2 dL_law_387 ?_
  refine muF (w' := (wF cI cZ cM x0 f k0 f2 (hsF f) (usF f) o (updY mm 0 (y1, y2, y3, y4, y5, y6)) Z a_n a_L a_U a_H O1 a_B b_n b_L b_U b_H b_O b_B w1 (nI tl) t_st t_nx t_kd t_by r_cl r_no (nI S1) (nI N1) u_is g_rl g_n g_ri g_ne g_re g_ts q_nt q_iv q_fd q_or q_df q_se q_co q_ch v_n v_L v_U v_H v_O v_B (nI S) (nI tl) k_fi k_be k_to k_cl k_do k_ro k_ke k_te k_nu (nmA 48) k_no k_tu)) (va_runV (As := [.int (xs (nI i + nI 1).toNatClampNeg), .int (xs (nI i + nI 2).toNatClampNeg)]) (rest := []) ⟨hx, hb, hml, hown, hts⟩ (c_X6_move l D cI cZ cM x0 (f 1) (f 2) (f 3) (f 4) (f 5) (f 6) (f 18) (f 19) (f (20 + 6 * o 0)) (f (21 + 6 * o 0)) (f (22 + 6 * o 0)) (f (23 + 6 * o 0)) (f (24 + 6 * o 0)) (f (25 + 6 * o 0)) (f 13) (f 7) (f 14) (f 16) (f 68) (f 69) (f 82) (f 87) _ a_n a_L a_U a_H a_O a_B (nI S) (nI N) (hsF f) (mm 0).1 (mm 0).2.1 (mm 0).2.2.1 (mm 0).2.2.2.1 (mm 0).2.2.2.2.1 (mm 0).2.2.2.2.2 w_a (xs (nI i + nI 1).toNatClampNeg) (xs (nI i + nI 2).toNatClampNeg) hg 1100 ra O1 (nI S1) (nI N1) y1 y2 y3 y4 y5 y6 w1 e1) (cwV 2 hts gL_law_X6_move rfl rfl rfl ⟨rfl, hdc_X6_move⟩ ⟨Nat.le_of_ble_eq_true rfl, Nat.le_of_ble_eq_true rfl⟩) (pmV hK hP hD [0, 1, 2, 3, 4, 5, 6, 18, 19, 20, 21, 22, 23, 24, 25, 13] (by decide) rfl rfl (ci := 6) (q0 := 0) rfl rfl) rfl rfl hl.1 rfl (lv_room (Nat.le_of_ble_eq_true rfl)) dL_law_388 ⟨Nat.le_of_ble_eq_true rfl, Nat.le_of_ble_eq_true rfl⟩) hP hD hS hA [0, 1, 2, 3, 4, 5, 6, 18, 19, 20, 21, 22, 23, 24, 25, 13] rfl rfl ?_ (fun H locs hP hD hS => ?_)
  · repeat (first | exact sX_n | refine sX_e ?_ | refine sX_c rfl (by decide) ?_)
  refine lv_aload_n hx hb dL_law_391 rfl (lv_at hl 2 rfl) ?_
  refine lv_aload_n hx hb dL_law_392 rfl (lv_at hl 0 rfl) ?_
  refine lv_iload_n hx hb dL_law_393 rfl (lv_at hl 3 rfl) ?_
  refine lv_iconst (v := nI 1) hx hb dL_law_394 ic_1 ?_
  refine lv_iadd hx hb dL_law_395 ?_
  refine va_sld hx hb hX hbl hbA hS hin1 dL_law_396 ?_
  refine lv_aload_n hx hb dL_law_397 rfl (lv_at hl 0 rfl) ?_
  refine lv_iload_n hx hb dL_law_398 rfl (lv_at hl 3 rfl) ?_
  refine lv_iconst (v := nI 2) hx hb dL_law_399 ic_2 ?_
  refine lv_iadd hx hb dL_law_400 ?_
  refine va_sld hx hb hX hbl hbA hS hin2 dL_law_401 ?_
  refine muF (w' := (wF cI cZ cM x0 f k0 f2 (hsF f) (usF f) o (updY mm 0 (y1, y2, y3, y4, y5, y6)) Z a_n a_L a_U a_H O1 a_B b_n b_L b_U b_H b_O b_B w1 (nI tl) t_st t_nx t_kd t_by r_cl r_no (nI S1) (nI N1) u_is g_rl g_n g_ri g_ne g_re g_ts q_nt q_iv q_fd q_or q_df q_se q_co q_ch v_n v_L v_U v_H v_O v_B (nI S1) (nI tl) k_fi k_be k_to k_cl k_do k1 k_ke k_te nu1 (nmA 48) k_no k_tu)) (va_runV (As := [.int (xs (nI i + nI 1).toNatClampNeg), .int (xs (nI i + nI 2).toNatClampNeg)]) (rest := [.int ra]) ⟨hx, hb, hml, hown, hts⟩ (c_X7_move l D cI cZ cM k0 (f2 1) (f2 2) (f2 3) (f2 4) (f2 5) (f2 6) (f2 7) _ (nI S) (nI tl) k_fi k_be k_to k_cl k_do k_ro k_ke k_te k_nu (nmA 48) k_no k_tu (xs (nI i + nI 1).toNatClampNeg) (xs (nI i + nI 2).toNatClampNeg) 1100 ra (nI S1) k1 nu1 e2) (cwV 2 hts gL_law_X7_move rfl rfl rfl ⟨rfl, hdc_X7_move⟩ ⟨Nat.le_of_ble_eq_true rfl, Nat.le_of_ble_eq_true rfl⟩) (pmV hK hP hD [99, 100, 101, 102, 103, 104, 105, 106] (by decide) rfl rfl (ci := 7) (q0 := 99) rfl rfl) rfl rfl hl.1 rfl (lv_room (Nat.le_of_ble_eq_true rfl)) dL_law_402 ⟨Nat.le_of_ble_eq_true rfl, Nat.le_of_ble_eq_true rfl⟩) hP hD hS hA [99, 100, 101, 102, 103, 104, 105, 106] rfl rfl ?_ (fun H locs hP hD hS => ?_)
  · repeat (first | exact sX_n | refine sX_e ?_ | refine sX_c rfl (by decide) ?_)
  refine lv_icmp_eq (tgt := 729) hx hb dL_law_405 (by decide) (fun _ => ?_) (fun h => absurd rfl h)
  exact kk _ _ (INV_mk N hN (OM_upd hN hom (y1, y2, y3, y4, y5, y6)) ho1 hc1 hk1 hH1 (SR_keep hSR hg7) hT1 hT2 hB hP hD hS)
set_option maxHeartbeats 4000000 in
set_option maxRecDepth 100000 in
theorem st_settle {p : Program} {l : Launch} {e : Env} {s : State} {m : MethodId} {below : List Frame} {meth : Method} {c : Code} {b L : Nat} {xs : Nat → Int32} {Q : State → Prop} {D : va_G} {cI cZ cM : ClassId} {adK adV : Nat → Nat} {x0 : Nat} {f : Nat → Nat} {k0 : Nat} {f2 : Nat → Nat} {i : Nat} {ls : Array Slot} {H : Heap} {locs : List Loc} (C0 : lw_At p s m meth c b L xs) (hL : L ≤ 2048) (hK : KK D cI cZ cM s) (hE : ENV (fun q : Nat => s.heap.size ≤ q) adK adV s s.heap) (hi3 : i + 3 < L) (hl : lv_has ls 4 [(0, .ref b), (1, .ref x0), (2, .ref k0), (3, .int (nI i))]) (hI : INV D cI cZ cM x0 f k0 f2 (fun q : Nat => s.heap.size ≤ q) s.heap H locs) (kk : ∀ (H1 : Heap) (locs1 : List Loc), INV D cI cZ cM x0 f k0 f2 (fun q : Nat => s.heap.size ≤ q) s.heap H1 locs1 → W p l e room_1 s m #[Value.ref b] below meth c H1 locs1 107 7060 Q (F0 m 729 ls [])) : W p l e room_1 s m #[Value.ref b] below meth c H locs 107 7060 Q (F0 m 410 ls []) := by
  obtain ⟨hx, hb, hr, hml, hown, hts0, hX, hbl, hlocks, hgv⟩ := C0
  have hb : c.code = cL_law := hb
  have hown : s.vm.findClass RL = some m.cls := hown
  have hts : ∀ w ∈ wsL_law, w.before #[Value.ref b] s = true := fun w h => hts0 w (wsL_law_in w h)
  have hA : ∀ q : Nat, s.heap.size ≤ q → (fun q : Nat => s.heap.size ≤ q) q := fun _ h => h
  have hbA : ¬ (fun q : Nat => s.heap.size ≤ q) b := Nat.not_le.mpr hbl
  obtain ⟨r, T, hist, Y, Z, tl, S, N, o, mm, a_n, a_L, a_U, a_H, a_O, a_B, b_n, b_L, b_U, b_H, b_O, b_B, w_a, t_st, t_nx, t_kd, t_by, r_cl, r_no, u_is, g_rl, g_n, g_ri, g_ne, g_re, g_ts, q_nt, q_iv, q_fd, q_or, q_df, q_se, q_co, q_ch, v_n, v_L, v_U, v_H, v_O, v_B, k_fi, k_be, k_to, k_cl, k_do, k_ro, k_ke, k_te, k_nu, k_no, k_tu, ⟨hom, ho, hc, hk, hH, hSR, hT1, hT2, hB⟩, hP, hD, hS⟩ := hI
  have hN := hH.2.1
  obtain ⟨ho0, hm0⟩ := OM_0 hN hom
  have hg : hsF f (nI N).toNatClampNeg = some (f (20 + 6 * o 0)) := by rw [nI_clamp (by omega), ho0]; rfl
  obtain ⟨ra, O1, S1, N1, y1, y2, y3, y4, y5, y6, nt1, iv1, fd1, qo1, df1, se1, co1, ch1, vn1, vL1, vU1, vH1, vO1, vB1, k1, nu1, no1, tu1, r1, e1, e2, hc1, ⟨hist1, ho1, hk1, hH1, hg7⟩, hB1⟩ := E_settle hH ho hc hk (Nat.le_refl 1100) (df := q_df) (se := q_se) (co := q_co) (ch := q_ch) hB k_nu k_no k_tu
  rw [← hm0] at e1
  refine lv_aload_n hx hb dL_law_410 rfl (lv_at hl 1 rfl) ?_
  refine muF (w' := (wF cI cZ cM x0 f k0 f2 (hsF f) (usF f) o (updY mm 0 (y1, y2, y3, y4, y5, y6)) Z a_n a_L a_U a_H O1 a_B b_n b_L b_U b_H b_O b_B w_a (nI tl) t_st t_nx t_kd t_by r_cl r_no (nI S1) (nI N1) u_is g_rl g_n g_ri g_ne g_re g_ts nt1 iv1 fd1 qo1 df1 se1 co1 ch1 vn1 vL1 vU1 vH1 vO1 vB1 (nI S) (nI tl) k_fi k_be k_to k_cl k_do k_ro k_ke k_te k_nu (nmA 48) k_no k_tu)) (va_runV (As := []) (rest := []) ⟨hx, hb, hml, hown, hts⟩ (c_X6_settle l D cI cZ cM x0 (f 1) (f 2) (f 3) (f 4) (f 5) (f 6) (f 18) (f 19) (f (20 + 6 * o 0)) (f (21 + 6 * o 0)) (f (22 + 6 * o 0)) (f (23 + 6 * o 0)) (f (24 + 6 * o 0)) (f (25 + 6 * o 0)) (f 87) (f 88) (f 89) (f 90) (f 91) (f 92) (f 93) (f 94) (f 95) (f 96) (f 97) (f 98) (f 7) (f 13) (f 14) (f 16) (f 68) (f 69) (f 82) _ a_n a_L a_U a_H a_O a_B (nI S) (nI N) (hsF f) (mm 0).1 (mm 0).2.1 (mm 0).2.2.1 (mm 0).2.2.2.1 (mm 0).2.2.2.2.1 (mm 0).2.2.2.2.2 q_nt q_iv q_fd q_or q_df q_se q_co q_ch v_n v_L v_U v_H v_O v_B hg 1100 ra O1 (nI S1) (nI N1) y1 y2 y3 y4 y5 y6 nt1 iv1 fd1 qo1 df1 se1 co1 ch1 vn1 vL1 vU1 vH1 vO1 vB1 e1) (cwV 0 hts gL_law_X6_settle rfl rfl rfl ⟨rfl, hdc_X6_settle⟩ ⟨Nat.le_of_ble_eq_true rfl, Nat.le_of_ble_eq_true rfl⟩) (pmV hK hP hD [0, 1, 2, 3, 4, 5, 6, 18, 19, 20, 21, 22, 23, 24, 25, 87, 88, 89, 90, 91, 92, 93, 94, 95, 96, 97, 98] (by decide) rfl rfl (ci := 6) (q0 := 0) rfl rfl) rfl rfl hl.1 rfl (lv_room (Nat.le_of_ble_eq_true rfl)) dL_law_411 ⟨Nat.le_of_ble_eq_true rfl, Nat.le_of_ble_eq_true rfl⟩) hP hD hS hA [0, 1, 2, 3, 4, 5, 6, 18, 19, 20, 21, 22, 23, 24, 25, 87, 88, 89, 90, 91, 92, 93, 94, 95, 96, 97, 98] rfl rfl ?_ (fun H locs hP hD hS => ?_)
  · repeat (first | exact sX_n | refine sX_e ?_ | refine sX_c rfl (by decide) ?_)
  refine lv_aload_n hx hb dL_law_414 rfl (lv_at hl 2 rfl) ?_
  refine muF (w' := (wF cI cZ cM x0 f k0 f2 (hsF f) (usF f) o (updY mm 0 (y1, y2, y3, y4, y5, y6)) Z a_n a_L a_U a_H O1 a_B b_n b_L b_U b_H b_O b_B w_a (nI tl) t_st t_nx t_kd t_by r_cl r_no (nI S1) (nI N1) u_is g_rl g_n g_ri g_ne g_re g_ts nt1 iv1 fd1 qo1 df1 se1 co1 ch1 vn1 vL1 vU1 vH1 vO1 vB1 (nI S1) (nI tl) k_fi k_be k_to k_cl k_do k1 k_ke k_te nu1 (nmA 48) no1 tu1)) (va_runV (As := []) (rest := [.int ra]) ⟨hx, hb, hml, hown, hts⟩ (c_X7_settle l D cI cZ cM k0 (f2 1) (f2 2) (f2 3) (f2 4) (f2 5) (f2 6) (f2 7) _ (nI S) (nI tl) k_fi k_be k_to k_cl k_do k_ro k_ke k_te k_nu (nmA 48) k_no k_tu 1100 ra (nI S1) k1 nu1 no1 tu1 e2) (cwV 0 hts gL_law_X7_settle rfl rfl rfl ⟨rfl, hdc_X7_settle⟩ ⟨Nat.le_of_ble_eq_true rfl, Nat.le_of_ble_eq_true rfl⟩) (pmV hK hP hD [99, 100, 101, 102, 103, 104, 105, 106] (by decide) rfl rfl (ci := 7) (q0 := 99) rfl rfl) rfl rfl hl.1 rfl (lv_room (Nat.le_of_ble_eq_true rfl)) dL_law_415 ⟨Nat.le_of_ble_eq_true rfl, Nat.le_of_ble_eq_true rfl⟩) hP hD hS hA [99, 100, 101, 102, 103, 104, 105, 106] rfl rfl ?_ (fun H locs hP hD hS => ?_)
  · repeat (first | exact sX_n | refine sX_e ?_ | refine sX_c rfl (by decide) ?_)
  refine lv_icmp_eq (tgt := 729) hx hb dL_law_418 (by decide) (fun _ => ?_) (fun h => absurd rfl h)
  exact kk _ _ (INV_mk N hN (OM_upd hN hom (y1, y2, y3, y4, y5, y6)) ho1 hc1 hk1 hH1 (SR_keep hSR hg7) hT1 hT2 hB1 hP hD hS)
set_option maxHeartbeats 4000000 in
set_option maxRecDepth 100000 in
theorem st_undo {p : Program} {l : Launch} {e : Env} {s : State} {m : MethodId} {below : List Frame} {meth : Method} {c : Code} {b L : Nat} {xs : Nat → Int32} {Q : State → Prop} {D : va_G} {cI cZ cM : ClassId} {adK adV : Nat → Nat} {x0 : Nat} {f : Nat → Nat} {k0 : Nat} {f2 : Nat → Nat} {i : Nat} {ls : Array Slot} {H : Heap} {locs : List Loc} (C0 : lw_At p s m meth c b L xs) (hL : L ≤ 2048) (hK : KK D cI cZ cM s) (hE : ENV (fun q : Nat => s.heap.size ≤ q) adK adV s s.heap) (hi3 : i + 3 < L) (hl : lv_has ls 4 [(0, .ref b), (1, .ref x0), (2, .ref k0), (3, .int (nI i))]) (hI : INV D cI cZ cM x0 f k0 f2 (fun q : Nat => s.heap.size ≤ q) s.heap H locs) (kk : ∀ (H1 : Heap) (locs1 : List Loc), INV D cI cZ cM x0 f k0 f2 (fun q : Nat => s.heap.size ≤ q) s.heap H1 locs1 → W p l e room_1 s m #[Value.ref b] below meth c H1 locs1 107 7060 Q (F0 m 729 ls [])) : W p l e room_1 s m #[Value.ref b] below meth c H locs 107 7060 Q (F0 m 423 ls []) := by
  obtain ⟨hx, hb, hr, hml, hown, hts0, hX, hbl, hlocks, hgv⟩ := C0
  have hb : c.code = cL_law := hb
  have hown : s.vm.findClass RL = some m.cls := hown
  have hts : ∀ w ∈ wsL_law, w.before #[Value.ref b] s = true := fun w h => hts0 w (wsL_law_in w h)
  have hA : ∀ q : Nat, s.heap.size ≤ q → (fun q : Nat => s.heap.size ≤ q) q := fun _ h => h
  have hbA : ¬ (fun q : Nat => s.heap.size ≤ q) b := Nat.not_le.mpr hbl
  obtain ⟨r, T, hist, Y, Z, tl, S, N, o, mm, a_n, a_L, a_U, a_H, a_O, a_B, b_n, b_L, b_U, b_H, b_O, b_B, w_a, t_st, t_nx, t_kd, t_by, r_cl, r_no, u_is, g_rl, g_n, g_ri, g_ne, g_re, g_ts, q_nt, q_iv, q_fd, q_or, q_df, q_se, q_co, q_ch, v_n, v_L, v_U, v_H, v_O, v_B, k_fi, k_be, k_to, k_cl, k_do, k_ro, k_ke, k_te, k_nu, k_no, k_tu, ⟨hom, ho, hc, hk, hH, hSR, hT1, hT2, hB⟩, hP, hD, hS⟩ := hI
  have hN := hH.2.1
  obtain ⟨ho7, hm7⟩ := hom 7 (by omega)
  have hg : hsF f (((nI N + nI 8) - nI 1) - ((nI N + nI 8) - nI 1) / nI 8 * nI 8).toNatClampNeg = some (f (20 + 6 * o 7)) := by rw [pv8 N hN, nI_clamp (by omega), ho7]; rfl
  obtain ⟨ra, n1, L1, U1, V1, O1, B1, S1, N1, hist1, k1, r1, e1, e2, ho1, hc1, hk1, hH1, hg7⟩ := E_undo hH ho hc hk (Nat.le_refl 1100)
  rw [← hm7] at e1
  refine lv_aload_n hx hb dL_law_423 rfl (lv_at hl 1 rfl) ?_
  refine muF (w' := (wF cI cZ cM x0 f k0 f2 (hsF f) (usF f) o mm Z n1 L1 U1 V1 O1 B1 b_n b_L b_U b_H b_O b_B w_a (nI tl) t_st t_nx t_kd t_by r_cl r_no (nI S1) (nI N1) u_is g_rl g_n g_ri g_ne g_re g_ts q_nt q_iv q_fd q_or q_df q_se q_co q_ch v_n v_L v_U v_H v_O v_B (nI S) (nI tl) k_fi k_be k_to k_cl k_do k_ro k_ke k_te k_nu (nmA 48) k_no k_tu)) (va_runV (As := []) (rest := []) ⟨hx, hb, hml, hown, hts⟩ (c_X6_undo l D cI cZ cM x0 (f 1) (f 2) (f 3) (f 4) (f 5) (f 6) (f 18) (f 19) (f (20 + 6 * o 7)) (f (21 + 6 * o 7)) (f (22 + 6 * o 7)) (f (23 + 6 * o 7)) (f (24 + 6 * o 7)) (f (25 + 6 * o 7)) (f 7) (f 13) (f 14) (f 16) (f 68) (f 69) (f 82) (f 87) _ a_n a_L a_U a_H a_O a_B (nI S) (nI N) (hsF f) (mm 7).1 (mm 7).2.1 (mm 7).2.2.1 (mm 7).2.2.2.1 (mm 7).2.2.2.2.1 (mm 7).2.2.2.2.2 hg 1100 ra n1 L1 U1 V1 O1 B1 (nI S1) (nI N1) e1) (cwV 0 hts gL_law_X6_undo rfl rfl rfl ⟨rfl, hdc_X6_undo⟩ ⟨Nat.le_of_ble_eq_true rfl, Nat.le_of_ble_eq_true rfl⟩) (pmV hK hP hD [0, 1, 2, 3, 4, 5, 6, 18, 19, 62, 63, 64, 65, 66, 67] (by decide) rfl rfl (ci := 6) (q0 := 0) rfl rfl) rfl rfl hl.1 rfl (lv_room (Nat.le_of_ble_eq_true rfl)) dL_law_424 ⟨Nat.le_of_ble_eq_true rfl, Nat.le_of_ble_eq_true rfl⟩) hP hD hS hA [0, 1, 2, 3, 4, 5, 6, 18, 19, 62, 63, 64, 65, 66, 67] rfl rfl ?_ (fun H locs hP hD hS => ?_)
  · repeat (first | exact sX_n | refine sX_e ?_ | refine sX_c rfl (by decide) ?_)
  refine lv_aload_n hx hb dL_law_427 rfl (lv_at hl 2 rfl) ?_
  refine muF (w' := (wF cI cZ cM x0 f k0 f2 (hsF f) (usF f) o mm Z n1 L1 U1 V1 O1 B1 b_n b_L b_U b_H b_O b_B w_a (nI tl) t_st t_nx t_kd t_by r_cl r_no (nI S1) (nI N1) u_is g_rl g_n g_ri g_ne g_re g_ts q_nt q_iv q_fd q_or q_df q_se q_co q_ch v_n v_L v_U v_H v_O v_B (nI S1) (nI tl) k_fi k_be k_to k_cl k_do k1 k_ke k_te k_nu (nmA 48) k_no k_tu)) (va_runV (As := []) (rest := [.int ra]) ⟨hx, hb, hml, hown, hts⟩ (c_X7_undo l D cI cZ cM k0 (f2 1) (f2 2) (f2 3) (f2 4) (f2 5) (f2 6) (f2 7) _ (nI S) (nI tl) k_fi k_be k_to k_cl k_do k_ro k_ke k_te k_nu (nmA 48) k_no k_tu 1100 ra (nI S1) k1 e2) (cwV 0 hts gL_law_X7_undo rfl rfl rfl ⟨rfl, hdc_X7_undo⟩ ⟨Nat.le_of_ble_eq_true rfl, Nat.le_of_ble_eq_true rfl⟩) (pmV hK hP hD [99, 100, 101, 102, 103, 104, 105, 106] (by decide) rfl rfl (ci := 7) (q0 := 99) rfl rfl) rfl rfl hl.1 rfl (lv_room (Nat.le_of_ble_eq_true rfl)) dL_law_428 ⟨Nat.le_of_ble_eq_true rfl, Nat.le_of_ble_eq_true rfl⟩) hP hD hS hA [99, 100, 101, 102, 103, 104, 105, 106] rfl rfl ?_ (fun H locs hP hD hS => ?_)
  · repeat (first | exact sX_n | refine sX_e ?_ | refine sX_c rfl (by decide) ?_)
  refine lv_icmp_eq (tgt := 729) hx hb dL_law_431 (by decide) (fun _ => ?_) (fun h => absurd rfl h)
  exact kk _ _ (INV_mk N hN hom ho1 hc1 hk1 hH1 (SR_keep hSR hg7) hT1 hT2 hB hP hD hS)
