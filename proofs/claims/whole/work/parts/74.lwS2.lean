theorem hi1 {x : Int32} (h : x.toNatClampNeg = 1) : hx 2 x = true → x = nI 1 ∧ 1 < 2 := fun e => by
  obtain ⟨j, hj, hq⟩ := hx_true e
  rw [hq, nI_clamp (by omega)] at h
  exact ⟨by rw [hq, h], by omega⟩
theorem hi0 {x : Int32} (h : ¬ x.toNatClampNeg = 1) : hx 2 x = true → x = nI 0 ∧ 0 < 2 := fun e => by
  obtain ⟨j, hj, hq⟩ := hx_true e
  rw [hq, nI_clamp (by omega)] at h
  exact ⟨by rw [hq, show j = 0 by omega], by omega⟩
set_option maxHeartbeats 4000000 in
set_option maxRecDepth 100000 in
theorem st_keep {p : Program} {l : Launch} {e : Env} {s : State} {m : MethodId} {below : List Frame} {meth : Method} {c : Code} {b L : Nat} {xs : Nat → Int32} {Q : State → Prop} {D : va_G} {cI cZ cM : ClassId} {adK adV : Nat → Nat} {x0 : Nat} {f : Nat → Nat} {k0 : Nat} {f2 : Nat → Nat} {i : Nat} {ls : Array Slot} {H : Heap} {locs : List Loc} (C0 : lw_At p s m meth c b L xs) (hL : L ≤ 2048) (hK : KK D cI cZ cM s) (hE : ENV (fun q : Nat => s.heap.size ≤ q) adK adV s s.heap) (hi3 : i + 3 < L) (hl : lv_has ls 4 [(0, .ref b), (1, .ref x0), (2, .ref k0), (3, .int (nI i))]) (hI : INV D cI cZ cM x0 f k0 f2 (fun q : Nat => s.heap.size ≤ q) s.heap H locs) (kk : ∀ (H1 : Heap) (locs1 : List Loc), INV D cI cZ cM x0 f k0 f2 (fun q : Nat => s.heap.size ≤ q) s.heap H1 locs1 → W p l e room_1 s m #[Value.ref b] below meth c H1 locs1 107 7060 Q (F0 m 729 ls [])) : W p l e room_1 s m #[Value.ref b] below meth c H locs 107 7060 Q (F0 m 436 ls []) := by
  obtain ⟨hx, hb, hr, hml, hown, hts0, hX, hbl, hlocks, hgv⟩ := C0
  have hb : c.code = cL_law := hb
  have hown : s.vm.findClass RL = some m.cls := hown
  have hts : ∀ w ∈ wsL_law, w.before #[Value.ref b] s = true := fun w h => hts0 w (wsL_law_in w h)
  have hA : ∀ q : Nat, s.heap.size ≤ q → (fun q : Nat => s.heap.size ≤ q) q := fun _ h => h
  have hbA : ¬ (fun q : Nat => s.heap.size ≤ q) b := Nat.not_le.mpr hbl
  have hin1 : vp_in (nI i + nI 1) L := by rw [nI_add]; exact vp_in_nI (by omega) (by omega)
  obtain ⟨r, T, hist, Y, Z, tl, S, N, o, mm, a_n, a_L, a_U, a_H, a_O, a_B, b_n, b_L, b_U, b_H, b_O, b_B, w_a, t_st, t_nx, t_kd, t_by, r_cl, r_no, u_is, g_rl, g_n, g_ri, g_ne, g_re, g_ts, q_nt, q_iv, q_fd, q_or, q_df, q_se, q_co, q_ch, v_n, v_L, v_U, v_H, v_O, v_B, k_fi, k_be, k_to, k_cl, k_do, k_ro, k_ke, k_te, k_nu, k_no, k_tu, ⟨hom, ho, hc, hk, hH, hSR, hT1, hT2, hB⟩, hP, hD, hS⟩ := hI
  have hN := hH.2.1
  by_cases hz1 : (xs (nI i + nI 1).toNatClampNeg).toNatClampNeg = 1
  · have hi := hi1 hz1
    have hz : usF f (xs (nI i + nI 1).toNatClampNeg).toNatClampNeg = some (f 76) := by rw [hz1]; rfl
    obtain ⟨ra, is1, z1, z2, z3, z4, z5, z6, k1, ke1, e1, e2, hk1, hH1, hSR1⟩ := E_keep hH hSR ho hc hk (Nat.le_refl 1100) (xs (nI i + nI 1).toNatClampNeg) 1 hi
    refine lv_aload_n hx hb dL_law_436 rfl (lv_at hl 1 rfl) ?_
    refine lv_aload_n hx hb dL_law_437 rfl (lv_at hl 0 rfl) ?_
    refine lv_iload_n hx hb dL_law_438 rfl (lv_at hl 3 rfl) ?_
    refine lv_iconst (v := nI 1) hx hb dL_law_439 ic_1 ?_
    refine lv_iadd hx hb dL_law_440 ?_
    refine va_sld hx hb hX hbl hbA hS hin1 dL_law_441 ?_
    refine muF (w' := (wF cI cZ cM x0 f k0 f2 (hsF f) (usF f) o mm (updY Z 1 (z1, z2, z3, z4, z5, z6)) a_n a_L a_U a_H a_O a_B b_n b_L b_U b_H b_O b_B w_a (nI tl) t_st t_nx t_kd t_by r_cl r_no (nI S) (nI N) is1 g_rl g_n g_ri g_ne g_re g_ts q_nt q_iv q_fd q_or q_df q_se q_co q_ch v_n v_L v_U v_H v_O v_B (nI S) (nI tl) k_fi k_be k_to k_cl k_do k_ro k_ke k_te k_nu (nmA 48) k_no k_tu)) (va_runV (As := [.int (xs (nI i + nI 1).toNatClampNeg)]) (rest := []) ⟨hx, hb, hml, hown, hts⟩ (c_X6_keep l D cI cZ cM x0 (f 1) (f 2) (f 3) (f 4) (f 5) (f 6) (f 68) (f 69) (f 76) (f 77) (f 78) (f 79) (f 80) (f 81) (f 7) (f 13) (f 14) (f 16) (f 18) (f 82) (f 87) _ a_n a_L a_U a_H a_O a_B (usF f) u_is (Z 1).1 (Z 1).2.1 (Z 1).2.2.1 (Z 1).2.2.2.1 (Z 1).2.2.2.2.1 (Z 1).2.2.2.2.2 (xs (nI i + nI 1).toNatClampNeg) hz 1100 ra is1 z1 z2 z3 z4 z5 z6 e1) (cwV 1 hts gL_law_X6_keep rfl rfl rfl ⟨rfl, hdc_X6_keep⟩ ⟨Nat.le_of_ble_eq_true rfl, Nat.le_of_ble_eq_true rfl⟩) (pmV hK hP hD [0, 1, 2, 3, 4, 5, 6, 68, 69, 76, 77, 78, 79, 80, 81] (by decide) rfl rfl (ci := 6) (q0 := 0) rfl rfl) rfl rfl hl.1 rfl (lv_room (Nat.le_of_ble_eq_true rfl)) dL_law_442 ⟨Nat.le_of_ble_eq_true rfl, Nat.le_of_ble_eq_true rfl⟩) hP hD hS hA [0, 1, 2, 3, 4, 5, 6, 68, 69, 76, 77, 78, 79, 80, 81] rfl rfl ?_ (fun H locs hP hD hS => ?_)
    · repeat (first | exact sX_n | refine sX_e ?_ | refine sX_c rfl (by decide) ?_)
    refine lv_aload_n hx hb dL_law_445 rfl (lv_at hl 2 rfl) ?_
    refine lv_aload_n hx hb dL_law_446 rfl (lv_at hl 0 rfl) ?_
    refine lv_iload_n hx hb dL_law_447 rfl (lv_at hl 3 rfl) ?_
    refine lv_iconst (v := nI 1) hx hb dL_law_448 ic_1 ?_
    refine lv_iadd hx hb dL_law_449 ?_
    refine va_sld hx hb hX hbl hbA hS hin1 dL_law_450 ?_
    refine muF (w' := (wF cI cZ cM x0 f k0 f2 (hsF f) (usF f) o mm (updY Z 1 (z1, z2, z3, z4, z5, z6)) a_n a_L a_U a_H a_O a_B b_n b_L b_U b_H b_O b_B w_a (nI tl) t_st t_nx t_kd t_by r_cl r_no (nI S) (nI N) is1 g_rl g_n g_ri g_ne g_re g_ts q_nt q_iv q_fd q_or q_df q_se q_co q_ch v_n v_L v_U v_H v_O v_B (nI S) (nI tl) k_fi k_be k_to k_cl k_do k1 ke1 k_te k_nu (nmA 48) k_no k_tu)) (va_runV (As := [.int (xs (nI i + nI 1).toNatClampNeg)]) (rest := [.int ra]) ⟨hx, hb, hml, hown, hts⟩ (c_X7_keep l D cI cZ cM k0 (f2 1) (f2 2) (f2 3) (f2 4) (f2 5) (f2 6) (f2 7) _ (nI S) (nI tl) k_fi k_be k_to k_cl k_do k_ro k_ke k_te k_nu (nmA 48) k_no k_tu (xs (nI i + nI 1).toNatClampNeg) 1100 ra k1 ke1 e2) (cwV 1 hts gL_law_X7_keep rfl rfl rfl ⟨rfl, hdc_X7_keep⟩ ⟨Nat.le_of_ble_eq_true rfl, Nat.le_of_ble_eq_true rfl⟩) (pmV hK hP hD [99, 100, 101, 102, 103, 104, 105, 106] (by decide) rfl rfl (ci := 7) (q0 := 99) rfl rfl) rfl rfl hl.1 rfl (lv_room (Nat.le_of_ble_eq_true rfl)) dL_law_451 ⟨Nat.le_of_ble_eq_true rfl, Nat.le_of_ble_eq_true rfl⟩) hP hD hS hA [99, 100, 101, 102, 103, 104, 105, 106] rfl rfl ?_ (fun H locs hP hD hS => ?_)
    · repeat (first | exact sX_n | refine sX_e ?_ | refine sX_c rfl (by decide) ?_)
    refine lv_icmp_eq (tgt := 729) hx hb dL_law_454 (by decide) (fun _ => ?_) (fun h => absurd rfl h)
    exact kk _ _ (INV_mk N hN hom ho hc hk1 hH1 hSR1 hT1 hT2 hB hP hD hS)
  · have hi := hi0 hz1
    have hz : usF f (xs (nI i + nI 1).toNatClampNeg).toNatClampNeg = some (f 70) := by unfold usF; rw [if_neg hz1]
    obtain ⟨ra, is1, z1, z2, z3, z4, z5, z6, k1, ke1, e1, e2, hk1, hH1, hSR1⟩ := E_keep hH hSR ho hc hk (Nat.le_refl 1100) (xs (nI i + nI 1).toNatClampNeg) 0 hi
    refine lv_aload_n hx hb dL_law_436 rfl (lv_at hl 1 rfl) ?_
    refine lv_aload_n hx hb dL_law_437 rfl (lv_at hl 0 rfl) ?_
    refine lv_iload_n hx hb dL_law_438 rfl (lv_at hl 3 rfl) ?_
    refine lv_iconst (v := nI 1) hx hb dL_law_439 ic_1 ?_
    refine lv_iadd hx hb dL_law_440 ?_
    refine va_sld hx hb hX hbl hbA hS hin1 dL_law_441 ?_
    refine muF (w' := (wF cI cZ cM x0 f k0 f2 (hsF f) (usF f) o mm (updY Z 0 (z1, z2, z3, z4, z5, z6)) a_n a_L a_U a_H a_O a_B b_n b_L b_U b_H b_O b_B w_a (nI tl) t_st t_nx t_kd t_by r_cl r_no (nI S) (nI N) is1 g_rl g_n g_ri g_ne g_re g_ts q_nt q_iv q_fd q_or q_df q_se q_co q_ch v_n v_L v_U v_H v_O v_B (nI S) (nI tl) k_fi k_be k_to k_cl k_do k_ro k_ke k_te k_nu (nmA 48) k_no k_tu)) (va_runV (As := [.int (xs (nI i + nI 1).toNatClampNeg)]) (rest := []) ⟨hx, hb, hml, hown, hts⟩ (c_X6_keep l D cI cZ cM x0 (f 1) (f 2) (f 3) (f 4) (f 5) (f 6) (f 68) (f 69) (f 70) (f 71) (f 72) (f 73) (f 74) (f 75) (f 7) (f 13) (f 14) (f 16) (f 18) (f 82) (f 87) _ a_n a_L a_U a_H a_O a_B (usF f) u_is (Z 0).1 (Z 0).2.1 (Z 0).2.2.1 (Z 0).2.2.2.1 (Z 0).2.2.2.2.1 (Z 0).2.2.2.2.2 (xs (nI i + nI 1).toNatClampNeg) hz 1100 ra is1 z1 z2 z3 z4 z5 z6 e1) (cwV 1 hts gL_law_X6_keep rfl rfl rfl ⟨rfl, hdc_X6_keep⟩ ⟨Nat.le_of_ble_eq_true rfl, Nat.le_of_ble_eq_true rfl⟩) (pmV hK hP hD [0, 1, 2, 3, 4, 5, 6, 68, 69, 70, 71, 72, 73, 74, 75] (by decide) rfl rfl (ci := 6) (q0 := 0) rfl rfl) rfl rfl hl.1 rfl (lv_room (Nat.le_of_ble_eq_true rfl)) dL_law_442 ⟨Nat.le_of_ble_eq_true rfl, Nat.le_of_ble_eq_true rfl⟩) hP hD hS hA [0, 1, 2, 3, 4, 5, 6, 68, 69, 70, 71, 72, 73, 74, 75] rfl rfl ?_ (fun H locs hP hD hS => ?_)
    · repeat (first | exact sX_n | refine sX_e ?_ | refine sX_c rfl (by decide) ?_)
    refine lv_aload_n hx hb dL_law_445 rfl (lv_at hl 2 rfl) ?_
    refine lv_aload_n hx hb dL_law_446 rfl (lv_at hl 0 rfl) ?_
    refine lv_iload_n hx hb dL_law_447 rfl (lv_at hl 3 rfl) ?_
    refine lv_iconst (v := nI 1) hx hb dL_law_448 ic_1 ?_
    refine lv_iadd hx hb dL_law_449 ?_
    refine va_sld hx hb hX hbl hbA hS hin1 dL_law_450 ?_
    refine muF (w' := (wF cI cZ cM x0 f k0 f2 (hsF f) (usF f) o mm (updY Z 0 (z1, z2, z3, z4, z5, z6)) a_n a_L a_U a_H a_O a_B b_n b_L b_U b_H b_O b_B w_a (nI tl) t_st t_nx t_kd t_by r_cl r_no (nI S) (nI N) is1 g_rl g_n g_ri g_ne g_re g_ts q_nt q_iv q_fd q_or q_df q_se q_co q_ch v_n v_L v_U v_H v_O v_B (nI S) (nI tl) k_fi k_be k_to k_cl k_do k1 ke1 k_te k_nu (nmA 48) k_no k_tu)) (va_runV (As := [.int (xs (nI i + nI 1).toNatClampNeg)]) (rest := [.int ra]) ⟨hx, hb, hml, hown, hts⟩ (c_X7_keep l D cI cZ cM k0 (f2 1) (f2 2) (f2 3) (f2 4) (f2 5) (f2 6) (f2 7) _ (nI S) (nI tl) k_fi k_be k_to k_cl k_do k_ro k_ke k_te k_nu (nmA 48) k_no k_tu (xs (nI i + nI 1).toNatClampNeg) 1100 ra k1 ke1 e2) (cwV 1 hts gL_law_X7_keep rfl rfl rfl ⟨rfl, hdc_X7_keep⟩ ⟨Nat.le_of_ble_eq_true rfl, Nat.le_of_ble_eq_true rfl⟩) (pmV hK hP hD [99, 100, 101, 102, 103, 104, 105, 106] (by decide) rfl rfl (ci := 7) (q0 := 99) rfl rfl) rfl rfl hl.1 rfl (lv_room (Nat.le_of_ble_eq_true rfl)) dL_law_451 ⟨Nat.le_of_ble_eq_true rfl, Nat.le_of_ble_eq_true rfl⟩) hP hD hS hA [99, 100, 101, 102, 103, 104, 105, 106] rfl rfl ?_ (fun H locs hP hD hS => ?_)
    · repeat (first | exact sX_n | refine sX_e ?_ | refine sX_c rfl (by decide) ?_)
    refine lv_icmp_eq (tgt := 729) hx hb dL_law_454 (by decide) (fun _ => ?_) (fun h => absurd rfl h)
    exact kk _ _ (INV_mk N hN hom ho hc hk1 hH1 hSR1 hT1 hT2 hB hP hD hS)
set_option maxHeartbeats 4000000 in
set_option maxRecDepth 100000 in
theorem st_back {p : Program} {l : Launch} {e : Env} {s : State} {m : MethodId} {below : List Frame} {meth : Method} {c : Code} {b L : Nat} {xs : Nat → Int32} {Q : State → Prop} {D : va_G} {cI cZ cM : ClassId} {adK adV : Nat → Nat} {x0 : Nat} {f : Nat → Nat} {k0 : Nat} {f2 : Nat → Nat} {i : Nat} {ls : Array Slot} {H : Heap} {locs : List Loc} (C0 : lw_At p s m meth c b L xs) (hL : L ≤ 2048) (hK : KK D cI cZ cM s) (hE : ENV (fun q : Nat => s.heap.size ≤ q) adK adV s s.heap) (hi3 : i + 3 < L) (hl : lv_has ls 4 [(0, .ref b), (1, .ref x0), (2, .ref k0), (3, .int (nI i))]) (hI : INV D cI cZ cM x0 f k0 f2 (fun q : Nat => s.heap.size ≤ q) s.heap H locs) (kk : ∀ (H1 : Heap) (locs1 : List Loc), INV D cI cZ cM x0 f k0 f2 (fun q : Nat => s.heap.size ≤ q) s.heap H1 locs1 → W p l e room_1 s m #[Value.ref b] below meth c H1 locs1 107 7060 Q (F0 m 729 ls [])) : W p l e room_1 s m #[Value.ref b] below meth c H locs 107 7060 Q (F0 m 459 ls []) := by
  obtain ⟨hx, hb, hr, hml, hown, hts0, hX, hbl, hlocks, hgv⟩ := C0
  have hb : c.code = cL_law := hb
  have hown : s.vm.findClass RL = some m.cls := hown
  have hts : ∀ w ∈ wsL_law, w.before #[Value.ref b] s = true := fun w h => hts0 w (wsL_law_in w h)
  have hA : ∀ q : Nat, s.heap.size ≤ q → (fun q : Nat => s.heap.size ≤ q) q := fun _ h => h
  have hbA : ¬ (fun q : Nat => s.heap.size ≤ q) b := Nat.not_le.mpr hbl
  have hin1 : vp_in (nI i + nI 1) L := by rw [nI_add]; exact vp_in_nI (by omega) (by omega)
  obtain ⟨r, T, hist, Y, Z, tl, S, N, o, mm, a_n, a_L, a_U, a_H, a_O, a_B, b_n, b_L, b_U, b_H, b_O, b_B, w_a, t_st, t_nx, t_kd, t_by, r_cl, r_no, u_is, g_rl, g_n, g_ri, g_ne, g_re, g_ts, q_nt, q_iv, q_fd, q_or, q_df, q_se, q_co, q_ch, v_n, v_L, v_U, v_H, v_O, v_B, k_fi, k_be, k_to, k_cl, k_do, k_ro, k_ke, k_te, k_nu, k_no, k_tu, ⟨hom, ho, hc, hk, hH, hSR, hT1, hT2, hB⟩, hP, hD, hS⟩ := hI
  have hN := hH.2.1
  by_cases hz1 : (xs (nI i + nI 1).toNatClampNeg).toNatClampNeg = 1
  · have hi := hi1 hz1
    have hz : usF f (xs (nI i + nI 1).toNatClampNeg).toNatClampNeg = some (f 76) := by rw [hz1]; rfl
    obtain ⟨ra, n1, L1, U1, V1, O1, B1, S1, k1, r1, e1, e2, ho1, hc1, hk1, hH1, hg7⟩ := E_back hH hSR ho hc hk (Nat.le_refl 1100) (xs (nI i + nI 1).toNatClampNeg) 1 hi
    refine lv_aload_n hx hb dL_law_459 rfl (lv_at hl 1 rfl) ?_
    refine lv_aload_n hx hb dL_law_460 rfl (lv_at hl 0 rfl) ?_
    refine lv_iload_n hx hb dL_law_461 rfl (lv_at hl 3 rfl) ?_
    refine lv_iconst (v := nI 1) hx hb dL_law_462 ic_1 ?_
    refine lv_iadd hx hb dL_law_463 ?_
    refine va_sld hx hb hX hbl hbA hS hin1 dL_law_464 ?_
    refine muF (w' := (wF cI cZ cM x0 f k0 f2 (hsF f) (usF f) o mm Z n1 L1 U1 V1 O1 B1 b_n b_L b_U b_H b_O b_B w_a (nI tl) t_st t_nx t_kd t_by r_cl r_no (nI S1) (nI N) u_is g_rl g_n g_ri g_ne g_re g_ts q_nt q_iv q_fd q_or q_df q_se q_co q_ch v_n v_L v_U v_H v_O v_B (nI S) (nI tl) k_fi k_be k_to k_cl k_do k_ro k_ke k_te k_nu (nmA 48) k_no k_tu)) (va_runV (As := [.int (xs (nI i + nI 1).toNatClampNeg)]) (rest := []) ⟨hx, hb, hml, hown, hts⟩ (c_X6_back l D cI cZ cM x0 (f 1) (f 2) (f 3) (f 4) (f 5) (f 6) (f 68) (f 69) (f 76) (f 77) (f 78) (f 79) (f 80) (f 81) (f 18) (f 19) (f 7) (f 13) (f 14) (f 16) (f 82) (f 87) _ a_n a_L a_U a_H a_O a_B (usF f) u_is (Z 1).1 (Z 1).2.1 (Z 1).2.2.1 (Z 1).2.2.2.1 (Z 1).2.2.2.2.1 (Z 1).2.2.2.2.2 (nI S) (nI N) (hsF f) (xs (nI i + nI 1).toNatClampNeg) hz 1100 ra n1 L1 U1 V1 O1 B1 (nI S1) e1) (cwV 1 hts gL_law_X6_back rfl rfl rfl ⟨rfl, hdc_X6_back⟩ ⟨Nat.le_of_ble_eq_true rfl, Nat.le_of_ble_eq_true rfl⟩) (pmV hK hP hD [0, 1, 2, 3, 4, 5, 6, 68, 69, 76, 77, 78, 79, 80, 81, 18, 19] (by decide) rfl rfl (ci := 6) (q0 := 0) rfl rfl) rfl rfl hl.1 rfl (lv_room (Nat.le_of_ble_eq_true rfl)) dL_law_465 ⟨Nat.le_of_ble_eq_true rfl, Nat.le_of_ble_eq_true rfl⟩) hP hD hS hA [0, 1, 2, 3, 4, 5, 6, 68, 69, 76, 77, 78, 79, 80, 81, 18, 19] rfl rfl ?_ (fun H locs hP hD hS => ?_)
    · repeat (first | exact sX_n | refine sX_e ?_ | refine sX_c rfl (by decide) ?_)
    refine lv_aload_n hx hb dL_law_468 rfl (lv_at hl 2 rfl) ?_
    refine lv_aload_n hx hb dL_law_469 rfl (lv_at hl 0 rfl) ?_
    refine lv_iload_n hx hb dL_law_470 rfl (lv_at hl 3 rfl) ?_
    refine lv_iconst (v := nI 1) hx hb dL_law_471 ic_1 ?_
    refine lv_iadd hx hb dL_law_472 ?_
    refine va_sld hx hb hX hbl hbA hS hin1 dL_law_473 ?_
    refine muF (w' := (wF cI cZ cM x0 f k0 f2 (hsF f) (usF f) o mm Z n1 L1 U1 V1 O1 B1 b_n b_L b_U b_H b_O b_B w_a (nI tl) t_st t_nx t_kd t_by r_cl r_no (nI S1) (nI N) u_is g_rl g_n g_ri g_ne g_re g_ts q_nt q_iv q_fd q_or q_df q_se q_co q_ch v_n v_L v_U v_H v_O v_B (nI S1) (nI tl) k_fi k_be k_to k_cl k_do k1 k_ke k_te k_nu (nmA 48) k_no k_tu)) (va_runV (As := [.int (xs (nI i + nI 1).toNatClampNeg)]) (rest := [.int ra]) ⟨hx, hb, hml, hown, hts⟩ (c_X7_back l D cI cZ cM k0 (f2 1) (f2 2) (f2 3) (f2 4) (f2 5) (f2 6) (f2 7) _ (nI S) (nI tl) k_fi k_be k_to k_cl k_do k_ro k_ke k_te k_nu (nmA 48) k_no k_tu (xs (nI i + nI 1).toNatClampNeg) 1100 ra (nI S1) k1 e2) (cwV 1 hts gL_law_X7_back rfl rfl rfl ⟨rfl, hdc_X7_back⟩ ⟨Nat.le_of_ble_eq_true rfl, Nat.le_of_ble_eq_true rfl⟩) (pmV hK hP hD [99, 100, 101, 102, 103, 104, 105, 106] (by decide) rfl rfl (ci := 7) (q0 := 99) rfl rfl) rfl rfl hl.1 rfl (lv_room (Nat.le_of_ble_eq_true rfl)) dL_law_474 ⟨Nat.le_of_ble_eq_true rfl, Nat.le_of_ble_eq_true rfl⟩) hP hD hS hA [99, 100, 101, 102, 103, 104, 105, 106] rfl rfl ?_ (fun H locs hP hD hS => ?_)
    · repeat (first | exact sX_n | refine sX_e ?_ | refine sX_c rfl (by decide) ?_)
    refine lv_icmp_eq (tgt := 729) hx hb dL_law_477 (by decide) (fun _ => ?_) (fun h => absurd rfl h)
    exact kk _ _ (INV_mk N hN hom ho1 hc1 hk1 hH1 (SR_keep hSR hg7) hT1 hT2 hB hP hD hS)
  · have hi := hi0 hz1
    have hz : usF f (xs (nI i + nI 1).toNatClampNeg).toNatClampNeg = some (f 70) := by unfold usF; rw [if_neg hz1]
    obtain ⟨ra, n1, L1, U1, V1, O1, B1, S1, k1, r1, e1, e2, ho1, hc1, hk1, hH1, hg7⟩ := E_back hH hSR ho hc hk (Nat.le_refl 1100) (xs (nI i + nI 1).toNatClampNeg) 0 hi
    refine lv_aload_n hx hb dL_law_459 rfl (lv_at hl 1 rfl) ?_
    refine lv_aload_n hx hb dL_law_460 rfl (lv_at hl 0 rfl) ?_
    refine lv_iload_n hx hb dL_law_461 rfl (lv_at hl 3 rfl) ?_
    refine lv_iconst (v := nI 1) hx hb dL_law_462 ic_1 ?_
    refine lv_iadd hx hb dL_law_463 ?_
    refine va_sld hx hb hX hbl hbA hS hin1 dL_law_464 ?_
    refine muF (w' := (wF cI cZ cM x0 f k0 f2 (hsF f) (usF f) o mm Z n1 L1 U1 V1 O1 B1 b_n b_L b_U b_H b_O b_B w_a (nI tl) t_st t_nx t_kd t_by r_cl r_no (nI S1) (nI N) u_is g_rl g_n g_ri g_ne g_re g_ts q_nt q_iv q_fd q_or q_df q_se q_co q_ch v_n v_L v_U v_H v_O v_B (nI S) (nI tl) k_fi k_be k_to k_cl k_do k_ro k_ke k_te k_nu (nmA 48) k_no k_tu)) (va_runV (As := [.int (xs (nI i + nI 1).toNatClampNeg)]) (rest := []) ⟨hx, hb, hml, hown, hts⟩ (c_X6_back l D cI cZ cM x0 (f 1) (f 2) (f 3) (f 4) (f 5) (f 6) (f 68) (f 69) (f 70) (f 71) (f 72) (f 73) (f 74) (f 75) (f 18) (f 19) (f 7) (f 13) (f 14) (f 16) (f 82) (f 87) _ a_n a_L a_U a_H a_O a_B (usF f) u_is (Z 0).1 (Z 0).2.1 (Z 0).2.2.1 (Z 0).2.2.2.1 (Z 0).2.2.2.2.1 (Z 0).2.2.2.2.2 (nI S) (nI N) (hsF f) (xs (nI i + nI 1).toNatClampNeg) hz 1100 ra n1 L1 U1 V1 O1 B1 (nI S1) e1) (cwV 1 hts gL_law_X6_back rfl rfl rfl ⟨rfl, hdc_X6_back⟩ ⟨Nat.le_of_ble_eq_true rfl, Nat.le_of_ble_eq_true rfl⟩) (pmV hK hP hD [0, 1, 2, 3, 4, 5, 6, 68, 69, 70, 71, 72, 73, 74, 75, 18, 19] (by decide) rfl rfl (ci := 6) (q0 := 0) rfl rfl) rfl rfl hl.1 rfl (lv_room (Nat.le_of_ble_eq_true rfl)) dL_law_465 ⟨Nat.le_of_ble_eq_true rfl, Nat.le_of_ble_eq_true rfl⟩) hP hD hS hA [0, 1, 2, 3, 4, 5, 6, 68, 69, 70, 71, 72, 73, 74, 75, 18, 19] rfl rfl ?_ (fun H locs hP hD hS => ?_)
    · repeat (first | exact sX_n | refine sX_e ?_ | refine sX_c rfl (by decide) ?_)
    refine lv_aload_n hx hb dL_law_468 rfl (lv_at hl 2 rfl) ?_
    refine lv_aload_n hx hb dL_law_469 rfl (lv_at hl 0 rfl) ?_
    refine lv_iload_n hx hb dL_law_470 rfl (lv_at hl 3 rfl) ?_
    refine lv_iconst (v := nI 1) hx hb dL_law_471 ic_1 ?_
    refine lv_iadd hx hb dL_law_472 ?_
    refine va_sld hx hb hX hbl hbA hS hin1 dL_law_473 ?_
    refine muF (w' := (wF cI cZ cM x0 f k0 f2 (hsF f) (usF f) o mm Z n1 L1 U1 V1 O1 B1 b_n b_L b_U b_H b_O b_B w_a (nI tl) t_st t_nx t_kd t_by r_cl r_no (nI S1) (nI N) u_is g_rl g_n g_ri g_ne g_re g_ts q_nt q_iv q_fd q_or q_df q_se q_co q_ch v_n v_L v_U v_H v_O v_B (nI S1) (nI tl) k_fi k_be k_to k_cl k_do k1 k_ke k_te k_nu (nmA 48) k_no k_tu)) (va_runV (As := [.int (xs (nI i + nI 1).toNatClampNeg)]) (rest := [.int ra]) ⟨hx, hb, hml, hown, hts⟩ (c_X7_back l D cI cZ cM k0 (f2 1) (f2 2) (f2 3) (f2 4) (f2 5) (f2 6) (f2 7) _ (nI S) (nI tl) k_fi k_be k_to k_cl k_do k_ro k_ke k_te k_nu (nmA 48) k_no k_tu (xs (nI i + nI 1).toNatClampNeg) 1100 ra (nI S1) k1 e2) (cwV 1 hts gL_law_X7_back rfl rfl rfl ⟨rfl, hdc_X7_back⟩ ⟨Nat.le_of_ble_eq_true rfl, Nat.le_of_ble_eq_true rfl⟩) (pmV hK hP hD [99, 100, 101, 102, 103, 104, 105, 106] (by decide) rfl rfl (ci := 7) (q0 := 99) rfl rfl) rfl rfl hl.1 rfl (lv_room (Nat.le_of_ble_eq_true rfl)) dL_law_474 ⟨Nat.le_of_ble_eq_true rfl, Nat.le_of_ble_eq_true rfl⟩) hP hD hS hA [99, 100, 101, 102, 103, 104, 105, 106] rfl rfl ?_ (fun H locs hP hD hS => ?_)
    · repeat (first | exact sX_n | refine sX_e ?_ | refine sX_c rfl (by decide) ?_)
    refine lv_icmp_eq (tgt := 729) hx hb dL_law_477 (by decide) (fun _ => ?_) (fun h => absurd rfl h)
    exact kk _ _ (INV_mk N hN hom ho1 hc1 hk1 hH1 (SR_keep hSR hg7) hT1 hT2 hB hP hD hS)
set_option maxHeartbeats 4000000 in
set_option maxRecDepth 100000 in
theorem st_at {p : Program} {l : Launch} {e : Env} {s : State} {m : MethodId} {below : List Frame} {meth : Method} {c : Code} {b L : Nat} {xs : Nat → Int32} {Q : State → Prop} {D : va_G} {cI cZ cM : ClassId} {adK adV : Nat → Nat} {x0 : Nat} {f : Nat → Nat} {k0 : Nat} {f2 : Nat → Nat} {i : Nat} {ls : Array Slot} {H : Heap} {locs : List Loc} (C0 : lw_At p s m meth c b L xs) (hL : L ≤ 2048) (hK : KK D cI cZ cM s) (hE : ENV (fun q : Nat => s.heap.size ≤ q) adK adV s s.heap) (hi3 : i + 3 < L) (hl : lv_has ls 4 [(0, .ref b), (1, .ref x0), (2, .ref k0), (3, .int (nI i))]) (hI : INV D cI cZ cM x0 f k0 f2 (fun q : Nat => s.heap.size ≤ q) s.heap H locs) (kk : ∀ (H1 : Heap) (locs1 : List Loc), INV D cI cZ cM x0 f k0 f2 (fun q : Nat => s.heap.size ≤ q) s.heap H1 locs1 → W p l e room_1 s m #[Value.ref b] below meth c H1 locs1 107 7060 Q (F0 m 729 ls [])) : W p l e room_1 s m #[Value.ref b] below meth c H locs 107 7060 Q (F0 m 482 ls []) := by
  obtain ⟨hx, hb, hr, hml, hown, hts0, hX, hbl, hlocks, hgv⟩ := C0
  have hb : c.code = cL_law := hb
  have hown : s.vm.findClass RL = some m.cls := hown
  have hts : ∀ w ∈ wsL_law, w.before #[Value.ref b] s = true := fun w h => hts0 w (wsL_law_in w h)
  have hA : ∀ q : Nat, s.heap.size ≤ q → (fun q : Nat => s.heap.size ≤ q) q := fun _ h => h
  have hbA : ¬ (fun q : Nat => s.heap.size ≤ q) b := Nat.not_le.mpr hbl
  have hin1 : vp_in (nI i + nI 1) L := by rw [nI_add]; exact vp_in_nI (by omega) (by omega)
  obtain ⟨r, T, hist, Y, Z, tl, S, N, o, mm, a_n, a_L, a_U, a_H, a_O, a_B, b_n, b_L, b_U, b_H, b_O, b_B, w_a, t_st, t_nx, t_kd, t_by, r_cl, r_no, u_is, g_rl, g_n, g_ri, g_ne, g_re, g_ts, q_nt, q_iv, q_fd, q_or, q_df, q_se, q_co, q_ch, v_n, v_L, v_U, v_H, v_O, v_B, k_fi, k_be, k_to, k_cl, k_do, k_ro, k_ke, k_te, k_nu, k_no, k_tu, ⟨hom, ho, hc, hk, hH, hSR, hT1, hT2, hB⟩, hP, hD, hS⟩ := hI
  have hN := hH.2.1
  obtain ⟨ra, e1, e2⟩ := E_at ho hc hk (xs (nI i + nI 1).toNatClampNeg)
  refine lv_aload_n hx hb dL_law_482 rfl (lv_at hl 1 rfl) ?_
  refine lv_aload_n hx hb dL_law_483 rfl (lv_at hl 0 rfl) ?_
  refine lv_iload_n hx hb dL_law_484 rfl (lv_at hl 3 rfl) ?_
  refine lv_iconst (v := nI 1) hx hb dL_law_485 ic_1 ?_
  refine lv_iadd hx hb dL_law_486 ?_
  refine va_sld hx hb hX hbl hbA hS hin1 dL_law_487 ?_
  refine roI (va_runV (As := [.int (xs (nI i + nI 1).toNatClampNeg)]) (rest := []) ⟨hx, hb, hml, hown, hts⟩ (c_X6_at l D cI cZ cM x0 (f 1) (f 2) (f 3) (f 4) (f 5) (f 6) (f 7) (f 13) (f 14) (f 16) (f 18) (f 68) (f 69) (f 82) (f 87) a_n a_L a_U a_H a_O a_B (xs (nI i + nI 1).toNatClampNeg) ra e1) (cwV 1 hts gL_law_X6_at rfl rfl rfl ⟨rfl, hdc_X6_at⟩ ⟨Nat.le_of_ble_eq_true rfl, Nat.le_of_ble_eq_true rfl⟩) (prV hK hP [0, 1, 2, 3, 4, 5, 6] rfl (ci := 6) (q0 := 0) rfl rfl) rfl rfl hl.1 rfl (lv_room (Nat.le_of_ble_eq_true rfl)) dL_law_488 ⟨Nat.le_of_ble_eq_true rfl, Nat.le_of_ble_eq_true rfl⟩) ?_
  refine lv_aload_n hx hb dL_law_491 rfl (lv_at hl 2 rfl) ?_
  refine lv_aload_n hx hb dL_law_492 rfl (lv_at hl 0 rfl) ?_
  refine lv_iload_n hx hb dL_law_493 rfl (lv_at hl 3 rfl) ?_
  refine lv_iconst (v := nI 1) hx hb dL_law_494 ic_1 ?_
  refine lv_iadd hx hb dL_law_495 ?_
  refine va_sld hx hb hX hbl hbA hS hin1 dL_law_496 ?_
  refine roI (va_runV (As := [.int (xs (nI i + nI 1).toNatClampNeg)]) (rest := [.int ra]) ⟨hx, hb, hml, hown, hts⟩ (c_X7_at l D cI cZ cM k0 (f2 1) (f2 2) (f2 3) (f2 4) (f2 5) (f2 6) (f2 7) (nI S) (nI tl) k_fi k_be k_to k_cl k_do k_ro k_ke k_te k_nu (nmA 48) k_no k_tu (xs (nI i + nI 1).toNatClampNeg) ra e2) (cwV 1 hts gL_law_X7_at rfl rfl rfl ⟨rfl, hdc_X7_at⟩ ⟨Nat.le_of_ble_eq_true rfl, Nat.le_of_ble_eq_true rfl⟩) (prV hK hP [99, 100, 101, 102, 103, 104, 105, 106] rfl (ci := 7) (q0 := 99) rfl rfl) rfl rfl hl.1 rfl (lv_room (Nat.le_of_ble_eq_true rfl)) dL_law_497 ⟨Nat.le_of_ble_eq_true rfl, Nat.le_of_ble_eq_true rfl⟩) ?_
  refine lv_icmp_eq (tgt := 729) hx hb dL_law_500 (by decide) (fun _ => ?_) (fun h => absurd rfl h)
  exact kk _ _ (INV_mk N hN hom ho hc hk hH hSR hT1 hT2 hB hP hD hS)
set_option maxHeartbeats 4000000 in
set_option maxRecDepth 100000 in
theorem st_section {p : Program} {l : Launch} {e : Env} {s : State} {m : MethodId} {below : List Frame} {meth : Method} {c : Code} {b L : Nat} {xs : Nat → Int32} {Q : State → Prop} {D : va_G} {cI cZ cM : ClassId} {adK adV : Nat → Nat} {x0 : Nat} {f : Nat → Nat} {k0 : Nat} {f2 : Nat → Nat} {i : Nat} {ls : Array Slot} {H : Heap} {locs : List Loc} (C0 : lw_At p s m meth c b L xs) (hL : L ≤ 2048) (hK : KK D cI cZ cM s) (hE : ENV (fun q : Nat => s.heap.size ≤ q) adK adV s s.heap) (hi3 : i + 3 < L) (hl : lv_has ls 4 [(0, .ref b), (1, .ref x0), (2, .ref k0), (3, .int (nI i))]) (hI : INV D cI cZ cM x0 f k0 f2 (fun q : Nat => s.heap.size ≤ q) s.heap H locs) (kk : ∀ (H1 : Heap) (locs1 : List Loc), INV D cI cZ cM x0 f k0 f2 (fun q : Nat => s.heap.size ≤ q) s.heap H1 locs1 → W p l e room_1 s m #[Value.ref b] below meth c H1 locs1 107 7060 Q (F0 m 729 ls [])) : W p l e room_1 s m #[Value.ref b] below meth c H locs 107 7060 Q (F0 m 505 ls []) := by
  obtain ⟨hx, hb, hr, hml, hown, hts0, hX, hbl, hlocks, hgv⟩ := C0
  have hb : c.code = cL_law := hb
  have hown : s.vm.findClass RL = some m.cls := hown
  have hts : ∀ w ∈ wsL_law, w.before #[Value.ref b] s = true := fun w h => hts0 w (wsL_law_in w h)
  have hA : ∀ q : Nat, s.heap.size ≤ q → (fun q : Nat => s.heap.size ≤ q) q := fun _ h => h
  have hbA : ¬ (fun q : Nat => s.heap.size ≤ q) b := Nat.not_le.mpr hbl
  have hin1 : vp_in (nI i + nI 1) L := by rw [nI_add]; exact vp_in_nI (by omega) (by omega)
  have hin2 : vp_in (nI i + nI 2) L := by rw [nI_add]; exact vp_in_nI (by omega) (by omega)
  obtain ⟨r, T, hist, Y, Z, tl, S, N, o, mm, a_n, a_L, a_U, a_H, a_O, a_B, b_n, b_L, b_U, b_H, b_O, b_B, w_a, t_st, t_nx, t_kd, t_by, r_cl, r_no, u_is, g_rl, g_n, g_ri, g_ne, g_re, g_ts, q_nt, q_iv, q_fd, q_or, q_df, q_se, q_co, q_ch, v_n, v_L, v_U, v_H, v_O, v_B, k_fi, k_be, k_to, k_cl, k_do, k_ro, k_ke, k_te, k_nu, k_no, k_tu, ⟨hom, ho, hc, hk, hH, hSR, hT1, hT2, hB⟩, hP, hD, hS⟩ := hI
  have hN := hH.2.1
  obtain ⟨ra, gn1, ne1, re1, e1, e2⟩ := E_section ho hc hk (Nat.le_refl 1100) g_n g_ne g_re (xs (nI i + nI 1).toNatClampNeg) (xs (nI i + nI 2).toNatClampNeg)
  refine lv_aload_n hx hb dL_law_505 rfl (lv_at hl 1 rfl) ?_
  refine lv_aload_n hx hb dL_law_506 rfl (lv_at hl 0 rfl) ?_
  refine lv_iload_n hx hb dL_law_507 rfl (lv_at hl 3 rfl) ?_
  refine lv_iconst (v := nI 1) hx hb dL_law_508 ic_1 ?_
  refine lv_iadd hx hb dL_law_509 ?_
  refine va_sld hx hb hX hbl hbA hS hin1 dL_law_510 ?_
  refine lv_aload_n hx hb dL_law_511 rfl (lv_at hl 0 rfl) ?_
  refine lv_iload_n hx hb dL_law_512 rfl (lv_at hl 3 rfl) ?_
  refine lv_iconst (v := nI 2) hx hb dL_law_513 ic_2 ?_
  refine lv_iadd hx hb dL_law_514 ?_
  refine va_sld hx hb hX hbl hbA hS hin2 dL_law_515 ?_
  refine muF (w' := (wF cI cZ cM x0 f k0 f2 (hsF f) (usF f) o mm Z a_n a_L a_U a_H a_O a_B b_n b_L b_U b_H b_O b_B w_a (nI tl) t_st t_nx t_kd t_by r_cl r_no (nI S) (nI N) u_is g_rl gn1 g_ri ne1 re1 g_ts q_nt q_iv q_fd q_or q_df q_se q_co q_ch v_n v_L v_U v_H v_O v_B (nI S) (nI tl) k_fi k_be k_to k_cl k_do k_ro k_ke k_te k_nu (nmA 48) k_no k_tu)) (va_runV (As := [.int (xs (nI i + nI 1).toNatClampNeg), .int (xs (nI i + nI 2).toNatClampNeg)]) (rest := []) ⟨hx, hb, hml, hown, hts⟩ (c_X6_section l D cI cZ cM x0 (f 1) (f 2) (f 3) (f 4) (f 5) (f 6) (f 82) (f 83) (f 84) (f 85) (f 86) (f 7) (f 13) (f 14) (f 16) (f 18) (f 68) (f 69) (f 87) _ a_n a_L a_U a_H a_O a_B g_rl g_n g_ri g_ne g_re g_ts (xs (nI i + nI 1).toNatClampNeg) (xs (nI i + nI 2).toNatClampNeg) 1100 ra gn1 ne1 re1 e1) (cwV 2 hts gL_law_X6_section rfl rfl rfl ⟨rfl, hdc_X6_section⟩ ⟨Nat.le_of_ble_eq_true rfl, Nat.le_of_ble_eq_true rfl⟩) (pmV hK hP hD [0, 1, 2, 3, 4, 5, 6, 82, 83, 84, 85, 86] (by decide) rfl rfl (ci := 6) (q0 := 0) rfl rfl) rfl rfl hl.1 rfl (lv_room (Nat.le_of_ble_eq_true rfl)) dL_law_516 ⟨Nat.le_of_ble_eq_true rfl, Nat.le_of_ble_eq_true rfl⟩) hP hD hS hA [0, 1, 2, 3, 4, 5, 6, 82, 83, 84, 85, 86] rfl rfl ?_ (fun H locs hP hD hS => ?_)
  · repeat (first | exact sX_n | refine sX_e ?_ | refine sX_c rfl (by decide) ?_)
  refine lv_aload_n hx hb dL_law_519 rfl (lv_at hl 2 rfl) ?_
  refine lv_aload_n hx hb dL_law_520 rfl (lv_at hl 0 rfl) ?_
  refine lv_iload_n hx hb dL_law_521 rfl (lv_at hl 3 rfl) ?_
  refine lv_iconst (v := nI 1) hx hb dL_law_522 ic_1 ?_
  refine lv_iadd hx hb dL_law_523 ?_
  refine va_sld hx hb hX hbl hbA hS hin1 dL_law_524 ?_
  refine lv_aload_n hx hb dL_law_525 rfl (lv_at hl 0 rfl) ?_
  refine lv_iload_n hx hb dL_law_526 rfl (lv_at hl 3 rfl) ?_
  refine lv_iconst (v := nI 2) hx hb dL_law_527 ic_2 ?_
  refine lv_iadd hx hb dL_law_528 ?_
  refine va_sld hx hb hX hbl hbA hS hin2 dL_law_529 ?_
  refine roI (va_runV (As := [.int (xs (nI i + nI 1).toNatClampNeg), .int (xs (nI i + nI 2).toNatClampNeg)]) (rest := [.int ra]) ⟨hx, hb, hml, hown, hts⟩ (c_X7_section l D cI cZ cM k0 (f2 1) (f2 2) (f2 3) (f2 4) (f2 5) (f2 6) (f2 7) (nI S) (nI tl) k_fi k_be k_to k_cl k_do k_ro k_ke k_te k_nu (nmA 48) k_no k_tu (xs (nI i + nI 1).toNatClampNeg) (xs (nI i + nI 2).toNatClampNeg) 1100 ra e2) (cwV 2 hts gL_law_X7_section rfl rfl rfl ⟨rfl, hdc_X7_section⟩ ⟨Nat.le_of_ble_eq_true rfl, Nat.le_of_ble_eq_true rfl⟩) (prV hK hP [99, 100, 101, 102, 103, 104, 105, 106] rfl (ci := 7) (q0 := 99) rfl rfl) rfl rfl hl.1 rfl (lv_room (Nat.le_of_ble_eq_true rfl)) dL_law_530 ⟨Nat.le_of_ble_eq_true rfl, Nat.le_of_ble_eq_true rfl⟩) ?_
  refine lv_icmp_eq (tgt := 729) hx hb dL_law_533 (by decide) (fun _ => ?_) (fun h => absurd rfl h)
  exact kk _ _ (INV_mk N hN hom ho hc hk hH hSR hT1 hT2 hB hP hD hS)
set_option maxHeartbeats 4000000 in
set_option maxRecDepth 100000 in
theorem st_term {p : Program} {l : Launch} {e : Env} {s : State} {m : MethodId} {below : List Frame} {meth : Method} {c : Code} {b L : Nat} {xs : Nat → Int32} {Q : State → Prop} {D : va_G} {cI cZ cM : ClassId} {adK adV : Nat → Nat} {x0 : Nat} {f : Nat → Nat} {k0 : Nat} {f2 : Nat → Nat} {i : Nat} {ls : Array Slot} {H : Heap} {locs : List Loc} (C0 : lw_At p s m meth c b L xs) (hL : L ≤ 2048) (hK : KK D cI cZ cM s) (hE : ENV (fun q : Nat => s.heap.size ≤ q) adK adV s s.heap) (hi3 : i + 3 < L) (hl : lv_has ls 4 [(0, .ref b), (1, .ref x0), (2, .ref k0), (3, .int (nI i))]) (hI : INV D cI cZ cM x0 f k0 f2 (fun q : Nat => s.heap.size ≤ q) s.heap H locs) (kk : ∀ (H1 : Heap) (locs1 : List Loc), INV D cI cZ cM x0 f k0 f2 (fun q : Nat => s.heap.size ≤ q) s.heap H1 locs1 → W p l e room_1 s m #[Value.ref b] below meth c H1 locs1 107 7060 Q (F0 m 729 ls [])) : W p l e room_1 s m #[Value.ref b] below meth c H locs 107 7060 Q (F0 m 538 ls []) := by
  obtain ⟨hx, hb, hr, hml, hown, hts0, hX, hbl, hlocks, hgv⟩ := C0
  have hb : c.code = cL_law := hb
  have hown : s.vm.findClass RL = some m.cls := hown
  have hts : ∀ w ∈ wsL_law, w.before #[Value.ref b] s = true := fun w h => hts0 w (wsL_law_in w h)
  have hA : ∀ q : Nat, s.heap.size ≤ q → (fun q : Nat => s.heap.size ≤ q) q := fun _ h => h
  have hbA : ¬ (fun q : Nat => s.heap.size ≤ q) b := Nat.not_le.mpr hbl
  have hin1 : vp_in (nI i + nI 1) L := by rw [nI_add]; exact vp_in_nI (by omega) (by omega)
  have hin2 : vp_in (nI i + nI 2) L := by rw [nI_add]; exact vp_in_nI (by omega) (by omega)
  obtain ⟨r, T, hist, Y, Z, tl, S, N, o, mm, a_n, a_L, a_U, a_H, a_O, a_B, b_n, b_L, b_U, b_H, b_O, b_B, w_a, t_st, t_nx, t_kd, t_by, r_cl, r_no, u_is, g_rl, g_n, g_ri, g_ne, g_re, g_ts, q_nt, q_iv, q_fd, q_or, q_df, q_se, q_co, q_ch, v_n, v_L, v_U, v_H, v_O, v_B, k_fi, k_be, k_to, k_cl, k_do, k_ro, k_ke, k_te, k_nu, k_no, k_tu, ⟨hom, ho, hc, hk, hH, hSR, hT1, hT2, hB⟩, hP, hD, hS⟩ := hI
  have hN := hH.2.1
  obtain ⟨ra, e1, e2⟩ := E_term ho hc hk (Nat.le_refl 1100) (xs (nI i + nI 1).toNatClampNeg) (xs (nI i + nI 2).toNatClampNeg)
  refine lv_aload_n hx hb dL_law_538 rfl (lv_at hl 1 rfl) ?_
  refine lv_aload_n hx hb dL_law_539 rfl (lv_at hl 0 rfl) ?_
  refine lv_iload_n hx hb dL_law_540 rfl (lv_at hl 3 rfl) ?_
  refine lv_iconst (v := nI 1) hx hb dL_law_541 ic_1 ?_
  refine lv_iadd hx hb dL_law_542 ?_
  refine va_sld hx hb hX hbl hbA hS hin1 dL_law_543 ?_
  refine lv_aload_n hx hb dL_law_544 rfl (lv_at hl 0 rfl) ?_
  refine lv_iload_n hx hb dL_law_545 rfl (lv_at hl 3 rfl) ?_
  refine lv_iconst (v := nI 2) hx hb dL_law_546 ic_2 ?_
  refine lv_iadd hx hb dL_law_547 ?_
  refine va_sld hx hb hX hbl hbA hS hin2 dL_law_548 ?_
  refine roI (va_runV (As := [.int (xs (nI i + nI 1).toNatClampNeg), .int (xs (nI i + nI 2).toNatClampNeg)]) (rest := []) ⟨hx, hb, hml, hown, hts⟩ (c_X6_term l D cI cZ cM x0 (f 1) (f 2) (f 3) (f 4) (f 5) (f 6) (f 7) (f 13) (f 14) (f 16) (f 18) (f 68) (f 69) (f 82) (f 87) a_n a_L a_U a_H a_O a_B (xs (nI i + nI 1).toNatClampNeg) (xs (nI i + nI 2).toNatClampNeg) 1100 ra e1) (cwV 2 hts gL_law_X6_term rfl rfl rfl ⟨rfl, hdc_X6_term⟩ ⟨Nat.le_of_ble_eq_true rfl, Nat.le_of_ble_eq_true rfl⟩) (prV hK hP [0, 1, 2, 3, 4, 5, 6] rfl (ci := 6) (q0 := 0) rfl rfl) rfl rfl hl.1 rfl (lv_room (Nat.le_of_ble_eq_true rfl)) dL_law_549 ⟨Nat.le_of_ble_eq_true rfl, Nat.le_of_ble_eq_true rfl⟩) ?_
  refine lv_aload_n hx hb dL_law_552 rfl (lv_at hl 2 rfl) ?_
  refine lv_aload_n hx hb dL_law_553 rfl (lv_at hl 0 rfl) ?_
  refine lv_iload_n hx hb dL_law_554 rfl (lv_at hl 3 rfl) ?_
  refine lv_iconst (v := nI 1) hx hb dL_law_555 ic_1 ?_
  refine lv_iadd hx hb dL_law_556 ?_
  refine va_sld hx hb hX hbl hbA hS hin1 dL_law_557 ?_
  refine lv_aload_n hx hb dL_law_558 rfl (lv_at hl 0 rfl) ?_
  refine lv_iload_n hx hb dL_law_559 rfl (lv_at hl 3 rfl) ?_
  refine lv_iconst (v := nI 2) hx hb dL_law_560 ic_2 ?_
  refine lv_iadd hx hb dL_law_561 ?_
  refine va_sld hx hb hX hbl hbA hS hin2 dL_law_562 ?_
  refine roI (va_runV (As := [.int (xs (nI i + nI 1).toNatClampNeg), .int (xs (nI i + nI 2).toNatClampNeg)]) (rest := [.int ra]) ⟨hx, hb, hml, hown, hts⟩ (c_X7_term l D cI cZ cM k0 (f2 1) (f2 2) (f2 3) (f2 4) (f2 5) (f2 6) (f2 7) (nI S) (nI tl) k_fi k_be k_to k_cl k_do k_ro k_ke k_te k_nu (nmA 48) k_no k_tu (xs (nI i + nI 1).toNatClampNeg) (xs (nI i + nI 2).toNatClampNeg) 1100 ra e2) (cwV 2 hts gL_law_X7_term rfl rfl rfl ⟨rfl, hdc_X7_term⟩ ⟨Nat.le_of_ble_eq_true rfl, Nat.le_of_ble_eq_true rfl⟩) (prV hK hP [99, 100, 101, 102, 103, 104, 105, 106] rfl (ci := 7) (q0 := 99) rfl rfl) rfl rfl hl.1 rfl (lv_room (Nat.le_of_ble_eq_true rfl)) dL_law_563 ⟨Nat.le_of_ble_eq_true rfl, Nat.le_of_ble_eq_true rfl⟩) ?_
  refine lv_icmp_eq (tgt := 729) hx hb dL_law_566 (by decide) (fun _ => ?_) (fun h => absurd rfl h)
  exact kk _ _ (INV_mk N hN hom ho hc hk hH hSR hT1 hT2 hB hP hD hS)
set_option maxHeartbeats 4000000 in
set_option maxRecDepth 100000 in
theorem st_ring {p : Program} {l : Launch} {e : Env} {s : State} {m : MethodId} {below : List Frame} {meth : Method} {c : Code} {b L : Nat} {xs : Nat → Int32} {Q : State → Prop} {D : va_G} {cI cZ cM : ClassId} {adK adV : Nat → Nat} {x0 : Nat} {f : Nat → Nat} {k0 : Nat} {f2 : Nat → Nat} {i : Nat} {ls : Array Slot} {H : Heap} {locs : List Loc} (C0 : lw_At p s m meth c b L xs) (hL : L ≤ 2048) (hK : KK D cI cZ cM s) (hE : ENV (fun q : Nat => s.heap.size ≤ q) adK adV s s.heap) (hi3 : i + 3 < L) (hl : lv_has ls 4 [(0, .ref b), (1, .ref x0), (2, .ref k0), (3, .int (nI i))]) (hI : INV D cI cZ cM x0 f k0 f2 (fun q : Nat => s.heap.size ≤ q) s.heap H locs) (kk : ∀ (H1 : Heap) (locs1 : List Loc), INV D cI cZ cM x0 f k0 f2 (fun q : Nat => s.heap.size ≤ q) s.heap H1 locs1 → W p l e room_1 s m #[Value.ref b] below meth c H1 locs1 107 7060 Q (F0 m 729 ls [])) : W p l e room_1 s m #[Value.ref b] below meth c H locs 107 7060 Q (F0 m 571 ls []) := by
  obtain ⟨hx, hb, hr, hml, hown, hts0, hX, hbl, hlocks, hgv⟩ := C0
  have hb : c.code = cL_law := hb
  have hown : s.vm.findClass RL = some m.cls := hown
  have hts : ∀ w ∈ wsL_law, w.before #[Value.ref b] s = true := fun w h => hts0 w (wsL_law_in w h)
  have hA : ∀ q : Nat, s.heap.size ≤ q → (fun q : Nat => s.heap.size ≤ q) q := fun _ h => h
  have hbA : ¬ (fun q : Nat => s.heap.size ≤ q) b := Nat.not_le.mpr hbl
  have hin1 : vp_in (nI i + nI 1) L := by rw [nI_add]; exact vp_in_nI (by omega) (by omega)
  obtain ⟨r, T, hist, Y, Z, tl, S, N, o, mm, a_n, a_L, a_U, a_H, a_O, a_B, b_n, b_L, b_U, b_H, b_O, b_B, w_a, t_st, t_nx, t_kd, t_by, r_cl, r_no, u_is, g_rl, g_n, g_ri, g_ne, g_re, g_ts, q_nt, q_iv, q_fd, q_or, q_df, q_se, q_co, q_ch, v_n, v_L, v_U, v_H, v_O, v_B, k_fi, k_be, k_to, k_cl, k_do, k_ro, k_ke, k_te, k_nu, k_no, k_tu, ⟨hom, ho, hc, hk, hH, hSR, hT1, hT2, hB⟩, hP, hD, hS⟩ := hI
  have hN := hH.2.1
  obtain ⟨ra, rl1, gn1, ri1, ne1, re1, ts1, e1, e2⟩ := E_ring ho hc hk (Nat.le_refl 1100) g_rl g_n g_ri g_ne g_re g_ts (xs (nI i + nI 1).toNatClampNeg)
  refine lv_aload_n hx hb dL_law_571 rfl (lv_at hl 1 rfl) ?_
  refine lv_aload_n hx hb dL_law_572 rfl (lv_at hl 0 rfl) ?_
  refine lv_iload_n hx hb dL_law_573 rfl (lv_at hl 3 rfl) ?_
  refine lv_iconst (v := nI 1) hx hb dL_law_574 ic_1 ?_
  refine lv_iadd hx hb dL_law_575 ?_
  refine va_sld hx hb hX hbl hbA hS hin1 dL_law_576 ?_
  refine muF (w' := (wF cI cZ cM x0 f k0 f2 (hsF f) (usF f) o mm Z a_n a_L a_U a_H a_O a_B b_n b_L b_U b_H b_O b_B w_a (nI tl) t_st t_nx t_kd t_by r_cl r_no (nI S) (nI N) u_is rl1 gn1 ri1 ne1 re1 ts1 q_nt q_iv q_fd q_or q_df q_se q_co q_ch v_n v_L v_U v_H v_O v_B (nI S) (nI tl) k_fi k_be k_to k_cl k_do k_ro k_ke k_te k_nu (nmA 48) k_no k_tu)) (va_runV (As := [.int (xs (nI i + nI 1).toNatClampNeg)]) (rest := []) ⟨hx, hb, hml, hown, hts⟩ (c_X6_ring l D cI cZ cM x0 (f 1) (f 2) (f 3) (f 4) (f 5) (f 6) (f 82) (f 83) (f 84) (f 85) (f 86) (f 7) (f 13) (f 14) (f 16) (f 18) (f 68) (f 69) (f 87) _ a_n a_L a_U a_H a_O a_B g_rl g_n g_ri g_ne g_re g_ts (xs (nI i + nI 1).toNatClampNeg) 1100 ra rl1 gn1 ri1 ne1 re1 ts1 e1) (cwV 1 hts gL_law_X6_ring rfl rfl rfl ⟨rfl, hdc_X6_ring⟩ ⟨Nat.le_of_ble_eq_true rfl, Nat.le_of_ble_eq_true rfl⟩) (pmV hK hP hD [0, 1, 2, 3, 4, 5, 6, 82, 83, 84, 85, 86] (by decide) rfl rfl (ci := 6) (q0 := 0) rfl rfl) rfl rfl hl.1 rfl (lv_room (Nat.le_of_ble_eq_true rfl)) dL_law_577 ⟨Nat.le_of_ble_eq_true rfl, Nat.le_of_ble_eq_true rfl⟩) hP hD hS hA [0, 1, 2, 3, 4, 5, 6, 82, 83, 84, 85, 86] rfl rfl ?_ (fun H locs hP hD hS => ?_)
  · repeat (first | exact sX_n | refine sX_e ?_ | refine sX_c rfl (by decide) ?_)
  refine lv_aload_n hx hb dL_law_580 rfl (lv_at hl 2 rfl) ?_
  refine lv_aload_n hx hb dL_law_581 rfl (lv_at hl 0 rfl) ?_
  refine lv_iload_n hx hb dL_law_582 rfl (lv_at hl 3 rfl) ?_
  refine lv_iconst (v := nI 1) hx hb dL_law_583 ic_1 ?_
  refine lv_iadd hx hb dL_law_584 ?_
  refine va_sld hx hb hX hbl hbA hS hin1 dL_law_585 ?_
  refine roI (va_runV (As := [.int (xs (nI i + nI 1).toNatClampNeg)]) (rest := [.int ra]) ⟨hx, hb, hml, hown, hts⟩ (c_X7_ring l D cI cZ cM k0 (f2 1) (f2 2) (f2 3) (f2 4) (f2 5) (f2 6) (f2 7) (nI S) (nI tl) k_fi k_be k_to k_cl k_do k_ro k_ke k_te k_nu (nmA 48) k_no k_tu (xs (nI i + nI 1).toNatClampNeg) 1100 ra e2) (cwV 1 hts gL_law_X7_ring rfl rfl rfl ⟨rfl, hdc_X7_ring⟩ ⟨Nat.le_of_ble_eq_true rfl, Nat.le_of_ble_eq_true rfl⟩) (prV hK hP [99, 100, 101, 102, 103, 104, 105, 106] rfl (ci := 7) (q0 := 99) rfl rfl) rfl rfl hl.1 rfl (lv_room (Nat.le_of_ble_eq_true rfl)) dL_law_586 ⟨Nat.le_of_ble_eq_true rfl, Nat.le_of_ble_eq_true rfl⟩) ?_
  refine lv_icmp_eq (tgt := 729) hx hb dL_law_589 (by decide) (fun _ => ?_) (fun h => absurd rfl h)
  exact kk _ _ (INV_mk N hN hom ho hc hk hH hSR hT1 hT2 hB hP hD hS)
