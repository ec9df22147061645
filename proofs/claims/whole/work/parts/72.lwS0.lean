set_option maxHeartbeats 4000000 in
set_option maxRecDepth 100000 in
theorem st_write {p : Program} {l : Launch} {e : Env} {s : State} {m : MethodId} {below : List Frame} {meth : Method} {c : Code} {b L : Nat} {xs : Nat → Int32} {Q : State → Prop} {D : va_G} {cI cZ cM : ClassId} {adK adV : Nat → Nat} {x0 : Nat} {f : Nat → Nat} {k0 : Nat} {f2 : Nat → Nat} {i : Nat} {ls : Array Slot} {H : Heap} {locs : List Loc} (C0 : lw_At p s m meth c b L xs) (hL : L ≤ 2048) (hK : KK D cI cZ cM s) (hE : ENV (fun q : Nat => s.heap.size ≤ q) adK adV s s.heap) (hi3 : i + 3 < L) (hl : lv_has ls 4 [(0, .ref b), (1, .ref x0), (2, .ref k0), (3, .int (nI i))]) (hI : INV D cI cZ cM x0 f k0 f2 (fun q : Nat => s.heap.size ≤ q) s.heap H locs) (kk : ∀ (H1 : Heap) (locs1 : List Loc), INV D cI cZ cM x0 f k0 f2 (fun q : Nat => s.heap.size ≤ q) s.heap H1 locs1 → W p l e room_1 s m #[Value.ref b] below meth c H1 locs1 107 7060 Q (F0 m 729 ls [])) : W p l e room_1 s m #[Value.ref b] below meth c H locs 107 7060 Q (F0 m 140 ls []) := by
  obtain ⟨hx, hb, hr, hml, hown, hts0, hX, hbl, hlocks, hgv⟩ := C0
  have hb : c.code = cL_law := hb
  have hown : s.vm.findClass RL = some m.cls := hown
  have hts : ∀ w ∈ wsL_law, w.before #[Value.ref b] s = true := fun w h => hts0 w (wsL_law_in w h)
  have hA : ∀ q : Nat, s.heap.size ≤ q → (fun q : Nat => s.heap.size ≤ q) q := fun _ h => h
  have hbA : ¬ (fun q : Nat => s.heap.size ≤ q) b := Nat.not_le.mpr hbl
  have hin1 : vp_in (nI i + nI 1) L := by rw [nI_add]; exact vp_in_nI (by omega) (by omega)
  obtain ⟨r, T, hist, Y, Z, tl, S, N, o, mm, a_n, a_L, a_U, a_H, a_O, a_B, b_n, b_L, b_U, b_H, b_O, b_B, w_a, t_st, t_nx, t_kd, t_by, r_cl, r_no, u_is, g_rl, g_n, g_ri, g_ne, g_re, g_ts, q_nt, q_iv, q_fd, q_or, q_df, q_se, q_co, q_ch, v_n, v_L, v_U, v_H, v_O, v_B, k_fi, k_be, k_to, k_cl, k_do, k_ro, k_ke, k_te, k_nu, k_no, k_tu, ⟨hom, ho, hc, hk, hH, hSR, hT1, hT2, hB⟩, hP, hD, hS⟩ := hI
  have hN := hH.2.1
  obtain ⟨ra, tl2, T2, tb2, te2, e1, e2, hU1, hU2⟩ := E_write hT1 hT2 (xs (nI i + nI 1).toNatClampNeg)
  refine lv_aload_n hx hb dL_law_140 rfl (lv_at hl 1 rfl) ?_
  refine lv_aload_n hx hb dL_law_141 rfl (lv_at hl 0 rfl) ?_
  refine lv_iload_n hx hb dL_law_142 rfl (lv_at hl 3 rfl) ?_
  refine lv_iconst (v := nI 1) hx hb dL_law_143 ic_1 ?_
  refine lv_iadd hx hb dL_law_144 ?_
  refine va_sld hx hb hX hbl hbA hS hin1 dL_law_145 ?_
  refine muF (w' := (wF cI cZ cM x0 f k0 f2 (hsF f) (usF f) o mm Z a_n a_L a_U a_H a_O a_B b_n b_L b_U b_H b_O b_B w_a (nI tl2) t_st t_nx t_kd tb2 r_cl r_no (nI S) (nI N) u_is g_rl g_n g_ri g_ne g_re g_ts q_nt q_iv q_fd q_or q_df q_se q_co q_ch v_n v_L v_U v_H v_O v_B (nI S) (nI tl) k_fi k_be k_to k_cl k_do k_ro k_ke k_te k_nu (nmA 48) k_no k_tu)) (va_runV (As := [.int (xs (nI i + nI 1).toNatClampNeg)]) (rest := []) ⟨hx, hb, hml, hown, hts⟩ (c_X6_write l D cI cZ cM x0 (f 14) (f 15) (f 1) (f 7) (f 13) (f 16) (f 18) (f 68) (f 69) (f 82) (f 87) _ (nI tl) t_st t_nx t_kd t_by (xs (nI i + nI 1).toNatClampNeg) ra (nI tl2) tb2 e1) (cwV 1 hts gL_law_X6_write rfl rfl rfl ⟨rfl, hdc_X6_write⟩ ⟨Nat.le_of_ble_eq_true rfl, Nat.le_of_ble_eq_true rfl⟩) (pmV hK hP hD [0, 14, 15] (by decide) rfl rfl (ci := 6) (q0 := 0) rfl rfl) rfl rfl hl.1 rfl (lv_room (Nat.le_of_ble_eq_true rfl)) dL_law_146 ⟨Nat.le_of_ble_eq_true rfl, Nat.le_of_ble_eq_true rfl⟩) hP hD hS hA [0, 14, 15] rfl rfl ?_ (fun H locs hP hD hS => ?_)
  · repeat (first | exact sX_n | refine sX_e ?_ | refine sX_c rfl (by decide) ?_)
  refine lv_aload_n hx hb dL_law_149 rfl (lv_at hl 2 rfl) ?_
  refine lv_aload_n hx hb dL_law_150 rfl (lv_at hl 0 rfl) ?_
  refine lv_iload_n hx hb dL_law_151 rfl (lv_at hl 3 rfl) ?_
  refine lv_iconst (v := nI 1) hx hb dL_law_152 ic_1 ?_
  refine lv_iadd hx hb dL_law_153 ?_
  refine va_sld hx hb hX hbl hbA hS hin1 dL_law_154 ?_
  refine muF (w' := (wF cI cZ cM x0 f k0 f2 (hsF f) (usF f) o mm Z a_n a_L a_U a_H a_O a_B b_n b_L b_U b_H b_O b_B w_a (nI tl2) t_st t_nx t_kd tb2 r_cl r_no (nI S) (nI N) u_is g_rl g_n g_ri g_ne g_re g_ts q_nt q_iv q_fd q_or q_df q_se q_co q_ch v_n v_L v_U v_H v_O v_B (nI S) (nI tl2) k_fi k_be k_to k_cl k_do k_ro k_ke te2 k_nu (nmA 48) k_no k_tu)) (va_runV (As := [.int (xs (nI i + nI 1).toNatClampNeg)]) (rest := [.int ra]) ⟨hx, hb, hml, hown, hts⟩ (c_X7_write l D cI cZ cM k0 (f2 1) (f2 2) (f2 3) (f2 4) (f2 5) (f2 6) (f2 7) _ (nI S) (nI tl) k_fi k_be k_to k_cl k_do k_ro k_ke k_te k_nu (nmA 48) k_no k_tu (xs (nI i + nI 1).toNatClampNeg) ra (nI tl2) te2 e2) (cwV 1 hts gL_law_X7_write rfl rfl rfl ⟨rfl, hdc_X7_write⟩ ⟨Nat.le_of_ble_eq_true rfl, Nat.le_of_ble_eq_true rfl⟩) (pmV hK hP hD [99, 100, 101, 102, 103, 104, 105, 106] (by decide) rfl rfl (ci := 7) (q0 := 99) rfl rfl) rfl rfl hl.1 rfl (lv_room (Nat.le_of_ble_eq_true rfl)) dL_law_155 ⟨Nat.le_of_ble_eq_true rfl, Nat.le_of_ble_eq_true rfl⟩) hP hD hS hA [99, 100, 101, 102, 103, 104, 105, 106] rfl rfl ?_ (fun H locs hP hD hS => ?_)
  · repeat (first | exact sX_n | refine sX_e ?_ | refine sX_c rfl (by decide) ?_)
  refine lv_icmp_eq (tgt := 729) hx hb dL_law_158 (by decide) (fun _ => ?_) (fun h => absurd rfl h)
  exact kk _ _ (INV_mk N hN hom ho hc hk hH hSR hU1 hU2 hB hP hD hS)
set_option maxHeartbeats 4000000 in
set_option maxRecDepth 100000 in
theorem st_erase {p : Program} {l : Launch} {e : Env} {s : State} {m : MethodId} {below : List Frame} {meth : Method} {c : Code} {b L : Nat} {xs : Nat → Int32} {Q : State → Prop} {D : va_G} {cI cZ cM : ClassId} {adK adV : Nat → Nat} {x0 : Nat} {f : Nat → Nat} {k0 : Nat} {f2 : Nat → Nat} {i : Nat} {ls : Array Slot} {H : Heap} {locs : List Loc} (C0 : lw_At p s m meth c b L xs) (hL : L ≤ 2048) (hK : KK D cI cZ cM s) (hE : ENV (fun q : Nat => s.heap.size ≤ q) adK adV s s.heap) (hi3 : i + 3 < L) (hl : lv_has ls 4 [(0, .ref b), (1, .ref x0), (2, .ref k0), (3, .int (nI i))]) (hI : INV D cI cZ cM x0 f k0 f2 (fun q : Nat => s.heap.size ≤ q) s.heap H locs) (kk : ∀ (H1 : Heap) (locs1 : List Loc), INV D cI cZ cM x0 f k0 f2 (fun q : Nat => s.heap.size ≤ q) s.heap H1 locs1 → W p l e room_1 s m #[Value.ref b] below meth c H1 locs1 107 7060 Q (F0 m 729 ls [])) : W p l e room_1 s m #[Value.ref b] below meth c H locs 107 7060 Q (F0 m 163 ls []) := by
  obtain ⟨hx, hb, hr, hml, hown, hts0, hX, hbl, hlocks, hgv⟩ := C0
  have hb : c.code = cL_law := hb
  have hown : s.vm.findClass RL = some m.cls := hown
  have hts : ∀ w ∈ wsL_law, w.before #[Value.ref b] s = true := fun w h => hts0 w (wsL_law_in w h)
  have hA : ∀ q : Nat, s.heap.size ≤ q → (fun q : Nat => s.heap.size ≤ q) q := fun _ h => h
  have hbA : ¬ (fun q : Nat => s.heap.size ≤ q) b := Nat.not_le.mpr hbl
  obtain ⟨r, T, hist, Y, Z, tl, S, N, o, mm, a_n, a_L, a_U, a_H, a_O, a_B, b_n, b_L, b_U, b_H, b_O, b_B, w_a, t_st, t_nx, t_kd, t_by, r_cl, r_no, u_is, g_rl, g_n, g_ri, g_ne, g_re, g_ts, q_nt, q_iv, q_fd, q_or, q_df, q_se, q_co, q_ch, v_n, v_L, v_U, v_H, v_O, v_B, k_fi, k_be, k_to, k_cl, k_do, k_ro, k_ke, k_te, k_nu, k_no, k_tu, ⟨hom, ho, hc, hk, hH, hSR, hT1, hT2, hB⟩, hP, hD, hS⟩ := hI
  have hN := hH.2.1
  obtain ⟨e1, e2⟩ := E_erase (nI tl)
  refine lv_aload_n hx hb dL_law_163 rfl (lv_at hl 1 rfl) ?_
  refine muF (w' := (wF cI cZ cM x0 f k0 f2 (hsF f) (usF f) o mm Z a_n a_L a_U a_H a_O a_B b_n b_L b_U b_H b_O b_B w_a (nI 0) t_st t_nx t_kd t_by r_cl r_no (nI S) (nI N) u_is g_rl g_n g_ri g_ne g_re g_ts q_nt q_iv q_fd q_or q_df q_se q_co q_ch v_n v_L v_U v_H v_O v_B (nI S) (nI tl) k_fi k_be k_to k_cl k_do k_ro k_ke k_te k_nu (nmA 48) k_no k_tu)) (va_runV (As := []) (rest := []) ⟨hx, hb, hml, hown, hts⟩ (c_X6_erase l D cI cZ cM x0 (f 14) (f 15) (f 1) (f 7) (f 13) (f 16) (f 18) (f 68) (f 69) (f 82) (f 87) _ (nI tl) t_st t_nx t_kd t_by (nI tl) (nI 0) e1) (cwV 0 hts gL_law_X6_erase rfl rfl rfl ⟨rfl, hdc_X6_erase⟩ ⟨Nat.le_of_ble_eq_true rfl, Nat.le_of_ble_eq_true rfl⟩) (pmV hK hP hD [0, 14, 15] (by decide) rfl rfl (ci := 6) (q0 := 0) rfl rfl) rfl rfl hl.1 rfl (lv_room (Nat.le_of_ble_eq_true rfl)) dL_law_164 ⟨Nat.le_of_ble_eq_true rfl, Nat.le_of_ble_eq_true rfl⟩) hP hD hS hA [0, 14, 15] rfl rfl ?_ (fun H locs hP hD hS => ?_)
  · repeat (first | exact sX_n | refine sX_e ?_ | refine sX_c rfl (by decide) ?_)
  refine lv_aload_n hx hb dL_law_167 rfl (lv_at hl 2 rfl) ?_
  refine muF (w' := (wF cI cZ cM x0 f k0 f2 (hsF f) (usF f) o mm Z a_n a_L a_U a_H a_O a_B b_n b_L b_U b_H b_O b_B w_a (nI 0) t_st t_nx t_kd t_by r_cl r_no (nI S) (nI N) u_is g_rl g_n g_ri g_ne g_re g_ts q_nt q_iv q_fd q_or q_df q_se q_co q_ch v_n v_L v_U v_H v_O v_B (nI S) (nI 0) k_fi k_be k_to k_cl k_do k_ro k_ke k_te k_nu (nmA 48) k_no k_tu)) (va_runV (As := []) (rest := [.int (nI tl)]) ⟨hx, hb, hml, hown, hts⟩ (c_X7_erase l D cI cZ cM k0 (f2 1) (f2 2) (f2 3) (f2 4) (f2 5) (f2 6) (f2 7) _ (nI S) (nI tl) k_fi k_be k_to k_cl k_do k_ro k_ke k_te k_nu (nmA 48) k_no k_tu (nI tl) (nI 0) e2) (cwV 0 hts gL_law_X7_erase rfl rfl rfl ⟨rfl, hdc_X7_erase⟩ ⟨Nat.le_of_ble_eq_true rfl, Nat.le_of_ble_eq_true rfl⟩) (pmV hK hP hD [99, 100, 101, 102, 103, 104, 105, 106] (by decide) rfl rfl (ci := 7) (q0 := 99) rfl rfl) rfl rfl hl.1 rfl (lv_room (Nat.le_of_ble_eq_true rfl)) dL_law_168 ⟨Nat.le_of_ble_eq_true rfl, Nat.le_of_ble_eq_true rfl⟩) hP hD hS hA [99, 100, 101, 102, 103, 104, 105, 106] rfl rfl ?_ (fun H locs hP hD hS => ?_)
  · repeat (first | exact sX_n | refine sX_e ?_ | refine sX_c rfl (by decide) ?_)
  refine lv_icmp_eq (tgt := 729) hx hb dL_law_171 (by decide) (fun _ => ?_) (fun h => absurd rfl h)
  exact kk _ _ (INV_mk N hN hom ho hc hk hH hSR (TX_0 (T := T) t_by) (TX_0 (T := T) k_te) hB hP hD hS)
set_option maxHeartbeats 4000000 in
set_option maxRecDepth 100000 in
theorem st_fault {p : Program} {l : Launch} {e : Env} {s : State} {m : MethodId} {below : List Frame} {meth : Method} {c : Code} {b L : Nat} {xs : Nat → Int32} {Q : State → Prop} {D : va_G} {cI cZ cM : ClassId} {adK adV : Nat → Nat} {x0 : Nat} {f : Nat → Nat} {k0 : Nat} {f2 : Nat → Nat} {i : Nat} {ls : Array Slot} {H : Heap} {locs : List Loc} (C0 : lw_At p s m meth c b L xs) (hL : L ≤ 2048) (hK : KK D cI cZ cM s) (hE : ENV (fun q : Nat => s.heap.size ≤ q) adK adV s s.heap) (hi3 : i + 3 < L) (hl : lv_has ls 4 [(0, .ref b), (1, .ref x0), (2, .ref k0), (3, .int (nI i))]) (hI : INV D cI cZ cM x0 f k0 f2 (fun q : Nat => s.heap.size ≤ q) s.heap H locs) (kk : ∀ (H1 : Heap) (locs1 : List Loc), INV D cI cZ cM x0 f k0 f2 (fun q : Nat => s.heap.size ≤ q) s.heap H1 locs1 → W p l e room_1 s m #[Value.ref b] below meth c H1 locs1 107 7060 Q (F0 m 729 ls [])) : W p l e room_1 s m #[Value.ref b] below meth c H locs 107 7060 Q (F0 m 176 ls []) := by
  obtain ⟨hx, hb, hr, hml, hown, hts0, hX, hbl, hlocks, hgv⟩ := C0
  have hb : c.code = cL_law := hb
  have hown : s.vm.findClass RL = some m.cls := hown
  have hts : ∀ w ∈ wsL_law, w.before #[Value.ref b] s = true := fun w h => hts0 w (wsL_law_in w h)
  have hA : ∀ q : Nat, s.heap.size ≤ q → (fun q : Nat => s.heap.size ≤ q) q := fun _ h => h
  have hbA : ¬ (fun q : Nat => s.heap.size ≤ q) b := Nat.not_le.mpr hbl
  obtain ⟨r, T, hist, Y, Z, tl, S, N, o, mm, a_n, a_L, a_U, a_H, a_O, a_B, b_n, b_L, b_U, b_H, b_O, b_B, w_a, t_st, t_nx, t_kd, t_by, r_cl, r_no, u_is, g_rl, g_n, g_ri, g_ne, g_re, g_ts, q_nt, q_iv, q_fd, q_or, q_df, q_se, q_co, q_ch, v_n, v_L, v_U, v_H, v_O, v_B, k_fi, k_be, k_to, k_cl, k_do, k_ro, k_ke, k_te, k_nu, k_no, k_tu, ⟨hom, ho, hc, hk, hH, hSR, hT1, hT2, hB⟩, hP, hD, hS⟩ := hI
  have hN := hH.2.1
  obtain ⟨ra, bn1, bL1, bU1, bH1, bO1, bB1, cl1, no1, st1, nx1, kd1, fi1, be1, to1, c21, d1, nu1, e1, e2⟩ := E_fault hT1 hT2 ho hc hk (Nat.le_refl 1100) b_L b_U b_H b_O b_B r_cl r_no t_st t_kd k_nu
  refine lv_aload_n hx hb dL_law_176 rfl (lv_at hl 1 rfl) ?_
  refine muF (w' := (wF cI cZ cM x0 f k0 f2 (hsF f) (usF f) o mm Z a_n a_L a_U a_H a_O a_B bn1 bL1 bU1 bH1 bO1 bB1 w_a (nI tl) st1 nx1 kd1 t_by cl1 no1 (nI S) (nI N) u_is g_rl g_n g_ri g_ne g_re g_ts q_nt q_iv q_fd q_or q_df q_se q_co q_ch v_n v_L v_U v_H v_O v_B (nI S) (nI tl) k_fi k_be k_to k_cl k_do k_ro k_ke k_te k_nu (nmA 48) k_no k_tu)) (va_runV (As := []) (rest := []) ⟨hx, hb, hml, hown, hts⟩ (c_X6_fault l D cI cZ cM x0 (f 1) (f 2) (f 3) (f 4) (f 5) (f 6) (f 7) (f 8) (f 9) (f 10) (f 11) (f 12) (f 16) (f 17) (f 14) (f 15) (f 13) (f 18) (f 68) (f 69) (f 82) (f 87) _ _ adK adV a_n a_L a_U a_H a_O a_B b_n b_L b_U b_H b_O b_B r_cl r_no (nI tl) t_st t_nx t_kd t_by 1100 ra bn1 bL1 bU1 bH1 bO1 bB1 cl1 no1 st1 nx1 kd1 e1) (cwV 0 hts gL_law_X6_fault rfl rfl rfl ⟨rfl, hdc_X6_fault⟩ ⟨Nat.le_of_ble_eq_true rfl, Nat.le_of_ble_eq_true rfl⟩) (pmVs hK hP hD (fun _ h => h) hS (Nat.le_refl _) hE [0, 1, 2, 3, 4, 5, 6, 7, 8, 9, 10, 11, 12, 16, 17, 14, 15] (by decide) rfl rfl (ci := 6) (q0 := 0) rfl rfl) rfl rfl hl.1 rfl (lv_room (Nat.le_of_ble_eq_true rfl)) dL_law_177 ⟨Nat.le_of_ble_eq_true rfl, Nat.le_of_ble_eq_true rfl⟩) hP hD hS hA [0, 1, 2, 3, 4, 5, 6, 7, 8, 9, 10, 11, 12, 16, 17, 14, 15] rfl rfl ?_ (fun H locs hP hD hS => ?_)
  · repeat (first | exact sX_n | refine sX_e ?_ | refine sX_c rfl (by decide) ?_)
  refine lv_aload_n hx hb dL_law_180 rfl (lv_at hl 2 rfl) ?_
  refine muF (w' := (wF cI cZ cM x0 f k0 f2 (hsF f) (usF f) o mm Z a_n a_L a_U a_H a_O a_B bn1 bL1 bU1 bH1 bO1 bB1 w_a (nI tl) st1 nx1 kd1 t_by cl1 no1 (nI S) (nI N) u_is g_rl g_n g_ri g_ne g_re g_ts q_nt q_iv q_fd q_or q_df q_se q_co q_ch v_n v_L v_U v_H v_O v_B (nI S) (nI tl) fi1 be1 to1 c21 d1 k_ro k_ke k_te nu1 (nmA 48) k_no k_tu)) (va_runV (As := []) (rest := [.int ra]) ⟨hx, hb, hml, hown, hts⟩ (c_X7_fault l D cI cZ cM k0 (f2 1) (f2 2) (f2 3) (f2 4) (f2 5) (f2 6) (f2 7) _ (nI S) (nI tl) k_fi k_be k_to k_cl k_do k_ro k_ke k_te k_nu (nmA 48) k_no k_tu 1100 ra fi1 be1 to1 c21 d1 k_ro nu1 e2) (cwV 0 hts gL_law_X7_fault rfl rfl rfl ⟨rfl, hdc_X7_fault⟩ ⟨Nat.le_of_ble_eq_true rfl, Nat.le_of_ble_eq_true rfl⟩) (pmV hK hP hD [99, 100, 101, 102, 103, 104, 105, 106] (by decide) rfl rfl (ci := 7) (q0 := 99) rfl rfl) rfl rfl hl.1 rfl (lv_room (Nat.le_of_ble_eq_true rfl)) dL_law_181 ⟨Nat.le_of_ble_eq_true rfl, Nat.le_of_ble_eq_true rfl⟩) hP hD hS hA [99, 100, 101, 102, 103, 104, 105, 106] rfl rfl ?_ (fun H locs hP hD hS => ?_)
  · repeat (first | exact sX_n | refine sX_e ?_ | refine sX_c rfl (by decide) ?_)
  refine lv_icmp_eq (tgt := 729) hx hb dL_law_184 (by decide) (fun _ => ?_) (fun h => absurd rfl h)
  exact kk _ _ (INV_mk N hN hom ho hc hk hH hSR hT1 hT2 hB hP hD hS)
set_option maxHeartbeats 4000000 in
set_option maxRecDepth 100000 in
theorem st_tell {p : Program} {l : Launch} {e : Env} {s : State} {m : MethodId} {below : List Frame} {meth : Method} {c : Code} {b L : Nat} {xs : Nat → Int32} {Q : State → Prop} {D : va_G} {cI cZ cM : ClassId} {adK adV : Nat → Nat} {x0 : Nat} {f : Nat → Nat} {k0 : Nat} {f2 : Nat → Nat} {i : Nat} {ls : Array Slot} {H : Heap} {locs : List Loc} (C0 : lw_At p s m meth c b L xs) (hL : L ≤ 2048) (hK : KK D cI cZ cM s) (hE : ENV (fun q : Nat => s.heap.size ≤ q) adK adV s s.heap) (hi3 : i + 3 < L) (hl : lv_has ls 4 [(0, .ref b), (1, .ref x0), (2, .ref k0), (3, .int (nI i))]) (hI : INV D cI cZ cM x0 f k0 f2 (fun q : Nat => s.heap.size ≤ q) s.heap H locs) (kk : ∀ (H1 : Heap) (locs1 : List Loc), INV D cI cZ cM x0 f k0 f2 (fun q : Nat => s.heap.size ≤ q) s.heap H1 locs1 → W p l e room_1 s m #[Value.ref b] below meth c H1 locs1 107 7060 Q (F0 m 729 ls [])) : W p l e room_1 s m #[Value.ref b] below meth c H locs 107 7060 Q (F0 m 189 ls []) := by
  obtain ⟨hx, hb, hr, hml, hown, hts0, hX, hbl, hlocks, hgv⟩ := C0
  have hb : c.code = cL_law := hb
  have hown : s.vm.findClass RL = some m.cls := hown
  have hts : ∀ w ∈ wsL_law, w.before #[Value.ref b] s = true := fun w h => hts0 w (wsL_law_in w h)
  have hA : ∀ q : Nat, s.heap.size ≤ q → (fun q : Nat => s.heap.size ≤ q) q := fun _ h => h
  have hbA : ¬ (fun q : Nat => s.heap.size ≤ q) b := Nat.not_le.mpr hbl
  obtain ⟨r, T, hist, Y, Z, tl, S, N, o, mm, a_n, a_L, a_U, a_H, a_O, a_B, b_n, b_L, b_U, b_H, b_O, b_B, w_a, t_st, t_nx, t_kd, t_by, r_cl, r_no, u_is, g_rl, g_n, g_ri, g_ne, g_re, g_ts, q_nt, q_iv, q_fd, q_or, q_df, q_se, q_co, q_ch, v_n, v_L, v_U, v_H, v_O, v_B, k_fi, k_be, k_to, k_cl, k_do, k_ro, k_ke, k_te, k_nu, k_no, k_tu, ⟨hom, ho, hc, hk, hH, hSR, hT1, hT2, hB⟩, hP, hD, hS⟩ := hI
  have hN := hH.2.1
  obtain ⟨ra, n1, L1, U1, V1, O1, B1, bn1, bL1, bU1, bH1, bO1, bB1, cl1, no1, tl2, st1, nx1, kd1, S1, fi1, be1, to1, c21, d1, k1, nu1, r1, e1, e2, ho1, hc1, hk1, hH1, hg7, hU1, hU2⟩ := E_tell hH hT1 hT2 ho hc hk (Nat.le_refl 1100) b_L b_U b_H b_O b_B r_cl r_no t_st t_kd k_nu
  refine lv_aload_n hx hb dL_law_189 rfl (lv_at hl 1 rfl) ?_
  refine muF (w' := (wF cI cZ cM x0 f k0 f2 (hsF f) (usF f) o mm Z n1 L1 U1 V1 O1 B1 bn1 bL1 bU1 bH1 bO1 bB1 w_a (nI tl2) st1 nx1 kd1 t_by cl1 no1 (nI S1) (nI N) u_is g_rl g_n g_ri g_ne g_re g_ts q_nt q_iv q_fd q_or q_df q_se q_co q_ch v_n v_L v_U v_H v_O v_B (nI S) (nI tl) k_fi k_be k_to k_cl k_do k_ro k_ke k_te k_nu (nmA 48) k_no k_tu)) (va_runV (As := []) (rest := []) ⟨hx, hb, hml, hown, hts⟩ (c_X6_tell l D cI cZ cM x0 (f 1) (f 2) (f 3) (f 4) (f 5) (f 6) (f 7) (f 8) (f 9) (f 10) (f 11) (f 12) (f 16) (f 17) (f 14) (f 15) (f 18) (f 19) (f 13) (f 68) (f 69) (f 82) (f 87) _ _ adK adV a_n a_L a_U a_H a_O a_B b_n b_L b_U b_H b_O b_B r_cl r_no (nI tl) t_st t_nx t_kd t_by (nI S) (nI N) (hsF f) 1100 ra n1 L1 U1 V1 O1 B1 bn1 bL1 bU1 bH1 bO1 bB1 cl1 no1 (nI tl2) st1 nx1 kd1 (nI S1) e1) (cwV 0 hts gL_law_X6_tell rfl rfl rfl ⟨rfl, hdc_X6_tell⟩ ⟨Nat.le_of_ble_eq_true rfl, Nat.le_of_ble_eq_true rfl⟩) (pmVs hK hP hD (fun _ h => h) hS (Nat.le_refl _) hE [0, 1, 2, 3, 4, 5, 6, 7, 8, 9, 10, 11, 12, 16, 17, 14, 15, 18, 19] (by decide) rfl rfl (ci := 6) (q0 := 0) rfl rfl) rfl rfl hl.1 rfl (lv_room (Nat.le_of_ble_eq_true rfl)) dL_law_190 ⟨Nat.le_of_ble_eq_true rfl, Nat.le_of_ble_eq_true rfl⟩) hP hD hS hA [0, 1, 2, 3, 4, 5, 6, 7, 8, 9, 10, 11, 12, 16, 17, 14, 15, 18, 19] rfl rfl ?_ (fun H locs hP hD hS => ?_)
  · repeat (first | exact sX_n | refine sX_e ?_ | refine sX_c rfl (by decide) ?_)
  refine lv_aload_n hx hb dL_law_193 rfl (lv_at hl 2 rfl) ?_
  refine muF (w' := (wF cI cZ cM x0 f k0 f2 (hsF f) (usF f) o mm Z n1 L1 U1 V1 O1 B1 bn1 bL1 bU1 bH1 bO1 bB1 w_a (nI tl2) st1 nx1 kd1 t_by cl1 no1 (nI S1) (nI N) u_is g_rl g_n g_ri g_ne g_re g_ts q_nt q_iv q_fd q_or q_df q_se q_co q_ch v_n v_L v_U v_H v_O v_B (nI S1) (nI tl2) fi1 be1 to1 c21 d1 k1 k_ke k_te nu1 (nmA 48) k_no k_tu)) (va_runV (As := []) (rest := [.int ra]) ⟨hx, hb, hml, hown, hts⟩ (c_X7_tell l D cI cZ cM k0 (f2 1) (f2 2) (f2 3) (f2 4) (f2 5) (f2 6) (f2 7) _ (nI S) (nI tl) k_fi k_be k_to k_cl k_do k_ro k_ke k_te k_nu (nmA 48) k_no k_tu 1100 ra (nI S1) (nI tl2) fi1 be1 to1 c21 d1 k1 nu1 e2) (cwV 0 hts gL_law_X7_tell rfl rfl rfl ⟨rfl, hdc_X7_tell⟩ ⟨Nat.le_of_ble_eq_true rfl, Nat.le_of_ble_eq_true rfl⟩) (pmV hK hP hD [99, 100, 101, 102, 103, 104, 105, 106] (by decide) rfl rfl (ci := 7) (q0 := 99) rfl rfl) rfl rfl hl.1 rfl (lv_room (Nat.le_of_ble_eq_true rfl)) dL_law_194 ⟨Nat.le_of_ble_eq_true rfl, Nat.le_of_ble_eq_true rfl⟩) hP hD hS hA [99, 100, 101, 102, 103, 104, 105, 106] rfl rfl ?_ (fun H locs hP hD hS => ?_)
  · repeat (first | exact sX_n | refine sX_e ?_ | refine sX_c rfl (by decide) ?_)
  refine lv_icmp_eq (tgt := 729) hx hb dL_law_197 (by decide) (fun _ => ?_) (fun h => absurd rfl h)
  exact kk _ _ (INV_mk N hN hom ho1 hc1 hk1 hH1 (SR_keep hSR hg7) hU1 hU2 hB hP hD hS)
set_option maxHeartbeats 4000000 in
set_option maxRecDepth 100000 in
theorem st_pages {p : Program} {l : Launch} {e : Env} {s : State} {m : MethodId} {below : List Frame} {meth : Method} {c : Code} {b L : Nat} {xs : Nat → Int32} {Q : State → Prop} {D : va_G} {cI cZ cM : ClassId} {adK adV : Nat → Nat} {x0 : Nat} {f : Nat → Nat} {k0 : Nat} {f2 : Nat → Nat} {i : Nat} {ls : Array Slot} {H : Heap} {locs : List Loc} (C0 : lw_At p s m meth c b L xs) (hL : L ≤ 2048) (hK : KK D cI cZ cM s) (hE : ENV (fun q : Nat => s.heap.size ≤ q) adK adV s s.heap) (hi3 : i + 3 < L) (hl : lv_has ls 4 [(0, .ref b), (1, .ref x0), (2, .ref k0), (3, .int (nI i))]) (hI : INV D cI cZ cM x0 f k0 f2 (fun q : Nat => s.heap.size ≤ q) s.heap H locs) (kk : ∀ (H1 : Heap) (locs1 : List Loc), INV D cI cZ cM x0 f k0 f2 (fun q : Nat => s.heap.size ≤ q) s.heap H1 locs1 → W p l e room_1 s m #[Value.ref b] below meth c H1 locs1 107 7060 Q (F0 m 729 ls [])) : W p l e room_1 s m #[Value.ref b] below meth c H locs 107 7060 Q (F0 m 202 ls []) := by
  obtain ⟨hx, hb, hr, hml, hown, hts0, hX, hbl, hlocks, hgv⟩ := C0
  have hb : c.code = cL_law := hb
  have hown : s.vm.findClass RL = some m.cls := hown
  have hts : ∀ w ∈ wsL_law, w.before #[Value.ref b] s = true := fun w h => hts0 w (wsL_law_in w h)
  have hA : ∀ q : Nat, s.heap.size ≤ q → (fun q : Nat => s.heap.size ≤ q) q := fun _ h => h
  have hbA : ¬ (fun q : Nat => s.heap.size ≤ q) b := Nat.not_le.mpr hbl
  have hin1 : vp_in (nI i + nI 1) L := by rw [nI_add]; exact vp_in_nI (by omega) (by omega)
  have hin2 : vp_in (nI i + nI 2) L := by rw [nI_add]; exact vp_in_nI (by omega) (by omega)
  obtain ⟨r, T, hist, Y, Z, tl, S, N, o, mm, a_n, a_L, a_U, a_H, a_O, a_B, b_n, b_L, b_U, b_H, b_O, b_B, w_a, t_st, t_nx, t_kd, t_by, r_cl, r_no, u_is, g_rl, g_n, g_ri, g_ne, g_re, g_ts, q_nt, q_iv, q_fd, q_or, q_df, q_se, q_co, q_ch, v_n, v_L, v_U, v_H, v_O, v_B, k_fi, k_be, k_to, k_cl, k_do, k_ro, k_ke, k_te, k_nu, k_no, k_tu, ⟨hom, ho, hc, hk, hH, hSR, hT1, hT2, hB⟩, hP, hD, hS⟩ := hI
  have hN := hH.2.1
  obtain ⟨ho0, hm0⟩ := OM_0 hN hom
  have hg : hsF f (nI N).toNatClampNeg = some (f (20 + 6 * o 0)) := by rw [nI_clamp (by omega), ho0]; rfl
  obtain ⟨ra, c1, S1, N1, ym, k1, r1, e1, e2, hc1, hist1, ho1, hk1, hH1, hg7⟩ := E_pages hH ho hc hk (Nat.le_refl 1100) (xs (nI i + nI 1).toNatClampNeg) (xs (nI i + nI 2).toNatClampNeg)
  rw [← hm0] at e1
  refine lv_aload_n hx hb dL_law_202 rfl (lv_at hl 1 rfl) ?_
  refine lv_aload_n hx hb dL_law_203 rfl (lv_at hl 0 rfl) ?_
  refine lv_iload_n hx hb dL_law_204 rfl (lv_at hl 3 rfl) ?_
  refine lv_iconst (v := nI 1) hx hb dL_law_205 ic_1 ?_
  refine lv_iadd hx hb dL_law_206 ?_
  refine va_sld hx hb hX hbl hbA hS hin1 dL_law_207 ?_
  refine lv_aload_n hx hb dL_law_208 rfl (lv_at hl 0 rfl) ?_
  refine lv_iload_n hx hb dL_law_209 rfl (lv_at hl 3 rfl) ?_
  refine lv_iconst (v := nI 2) hx hb dL_law_210 ic_2 ?_
  refine lv_iadd hx hb dL_law_211 ?_
  refine va_sld hx hb hX hbl hbA hS hin2 dL_law_212 ?_
  refine muF (w' := (wF cI cZ cM x0 f k0 f2 (hsF f) (usF f) o (updY mm 0 ym) Z a_n c1 a_U a_H a_O a_B b_n b_L b_U b_H b_O b_B w_a (nI tl) t_st t_nx t_kd t_by r_cl r_no (nI S1) (nI N1) u_is g_rl g_n g_ri g_ne g_re g_ts q_nt q_iv q_fd q_or q_df q_se q_co q_ch v_n v_L v_U v_H v_O v_B (nI S) (nI tl) k_fi k_be k_to k_cl k_do k_ro k_ke k_te k_nu (nmA 48) k_no k_tu)) (va_runV (As := [.int (xs (nI i + nI 1).toNatClampNeg), .int (xs (nI i + nI 2).toNatClampNeg)]) (rest := []) ⟨hx, hb, hml, hown, hts⟩ (c_X6_pages l D cI cZ cM x0 (f 1) (f 2) (f 3) (f 4) (f 5) (f 6) (f 18) (f 19) (f (20 + 6 * o 0)) (f (21 + 6 * o 0)) (f (22 + 6 * o 0)) (f (23 + 6 * o 0)) (f (24 + 6 * o 0)) (f (25 + 6 * o 0)) (f 7) (f 13) (f 14) (f 16) (f 68) (f 69) (f 82) (f 87) _ a_n a_L a_U a_H a_O a_B (nI S) (nI N) (hsF f) (mm 0).1 (mm 0).2.1 (mm 0).2.2.1 (mm 0).2.2.2.1 (mm 0).2.2.2.2.1 (mm 0).2.2.2.2.2 (xs (nI i + nI 1).toNatClampNeg) (xs (nI i + nI 2).toNatClampNeg) hg 1100 ra c1 (nI S1) (nI N1) ym.1 ym.2.1 ym.2.2.1 ym.2.2.2.1 ym.2.2.2.2.1 ym.2.2.2.2.2 e1) (cwV 2 hts gL_law_X6_pages rfl rfl rfl ⟨rfl, hdc_X6_pages⟩ ⟨Nat.le_of_ble_eq_true rfl, Nat.le_of_ble_eq_true rfl⟩) (pmV hK hP hD [0, 1, 2, 3, 4, 5, 6, 18, 19, 20, 21, 22, 23, 24, 25] (by decide) rfl rfl (ci := 6) (q0 := 0) rfl rfl) rfl rfl hl.1 rfl (lv_room (Nat.le_of_ble_eq_true rfl)) dL_law_213 ⟨Nat.le_of_ble_eq_true rfl, Nat.le_of_ble_eq_true rfl⟩) hP hD hS hA [0, 1, 2, 3, 4, 5, 6, 18, 19, 20, 21, 22, 23, 24, 25] rfl rfl ?_ (fun H locs hP hD hS => ?_)
  · repeat (first | exact sX_n | refine sX_e ?_ | refine sX_c rfl (by decide) ?_)
  refine lv_aload_n hx hb dL_law_216 rfl (lv_at hl 2 rfl) ?_
  refine lv_aload_n hx hb dL_law_217 rfl (lv_at hl 0 rfl) ?_
  refine lv_iload_n hx hb dL_law_218 rfl (lv_at hl 3 rfl) ?_
  refine lv_iconst (v := nI 1) hx hb dL_law_219 ic_1 ?_
  refine lv_iadd hx hb dL_law_220 ?_
  refine va_sld hx hb hX hbl hbA hS hin1 dL_law_221 ?_
  refine lv_aload_n hx hb dL_law_222 rfl (lv_at hl 0 rfl) ?_
  refine lv_iload_n hx hb dL_law_223 rfl (lv_at hl 3 rfl) ?_
  refine lv_iconst (v := nI 2) hx hb dL_law_224 ic_2 ?_
  refine lv_iadd hx hb dL_law_225 ?_
  refine va_sld hx hb hX hbl hbA hS hin2 dL_law_226 ?_
  refine muF (w' := (wF cI cZ cM x0 f k0 f2 (hsF f) (usF f) o (updY mm 0 ym) Z a_n c1 a_U a_H a_O a_B b_n b_L b_U b_H b_O b_B w_a (nI tl) t_st t_nx t_kd t_by r_cl r_no (nI S1) (nI N1) u_is g_rl g_n g_ri g_ne g_re g_ts q_nt q_iv q_fd q_or q_df q_se q_co q_ch v_n v_L v_U v_H v_O v_B (nI S1) (nI tl) k_fi k_be k_to k_cl k_do k1 k_ke k_te k_nu (nmA 48) k_no k_tu)) (va_runV (As := [.int (xs (nI i + nI 1).toNatClampNeg), .int (xs (nI i + nI 2).toNatClampNeg)]) (rest := [.int ra]) ⟨hx, hb, hml, hown, hts⟩ (c_X7_pages l D cI cZ cM k0 (f2 1) (f2 2) (f2 3) (f2 4) (f2 5) (f2 6) (f2 7) _ (nI S) (nI tl) k_fi k_be k_to k_cl k_do k_ro k_ke k_te k_nu (nmA 48) k_no k_tu (xs (nI i + nI 1).toNatClampNeg) (xs (nI i + nI 2).toNatClampNeg) 1100 ra (nI S1) k1 e2) (cwV 2 hts gL_law_X7_pages rfl rfl rfl ⟨rfl, hdc_X7_pages⟩ ⟨Nat.le_of_ble_eq_true rfl, Nat.le_of_ble_eq_true rfl⟩) (pmV hK hP hD [99, 100, 101, 102, 103, 104, 105, 106] (by decide) rfl rfl (ci := 7) (q0 := 99) rfl rfl) rfl rfl hl.1 rfl (lv_room (Nat.le_of_ble_eq_true rfl)) dL_law_227 ⟨Nat.le_of_ble_eq_true rfl, Nat.le_of_ble_eq_true rfl⟩) hP hD hS hA [99, 100, 101, 102, 103, 104, 105, 106] rfl rfl ?_ (fun H locs hP hD hS => ?_)
  · repeat (first | exact sX_n | refine sX_e ?_ | refine sX_c rfl (by decide) ?_)
  refine lv_icmp_eq (tgt := 729) hx hb dL_law_230 (by decide) (fun _ => ?_) (fun h => absurd rfl h)
  exact kk _ _ (INV_mk N hN (OM_upd hN hom ym) ho1 hc1 hk1 hH1 (SR_keep hSR hg7) hT1 hT2 hB hP hD hS)
set_option maxHeartbeats 4000000 in
set_option maxRecDepth 100000 in
theorem st_uses {p : Program} {l : Launch} {e : Env} {s : State} {m : MethodId} {below : List Frame} {meth : Method} {c : Code} {b L : Nat} {xs : Nat → Int32} {Q : State → Prop} {D : va_G} {cI cZ cM : ClassId} {adK adV : Nat → Nat} {x0 : Nat} {f : Nat → Nat} {k0 : Nat} {f2 : Nat → Nat} {i : Nat} {ls : Array Slot} {H : Heap} {locs : List Loc} (C0 : lw_At p s m meth c b L xs) (hL : L ≤ 2048) (hK : KK D cI cZ cM s) (hE : ENV (fun q : Nat => s.heap.size ≤ q) adK adV s s.heap) (hi3 : i + 3 < L) (hl : lv_has ls 4 [(0, .ref b), (1, .ref x0), (2, .ref k0), (3, .int (nI i))]) (hI : INV D cI cZ cM x0 f k0 f2 (fun q : Nat => s.heap.size ≤ q) s.heap H locs) (kk : ∀ (H1 : Heap) (locs1 : List Loc), INV D cI cZ cM x0 f k0 f2 (fun q : Nat => s.heap.size ≤ q) s.heap H1 locs1 → W p l e room_1 s m #[Value.ref b] below meth c H1 locs1 107 7060 Q (F0 m 729 ls [])) : W p l e room_1 s m #[Value.ref b] below meth c H locs 107 7060 Q (F0 m 235 ls []) := by
  obtain ⟨hx, hb, hr, hml, hown, hts0, hX, hbl, hlocks, hgv⟩ := C0
  have hb : c.code = cL_law := hb
  have hown : s.vm.findClass RL = some m.cls := hown
  have hts : ∀ w ∈ wsL_law, w.before #[Value.ref b] s = true := fun w h => hts0 w (wsL_law_in w h)
  have hA : ∀ q : Nat, s.heap.size ≤ q → (fun q : Nat => s.heap.size ≤ q) q := fun _ h => h
  have hbA : ¬ (fun q : Nat => s.heap.size ≤ q) b := Nat.not_le.mpr hbl
  have hin1 : vp_in (nI i + nI 1) L := by rw [nI_add]; exact vp_in_nI (by omega) (by omega)
  have hin2 : vp_in (nI i + nI 2) L := by rw [nI_add]; exact vp_in_nI (by omega) (by omega)
  have hin3 : vp_in (nI i + nI 3) L := by rw [nI_add]; exact vp_in_nI (by omega) (by omega)
  obtain ⟨r, T, hist, Y, Z, tl, S, N, o, mm, a_n, a_L, a_U, a_H, a_O, a_B, b_n, b_L, b_U, b_H, b_O, b_B, w_a, t_st, t_nx, t_kd, t_by, r_cl, r_no, u_is, g_rl, g_n, g_ri, g_ne, g_re, g_ts, q_nt, q_iv, q_fd, q_or, q_df, q_se, q_co, q_ch, v_n, v_L, v_U, v_H, v_O, v_B, k_fi, k_be, k_to, k_cl, k_do, k_ro, k_ke, k_te, k_nu, k_no, k_tu, ⟨hom, ho, hc, hk, hH, hSR, hT1, hT2, hB⟩, hP, hD, hS⟩ := hI
  have hN := hH.2.1
  obtain ⟨ho0, hm0⟩ := OM_0 hN hom
  have hg : hsF f (nI N).toNatClampNeg = some (f (20 + 6 * o 0)) := by rw [nI_clamp (by omega), ho0]; rfl
  obtain ⟨ra, c1, S1, N1, ym, k1, r1, e1, e2, hc1, hist1, ho1, hk1, hH1, hg7⟩ := E_uses hH ho hc hk (Nat.le_refl 1100) (xs (nI i + nI 1).toNatClampNeg) (xs (nI i + nI 2).toNatClampNeg) (xs (nI i + nI 3).toNatClampNeg)
  rw [← hm0] at e1
  refine lv_aload_n hx hb dL_law_235 rfl (lv_at hl 1 rfl) ?_
  refine lv_aload_n hx hb dL_law_236 rfl (lv_at hl 0 rfl) ?_
  refine lv_iload_n hx hb dL_law_237 rfl (lv_at hl 3 rfl) ?_
  refine lv_iconst (v := nI 1) hx hb dL_law_238 ic_1 ?_
  refine lv_iadd hx hb dL_law_239 ?_
  refine va_sld hx hb hX hbl hbA hS hin1 dL_law_240 ?_
  refine lv_aload_n hx hb dL_law_241 rfl (lv_at hl 0 rfl) ?_
  refine lv_iload_n hx hb dL_law_242 rfl (lv_at hl 3 rfl) ?_
  refine lv_iconst (v := nI 2) hx hb dL_law_243 ic_2 ?_
  refine lv_iadd hx hb dL_law_244 ?_
  refine va_sld hx hb hX hbl hbA hS hin2 dL_law_245 ?_
  refine lv_aload_n hx hb dL_law_246 rfl (lv_at hl 0 rfl) ?_
  refine lv_iload_n hx hb dL_law_247 rfl (lv_at hl 3 rfl) ?_
  refine lv_iconst (v := nI 3) hx hb dL_law_248 ic_3 ?_
  refine lv_iadd hx hb dL_law_249 ?_
  refine va_sld hx hb hX hbl hbA hS hin3 dL_law_250 ?_
  refine muF (w' := (wF cI cZ cM x0 f k0 f2 (hsF f) (usF f) o (updY mm 0 ym) Z a_n a_L c1 a_H a_O a_B b_n b_L b_U b_H b_O b_B w_a (nI tl) t_st t_nx t_kd t_by r_cl r_no (nI S1) (nI N1) u_is g_rl g_n g_ri g_ne g_re g_ts q_nt q_iv q_fd q_or q_df q_se q_co q_ch v_n v_L v_U v_H v_O v_B (nI S) (nI tl) k_fi k_be k_to k_cl k_do k_ro k_ke k_te k_nu (nmA 48) k_no k_tu)) (va_runV (As := [.int (xs (nI i + nI 1).toNatClampNeg), .int (xs (nI i + nI 2).toNatClampNeg), .int (xs (nI i + nI 3).toNatClampNeg)]) (rest := []) ⟨hx, hb, hml, hown, hts⟩ (c_X6_uses l D cI cZ cM x0 (f 1) (f 2) (f 3) (f 4) (f 5) (f 6) (f 18) (f 19) (f (20 + 6 * o 0)) (f (21 + 6 * o 0)) (f (22 + 6 * o 0)) (f (23 + 6 * o 0)) (f (24 + 6 * o 0)) (f (25 + 6 * o 0)) (f 7) (f 13) (f 14) (f 16) (f 68) (f 69) (f 82) (f 87) _ a_n a_L a_U a_H a_O a_B (nI S) (nI N) (hsF f) (mm 0).1 (mm 0).2.1 (mm 0).2.2.1 (mm 0).2.2.2.1 (mm 0).2.2.2.2.1 (mm 0).2.2.2.2.2 (xs (nI i + nI 1).toNatClampNeg) (xs (nI i + nI 2).toNatClampNeg) (xs (nI i + nI 3).toNatClampNeg) hg 1100 ra c1 (nI S1) (nI N1) ym.1 ym.2.1 ym.2.2.1 ym.2.2.2.1 ym.2.2.2.2.1 ym.2.2.2.2.2 e1) (cwV 3 hts gL_law_X6_uses rfl rfl rfl ⟨rfl, hdc_X6_uses⟩ ⟨Nat.le_of_ble_eq_true rfl, Nat.le_of_ble_eq_true rfl⟩) (pmV hK hP hD [0, 1, 2, 3, 4, 5, 6, 18, 19, 20, 21, 22, 23, 24, 25] (by decide) rfl rfl (ci := 6) (q0 := 0) rfl rfl) rfl rfl hl.1 rfl (lv_room (Nat.le_of_ble_eq_true rfl)) dL_law_251 ⟨Nat.le_of_ble_eq_true rfl, Nat.le_of_ble_eq_true rfl⟩) hP hD hS hA [0, 1, 2, 3, 4, 5, 6, 18, 19, 20, 21, 22, 23, 24, 25] rfl rfl ?_ (fun H locs hP hD hS => ?_)
  · repeat (first | exact sX_n | refine sX_e ?_ | refine sX_c rfl (by decide) ?_)
  refine lv_aload_n hx hb dL_law_254 rfl (lv_at hl 2 rfl) ?_
  refine lv_aload_n hx hb dL_law_255 rfl (lv_at hl 0 rfl) ?_
  refine lv_iload_n hx hb dL_law_256 rfl (lv_at hl 3 rfl) ?_
  refine lv_iconst (v := nI 1) hx hb dL_law_257 ic_1 ?_
  refine lv_iadd hx hb dL_law_258 ?_
  refine va_sld hx hb hX hbl hbA hS hin1 dL_law_259 ?_
  refine lv_aload_n hx hb dL_law_260 rfl (lv_at hl 0 rfl) ?_
  refine lv_iload_n hx hb dL_law_261 rfl (lv_at hl 3 rfl) ?_
  refine lv_iconst (v := nI 2) hx hb dL_law_262 ic_2 ?_
  refine lv_iadd hx hb dL_law_263 ?_
  refine va_sld hx hb hX hbl hbA hS hin2 dL_law_264 ?_
  refine lv_aload_n hx hb dL_law_265 rfl (lv_at hl 0 rfl) ?_
  refine lv_iload_n hx hb dL_law_266 rfl (lv_at hl 3 rfl) ?_
  refine lv_iconst (v := nI 3) hx hb dL_law_267 ic_3 ?_
  refine lv_iadd hx hb dL_law_268 ?_
  refine va_sld hx hb hX hbl hbA hS hin3 dL_law_269 ?_
  refine muF (w' := (wF cI cZ cM x0 f k0 f2 (hsF f) (usF f) o (updY mm 0 ym) Z a_n a_L c1 a_H a_O a_B b_n b_L b_U b_H b_O b_B w_a (nI tl) t_st t_nx t_kd t_by r_cl r_no (nI S1) (nI N1) u_is g_rl g_n g_ri g_ne g_re g_ts q_nt q_iv q_fd q_or q_df q_se q_co q_ch v_n v_L v_U v_H v_O v_B (nI S1) (nI tl) k_fi k_be k_to k_cl k_do k1 k_ke k_te k_nu (nmA 48) k_no k_tu)) (va_runV (As := [.int (xs (nI i + nI 1).toNatClampNeg), .int (xs (nI i + nI 2).toNatClampNeg), .int (xs (nI i + nI 3).toNatClampNeg)]) (rest := [.int ra]) ⟨hx, hb, hml, hown, hts⟩ (c_X7_uses l D cI cZ cM k0 (f2 1) (f2 2) (f2 3) (f2 4) (f2 5) (f2 6) (f2 7) _ (nI S) (nI tl) k_fi k_be k_to k_cl k_do k_ro k_ke k_te k_nu (nmA 48) k_no k_tu (xs (nI i + nI 1).toNatClampNeg) (xs (nI i + nI 2).toNatClampNeg) (xs (nI i + nI 3).toNatClampNeg) 1100 ra (nI S1) k1 e2) (cwV 3 hts gL_law_X7_uses rfl rfl rfl ⟨rfl, hdc_X7_uses⟩ ⟨Nat.le_of_ble_eq_true rfl, Nat.le_of_ble_eq_true rfl⟩) (pmV hK hP hD [99, 100, 101, 102, 103, 104, 105, 106] (by decide) rfl rfl (ci := 7) (q0 := 99) rfl rfl) rfl rfl hl.1 rfl (lv_room (Nat.le_of_ble_eq_true rfl)) dL_law_270 ⟨Nat.le_of_ble_eq_true rfl, Nat.le_of_ble_eq_true rfl⟩) hP hD hS hA [99, 100, 101, 102, 103, 104, 105, 106] rfl rfl ?_ (fun H locs hP hD hS => ?_)
  · repeat (first | exact sX_n | refine sX_e ?_ | refine sX_c rfl (by decide) ?_)
  refine lv_icmp_eq (tgt := 729) hx hb dL_law_273 (by decide) (fun _ => ?_) (fun h => absurd rfl h)
  exact kk _ _ (INV_mk N hN (OM_upd hN hom ym) ho1 hc1 hk1 hH1 (SR_keep hSR hg7) hT1 hT2 hB hP hD hS)
