set_option maxHeartbeats 4000000 in
set_option maxRecDepth 100000 in
theorem st_best {p : Program} {l : Launch} {e : Env} {s : State} {m : MethodId} {below : List Frame} {meth : Method} {c : Code} {b L : Nat} {xs : Nat → Int32} {Q : State → Prop} {D : va_G} {cI cZ cM : ClassId} {adK adV : Nat → Nat} {x0 : Nat} {f : Nat → Nat} {k0 : Nat} {f2 : Nat → Nat} {i : Nat} {ls : Array Slot} {H : Heap} {locs : List Loc} (C0 : lw_At p s m meth c b L xs) (hL : L ≤ 2048) (hK : KK D cI cZ cM s) (hE : ENV (fun q : Nat => s.heap.size ≤ q) adK adV s s.heap) (hi3 : i + 3 < L) (hl : lv_has ls 4 [(0, .ref b), (1, .ref x0), (2, .ref k0), (3, .int (nI i))]) (hI : INV D cI cZ cM x0 f k0 f2 (fun q : Nat => s.heap.size ≤ q) s.heap H locs) (kk : ∀ (H1 : Heap) (locs1 : List Loc), INV D cI cZ cM x0 f k0 f2 (fun q : Nat => s.heap.size ≤ q) s.heap H1 locs1 → W p l e room_1 s m #[Value.ref b] below meth c H1 locs1 107 7060 Q (F0 m 729 ls [])) : W p l e room_1 s m #[Value.ref b] below meth c H locs 107 7060 Q (F0 m 594 ls []) := by
  obtain ⟨hx, hb, hr, hml, hown, hts0, hX, hbl, hlocks, hgv⟩ := C0
  have hb : c.code = cL_law := hb
  have hown : s.vm.findClass RL = some m.cls := hown
  have hts : ∀ w ∈ wsL_law, w.before #[Value.ref b] s = true := fun w h => hts0 w (wsL_law_in w h)
  have hA : ∀ q : Nat, s.heap.size ≤ q → (fun q : Nat => s.heap.size ≤ q) q := fun _ h => h
  have hbA : ¬ (fun q : Nat => s.heap.size ≤ q) b := Nat.not_le.mpr hbl
  have hin1 : vp_in (nI i + nI 1) L := by rw [nI_add]; exact vp_in_nI (by omega) (by omega)
  obtain ⟨r, T, hist, Y, Z, tl, S, N, o, mm, a_n, a_L, a_U, a_H, a_O, a_B, b_n, b_L, b_U, b_H, b_O, b_B, w_a, t_st, t_nx, t_kd, t_by, r_cl, r_no, u_is, g_rl, g_n, g_ri, g_ne, g_re, g_ts, q_nt, q_iv, q_fd, q_or, q_df, q_se, q_co, q_ch, v_n, v_L, v_U, v_H, v_O, v_B, k_fi, k_be, k_to, k_cl, k_do, k_ro, k_ke, k_te, k_nu, k_no, k_tu, ⟨hom, ho, hc, hk, hH, hSR, hT1, hT2, hB⟩, hP, hD, hS⟩ := hI
  have hN := hH.2.1
  obtain ⟨ra, nt1, iv1, fd1, qo1, df1, se1, co1, ch1, vn1, vL1, vU1, vH1, vO1, vB1, nu1, no1, tu1, e1, e2, hB1⟩ := E_best ho hc hk (Nat.le_refl 1100) (df := q_df) (se := q_se) (co := q_co) (ch := q_ch) hB k_nu k_no k_tu (xs (nI i + nI 1).toNatClampNeg)
  refine lv_aload_n hx hb dL_law_594 rfl (lv_at hl 1 rfl) ?_
  refine lv_aload_n hx hb dL_law_595 rfl (lv_at hl 0 rfl) ?_
  refine lv_iload_n hx hb dL_law_596 rfl (lv_at hl 3 rfl) ?_
  refine lv_iconst (v := nI 1) hx hb dL_law_597 ic_1 ?_
  refine lv_iadd hx hb dL_law_598 ?_
  refine va_sld hx hb hX hbl hbA hS hin1 dL_law_599 ?_
  refine muF (w' := (wF cI cZ cM x0 f k0 f2 (hsF f) (usF f) o mm Z a_n a_L a_U a_H a_O a_B b_n b_L b_U b_H b_O b_B w_a (nI tl) t_st t_nx t_kd t_by r_cl r_no (nI S) (nI N) u_is g_rl g_n g_ri g_ne g_re g_ts nt1 iv1 fd1 qo1 df1 se1 co1 ch1 vn1 vL1 vU1 vH1 vO1 vB1 (nI S) (nI tl) k_fi k_be k_to k_cl k_do k_ro k_ke k_te k_nu (nmA 48) k_no k_tu)) (va_runV (As := [.int (xs (nI i + nI 1).toNatClampNeg)]) (rest := []) ⟨hx, hb, hml, hown, hts⟩ (c_X6_best l D cI cZ cM x0 (f 1) (f 2) (f 3) (f 4) (f 5) (f 6) (f 87) (f 88) (f 89) (f 90) (f 91) (f 92) (f 93) (f 94) (f 95) (f 96) (f 97) (f 98) (f 7) (f 13) (f 14) (f 16) (f 18) (f 68) (f 69) (f 82) _ a_n a_L a_U a_H a_O a_B q_nt q_iv q_fd q_or q_df q_se q_co q_ch v_n v_L v_U v_H v_O v_B (xs (nI i + nI 1).toNatClampNeg) 1100 ra nt1 iv1 fd1 qo1 df1 se1 co1 ch1 vn1 vL1 vU1 vH1 vO1 vB1 e1) (cwV 1 hts gL_law_X6_best rfl rfl rfl ⟨rfl, hdc_X6_best⟩ ⟨Nat.le_of_ble_eq_true rfl, Nat.le_of_ble_eq_true rfl⟩) (pmV hK hP hD [0, 1, 2, 3, 4, 5, 6, 87, 88, 89, 90, 91, 92, 93, 94, 95, 96, 97, 98] (by decide) rfl rfl (ci := 6) (q0 := 0) rfl rfl) rfl rfl hl.1 rfl (lv_room (Nat.le_of_ble_eq_true rfl)) dL_law_600 ⟨Nat.le_of_ble_eq_true rfl, Nat.le_of_ble_eq_true rfl⟩) hP hD hS hA [0, 1, 2, 3, 4, 5, 6, 87, 88, 89, 90, 91, 92, 93, 94, 95, 96, 97, 98] rfl rfl ?_ (fun H locs hP hD hS => ?_)
  · repeat (first | exact sX_n | refine sX_e ?_ | refine sX_c rfl (by decide) ?_)
  refine lv_aload_n hx hb dL_law_603 rfl (lv_at hl 2 rfl) ?_
  refine lv_aload_n hx hb dL_law_604 rfl (lv_at hl 0 rfl) ?_
  refine lv_iload_n hx hb dL_law_605 rfl (lv_at hl 3 rfl) ?_
  refine lv_iconst (v := nI 1) hx hb dL_law_606 ic_1 ?_
  refine lv_iadd hx hb dL_law_607 ?_
  refine va_sld hx hb hX hbl hbA hS hin1 dL_law_608 ?_
  refine muF (w' := (wF cI cZ cM x0 f k0 f2 (hsF f) (usF f) o mm Z a_n a_L a_U a_H a_O a_B b_n b_L b_U b_H b_O b_B w_a (nI tl) t_st t_nx t_kd t_by r_cl r_no (nI S) (nI N) u_is g_rl g_n g_ri g_ne g_re g_ts nt1 iv1 fd1 qo1 df1 se1 co1 ch1 vn1 vL1 vU1 vH1 vO1 vB1 (nI S) (nI tl) k_fi k_be k_to k_cl k_do k_ro k_ke k_te nu1 (nmA 48) no1 tu1)) (va_runV (As := [.int (xs (nI i + nI 1).toNatClampNeg)]) (rest := [.int ra]) ⟨hx, hb, hml, hown, hts⟩ (c_X7_best l D cI cZ cM k0 (f2 1) (f2 2) (f2 3) (f2 4) (f2 5) (f2 6) (f2 7) _ (nI S) (nI tl) k_fi k_be k_to k_cl k_do k_ro k_ke k_te k_nu (nmA 48) k_no k_tu (xs (nI i + nI 1).toNatClampNeg) 1100 ra nu1 no1 tu1 e2) (cwV 1 hts gL_law_X7_best rfl rfl rfl ⟨rfl, hdc_X7_best⟩ ⟨Nat.le_of_ble_eq_true rfl, Nat.le_of_ble_eq_true rfl⟩) (pmV hK hP hD [99, 100, 101, 102, 103, 104, 105, 106] (by decide) rfl rfl (ci := 7) (q0 := 99) rfl rfl) rfl rfl hl.1 rfl (lv_room (Nat.le_of_ble_eq_true rfl)) dL_law_609 ⟨Nat.le_of_ble_eq_true rfl, Nat.le_of_ble_eq_true rfl⟩) hP hD hS hA [99, 100, 101, 102, 103, 104, 105, 106] rfl rfl ?_ (fun H locs hP hD hS => ?_)
  · repeat (first | exact sX_n | refine sX_e ?_ | refine sX_c rfl (by decide) ?_)
  refine lv_icmp_eq (tgt := 729) hx hb dL_law_612 (by decide) (fun _ => ?_) (fun h => absurd rfl h)
  exact kk _ _ (INV_mk N hN hom ho hc hk hH hSR hT1 hT2 hB1 hP hD hS)
set_option maxHeartbeats 4000000 in
set_option maxRecDepth 100000 in
theorem st_least {p : Program} {l : Launch} {e : Env} {s : State} {m : MethodId} {below : List Frame} {meth : Method} {c : Code} {b L : Nat} {xs : Nat → Int32} {Q : State → Prop} {D : va_G} {cI cZ cM : ClassId} {adK adV : Nat → Nat} {x0 : Nat} {f : Nat → Nat} {k0 : Nat} {f2 : Nat → Nat} {i : Nat} {ls : Array Slot} {H : Heap} {locs : List Loc} (C0 : lw_At p s m meth c b L xs) (hL : L ≤ 2048) (hK : KK D cI cZ cM s) (hE : ENV (fun q : Nat => s.heap.size ≤ q) adK adV s s.heap) (hi3 : i + 3 < L) (hl : lv_has ls 4 [(0, .ref b), (1, .ref x0), (2, .ref k0), (3, .int (nI i))]) (hI : INV D cI cZ cM x0 f k0 f2 (fun q : Nat => s.heap.size ≤ q) s.heap H locs) (kk : ∀ (H1 : Heap) (locs1 : List Loc), INV D cI cZ cM x0 f k0 f2 (fun q : Nat => s.heap.size ≤ q) s.heap H1 locs1 → W p l e room_1 s m #[Value.ref b] below meth c H1 locs1 107 7060 Q (F0 m 729 ls [])) : W p l e room_1 s m #[Value.ref b] below meth c H locs 107 7060 Q (F0 m 617 ls []) := by
  obtain ⟨hx, hb, hr, hml, hown, hts0, hX, hbl, hlocks, hgv⟩ := C0
  have hb : c.code = cL_law := hb
  have hown : s.vm.findClass RL = some m.cls := hown
  have hts : ∀ w ∈ wsL_law, w.before #[Value.ref b] s = true := fun w h => hts0 w (wsL_law_in w h)
  have hA : ∀ q : Nat, s.heap.size ≤ q → (fun q : Nat => s.heap.size ≤ q) q := fun _ h => h
  have hbA : ¬ (fun q : Nat => s.heap.size ≤ q) b := Nat.not_le.mpr hbl
  have hin1 : vp_in (nI i + nI 1) L := by rw [nI_add]; exact vp_in_nI (by omega) (by omega)
  obtain ⟨r, T, hist, Y, Z, tl, S, N, o, mm, a_n, a_L, a_U, a_H, a_O, a_B, b_n, b_L, b_U, b_H, b_O, b_B, w_a, t_st, t_nx, t_kd, t_by, r_cl, r_no, u_is, g_rl, g_n, g_ri, g_ne, g_re, g_ts, q_nt, q_iv, q_fd, q_or, q_df, q_se, q_co, q_ch, v_n, v_L, v_U, v_H, v_O, v_B, k_fi, k_be, k_to, k_cl, k_do, k_ro, k_ke, k_te, k_nu, k_no, k_tu, ⟨hom, ho, hc, hk, hH, hSR, hT1, hT2, hB⟩, hP, hD, hS⟩ := hI
  have hN := hH.2.1
  obtain ⟨ra, nt1, iv1, fd1, qo1, df1, se1, co1, ch1, vn1, vL1, vU1, vH1, vO1, vB1, nu1, no1, tu1, e1, e2, hB1⟩ := E_least ho hc hk (Nat.le_refl 1100) (df := q_df) (se := q_se) (co := q_co) (ch := q_ch) hB k_nu k_no k_tu (xs (nI i + nI 1).toNatClampNeg)
  refine lv_aload_n hx hb dL_law_617 rfl (lv_at hl 1 rfl) ?_
  refine lv_aload_n hx hb dL_law_618 rfl (lv_at hl 0 rfl) ?_
  refine lv_iload_n hx hb dL_law_619 rfl (lv_at hl 3 rfl) ?_
  refine lv_iconst (v := nI 1) hx hb dL_law_620 ic_1 ?_
  refine lv_iadd hx hb dL_law_621 ?_
  refine va_sld hx hb hX hbl hbA hS hin1 dL_law_622 ?_
  refine muF (w' := (wF cI cZ cM x0 f k0 f2 (hsF f) (usF f) o mm Z a_n a_L a_U a_H a_O a_B b_n b_L b_U b_H b_O b_B w_a (nI tl) t_st t_nx t_kd t_by r_cl r_no (nI S) (nI N) u_is g_rl g_n g_ri g_ne g_re g_ts nt1 iv1 fd1 qo1 df1 se1 co1 ch1 vn1 vL1 vU1 vH1 vO1 vB1 (nI S) (nI tl) k_fi k_be k_to k_cl k_do k_ro k_ke k_te k_nu (nmA 48) k_no k_tu)) (va_runV (As := [.int (xs (nI i + nI 1).toNatClampNeg)]) (rest := []) ⟨hx, hb, hml, hown, hts⟩ (c_X6_least l D cI cZ cM x0 (f 1) (f 2) (f 3) (f 4) (f 5) (f 6) (f 87) (f 88) (f 89) (f 90) (f 91) (f 92) (f 93) (f 94) (f 95) (f 96) (f 97) (f 98) (f 7) (f 13) (f 14) (f 16) (f 18) (f 68) (f 69) (f 82) _ a_n a_L a_U a_H a_O a_B q_nt q_iv q_fd q_or q_df q_se q_co q_ch v_n v_L v_U v_H v_O v_B (xs (nI i + nI 1).toNatClampNeg) 1100 ra nt1 iv1 fd1 qo1 df1 se1 co1 ch1 vn1 vL1 vU1 vH1 vO1 vB1 e1) (cwV 1 hts gL_law_X6_least rfl rfl rfl ⟨rfl, hdc_X6_least⟩ ⟨Nat.le_of_ble_eq_true rfl, Nat.le_of_ble_eq_true rfl⟩) (pmV hK hP hD [0, 1, 2, 3, 4, 5, 6, 87, 88, 89, 90, 91, 92, 93, 94, 95, 96, 97, 98] (by decide) rfl rfl (ci := 6) (q0 := 0) rfl rfl) rfl rfl hl.1 rfl (lv_room (Nat.le_of_ble_eq_true rfl)) dL_law_623 ⟨Nat.le_of_ble_eq_true rfl, Nat.le_of_ble_eq_true rfl⟩) hP hD hS hA [0, 1, 2, 3, 4, 5, 6, 87, 88, 89, 90, 91, 92, 93, 94, 95, 96, 97, 98] rfl rfl ?_ (fun H locs hP hD hS => ?_)
  · repeat (first | exact sX_n | refine sX_e ?_ | refine sX_c rfl (by decide) ?_)
  refine lv_aload_n hx hb dL_law_626 rfl (lv_at hl 2 rfl) ?_
  refine lv_aload_n hx hb dL_law_627 rfl (lv_at hl 0 rfl) ?_
  refine lv_iload_n hx hb dL_law_628 rfl (lv_at hl 3 rfl) ?_
  refine lv_iconst (v := nI 1) hx hb dL_law_629 ic_1 ?_
  refine lv_iadd hx hb dL_law_630 ?_
  refine va_sld hx hb hX hbl hbA hS hin1 dL_law_631 ?_
  refine muF (w' := (wF cI cZ cM x0 f k0 f2 (hsF f) (usF f) o mm Z a_n a_L a_U a_H a_O a_B b_n b_L b_U b_H b_O b_B w_a (nI tl) t_st t_nx t_kd t_by r_cl r_no (nI S) (nI N) u_is g_rl g_n g_ri g_ne g_re g_ts nt1 iv1 fd1 qo1 df1 se1 co1 ch1 vn1 vL1 vU1 vH1 vO1 vB1 (nI S) (nI tl) k_fi k_be k_to k_cl k_do k_ro k_ke k_te nu1 (nmA 48) no1 tu1)) (va_runV (As := [.int (xs (nI i + nI 1).toNatClampNeg)]) (rest := [.int ra]) ⟨hx, hb, hml, hown, hts⟩ (c_X7_least l D cI cZ cM k0 (f2 1) (f2 2) (f2 3) (f2 4) (f2 5) (f2 6) (f2 7) _ (nI S) (nI tl) k_fi k_be k_to k_cl k_do k_ro k_ke k_te k_nu (nmA 48) k_no k_tu (xs (nI i + nI 1).toNatClampNeg) 1100 ra k_ro nu1 no1 tu1 e2) (cwV 1 hts gL_law_X7_least rfl rfl rfl ⟨rfl, hdc_X7_least⟩ ⟨Nat.le_of_ble_eq_true rfl, Nat.le_of_ble_eq_true rfl⟩) (pmV hK hP hD [99, 100, 101, 102, 103, 104, 105, 106] (by decide) rfl rfl (ci := 7) (q0 := 99) rfl rfl) rfl rfl hl.1 rfl (lv_room (Nat.le_of_ble_eq_true rfl)) dL_law_632 ⟨Nat.le_of_ble_eq_true rfl, Nat.le_of_ble_eq_true rfl⟩) hP hD hS hA [99, 100, 101, 102, 103, 104, 105, 106] rfl rfl ?_ (fun H locs hP hD hS => ?_)
  · repeat (first | exact sX_n | refine sX_e ?_ | refine sX_c rfl (by decide) ?_)
  refine lv_icmp_eq (tgt := 729) hx hb dL_law_635 (by decide) (fun _ => ?_) (fun h => absurd rfl h)
  exact kk _ _ (INV_mk N hN hom ho hc hk hH hSR hT1 hT2 hB1 hP hD hS)
set_option maxHeartbeats 4000000 in
set_option maxRecDepth 100000 in
theorem st_would {p : Program} {l : Launch} {e : Env} {s : State} {m : MethodId} {below : List Frame} {meth : Method} {c : Code} {b L : Nat} {xs : Nat → Int32} {Q : State → Prop} {D : va_G} {cI cZ cM : ClassId} {adK adV : Nat → Nat} {x0 : Nat} {f : Nat → Nat} {k0 : Nat} {f2 : Nat → Nat} {i : Nat} {ls : Array Slot} {H : Heap} {locs : List Loc} (C0 : lw_At p s m meth c b L xs) (hL : L ≤ 2048) (hK : KK D cI cZ cM s) (hE : ENV (fun q : Nat => s.heap.size ≤ q) adK adV s s.heap) (hi3 : i + 3 < L) (hl : lv_has ls 4 [(0, .ref b), (1, .ref x0), (2, .ref k0), (3, .int (nI i))]) (hI : INV D cI cZ cM x0 f k0 f2 (fun q : Nat => s.heap.size ≤ q) s.heap H locs) (kk : ∀ (H1 : Heap) (locs1 : List Loc), INV D cI cZ cM x0 f k0 f2 (fun q : Nat => s.heap.size ≤ q) s.heap H1 locs1 → W p l e room_1 s m #[Value.ref b] below meth c H1 locs1 107 7060 Q (F0 m 729 ls [])) : W p l e room_1 s m #[Value.ref b] below meth c H locs 107 7060 Q (F0 m 640 ls []) := by
  obtain ⟨hx, hb, hr, hml, hown, hts0, hX, hbl, hlocks, hgv⟩ := C0
  have hb : c.code = cL_law := hb
  have hown : s.vm.findClass RL = some m.cls := hown
  have hts : ∀ w ∈ wsL_law, w.before #[Value.ref b] s = true := fun w h => hts0 w (wsL_law_in w h)
  have hA : ∀ q : Nat, s.heap.size ≤ q → (fun q : Nat => s.heap.size ≤ q) q := fun _ h => h
  have hbA : ¬ (fun q : Nat => s.heap.size ≤ q) b := Nat.not_le.mpr hbl
  have hin1 : vp_in (nI i + nI 1) L := by rw [nI_add]; exact vp_in_nI (by omega) (by omega)
  have hin2 : vp_in (nI i + nI 2) L := by rw [nI_add]; exact vp_in_nI (by omega) (by omega)
  obtain ⟨r, T, hist, Y, Z, tl, S, N, o, mm, a_n, a_L, a_U, a_H, a_O, a_B, b_n, b_L, b_U, b_H, b_O, b_B, w_a, t_st, t_nx, t_kd, t_by, r_cl, r_no, u_is, g_rl, g_n, g_ri, g_ne, g_re, g_ts, q_nt, q_iv, q_fd, q_or, q_df, q_se, q_co, q_ch, v_n, v_L, v_U, v_H, v_O, v_B, k_fi, k_be, k_to, k_cl, k_do, k_ro, k_ke, k_te, k_nu, k_no, k_tu, ⟨hom, ho, hc, hk, hH, hSR, hT1, hT2, hB⟩, hP, hD, hS⟩ := hI
  have hN := hH.2.1
  obtain ⟨ra, bn1, bL1, bU1, bH1, bO1, bB1, nt1, iv1, fd1, qo1, df1, se1, co1, ch1, vn1, vL1, vU1, vH1, vO1, vB1, no1, tu1, e1, e2, hB1⟩ := E_would ho hc hk (Nat.le_refl 1100) (df := q_df) (se := q_se) (co := q_co) (ch := q_ch) hB b_n b_L b_U b_H b_O b_B k_no k_tu (xs (nI i + nI 1).toNatClampNeg) (xs (nI i + nI 2).toNatClampNeg)
  refine lv_aload_n hx hb dL_law_640 rfl (lv_at hl 1 rfl) ?_
  refine lv_aload_n hx hb dL_law_641 rfl (lv_at hl 0 rfl) ?_
  refine lv_iload_n hx hb dL_law_642 rfl (lv_at hl 3 rfl) ?_
  refine lv_iconst (v := nI 1) hx hb dL_law_643 ic_1 ?_
  refine lv_iadd hx hb dL_law_644 ?_
  refine va_sld hx hb hX hbl hbA hS hin1 dL_law_645 ?_
  refine lv_aload_n hx hb dL_law_646 rfl (lv_at hl 0 rfl) ?_
  refine lv_iload_n hx hb dL_law_647 rfl (lv_at hl 3 rfl) ?_
  refine lv_iconst (v := nI 2) hx hb dL_law_648 ic_2 ?_
  refine lv_iadd hx hb dL_law_649 ?_
  refine va_sld hx hb hX hbl hbA hS hin2 dL_law_650 ?_
  refine muF (w' := (wF cI cZ cM x0 f k0 f2 (hsF f) (usF f) o mm Z a_n a_L a_U a_H a_O a_B bn1 bL1 bU1 bH1 bO1 bB1 w_a (nI tl) t_st t_nx t_kd t_by r_cl r_no (nI S) (nI N) u_is g_rl g_n g_ri g_ne g_re g_ts nt1 iv1 fd1 qo1 df1 se1 co1 ch1 vn1 vL1 vU1 vH1 vO1 vB1 (nI S) (nI tl) k_fi k_be k_to k_cl k_do k_ro k_ke k_te k_nu (nmA 48) k_no k_tu)) (va_runV (As := [.int (xs (nI i + nI 1).toNatClampNeg), .int (xs (nI i + nI 2).toNatClampNeg)]) (rest := []) ⟨hx, hb, hml, hown, hts⟩ (c_X6_would l D cI cZ cM x0 (f 1) (f 2) (f 3) (f 4) (f 5) (f 6) (f 7) (f 8) (f 9) (f 10) (f 11) (f 12) (f 87) (f 88) (f 89) (f 90) (f 91) (f 92) (f 93) (f 94) (f 95) (f 96) (f 97) (f 98) (f 13) (f 14) (f 16) (f 18) (f 68) (f 69) (f 82) _ a_n a_L a_U a_H a_O a_B b_n b_L b_U b_H b_O b_B q_nt q_iv q_fd q_or q_df q_se q_co q_ch v_n v_L v_U v_H v_O v_B (xs (nI i + nI 1).toNatClampNeg) (xs (nI i + nI 2).toNatClampNeg) 1100 ra bn1 bL1 bU1 bH1 bO1 bB1 nt1 iv1 fd1 qo1 df1 se1 co1 ch1 vn1 vL1 vU1 vH1 vO1 vB1 e1) (cwV 2 hts gL_law_X6_would rfl rfl rfl ⟨rfl, hdc_X6_would⟩ ⟨Nat.le_of_ble_eq_true rfl, Nat.le_of_ble_eq_true rfl⟩) (pmV hK hP hD [0, 1, 2, 3, 4, 5, 6, 7, 8, 9, 10, 11, 12, 87, 88, 89, 90, 91, 92, 93, 94, 95, 96, 97, 98] (by decide) rfl rfl (ci := 6) (q0 := 0) rfl rfl) rfl rfl hl.1 rfl (lv_room (Nat.le_of_ble_eq_true rfl)) dL_law_651 ⟨Nat.le_of_ble_eq_true rfl, Nat.le_of_ble_eq_true rfl⟩) hP hD hS hA [0, 1, 2, 3, 4, 5, 6, 7, 8, 9, 10, 11, 12, 87, 88, 89, 90, 91, 92, 93, 94, 95, 96, 97, 98] rfl rfl ?_ (fun H locs hP hD hS => ?_)
  · repeat (first | exact sX_n | refine sX_e ?_ | refine sX_c rfl (by decide) ?_)
  refine lv_aload_n hx hb dL_law_654 rfl (lv_at hl 2 rfl) ?_
  refine lv_aload_n hx hb dL_law_655 rfl (lv_at hl 0 rfl) ?_
  refine lv_iload_n hx hb dL_law_656 rfl (lv_at hl 3 rfl) ?_
  refine lv_iconst (v := nI 1) hx hb dL_law_657 ic_1 ?_
  refine lv_iadd hx hb dL_law_658 ?_
  refine va_sld hx hb hX hbl hbA hS hin1 dL_law_659 ?_
  refine lv_aload_n hx hb dL_law_660 rfl (lv_at hl 0 rfl) ?_
  refine lv_iload_n hx hb dL_law_661 rfl (lv_at hl 3 rfl) ?_
  refine lv_iconst (v := nI 2) hx hb dL_law_662 ic_2 ?_
  refine lv_iadd hx hb dL_law_663 ?_
  refine va_sld hx hb hX hbl hbA hS hin2 dL_law_664 ?_
  refine muF (w' := (wF cI cZ cM x0 f k0 f2 (hsF f) (usF f) o mm Z a_n a_L a_U a_H a_O a_B bn1 bL1 bU1 bH1 bO1 bB1 w_a (nI tl) t_st t_nx t_kd t_by r_cl r_no (nI S) (nI N) u_is g_rl g_n g_ri g_ne g_re g_ts nt1 iv1 fd1 qo1 df1 se1 co1 ch1 vn1 vL1 vU1 vH1 vO1 vB1 (nI S) (nI tl) k_fi k_be k_to k_cl k_do k_ro k_ke k_te k_nu (nmA 48) no1 tu1)) (va_runV (As := [.int (xs (nI i + nI 1).toNatClampNeg), .int (xs (nI i + nI 2).toNatClampNeg)]) (rest := [.int ra]) ⟨hx, hb, hml, hown, hts⟩ (c_X7_would l D cI cZ cM k0 (f2 1) (f2 2) (f2 3) (f2 4) (f2 5) (f2 6) (f2 7) _ (nI S) (nI tl) k_fi k_be k_to k_cl k_do k_ro k_ke k_te k_nu (nmA 48) k_no k_tu (xs (nI i + nI 1).toNatClampNeg) (xs (nI i + nI 2).toNatClampNeg) 1100 ra k_ro no1 tu1 e2) (cwV 2 hts gL_law_X7_would rfl rfl rfl ⟨rfl, hdc_X7_would⟩ ⟨Nat.le_of_ble_eq_true rfl, Nat.le_of_ble_eq_true rfl⟩) (pmV hK hP hD [99, 100, 101, 102, 103, 104, 105, 106] (by decide) rfl rfl (ci := 7) (q0 := 99) rfl rfl) rfl rfl hl.1 rfl (lv_room (Nat.le_of_ble_eq_true rfl)) dL_law_665 ⟨Nat.le_of_ble_eq_true rfl, Nat.le_of_ble_eq_true rfl⟩) hP hD hS hA [99, 100, 101, 102, 103, 104, 105, 106] rfl rfl ?_ (fun H locs hP hD hS => ?_)
  · repeat (first | exact sX_n | refine sX_e ?_ | refine sX_c rfl (by decide) ?_)
  refine lv_icmp_eq (tgt := 729) hx hb dL_law_668 (by decide) (fun _ => ?_) (fun h => absurd rfl h)
  exact kk _ _ (INV_mk N hN hom ho hc hk hH hSR hT1 hT2 hB1 hP hD hS)
set_option maxHeartbeats 4000000 in
set_option maxRecDepth 100000 in
theorem st_after {p : Program} {l : Launch} {e : Env} {s : State} {m : MethodId} {below : List Frame} {meth : Method} {c : Code} {b L : Nat} {xs : Nat → Int32} {Q : State → Prop} {D : va_G} {cI cZ cM : ClassId} {adK adV : Nat → Nat} {x0 : Nat} {f : Nat → Nat} {k0 : Nat} {f2 : Nat → Nat} {i : Nat} {ls : Array Slot} {H : Heap} {locs : List Loc} (C0 : lw_At p s m meth c b L xs) (hL : L ≤ 2048) (hK : KK D cI cZ cM s) (hE : ENV (fun q : Nat => s.heap.size ≤ q) adK adV s s.heap) (hi3 : i + 3 < L) (hl : lv_has ls 4 [(0, .ref b), (1, .ref x0), (2, .ref k0), (3, .int (nI i))]) (hI : INV D cI cZ cM x0 f k0 f2 (fun q : Nat => s.heap.size ≤ q) s.heap H locs) (kk : ∀ (H1 : Heap) (locs1 : List Loc), INV D cI cZ cM x0 f k0 f2 (fun q : Nat => s.heap.size ≤ q) s.heap H1 locs1 → W p l e room_1 s m #[Value.ref b] below meth c H1 locs1 107 7060 Q (F0 m 729 ls [])) : W p l e room_1 s m #[Value.ref b] below meth c H locs 107 7060 Q (F0 m 673 ls []) := by
  obtain ⟨hx, hb, hr, hml, hown, hts0, hX, hbl, hlocks, hgv⟩ := C0
  have hb : c.code = cL_law := hb
  have hown : s.vm.findClass RL = some m.cls := hown
  have hts : ∀ w ∈ wsL_law, w.before #[Value.ref b] s = true := fun w h => hts0 w (wsL_law_in w h)
  have hA : ∀ q : Nat, s.heap.size ≤ q → (fun q : Nat => s.heap.size ≤ q) q := fun _ h => h
  have hbA : ¬ (fun q : Nat => s.heap.size ≤ q) b := Nat.not_le.mpr hbl
  have hin1 : vp_in (nI i + nI 1) L := by rw [nI_add]; exact vp_in_nI (by omega) (by omega)
  have hin2 : vp_in (nI i + nI 2) L := by rw [nI_add]; exact vp_in_nI (by omega) (by omega)
  obtain ⟨r, T, hist, Y, Z, tl, S, N, o, mm, a_n, a_L, a_U, a_H, a_O, a_B, b_n, b_L, b_U, b_H, b_O, b_B, w_a, t_st, t_nx, t_kd, t_by, r_cl, r_no, u_is, g_rl, g_n, g_ri, g_ne, g_re, g_ts, q_nt, q_iv, q_fd, q_or, q_df, q_se, q_co, q_ch, v_n, v_L, v_U, v_H, v_O, v_B, k_fi, k_be, k_to, k_cl, k_do, k_ro, k_ke, k_te, k_nu, k_no, k_tu, ⟨hom, ho, hc, hk, hH, hSR, hT1, hT2, hB⟩, hP, hD, hS⟩ := hI
  have hN := hH.2.1
  obtain ⟨ra, w1, nu1, e1, e2⟩ := E_after ho hc hk (Nat.le_refl 1100) w_a k_nu (xs (nI i + nI 1).toNatClampNeg) (xs (nI i + nI 2).toNatClampNeg)
  refine lv_aload_n hx hb dL_law_673 rfl (lv_at hl 1 rfl) ?_
  refine lv_aload_n hx hb dL_law_674 rfl (lv_at hl 0 rfl) ?_
  refine lv_iload_n hx hb dL_law_675 rfl (lv_at hl 3 rfl) ?_
  refine lv_iconst (v := nI 1) hx hb dL_law_676 ic_1 ?_
  refine lv_iadd hx hb dL_law_677 ?_
  refine va_sld hx hb hX hbl hbA hS hin1 dL_law_678 ?_
  refine lv_aload_n hx hb dL_law_679 rfl (lv_at hl 0 rfl) ?_
  refine lv_iload_n hx hb dL_law_680 rfl (lv_at hl 3 rfl) ?_
  refine lv_iconst (v := nI 2) hx hb dL_law_681 ic_2 ?_
  refine lv_iadd hx hb dL_law_682 ?_
  refine va_sld hx hb hX hbl hbA hS hin2 dL_law_683 ?_
  refine muF (w' := (wF cI cZ cM x0 f k0 f2 (hsF f) (usF f) o mm Z a_n a_L a_U a_H a_O a_B b_n b_L b_U b_H b_O b_B w1 (nI tl) t_st t_nx t_kd t_by r_cl r_no (nI S) (nI N) u_is g_rl g_n g_ri g_ne g_re g_ts q_nt q_iv q_fd q_or q_df q_se q_co q_ch v_n v_L v_U v_H v_O v_B (nI S) (nI tl) k_fi k_be k_to k_cl k_do k_ro k_ke k_te k_nu (nmA 48) k_no k_tu)) (va_runV (As := [.int (xs (nI i + nI 1).toNatClampNeg), .int (xs (nI i + nI 2).toNatClampNeg)]) (rest := []) ⟨hx, hb, hml, hown, hts⟩ (c_X6_after l D cI cZ cM x0 (f 1) (f 2) (f 3) (f 4) (f 5) (f 6) (f 13) (f 7) (f 14) (f 16) (f 18) (f 68) (f 69) (f 82) (f 87) _ a_n a_L a_U a_H a_O a_B w_a (xs (nI i + nI 1).toNatClampNeg) (xs (nI i + nI 2).toNatClampNeg) 1100 ra w1 e1) (cwV 2 hts gL_law_X6_after rfl rfl rfl ⟨rfl, hdc_X6_after⟩ ⟨Nat.le_of_ble_eq_true rfl, Nat.le_of_ble_eq_true rfl⟩) (pmV hK hP hD [0, 1, 2, 3, 4, 5, 6, 13] (by decide) rfl rfl (ci := 6) (q0 := 0) rfl rfl) rfl rfl hl.1 rfl (lv_room (Nat.le_of_ble_eq_true rfl)) dL_law_684 ⟨Nat.le_of_ble_eq_true rfl, Nat.le_of_ble_eq_true rfl⟩) hP hD hS hA [0, 1, 2, 3, 4, 5, 6, 13] rfl rfl ?_ (fun H locs hP hD hS => ?_)
  · repeat (first | exact sX_n | refine sX_e ?_ | refine sX_c rfl (by decide) ?_)
  refine lv_aload_n hx hb dL_law_687 rfl (lv_at hl 2 rfl) ?_
  refine lv_aload_n hx hb dL_law_688 rfl (lv_at hl 0 rfl) ?_
  refine lv_iload_n hx hb dL_law_689 rfl (lv_at hl 3 rfl) ?_
  refine lv_iconst (v := nI 1) hx hb dL_law_690 ic_1 ?_
  refine lv_iadd hx hb dL_law_691 ?_
  refine va_sld hx hb hX hbl hbA hS hin1 dL_law_692 ?_
  refine lv_aload_n hx hb dL_law_693 rfl (lv_at hl 0 rfl) ?_
  refine lv_iload_n hx hb dL_law_694 rfl (lv_at hl 3 rfl) ?_
  refine lv_iconst (v := nI 2) hx hb dL_law_695 ic_2 ?_
  refine lv_iadd hx hb dL_law_696 ?_
  refine va_sld hx hb hX hbl hbA hS hin2 dL_law_697 ?_
  refine muF (w' := (wF cI cZ cM x0 f k0 f2 (hsF f) (usF f) o mm Z a_n a_L a_U a_H a_O a_B b_n b_L b_U b_H b_O b_B w1 (nI tl) t_st t_nx t_kd t_by r_cl r_no (nI S) (nI N) u_is g_rl g_n g_ri g_ne g_re g_ts q_nt q_iv q_fd q_or q_df q_se q_co q_ch v_n v_L v_U v_H v_O v_B (nI S) (nI tl) k_fi k_be k_to k_cl k_do k_ro k_ke k_te nu1 (nmA 48) k_no k_tu)) (va_runV (As := [.int (xs (nI i + nI 1).toNatClampNeg), .int (xs (nI i + nI 2).toNatClampNeg)]) (rest := [.int ra]) ⟨hx, hb, hml, hown, hts⟩ (c_X7_after l D cI cZ cM k0 (f2 1) (f2 2) (f2 3) (f2 4) (f2 5) (f2 6) (f2 7) _ (nI S) (nI tl) k_fi k_be k_to k_cl k_do k_ro k_ke k_te k_nu (nmA 48) k_no k_tu (xs (nI i + nI 1).toNatClampNeg) (xs (nI i + nI 2).toNatClampNeg) 1100 ra k_ro nu1 e2) (cwV 2 hts gL_law_X7_after rfl rfl rfl ⟨rfl, hdc_X7_after⟩ ⟨Nat.le_of_ble_eq_true rfl, Nat.le_of_ble_eq_true rfl⟩) (pmV hK hP hD [99, 100, 101, 102, 103, 104, 105, 106] (by decide) rfl rfl (ci := 7) (q0 := 99) rfl rfl) rfl rfl hl.1 rfl (lv_room (Nat.le_of_ble_eq_true rfl)) dL_law_698 ⟨Nat.le_of_ble_eq_true rfl, Nat.le_of_ble_eq_true rfl⟩) hP hD hS hA [99, 100, 101, 102, 103, 104, 105, 106] rfl rfl ?_ (fun H locs hP hD hS => ?_)
  · repeat (first | exact sX_n | refine sX_e ?_ | refine sX_c rfl (by decide) ?_)
  refine lv_icmp_eq (tgt := 729) hx hb dL_law_701 (by decide) (fun _ => ?_) (fun h => absurd rfl h)
  exact kk _ _ (INV_mk N hN hom ho hc hk hH hSR hT1 hT2 hB hP hD hS)
set_option maxHeartbeats 4000000 in
set_option maxRecDepth 100000 in
theorem st_count {p : Program} {l : Launch} {e : Env} {s : State} {m : MethodId} {below : List Frame} {meth : Method} {c : Code} {b L : Nat} {xs : Nat → Int32} {Q : State → Prop} {D : va_G} {cI cZ cM : ClassId} {adK adV : Nat → Nat} {x0 : Nat} {f : Nat → Nat} {k0 : Nat} {f2 : Nat → Nat} {i : Nat} {ls : Array Slot} {H : Heap} {locs : List Loc} (C0 : lw_At p s m meth c b L xs) (hL : L ≤ 2048) (hK : KK D cI cZ cM s) (hE : ENV (fun q : Nat => s.heap.size ≤ q) adK adV s s.heap) (hi3 : i + 3 < L) (hl : lv_has ls 4 [(0, .ref b), (1, .ref x0), (2, .ref k0), (3, .int (nI i))]) (hI : INV D cI cZ cM x0 f k0 f2 (fun q : Nat => s.heap.size ≤ q) s.heap H locs) (kk : ∀ (H1 : Heap) (locs1 : List Loc), INV D cI cZ cM x0 f k0 f2 (fun q : Nat => s.heap.size ≤ q) s.heap H1 locs1 → W p l e room_1 s m #[Value.ref b] below meth c H1 locs1 107 7060 Q (F0 m 729 ls [])) : W p l e room_1 s m #[Value.ref b] below meth c H locs 107 7060 Q (F0 m 706 ls []) := by
  obtain ⟨hx, hb, hr, hml, hown, hts0, hX, hbl, hlocks, hgv⟩ := C0
  have hb : c.code = cL_law := hb
  have hown : s.vm.findClass RL = some m.cls := hown
  have hts : ∀ w ∈ wsL_law, w.before #[Value.ref b] s = true := fun w h => hts0 w (wsL_law_in w h)
  have hA : ∀ q : Nat, s.heap.size ≤ q → (fun q : Nat => s.heap.size ≤ q) q := fun _ h => h
  have hbA : ¬ (fun q : Nat => s.heap.size ≤ q) b := Nat.not_le.mpr hbl
  have hin1 : vp_in (nI i + nI 1) L := by rw [nI_add]; exact vp_in_nI (by omega) (by omega)
  obtain ⟨r, T, hist, Y, Z, tl, S, N, o, mm, a_n, a_L, a_U, a_H, a_O, a_B, b_n, b_L, b_U, b_H, b_O, b_B, w_a, t_st, t_nx, t_kd, t_by, r_cl, r_no, u_is, g_rl, g_n, g_ri, g_ne, g_re, g_ts, q_nt, q_iv, q_fd, q_or, q_df, q_se, q_co, q_ch, v_n, v_L, v_U, v_H, v_O, v_B, k_fi, k_be, k_to, k_cl, k_do, k_ro, k_ke, k_te, k_nu, k_no, k_tu, ⟨hom, ho, hc, hk, hH, hSR, hT1, hT2, hB⟩, hP, hD, hS⟩ := hI
  have hN := hH.2.1
  obtain ⟨ra, gn1, ne1, re1, e1, e2⟩ := E_count ho hc hk (Nat.le_refl 1100) g_n g_ne g_re (nI S) (nI tl) (xs (nI i + nI 1).toNatClampNeg)
  refine lv_aload_n hx hb dL_law_706 rfl (lv_at hl 1 rfl) ?_
  refine lv_aload_n hx hb dL_law_707 rfl (lv_at hl 0 rfl) ?_
  refine lv_iload_n hx hb dL_law_708 rfl (lv_at hl 3 rfl) ?_
  refine lv_iconst (v := nI 1) hx hb dL_law_709 ic_1 ?_
  refine lv_iadd hx hb dL_law_710 ?_
  refine va_sld hx hb hX hbl hbA hS hin1 dL_law_711 ?_
  refine muF (w' := (wF cI cZ cM x0 f k0 f2 (hsF f) (usF f) o mm Z a_n a_L a_U a_H a_O a_B b_n b_L b_U b_H b_O b_B w_a (nI tl) t_st t_nx t_kd t_by r_cl r_no (nI S) (nI N) u_is g_rl gn1 g_ri ne1 re1 g_ts q_nt q_iv q_fd q_or q_df q_se q_co q_ch v_n v_L v_U v_H v_O v_B (nI S) (nI tl) k_fi k_be k_to k_cl k_do k_ro k_ke k_te k_nu (nmA 48) k_no k_tu)) (va_runV (As := [.int (xs (nI i + nI 1).toNatClampNeg)]) (rest := []) ⟨hx, hb, hml, hown, hts⟩ (c_X6_count l D cI cZ cM x0 (f 1) (f 2) (f 3) (f 4) (f 5) (f 6) (f 82) (f 83) (f 84) (f 85) (f 86) (f 18) (f 19) (f 14) (f 15) (f 7) (f 13) (f 16) (f 68) (f 69) (f 87) _ a_n a_L a_U a_H a_O a_B g_rl g_n g_ri g_ne g_re g_ts (nI S) (nI N) (hsF f) (nI tl) t_st t_nx t_kd t_by (xs (nI i + nI 1).toNatClampNeg) 1100 ra gn1 ne1 re1 e1) (cwV 1 hts gL_law_X6_count rfl rfl rfl ⟨rfl, hdc_X6_count⟩ ⟨Nat.le_of_ble_eq_true rfl, Nat.le_of_ble_eq_true rfl⟩) (pmV hK hP hD [0, 1, 2, 3, 4, 5, 6, 82, 83, 84, 85, 86, 18, 19, 14, 15] (by decide) rfl rfl (ci := 6) (q0 := 0) rfl rfl) rfl rfl hl.1 rfl (lv_room (Nat.le_of_ble_eq_true rfl)) dL_law_712 ⟨Nat.le_of_ble_eq_true rfl, Nat.le_of_ble_eq_true rfl⟩) hP hD hS hA [0, 1, 2, 3, 4, 5, 6, 82, 83, 84, 85, 86, 18, 19, 14, 15] rfl rfl ?_ (fun H locs hP hD hS => ?_)
  · repeat (first | exact sX_n | refine sX_e ?_ | refine sX_c rfl (by decide) ?_)
  refine lv_aload_n hx hb dL_law_715 rfl (lv_at hl 2 rfl) ?_
  refine lv_aload_n hx hb dL_law_716 rfl (lv_at hl 0 rfl) ?_
  refine lv_iload_n hx hb dL_law_717 rfl (lv_at hl 3 rfl) ?_
  refine lv_iconst (v := nI 1) hx hb dL_law_718 ic_1 ?_
  refine lv_iadd hx hb dL_law_719 ?_
  refine va_sld hx hb hX hbl hbA hS hin1 dL_law_720 ?_
  refine roI (va_runV (As := [.int (xs (nI i + nI 1).toNatClampNeg)]) (rest := [.int ra]) ⟨hx, hb, hml, hown, hts⟩ (c_X7_count l D cI cZ cM k0 (f2 1) (f2 2) (f2 3) (f2 4) (f2 5) (f2 6) (f2 7) (nI S) (nI tl) k_fi k_be k_to k_cl k_do k_ro k_ke k_te k_nu (nmA 48) k_no k_tu (xs (nI i + nI 1).toNatClampNeg) 1100 ra e2) (cwV 1 hts gL_law_X7_count rfl rfl rfl ⟨rfl, hdc_X7_count⟩ ⟨Nat.le_of_ble_eq_true rfl, Nat.le_of_ble_eq_true rfl⟩) (prV hK hP [99, 100, 101, 102, 103, 104, 105, 106] rfl (ci := 7) (q0 := 99) rfl rfl) rfl rfl hl.1 rfl (lv_room (Nat.le_of_ble_eq_true rfl)) dL_law_721 ⟨Nat.le_of_ble_eq_true rfl, Nat.le_of_ble_eq_true rfl⟩) ?_
  refine lv_icmp_eq (tgt := 729) hx hb dL_law_724 (by decide) (fun _ => ?_) (fun h => absurd rfl h)
  exact kk _ _ (INV_mk N hN hom ho hc hk hH hSR hT1 hT2 hB hP hD hS)
