/-! THE LOOP OF THE LAW -/
theorem and31 (y : Int32) : ∃ j, j < 32 ∧ y &&& nI 31 = nI j := by
  refine ⟨(y.toBitVec &&& BitVec.ofNat 32 31).toNat, ?_, ?_⟩
  · rw [BitVec.toNat_and]
    exact Nat.lt_of_le_of_lt Nat.and_le_right (by decide)
  · apply Int32.toBitVec_inj.1
    show y.toBitVec &&& BitVec.ofNat 32 31 = BitVec.ofNat 32 (y.toBitVec &&& BitVec.ofNat 32 31).toNat
    apply BitVec.eq_of_toNat_eq
    rw [BitVec.toNat_ofNat, Nat.mod_eq_of_lt (BitVec.isLt _)]
theorem lt4 : ∀ L, L < 4 → ∀ i, i < 4 → nI L - nI 4 < nI i := by decide +kernel
theorem INV_S {D : va_G} {cI cZ cM : ClassId} {x0 : Nat} {f : Nat → Nat} {k0 : Nat} {f2 : Nat → Nat} {A : Nat → Prop} {H0 H : Heap} {locs : List Loc} (h : INV D cI cZ cM x0 f k0 f2 A H0 H locs) : va_S A H0 H locs := by
  obtain ⟨r, T, hist, Y, Z, tl, S, N, o, mm, a_n, a_L, a_U, a_H, a_O, a_B, b_n, b_L, b_U, b_H, b_O, b_B, w_a, t_st, t_nx, t_kd, t_by, r_cl, r_no, u_is, g_rl, g_n, g_ri, g_ne, g_re, g_ts, q_nt, q_iv, q_fd, q_or, q_df, q_se, q_co, q_ch, v_n, v_L, v_U, v_H, v_O, v_B, k_fi, k_be, k_to, k_cl, k_do, k_ro, k_ke, k_te, k_nu, k_no, k_tu, -, -, -, hS⟩ := h
  exact hS
set_option maxHeartbeats 4000000 in
set_option maxRecDepth 100000 in
theorem law_loop {p : Program} {l : Launch} {e : Env} {s : State} {m : MethodId} {below : List Frame} {meth : Method} {c : Code} {b L : Nat} {xs : Nat → Int32} {D : va_G} {cI cZ cM : ClassId} {adK adV : Nat → Nat} {x0 : Nat} {f : Nat → Nat} {k0 : Nat} {f2 : Nat → Nat} (C0 : lw_At p s m meth c b L xs) (hL : L ≤ 2048) (hK : KK D cI cZ cM s) (hE : ENV (fun q : Nat => s.heap.size ≤ q) adK adV s s.heap) : ∀ (n i : Nat), L + 1 ≤ i + n → i ≤ L → ∀ (H : Heap) (locs : List Loc) (ls : Array Slot), lv_has ls 4 [(0, .ref b), (1, .ref x0), (2, .ref k0), (3, .int (nI i))] → INV D cI cZ cM x0 f k0 f2 (fun q : Nat => s.heap.size ≤ q) s.heap H locs → W p l e room_1 s m #[Value.ref b] below meth c H locs 107 7060 (lw_Z below #[Value.ref b] s) (F0 m 18 ls []) := by
  intro n
  induction n with
  | zero =>
    intro i h1 h2
    exact absurd h1 (by omega)
  | succ n ih =>
    intro i h1 hiL H locs ls hl hI
    obtain ⟨hx, hb, hr, hml, hown, hts0, hX, hbl, hlocks, hgv⟩ := id C0
    have hb2 : c.code = cL_law := hb
    have hbA : ¬ (fun q : Nat => s.heap.size ≤ q) b := Nat.not_le.mpr hbl
    have hS := INV_S hI
    refine lv_iload_n hx hb2 dL_law_18 rfl (lv_at hl 3 rfl) ?_
    refine lv_aload_n hx hb2 dL_law_19 rfl (lv_at hl 0 rfl) ?_
    refine va_slen hx hb2 hX hbl hbA hS dL_law_20 ?_
    refine lv_iconst (v := nI 4) hx hb2 dL_law_21 ic_4 ?_
    refine lv_isub hx hb2 dL_law_22 ?_
    refine lv_icmp_gt (tgt := 735) hx hb2 dL_law_23 (by decide) (fun _ => ?_) (fun hc => ?_)
    · refine lv_iconst (v := 1) hx hb2 dL_law_735 (by decide) ?_
      refine va_forget (fun q hq => hS.2.2 q hq) ?_
      refine W.widen (k := 600000) (n := 7302250) (Nat.le_of_ble_eq_true rfl) (Nat.le_of_ble_eq_true rfl) ?_
      exact lw_ret hx hb hr hlocks dL_law_736
    · have hlt : i + 3 < L := by
        rcases Nat.lt_or_ge L 4 with q | q
        · exact absurd (lt4 L q i (by omega)) hc
        · have hc2 : ¬ nI (L - 4) < nI i := by rw [← nI_sub q]; exact hc
          rcases Nat.lt_or_ge (L - 4) i with z | z
          · exact absurd (nI_lt z (by omega)) hc2
          · omega
      refine lv_aload_n hx hb2 dL_law_26 rfl (lv_at hl 0 rfl) ?_
      refine lv_iload_n hx hb2 dL_law_27 rfl (lv_at hl 3 rfl) ?_
      refine va_sld hx hb2 hX hbl hbA hS (vp_in_nI (by omega) (by omega)) dL_law_28 ?_
      refine lv_bipush (v := nI 31) hx hb2 dL_law_29 (by decide +kernel) ?_
      refine lv_iand hx hb2 dL_law_31 ?_
      obtain ⟨j, hj, ej⟩ := and31 (xs (nI i).toNatClampNeg)
      refine lv_topi (fun y ey => ?_)
      rw [ej] at ey
      subst ey
      have go : ∀ (H1 : Heap) (locs1 : List Loc), INV D cI cZ cM x0 f k0 f2 (fun q : Nat => s.heap.size ≤ q) s.heap H1 locs1 → W p l e room_1 s m #[Value.ref b] below meth c H1 locs1 107 7060 (lw_Z below #[Value.ref b] s) (F0 m 729 ls []) := fun H1 locs1 hI1 => by
        refine lv_iinc (v := nI (i + 4)) (lv' := [(3, .int (nI (i + 4))), (0, .ref b), (1, .ref x0), (2, .ref k0)]) hx hb2 dL_law_729 hl (k := 3) rfl (by rw [ic_4, nI_add]) (by decide) rfl (fun ls hl => ?_)
        refine lv_goto (tgt := 18) hx hb2 dL_law_732 (by decide) ?_
        exact ih (i + 4) (by omega) (by omega) H1 locs1 ls (lv_sub hl [1, 2, 3, 0] rfl) hI1
      match j, hj with
      | 0, _ => exact lv_tableIn (tgt := 140) (off := 108) hx hb2 dL_law_32 (by decide +kernel) (by decide +kernel) (by decide +kernel) (by decide) (st_write C0 hL hK hE hlt hl hI go)
      | 1, _ => exact lv_tableIn (tgt := 163) (off := 131) hx hb2 dL_law_32 (by decide +kernel) (by decide +kernel) (by decide +kernel) (by decide) (st_erase C0 hL hK hE hlt hl hI go)
      | 2, _ => exact lv_tableIn (tgt := 176) (off := 144) hx hb2 dL_law_32 (by decide +kernel) (by decide +kernel) (by decide +kernel) (by decide) (st_fault C0 hL hK hE hlt hl hI go)
      | 3, _ => exact lv_tableIn (tgt := 189) (off := 157) hx hb2 dL_law_32 (by decide +kernel) (by decide +kernel) (by decide +kernel) (by decide) (st_tell C0 hL hK hE hlt hl hI go)
      | 4, _ => exact lv_tableIn (tgt := 202) (off := 170) hx hb2 dL_law_32 (by decide +kernel) (by decide +kernel) (by decide +kernel) (by decide) (st_pages C0 hL hK hE hlt hl hI go)
      | 5, _ => exact lv_tableIn (tgt := 235) (off := 203) hx hb2 dL_law_32 (by decide +kernel) (by decide +kernel) (by decide +kernel) (by decide) (st_uses C0 hL hK hE hlt hl hI go)
      | 6, _ => exact lv_tableIn (tgt := 278) (off := 246) hx hb2 dL_law_32 (by decide +kernel) (by decide +kernel) (by decide +kernel) (by decide) (st_home C0 hL hK hE hlt hl hI go)
      | 7, _ => exact lv_tableIn (tgt := 311) (off := 279) hx hb2 dL_law_32 (by decide +kernel) (by decide +kernel) (by decide +kernel) (by decide) (st_ahead C0 hL hK hE hlt hl hI go)
      | 8, _ => exact lv_tableIn (tgt := 344) (off := 312) hx hb2 dL_law_32 (by decide +kernel) (by decide +kernel) (by decide +kernel) (by decide) (st_loosen C0 hL hK hE hlt hl hI go)
      | 9, _ => exact lv_tableIn (tgt := 377) (off := 345) hx hb2 dL_law_32 (by decide +kernel) (by decide +kernel) (by decide +kernel) (by decide) (st_move C0 hL hK hE hlt hl hI go)
      | 10, _ => exact lv_tableIn (tgt := 410) (off := 378) hx hb2 dL_law_32 (by decide +kernel) (by decide +kernel) (by decide +kernel) (by decide) (st_settle C0 hL hK hE hlt hl hI go)
      | 11, _ => exact lv_tableIn (tgt := 423) (off := 391) hx hb2 dL_law_32 (by decide +kernel) (by decide +kernel) (by decide +kernel) (by decide) (st_undo C0 hL hK hE hlt hl hI go)
      | 12, _ => exact lv_tableIn (tgt := 436) (off := 404) hx hb2 dL_law_32 (by decide +kernel) (by decide +kernel) (by decide +kernel) (by decide) (st_keep C0 hL hK hE hlt hl hI go)
      | 13, _ => exact lv_tableIn (tgt := 459) (off := 427) hx hb2 dL_law_32 (by decide +kernel) (by decide +kernel) (by decide +kernel) (by decide) (st_back C0 hL hK hE hlt hl hI go)
      | 14, _ => exact lv_tableIn (tgt := 482) (off := 450) hx hb2 dL_law_32 (by decide +kernel) (by decide +kernel) (by decide +kernel) (by decide) (st_at C0 hL hK hE hlt hl hI go)
      | 15, _ => exact lv_tableIn (tgt := 505) (off := 473) hx hb2 dL_law_32 (by decide +kernel) (by decide +kernel) (by decide +kernel) (by decide) (st_section C0 hL hK hE hlt hl hI go)
      | 16, _ => exact lv_tableIn (tgt := 538) (off := 506) hx hb2 dL_law_32 (by decide +kernel) (by decide +kernel) (by decide +kernel) (by decide) (st_term C0 hL hK hE hlt hl hI go)
      | 17, _ => exact lv_tableIn (tgt := 571) (off := 539) hx hb2 dL_law_32 (by decide +kernel) (by decide +kernel) (by decide +kernel) (by decide) (st_ring C0 hL hK hE hlt hl hI go)
      | 18, _ => exact lv_tableIn (tgt := 594) (off := 562) hx hb2 dL_law_32 (by decide +kernel) (by decide +kernel) (by decide +kernel) (by decide) (st_best C0 hL hK hE hlt hl hI go)
      | 19, _ => exact lv_tableIn (tgt := 617) (off := 585) hx hb2 dL_law_32 (by decide +kernel) (by decide +kernel) (by decide +kernel) (by decide) (st_least C0 hL hK hE hlt hl hI go)
      | 20, _ => exact lv_tableIn (tgt := 640) (off := 608) hx hb2 dL_law_32 (by decide +kernel) (by decide +kernel) (by decide +kernel) (by decide) (st_would C0 hL hK hE hlt hl hI go)
      | 21, _ => exact lv_tableIn (tgt := 673) (off := 641) hx hb2 dL_law_32 (by decide +kernel) (by decide +kernel) (by decide +kernel) (by decide) (st_after C0 hL hK hE hlt hl hI go)
      | 22, _ => exact lv_tableIn (tgt := 706) (off := 674) hx hb2 dL_law_32 (by decide +kernel) (by decide +kernel) (by decide +kernel) (by decide) (st_count C0 hL hK hE hlt hl hI go)
      | 23, _ => exact lv_tableOut (tgt := 729) hx hb2 dL_law_32 (Or.inr (by decide +kernel)) (by decide) (go _ _ hI)
      | 24, _ => exact lv_tableOut (tgt := 729) hx hb2 dL_law_32 (Or.inr (by decide +kernel)) (by decide) (go _ _ hI)
      | 25, _ => exact lv_tableOut (tgt := 729) hx hb2 dL_law_32 (Or.inr (by decide +kernel)) (by decide) (go _ _ hI)
      | 26, _ => exact lv_tableOut (tgt := 729) hx hb2 dL_law_32 (Or.inr (by decide +kernel)) (by decide) (go _ _ hI)
      | 27, _ => exact lv_tableOut (tgt := 729) hx hb2 dL_law_32 (Or.inr (by decide +kernel)) (by decide) (go _ _ hI)
      | 28, _ => exact lv_tableOut (tgt := 729) hx hb2 dL_law_32 (Or.inr (by decide +kernel)) (by decide) (go _ _ hI)
      | 29, _ => exact lv_tableOut (tgt := 729) hx hb2 dL_law_32 (Or.inr (by decide +kernel)) (by decide) (go _ _ hI)
      | 30, _ => exact lv_tableOut (tgt := 729) hx hb2 dL_law_32 (Or.inr (by decide +kernel)) (by decide) (go _ _ hI)
      | 31, _ => exact lv_tableOut (tgt := 729) hx hb2 dL_law_32 (Or.inr (by decide +kernel)) (by decide) (go _ _ hI)
      | j + 32, hj => exact absurd hj (by omega)
