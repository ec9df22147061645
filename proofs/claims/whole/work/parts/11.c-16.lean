theorem hdc_X7_moves : yX7_moves.cls ≠ "java/lang/invoke/MethodHandle" ∧ yX7_moves.cls ≠ "java/lang/invoke/VarHandle" ∧ (parseMethodDescriptor yX7_moves.desc).map (fun d => d.parameters.length) = some 2 := by decide +kernel
set_option maxHeartbeats 4000000 in
set_option maxRecDepth 100000 in
theorem c_X7_moves (l : Launch) (D : va_G) (cI cZ cM : ClassId) (k0 k1 k2 k3 k4 k5 k6 k7 : Nat) (sz : Nat) (k_un : Int32) (k_len : Int32) (k_fi : Int32) (k_be : Int32) (k_to : Int32) (k_cl : Int32) (k_do : Int32) (k_ro : Nat → Int32) (k_ke : Nat → Int32) (k_te : Nat → Int32) (k_nu : Nat → Int32) (k_na : Nat → Int32) (k_no : Nat → Int32) (k_tu : Nat → Int32) (x1 : Int32) (x2 : Int32) (fu : Nat) (k_nu' : Nat → Int32) (hf : m_X7_moves fu k_ro k_nu x1 x2 = some k_nu') : Met l yX7_moves wsX7_moves ({ frames := 1, cells := 0, slots := 0, locals := 22 }) (pM D cI cZ cM sz [(k0, .inr (7, [.ref k1, .int k_un, .ref k2, .ref k3, .int k_len, .int k_fi, .int k_be, .int k_to, .int k_cl, .int k_do, .ref k4, .ref k5, .ref k6, .ref k7])), (k1, .inl (cI, 583, .inl k_ro)), (k2, .inl (cZ, 2, .inl k_ke)), (k3, .inl (cI, 200, .inl k_te)), (k4, .inl (cI, 10, .inl k_nu)), (k5, .inl (cI, 48, .inl k_na)), (k6, .inl (cI, 1024, .inl k_no)), (k7, .inl (cI, 1024, .inl k_tu))] [.ref k0, .int x1, .int x2]) (qV D [(k0, .inr (7, [.ref k1, .int k_un, .ref k2, .ref k3, .int k_len, .int k_fi, .int k_be, .int k_to, .int k_cl, .int k_do, .ref k4, .ref k5, .ref k6, .ref k7])), (k1, .inl (cI, 583, .inl k_ro)), (k2, .inl (cZ, 2, .inl k_ke)), (k3, .inl (cI, 200, .inl k_te)), (k4, .inl (cI, 10, .inl k_nu')), (k5, .inl (cI, 48, .inl k_na)), (k6, .inl (cI, 1024, .inl k_no)), (k7, .inl (cI, 1024, .inl k_tu))] (va_A [(k0, .inr (7, [.ref k1, .int k_un, .ref k2, .ref k3, .int k_len, .int k_fi, .int k_be, .int k_to, .int k_cl, .int k_do, .ref k4, .ref k5, .ref k6, .ref k7])), (k1, .inl (cI, 583, .inl k_ro)), (k2, .inl (cZ, 2, .inl k_ke)), (k3, .inl (cI, 200, .inl k_te)), (k4, .inl (cI, 10, .inl k_nu)), (k5, .inl (cI, 48, .inl k_na)), (k6, .inl (cI, 1024, .inl k_no)), (k7, .inl (cI, 1024, .inl k_tu))] sz)) 0 0 (va_A [(k0, .inr (7, [.ref k1, .int k_un, .ref k2, .ref k3, .int k_len, .int k_fi, .int k_be, .int k_to, .int k_cl, .int k_do, .ref k4, .ref k5, .ref k6, .ref k7])), (k1, .inl (cI, 583, .inl k_ro)), (k2, .inl (cZ, 2, .inl k_ke)), (k3, .inl (cI, 200, .inl k_te)), (k4, .inl (cI, 10, .inl k_nu)), (k5, .inl (cI, 48, .inl k_na)), (k6, .inl (cI, 1024, .inl k_no)), (k7, .inl (cI, 1024, .inl k_tu))] sz) := by
  refine Met.ofW (cc := cX7_moves) (maxL := 5) (ret := none) (by decide) rfl ?_
  intro p e s m args below meth c s₁ B hml hv
  obtain ⟨rfl, hsz, hP, hK, hD0⟩ := hv
  have hx := B.exec
  have hb := B.bytes
  have hr := B.returns
  have hts := atoms_spec (ws := wsX7_moves) B.pre
  have hown : s.vm.findClass RX7 = some m.cls := findClass_of_methodNamed B.named
  have hlocks := B.notSynchronized
  subst hsz
  have hD := hD0.self (sz := s.heap.size)
  generalize hAe : va_A [(k0, .inr (7, [.ref k1, .int k_un, .ref k2, .ref k3, .int k_len, .int k_fi, .int k_be, .int k_to, .int k_cl, .int k_do, .ref k4, .ref k5, .ref k6, .ref k7])), (k1, .inl (cI, 583, .inl k_ro)), (k2, .inl (cZ, 2, .inl k_ke)), (k3, .inl (cI, 200, .inl k_te)), (k4, .inl (cI, 10, .inl k_nu)), (k5, .inl (cI, 48, .inl k_na)), (k6, .inl (cI, 1024, .inl k_no)), (k7, .inl (cI, 1024, .inl k_tu))] s.heap.size = A at hD ⊢
  have hA : ∀ q : Nat, s.heap.size ≤ q → A q := fun q h => by rw [← hAe]; exact Or.inr h
  clear hAe hD0
  have hfl_7 := hts (.fieldLink RX7 7 "TermsFirstModel" "rows" "[I") (List.mem_cons_of_mem _ (List.mem_append_left _ (List.mem_of_getElem? (i := 0) rfl)))
  have hfl_20 := hts (.fieldLink RX7 20 "TermsFirstModel" "numbers" "[I") (List.mem_cons_of_mem _ (List.mem_append_left _ (List.mem_of_getElem? (i := 1) rfl)))
  have hiX7 : ∀ w ∈ u_ws RX7 TX7 14, w ∈ wsX7_moves := fun _ h => (List.mem_cons_of_mem _ (List.mem_append_right _ h))
  have hB_62 : ∀ (x3 : Int32) (s1 : Int32) (k_nu : Nat → Int32) (kt2 : (Nat → Int32) → Int32 → Option ((Nat → Int32))) (hkt2 : ∀ (x3 : Int32) (k_nu : Nat → Int32), kt2 k_nu x3 = some k_nu' → ∀ (H : Heap) (locs : List Loc), va_P D vwCl [(k0, .inr (7, [.ref k1, .int k_un, .ref k2, .ref k3, .int k_len, .int k_fi, .int k_be, .int k_to, .int k_cl, .int k_do, .ref k4, .ref k5, .ref k6, .ref k7])), (k1, .inl (cI, 583, .inl k_ro)), (k2, .inl (cZ, 2, .inl k_ke)), (k3, .inl (cI, 200, .inl k_te)), (k4, .inl (cI, 10, .inl k_nu)), (k5, .inl (cI, 48, .inl k_na)), (k6, .inl (cI, 1024, .inl k_no)), (k7, .inl (cI, 1024, .inl k_tu))] H → va_D A [(k0, .inr (7, [.ref k1, .int k_un, .ref k2, .ref k3, .int k_len, .int k_fi, .int k_be, .int k_to, .int k_cl, .int k_do, .ref k4, .ref k5, .ref k6, .ref k7])), (k1, .inl (cI, 583, .inl k_ro)), (k2, .inl (cZ, 2, .inl k_ke)), (k3, .inl (cI, 200, .inl k_te)), (k4, .inl (cI, 10, .inl k_nu)), (k5, .inl (cI, 48, .inl k_na)), (k6, .inl (cI, 1024, .inl k_no)), (k7, .inl (cI, 1024, .inl k_tu))] → va_S A s.heap H locs → ∀ ls : Array Slot, lv_has ls 5 [(0, .ref k0), (1, .int x1), (2, .int x2), (3, .int x3)] → W p l e (headSpec wsX7_moves { frames := 1, cells := 0, slots := 0, locals := 22 }).room s m ([.ref k0, .int x1, .int x2] : List Value).toArray below meth c H locs 0 0 (MQ below (qV D [(k0, .inr (7, [.ref k1, .int k_un, .ref k2, .ref k3, .int k_len, .int k_fi, .int k_be, .int k_to, .int k_cl, .int k_do, .ref k4, .ref k5, .ref k6, .ref k7])), (k1, .inl (cI, 583, .inl k_ro)), (k2, .inl (cZ, 2, .inl k_ke)), (k3, .inl (cI, 200, .inl k_te)), (k4, .inl (cI, 10, .inl k_nu')), (k5, .inl (cI, 48, .inl k_na)), (k6, .inl (cI, 1024, .inl k_no)), (k7, .inl (cI, 1024, .inl k_tu))] A) ([.ref k0, .int x1, .int x2] : List Value).toArray s 0 0 A) (F0 m 2 ls [])), m_X7_moves_62 k_ro k_nu s1 x3 kt2 = some k_nu' → ∀ (H : Heap) (locs : List Loc), va_P D vwCl [(k0, .inr (7, [.ref k1, .int k_un, .ref k2, .ref k3, .int k_len, .int k_fi, .int k_be, .int k_to, .int k_cl, .int k_do, .ref k4, .ref k5, .ref k6, .ref k7])), (k1, .inl (cI, 583, .inl k_ro)), (k2, .inl (cZ, 2, .inl k_ke)), (k3, .inl (cI, 200, .inl k_te)), (k4, .inl (cI, 10, .inl k_nu)), (k5, .inl (cI, 48, .inl k_na)), (k6, .inl (cI, 1024, .inl k_no)), (k7, .inl (cI, 1024, .inl k_tu))] H → va_D A [(k0, .inr (7, [.ref k1, .int k_un, .ref k2, .ref k3, .int k_len, .int k_fi, .int k_be, .int k_to, .int k_cl, .int k_do, .ref k4, .ref k5, .ref k6, .ref k7])), (k1, .inl (cI, 583, .inl k_ro)), (k2, .inl (cZ, 2, .inl k_ke)), (k3, .inl (cI, 200, .inl k_te)), (k4, .inl (cI, 10, .inl k_nu)), (k5, .inl (cI, 48, .inl k_na)), (k6, .inl (cI, 1024, .inl k_no)), (k7, .inl (cI, 1024, .inl k_tu))] → va_S A s.heap H locs → ∀ ls : Array Slot, lv_has ls 5 [(0, .ref k0), (1, .int x1), (2, .int x2), (3, .int x3)] → W p l e (headSpec wsX7_moves { frames := 1, cells := 0, slots := 0, locals := 22 }).room s m ([.ref k0, .int x1, .int x2] : List Value).toArray below meth c H locs 0 0 (MQ below (qV D [(k0, .inr (7, [.ref k1, .int k_un, .ref k2, .ref k3, .int k_len, .int k_fi, .int k_be, .int k_to, .int k_cl, .int k_do, .ref k4, .ref k5, .ref k6, .ref k7])), (k1, .inl (cI, 583, .inl k_ro)), (k2, .inl (cZ, 2, .inl k_ke)), (k3, .inl (cI, 200, .inl k_te)), (k4, .inl (cI, 10, .inl k_nu')), (k5, .inl (cI, 48, .inl k_na)), (k6, .inl (cI, 1024, .inl k_no)), (k7, .inl (cI, 1024, .inl k_tu))] A) ([.ref k0, .int x1, .int x2] : List Value).toArray s 0 0 A) (F0 m 62 ls [.int s1, .ref k4]) := by
    intro x3 s1 k_nu kt2 hkt2 hf H locs hP hD hS ls hl
    unfold m_X7_moves_62 at hf
    refine lv_aload_n hx hb dX7_moves_62 rfl (lv_at hl 0 rfl) ?_
    refine va_get (D := D) (ci := 7) (v := .ref k1) (C := RX7) (T := TX7) (N := 14) hx hb hts hiX7 hown hK.1 hP 0 rfl rfl 0 (by decide) hfl_7 (fun _ h9 => h9) rfl dX7_moves_63 ?_
    refine lv_bipush (v := (nI 33)) hx hb dX7_moves_66 bp_33 ?_
    refine lv_iload_n hx hb dX7_moves_68 rfl (lv_at hl 3 rfl) ?_
    refine lv_iadd hx hb dX7_moves_69 ?_
    obtain ⟨hi, hf⟩ := gd_some hf
    refine va_iald hx hb hK.1 hP 1 0 rfl rfl hi dX7_moves_70 ?_
    obtain ⟨hi, hf⟩ := gd_some hf
    refine va_iast hx hb hK.1 hP hD hS 4 0 rfl rfl hi dX7_moves_71 (fun H locs hP hD hS => ?_)
    have hP : va_P D vwCl [(k0, .inr (7, [.ref k1, .int k_un, .ref k2, .ref k3, .int k_len, .int k_fi, .int k_be, .int k_to, .int k_cl, .int k_do, .ref k4, .ref k5, .ref k6, .ref k7])), (k1, .inl (cI, 583, .inl k_ro)), (k2, .inl (cZ, 2, .inl k_ke)), (k3, .inl (cI, 200, .inl k_te)), (k4, .inl (cI, 10, .inl (upd k_nu s1.toNatClampNeg (k_ro ((nI 33) + x3).toNatClampNeg)))), (k5, .inl (cI, 48, .inl k_na)), (k6, .inl (cI, 1024, .inl k_no)), (k7, .inl (cI, 1024, .inl k_tu))] H := hP
    have hD : va_D A [(k0, .inr (7, [.ref k1, .int k_un, .ref k2, .ref k3, .int k_len, .int k_fi, .int k_be, .int k_to, .int k_cl, .int k_do, .ref k4, .ref k5, .ref k6, .ref k7])), (k1, .inl (cI, 583, .inl k_ro)), (k2, .inl (cZ, 2, .inl k_ke)), (k3, .inl (cI, 200, .inl k_te)), (k4, .inl (cI, 10, .inl (upd k_nu s1.toNatClampNeg (k_ro ((nI 33) + x3).toNatClampNeg)))), (k5, .inl (cI, 48, .inl k_na)), (k6, .inl (cI, 1024, .inl k_no)), (k7, .inl (cI, 1024, .inl k_tu))] := hD
    refine lv_iinc (v := (x3 + (nI 1))) (lv' := [(3, .int (x3 + (nI 1))), (0, .ref k0), (1, .int x1), (2, .int x2)]) hx hb dX7_moves_72 hl (k := 3) rfl (ii_1 _) (by decide) rfl (fun ls hl => ?_)
    refine lv_goto (tgt := 2) hx hb dX7_moves_75 (by decide) ?_
    exact hkt2 (x3 + (nI 1)) (upd k_nu s1.toNatClampNeg (k_ro ((nI 33) + x3).toNatClampNeg)) hf _ _ hP hD hS ls (lv_sub hl [1, 2, 3, 0] rfl)
  have hB_41 : ∀ (x3 : Int32) (s0 : Int32) (k_nu : Nat → Int32) (kt2 : (Nat → Int32) → Int32 → Option ((Nat → Int32))) (hkt2 : ∀ (x3 : Int32) (k_nu : Nat → Int32), kt2 k_nu x3 = some k_nu' → ∀ (H : Heap) (locs : List Loc), va_P D vwCl [(k0, .inr (7, [.ref k1, .int k_un, .ref k2, .ref k3, .int k_len, .int k_fi, .int k_be, .int k_to, .int k_cl, .int k_do, .ref k4, .ref k5, .ref k6, .ref k7])), (k1, .inl (cI, 583, .inl k_ro)), (k2, .inl (cZ, 2, .inl k_ke)), (k3, .inl (cI, 200, .inl k_te)), (k4, .inl (cI, 10, .inl k_nu)), (k5, .inl (cI, 48, .inl k_na)), (k6, .inl (cI, 1024, .inl k_no)), (k7, .inl (cI, 1024, .inl k_tu))] H → va_D A [(k0, .inr (7, [.ref k1, .int k_un, .ref k2, .ref k3, .int k_len, .int k_fi, .int k_be, .int k_to, .int k_cl, .int k_do, .ref k4, .ref k5, .ref k6, .ref k7])), (k1, .inl (cI, 583, .inl k_ro)), (k2, .inl (cZ, 2, .inl k_ke)), (k3, .inl (cI, 200, .inl k_te)), (k4, .inl (cI, 10, .inl k_nu)), (k5, .inl (cI, 48, .inl k_na)), (k6, .inl (cI, 1024, .inl k_no)), (k7, .inl (cI, 1024, .inl k_tu))] → va_S A s.heap H locs → ∀ ls : Array Slot, lv_has ls 5 [(0, .ref k0), (1, .int x1), (2, .int x2), (3, .int x3)] → W p l e (headSpec wsX7_moves { frames := 1, cells := 0, slots := 0, locals := 22 }).room s m ([.ref k0, .int x1, .int x2] : List Value).toArray below meth c H locs 0 0 (MQ below (qV D [(k0, .inr (7, [.ref k1, .int k_un, .ref k2, .ref k3, .int k_len, .int k_fi, .int k_be, .int k_to, .int k_cl, .int k_do, .ref k4, .ref k5, .ref k6, .ref k7])), (k1, .inl (cI, 583, .inl k_ro)), (k2, .inl (cZ, 2, .inl k_ke)), (k3, .inl (cI, 200, .inl k_te)), (k4, .inl (cI, 10, .inl k_nu')), (k5, .inl (cI, 48, .inl k_na)), (k6, .inl (cI, 1024, .inl k_no)), (k7, .inl (cI, 1024, .inl k_tu))] A) ([.ref k0, .int x1, .int x2] : List Value).toArray s 0 0 A) (F0 m 2 ls [])), m_X7_moves_41 k_ro k_nu x2 s0 x3 kt2 = some k_nu' → ∀ (H : Heap) (locs : List Loc), va_P D vwCl [(k0, .inr (7, [.ref k1, .int k_un, .ref k2, .ref k3, .int k_len, .int k_fi, .int k_be, .int k_to, .int k_cl, .int k_do, .ref k4, .ref k5, .ref k6, .ref k7])), (k1, .inl (cI, 583, .inl k_ro)), (k2, .inl (cZ, 2, .inl k_ke)), (k3, .inl (cI, 200, .inl k_te)), (k4, .inl (cI, 10, .inl k_nu)), (k5, .inl (cI, 48, .inl k_na)), (k6, .inl (cI, 1024, .inl k_no)), (k7, .inl (cI, 1024, .inl k_tu))] H → va_D A [(k0, .inr (7, [.ref k1, .int k_un, .ref k2, .ref k3, .int k_len, .int k_fi, .int k_be, .int k_to, .int k_cl, .int k_do, .ref k4, .ref k5, .ref k6, .ref k7])), (k1, .inl (cI, 583, .inl k_ro)), (k2, .inl (cZ, 2, .inl k_ke)), (k3, .inl (cI, 200, .inl k_te)), (k4, .inl (cI, 10, .inl k_nu)), (k5, .inl (cI, 48, .inl k_na)), (k6, .inl (cI, 1024, .inl k_no)), (k7, .inl (cI, 1024, .inl k_tu))] → va_S A s.heap H locs → ∀ ls : Array Slot, lv_has ls 5 [(0, .ref k0), (1, .int x1), (2, .int x2), (3, .int x3)] → W p l e (headSpec wsX7_moves { frames := 1, cells := 0, slots := 0, locals := 22 }).room s m ([.ref k0, .int x1, .int x2] : List Value).toArray below meth c H locs 0 0 (MQ below (qV D [(k0, .inr (7, [.ref k1, .int k_un, .ref k2, .ref k3, .int k_len, .int k_fi, .int k_be, .int k_to, .int k_cl, .int k_do, .ref k4, .ref k5, .ref k6, .ref k7])), (k1, .inl (cI, 583, .inl k_ro)), (k2, .inl (cZ, 2, .inl k_ke)), (k3, .inl (cI, 200, .inl k_te)), (k4, .inl (cI, 10, .inl k_nu')), (k5, .inl (cI, 48, .inl k_na)), (k6, .inl (cI, 1024, .inl k_no)), (k7, .inl (cI, 1024, .inl k_tu))] A) ([.ref k0, .int x1, .int x2] : List Value).toArray s 0 0 A) (F0 m 41 ls [.int s0]) := by
    intro x3 s0 k_nu kt2 hkt2 hf H locs hP hD hS ls hl
    unfold m_X7_moves_41 at hf
    refine lv_istore (lv' := [(4, .int s0), (0, .ref k0), (1, .int x1), (2, .int x2), (3, .int x3)]) hx hb dX7_moves_41 hl (by decide) rfl (fun ls hl => ?_)
    refine lv_aload_n hx hb dX7_moves_43 rfl (lv_at hl 1 rfl) ?_
    refine va_get (D := D) (ci := 7) (v := .ref k4) (C := RX7) (T := TX7) (N := 14) hx hb hts hiX7 hown hK.1 hP 0 rfl rfl 10 (by decide) hfl_20 (fun _ h9 => h9) rfl dX7_moves_44 ?_
    refine lv_iload hx hb dX7_moves_47 (lv_at hl 0 rfl) ?_
    refine lv_iload_n hx hb dX7_moves_49 rfl (lv_at hl 3 rfl) ?_
    refine lv_icmp_ge (tgt := 58) hx hb dX7_moves_50 (by decide) (fun hc => ?_) (fun hc => ?_)
    · have hf := ifp hc hf
      refine lv_iload hx hb dX7_moves_58 (lv_at hl 0 rfl) ?_
      refine lv_iconst (v := (nI 1)) hx hb dX7_moves_60 ic_1 ?_
      refine lv_iadd hx hb dX7_moves_61 ?_
      exact hB_62 x3 (s0 + (nI 1)) k_nu _ hkt2 hf _ _ hP hD hS ls (lv_sub hl [1, 2, 3, 4] rfl)
    · have hf := ifn hc hf
      refine lv_iload hx hb dX7_moves_53 (lv_at hl 0 rfl) ?_
      refine lv_goto (tgt := 62) hx hb dX7_moves_55 (by decide) ?_
      exact hB_62 x3 s0 k_nu _ hkt2 hf _ _ hP hD hS ls (lv_sub hl [1, 2, 3, 4] rfl)
  have hB_2 : ∀ (fn : Nat) (x3 : Int32) (k_nu : Nat → Int32), m_X7_moves_2 fu k_ro x1 x2 fn k_nu x3 = some k_nu' → ∀ (H : Heap) (locs : List Loc), va_P D vwCl [(k0, .inr (7, [.ref k1, .int k_un, .ref k2, .ref k3, .int k_len, .int k_fi, .int k_be, .int k_to, .int k_cl, .int k_do, .ref k4, .ref k5, .ref k6, .ref k7])), (k1, .inl (cI, 583, .inl k_ro)), (k2, .inl (cZ, 2, .inl k_ke)), (k3, .inl (cI, 200, .inl k_te)), (k4, .inl (cI, 10, .inl k_nu)), (k5, .inl (cI, 48, .inl k_na)), (k6, .inl (cI, 1024, .inl k_no)), (k7, .inl (cI, 1024, .inl k_tu))] H → va_D A [(k0, .inr (7, [.ref k1, .int k_un, .ref k2, .ref k3, .int k_len, .int k_fi, .int k_be, .int k_to, .int k_cl, .int k_do, .ref k4, .ref k5, .ref k6, .ref k7])), (k1, .inl (cI, 583, .inl k_ro)), (k2, .inl (cZ, 2, .inl k_ke)), (k3, .inl (cI, 200, .inl k_te)), (k4, .inl (cI, 10, .inl k_nu)), (k5, .inl (cI, 48, .inl k_na)), (k6, .inl (cI, 1024, .inl k_no)), (k7, .inl (cI, 1024, .inl k_tu))] → va_S A s.heap H locs → ∀ ls : Array Slot, lv_has ls 5 [(0, .ref k0), (1, .int x1), (2, .int x2), (3, .int x3)] → W p l e (headSpec wsX7_moves { frames := 1, cells := 0, slots := 0, locals := 22 }).room s m ([.ref k0, .int x1, .int x2] : List Value).toArray below meth c H locs 0 0 (MQ below (qV D [(k0, .inr (7, [.ref k1, .int k_un, .ref k2, .ref k3, .int k_len, .int k_fi, .int k_be, .int k_to, .int k_cl, .int k_do, .ref k4, .ref k5, .ref k6, .ref k7])), (k1, .inl (cI, 583, .inl k_ro)), (k2, .inl (cZ, 2, .inl k_ke)), (k3, .inl (cI, 200, .inl k_te)), (k4, .inl (cI, 10, .inl k_nu')), (k5, .inl (cI, 48, .inl k_na)), (k6, .inl (cI, 1024, .inl k_no)), (k7, .inl (cI, 1024, .inl k_tu))] A) ([.ref k0, .int x1, .int x2] : List Value).toArray s 0 0 A) (F0 m 2 ls []) := by
    intro fn
    induction fn with
    | zero => intro x3 k_nu hf; rw [m_X7_moves_2] at hf; cases hf
    | succ fn ih =>
      intro x3 k_nu hf H locs hP hD hS ls hl
      rw [m_X7_moves_2] at hf
      refine lv_iload_n hx hb dX7_moves_2 rfl (lv_at hl 3 rfl) ?_
      refine lv_aload_n hx hb dX7_moves_3 rfl (lv_at hl 0 rfl) ?_
      refine va_get (D := D) (ci := 7) (v := .ref k1) (C := RX7) (T := TX7) (N := 14) hx hb hts hiX7 hown hK.1 hP 0 rfl rfl 0 (by decide) hfl_7 (fun _ h9 => h9) rfl dX7_moves_4 ?_
      refine lv_iconst (v := (nI 0)) hx hb dX7_moves_7 ic_0 ?_
      obtain ⟨hi, hf⟩ := gd_some hf
      refine va_iald hx hb hK.1 hP 1 0 rfl rfl hi dX7_moves_8 ?_
      refine lv_icmp_ge (tgt := 78) hx hb dX7_moves_9 (by decide) (fun hc => ?_) (fun hc => ?_)
      · have hf := ifp hc hf
        refine lv_aload_n hx hb dX7_moves_78 rfl (lv_at hl 0 rfl) ?_
        refine va_get (D := D) (ci := 7) (v := .ref k4) (C := RX7) (T := TX7) (N := 14) hx hb hts hiX7 hown hK.1 hP 0 rfl rfl 10 (by decide) hfl_20 (fun _ h9 => h9) rfl dX7_moves_79 ?_
        refine lv_iload_n hx hb dX7_moves_82 rfl (lv_at hl 2 rfl) ?_
        refine lv_iload_n hx hb dX7_moves_83 rfl (lv_at hl 1 rfl) ?_
        obtain ⟨hi, hf⟩ := gd_some hf
        refine va_iast hx hb hK.1 hP hD hS 4 0 rfl rfl hi dX7_moves_84 (fun H locs hP hD hS => ?_)
        have hP : va_P D vwCl [(k0, .inr (7, [.ref k1, .int k_un, .ref k2, .ref k3, .int k_len, .int k_fi, .int k_be, .int k_to, .int k_cl, .int k_do, .ref k4, .ref k5, .ref k6, .ref k7])), (k1, .inl (cI, 583, .inl k_ro)), (k2, .inl (cZ, 2, .inl k_ke)), (k3, .inl (cI, 200, .inl k_te)), (k4, .inl (cI, 10, .inl (upd k_nu x2.toNatClampNeg x1))), (k5, .inl (cI, 48, .inl k_na)), (k6, .inl (cI, 1024, .inl k_no)), (k7, .inl (cI, 1024, .inl k_tu))] H := hP
        have hD : va_D A [(k0, .inr (7, [.ref k1, .int k_un, .ref k2, .ref k3, .int k_len, .int k_fi, .int k_be, .int k_to, .int k_cl, .int k_do, .ref k4, .ref k5, .ref k6, .ref k7])), (k1, .inl (cI, 583, .inl k_ro)), (k2, .inl (cZ, 2, .inl k_ke)), (k3, .inl (cI, 200, .inl k_te)), (k4, .inl (cI, 10, .inl (upd k_nu x2.toNatClampNeg x1))), (k5, .inl (cI, 48, .inl k_na)), (k6, .inl (cI, 1024, .inl k_no)), (k7, .inl (cI, 1024, .inl k_tu))] := hD
        cases hf
        exact W.vret hx hb hr (fun t ht _ => ⟨⟨rfl, by rw [ht]; exact hP, hD⟩, hS.F ht⟩) hS.2.2 dX7_moves_85
      · have hf := ifn hc hf
        refine lv_aload_n hx hb dX7_moves_12 rfl (lv_at hl 0 rfl) ?_
        refine va_get (D := D) (ci := 7) (v := .ref k1) (C := RX7) (T := TX7) (N := 14) hx hb hts hiX7 hown hK.1 hP 0 rfl rfl 0 (by decide) hfl_7 (fun _ h9 => h9) rfl dX7_moves_13 ?_
        refine lv_bipush (v := (nI 33)) hx hb dX7_moves_16 bp_33 ?_
        refine lv_iload_n hx hb dX7_moves_18 rfl (lv_at hl 3 rfl) ?_
        refine lv_iadd hx hb dX7_moves_19 ?_
        obtain ⟨hi, hf⟩ := gd_some hf
        refine va_iald hx hb hK.1 hP 1 0 rfl rfl hi dX7_moves_20 ?_
        refine lv_iload_n hx hb dX7_moves_21 rfl (lv_at hl 1 rfl) ?_
        refine lv_icmp_eq (tgt := 72) hx hb dX7_moves_22 (by decide) (fun hc => ?_) (fun hc => ?_)
        · have hf := ifp hc hf
          refine lv_iinc (v := (x3 + (nI 1))) (lv' := [(3, .int (x3 + (nI 1))), (0, .ref k0), (1, .int x1), (2, .int x2)]) hx hb dX7_moves_72 hl (k := 3) rfl (ii_1 _) (by decide) rfl (fun ls hl => ?_)
          refine lv_goto (tgt := 2) hx hb dX7_moves_75 (by decide) ?_
          exact ih (x3 + (nI 1)) k_nu hf _ _ hP hD hS ls (lv_sub hl [1, 2, 3, 0] rfl)
        · have hf := ifn hc hf
          refine lv_iload_n hx hb dX7_moves_25 rfl (lv_at hl 3 rfl) ?_
          refine lv_aload_n hx hb dX7_moves_26 rfl (lv_at hl 0 rfl) ?_
          refine lv_iload_n hx hb dX7_moves_27 rfl (lv_at hl 1 rfl) ?_
          obtain ⟨rv1, hrv1, hf⟩ := bd hf
          refine roI (va_runV (As := [.int x1]) (rest := [.int x3]) ⟨hx, hb, hml, hown, hts⟩ (c_X7_placeOf l D cI cZ cM k0 k1 k2 k3 k4 k5 k6 k7 k_un k_len k_fi k_be k_to k_cl k_do k_ro k_ke k_te k_nu k_na k_no k_tu x1 fu rv1 hrv1) (cwV 1 hts gX7_moves_X7_placeOf rfl rfl rfl ⟨rfl, hdc_X7_placeOf⟩ ⟨Nat.le_of_ble_eq_true rfl, Nat.le_of_ble_eq_true rfl⟩) (prV hK hP [0, 1, 2, 3, 4, 5, 6, 7] rfl (ci := 7) (q0 := 0) rfl rfl) rfl rfl hl.1 rfl (lv_room (Nat.le_of_ble_eq_true rfl)) dX7_moves_28 ⟨Nat.zero_le _, Nat.zero_le _⟩) ?_
          refine lv_icmp_le (tgt := 40) hx hb dX7_moves_31 (by decide) (fun hc => ?_) (fun hc => ?_)
          · have hf := ifp hc hf
            refine lv_iload_n hx hb dX7_moves_40 rfl (lv_at hl 3 rfl) ?_
            exact hB_41 x3 x3 k_nu _ ih hf _ _ hP hD hS ls hl
          · have hf := ifn hc hf
            refine lv_iload_n hx hb dX7_moves_34 rfl (lv_at hl 3 rfl) ?_
            refine lv_iconst (v := (nI 1)) hx hb dX7_moves_35 ic_1 ?_
            refine lv_isub hx hb dX7_moves_36 ?_
            refine lv_goto (tgt := 41) hx hb dX7_moves_37 (by decide) ?_
            exact hB_41 x3 (x3 - (nI 1)) k_nu _ ih hf _ _ hP hD hS ls hl
  have hl := lv_entry ([.ref k0, .int x1, .int x2]) (n := 5) (Nat.le_of_ble_eq_true rfl)
  rw [lg_entry_eq]
  generalize (lg_sl ([.ref k0, .int x1, .int x2]) ++ List.replicate (5 - (lg_sl ([.ref k0, .int x1, .int x2])).length) Slot.unset).toArray = ls at hl ⊢
  have hl : lv_has ls 5 [(0, .ref k0), (1, .int x1), (2, .int x2)] := hl
  have hS : va_S A s.heap s.heap [] := va_S.rf
  unfold m_X7_moves at hf
  refine lv_iconst (v := (nI 0)) hx hb dX7_moves_0 ic_0 ?_
  refine lv_istore_n (lv' := [(3, .int (nI 0)), (0, .ref k0), (1, .int x1), (2, .int x2)]) hx hb dX7_moves_1 rfl hl (by decide) rfl (fun ls hl => ?_)
  exact hB_2 fu (nI 0) k_nu hf _ _ hP hD hS ls (lv_sub hl [1, 2, 3, 0] rfl)
theorem hdc_X7_move : yX7_move.cls ≠ "java/lang/invoke/MethodHandle" ∧ yX7_move.cls ≠ "java/lang/invoke/VarHandle" ∧ (parseMethodDescriptor yX7_move.desc).map (fun d => d.parameters.length) = some 2 := by decide +kernel
set_option maxHeartbeats 4000000 in
set_option maxRecDepth 100000 in
theorem c_X7_move (l : Launch) (D : va_G) (cI cZ cM : ClassId) (k0 k1 k2 k3 k4 k5 k6 k7 : Nat) (sz : Nat) (k_un : Int32) (k_len : Int32) (k_fi : Int32) (k_be : Int32) (k_to : Int32) (k_cl : Int32) (k_do : Int32) (k_ro : Nat → Int32) (k_ke : Nat → Int32) (k_te : Nat → Int32) (k_nu : Nat → Int32) (k_na : Nat → Int32) (k_no : Nat → Int32) (k_tu : Nat → Int32) (x1 : Int32) (x2 : Int32) (fu : Nat) (r : Int32) (k_un' : Int32) (k_ro' : Nat → Int32) (k_nu' : Nat → Int32) (hf : m_X7_move fu k_un k_ro k_nu x1 x2 = some (r, k_un', k_ro', k_nu')) : Met l yX7_move wsX7_move ({ frames := 4, cells := 0, slots := 0, locals := 90 }) (pM D cI cZ cM sz [(k0, .inr (7, [.ref k1, .int k_un, .ref k2, .ref k3, .int k_len, .int k_fi, .int k_be, .int k_to, .int k_cl, .int k_do, .ref k4, .ref k5, .ref k6, .ref k7])), (k1, .inl (cI, 583, .inl k_ro)), (k2, .inl (cZ, 2, .inl k_ke)), (k3, .inl (cI, 200, .inl k_te)), (k4, .inl (cI, 10, .inl k_nu)), (k5, .inl (cI, 48, .inl k_na)), (k6, .inl (cI, 1024, .inl k_no)), (k7, .inl (cI, 1024, .inl k_tu))] [.ref k0, .int x1, .int x2]) (qI D r [(k0, .inr (7, [.ref k1, .int k_un', .ref k2, .ref k3, .int k_len, .int k_fi, .int k_be, .int k_to, .int k_cl, .int k_do, .ref k4, .ref k5, .ref k6, .ref k7])), (k1, .inl (cI, 583, .inl k_ro')), (k2, .inl (cZ, 2, .inl k_ke)), (k3, .inl (cI, 200, .inl k_te)), (k4, .inl (cI, 10, .inl k_nu')), (k5, .inl (cI, 48, .inl k_na)), (k6, .inl (cI, 1024, .inl k_no)), (k7, .inl (cI, 1024, .inl k_tu))] (va_A [(k0, .inr (7, [.ref k1, .int k_un, .ref k2, .ref k3, .int k_len, .int k_fi, .int k_be, .int k_to, .int k_cl, .int k_do, .ref k4, .ref k5, .ref k6, .ref k7])), (k1, .inl (cI, 583, .inl k_ro)), (k2, .inl (cZ, 2, .inl k_ke)), (k3, .inl (cI, 200, .inl k_te)), (k4, .inl (cI, 10, .inl k_nu)), (k5, .inl (cI, 48, .inl k_na)), (k6, .inl (cI, 1024, .inl k_no)), (k7, .inl (cI, 1024, .inl k_tu))] sz)) 0 0 (va_A [(k0, .inr (7, [.ref k1, .int k_un, .ref k2, .ref k3, .int k_len, .int k_fi, .int k_be, .int k_to, .int k_cl, .int k_do, .ref k4, .ref k5, .ref k6, .ref k7])), (k1, .inl (cI, 583, .inl k_ro)), (k2, .inl (cZ, 2, .inl k_ke)), (k3, .inl (cI, 200, .inl k_te)), (k4, .inl (cI, 10, .inl k_nu)), (k5, .inl (cI, 48, .inl k_na)), (k6, .inl (cI, 1024, .inl k_no)), (k7, .inl (cI, 1024, .inl k_tu))] sz) := by
  refine Met.ofW (cc := cX7_move) (maxL := 3) (ret := (some .int)) (by decide) rfl ?_
  intro p e s m args below meth c s₁ B hml hv
  obtain ⟨rfl, hsz, hP, hK, hD0⟩ := hv
  have hx := B.exec
  have hb := B.bytes
  have hr := B.returns
  have hts := atoms_spec (ws := wsX7_move) B.pre
  have hown : s.vm.findClass RX7 = some m.cls := findClass_of_methodNamed B.named
  have hlocks := B.notSynchronized
  subst hsz
  have hD := hD0.self (sz := s.heap.size)
  generalize hAe : va_A [(k0, .inr (7, [.ref k1, .int k_un, .ref k2, .ref k3, .int k_len, .int k_fi, .int k_be, .int k_to, .int k_cl, .int k_do, .ref k4, .ref k5, .ref k6, .ref k7])), (k1, .inl (cI, 583, .inl k_ro)), (k2, .inl (cZ, 2, .inl k_ke)), (k3, .inl (cI, 200, .inl k_te)), (k4, .inl (cI, 10, .inl k_nu)), (k5, .inl (cI, 48, .inl k_na)), (k6, .inl (cI, 1024, .inl k_no)), (k7, .inl (cI, 1024, .inl k_tu))] s.heap.size = A at hD ⊢
  have hA : ∀ q : Nat, s.heap.size ≤ q → A q := fun q h => by rw [← hAe]; exact Or.inr h
  clear hAe hD0
  have hl := lv_entry ([.ref k0, .int x1, .int x2]) (n := 3) (Nat.le_of_ble_eq_true rfl)
  rw [lg_entry_eq]
  generalize (lg_sl ([.ref k0, .int x1, .int x2]) ++ List.replicate (3 - (lg_sl ([.ref k0, .int x1, .int x2])).length) Slot.unset).toArray = ls at hl ⊢
  have hl : lv_has ls 3 [(0, .ref k0), (1, .int x1), (2, .int x2)] := hl
  have hS : va_S A s.heap s.heap [] := va_S.rf
  unfold m_X7_move at hf
  refine lv_aload_n hx hb dX7_move_0 rfl (lv_at hl 0 rfl) ?_
  refine lv_iload_n hx hb dX7_move_1 rfl (lv_at hl 1 rfl) ?_
  obtain ⟨rv1, hrv1, hf⟩ := bd hf
  refine roI (va_runV (As := [.int x1]) (rest := []) ⟨hx, hb, hml, hown, hts⟩ (c_X7_isSection l D cI cZ cM k0 k1 k2 k3 k4 k5 k6 k7 k_un k_len k_fi k_be k_to k_cl k_do k_ro k_ke k_te k_nu k_na k_no k_tu x1 rv1 hrv1) (cwV 1 hts gX7_move_X7_isSection rfl rfl rfl ⟨rfl, hdc_X7_isSection⟩ ⟨Nat.le_of_ble_eq_true rfl, Nat.le_of_ble_eq_true rfl⟩) (prV hK hP [0, 1, 2, 3, 4, 5, 6, 7] rfl (ci := 7) (q0 := 0) rfl rfl) rfl rfl hl.1 rfl (lv_room (Nat.le_of_ble_eq_true rfl)) dX7_move_2 ⟨Nat.zero_le _, Nat.zero_le _⟩) ?_
  refine lv_if_eq (tgt := 16) hx hb dX7_move_5 (by decide) (fun hc => ?_) (fun hc => ?_)
  · have hf := ifp hc hf
    refine lv_bipush (v := (-2 : Int32)) hx hb dX7_move_16 bp_m2 ?_
    cases hf
    exact W.iret hx hb hr (fun t ht _ => ⟨⟨rfl, by rw [ht]; exact hP, hD⟩, hS.F ht⟩) hS.2.2 dX7_move_18
  · have hf := ifn hc hf
    refine lv_aload_n hx hb dX7_move_8 rfl (lv_at hl 0 rfl) ?_
    refine lv_iload_n hx hb dX7_move_9 rfl (lv_at hl 2 rfl) ?_
    obtain ⟨rv2, hrv2, hf⟩ := bd hf
    refine roI (va_runV (As := [.int x2]) (rest := []) ⟨hx, hb, hml, hown, hts⟩ (c_X7_isSection l D cI cZ cM k0 k1 k2 k3 k4 k5 k6 k7 k_un k_len k_fi k_be k_to k_cl k_do k_ro k_ke k_te k_nu k_na k_no k_tu x2 rv2 hrv2) (cwV 1 hts gX7_move_X7_isSection rfl rfl rfl ⟨rfl, hdc_X7_isSection⟩ ⟨Nat.le_of_ble_eq_true rfl, Nat.le_of_ble_eq_true rfl⟩) (prV hK hP [0, 1, 2, 3, 4, 5, 6, 7] rfl (ci := 7) (q0 := 0) rfl rfl) rfl rfl hl.1 rfl (lv_room (Nat.le_of_ble_eq_true rfl)) dX7_move_10 ⟨Nat.zero_le _, Nat.zero_le _⟩) ?_
    refine lv_if_ne (tgt := 19) hx hb dX7_move_13 (by decide) (fun hc => ?_) (fun hc => ?_)
    · have hf := ifn hc hf
      refine lv_aload_n hx hb dX7_move_19 rfl (lv_at hl 0 rfl) ?_
      refine lv_iload_n hx hb dX7_move_20 rfl (lv_at hl 1 rfl) ?_
      refine lv_iload_n hx hb dX7_move_21 rfl (lv_at hl 2 rfl) ?_
      obtain ⟨rv3, hrv3, hf⟩ := bd hf
      refine muV0 (wr := []) (va_runV (As := [.int x1, .int x2]) (rest := []) ⟨hx, hb, hml, hown, hts⟩ (c_X7_moves l D cI cZ cM k0 k1 k2 k3 k4 k5 k6 k7 _ k_un k_len k_fi k_be k_to k_cl k_do k_ro k_ke k_te k_nu k_na k_no k_tu x1 x2 fu rv3 hrv3) (cwV 2 hts gX7_move_X7_moves rfl rfl rfl ⟨rfl, hdc_X7_moves⟩ ⟨Nat.le_of_ble_eq_true rfl, Nat.le_of_ble_eq_true rfl⟩) (pmV hK hP hD [0, 1, 2, 3, 4, 5, 6, 7] (by decide) rfl rfl (ci := 7) (q0 := 0) rfl rfl) rfl rfl hl.1 rfl (lv_room (Nat.le_of_ble_eq_true rfl)) dX7_move_22 ⟨Nat.zero_le _, Nat.zero_le _⟩) hP hD hS hA [0, 1, 2, 3, 4, 5, 6, 7] [] rfl rfl (by decide) (by decide) (fun H locs hP hD hS => ?_)
      have hP : va_P D vwCl [(k0, .inr (7, [.ref k1, .int k_un, .ref k2, .ref k3, .int k_len, .int k_fi, .int k_be, .int k_to, .int k_cl, .int k_do, .ref k4, .ref k5, .ref k6, .ref k7])), (k1, .inl (cI, 583, .inl k_ro)), (k2, .inl (cZ, 2, .inl k_ke)), (k3, .inl (cI, 200, .inl k_te)), (k4, .inl (cI, 10, .inl rv3)), (k5, .inl (cI, 48, .inl k_na)), (k6, .inl (cI, 1024, .inl k_no)), (k7, .inl (cI, 1024, .inl k_tu))] H := hP
      have hD : va_D A [(k0, .inr (7, [.ref k1, .int k_un, .ref k2, .ref k3, .int k_len, .int k_fi, .int k_be, .int k_to, .int k_cl, .int k_do, .ref k4, .ref k5, .ref k6, .ref k7])), (k1, .inl (cI, 583, .inl k_ro)), (k2, .inl (cZ, 2, .inl k_ke)), (k3, .inl (cI, 200, .inl k_te)), (k4, .inl (cI, 10, .inl rv3)), (k5, .inl (cI, 48, .inl k_na)), (k6, .inl (cI, 1024, .inl k_no)), (k7, .inl (cI, 1024, .inl k_tu))] := hD
      refine lv_aload_n hx hb dX7_move_25 rfl (lv_at hl 0 rfl) ?_
      obtain ⟨rv4, hrv4, hf⟩ := bd hf
      refine roI (va_runV (As := []) (rest := []) ⟨hx, hb, hml, hown, hts⟩ (c_X7_isKeeping l D cI cZ cM k0 k1 k2 k3 k4 k5 k6 k7 k_un k_len k_fi k_be k_to k_cl k_do k_ro k_ke k_te rv3 k_na k_no k_tu fu rv4 hrv4) (cwV 0 hts gX7_move_X7_isKeeping rfl rfl rfl ⟨rfl, hdc_X7_isKeeping⟩ ⟨Nat.le_of_ble_eq_true rfl, Nat.le_of_ble_eq_true rfl⟩) (prV hK hP [0, 1, 2, 3, 4, 5, 6, 7] rfl (ci := 7) (q0 := 0) rfl rfl) rfl rfl hl.1 rfl (lv_room (Nat.le_of_ble_eq_true rfl)) dX7_move_26 ⟨Nat.zero_le _, Nat.zero_le _⟩) ?_
      refine lv_if_ne (tgt := 35) hx hb dX7_move_29 (by decide) (fun hc => ?_) (fun hc => ?_)
      · have hf := ifn hc hf
        refine lv_aload_n hx hb dX7_move_35 rfl (lv_at hl 0 rfl) ?_
        obtain ⟨rv5, hrv5, hf⟩ := bd hf
        refine muV0 (wr := []) (va_runV (As := []) (rest := []) ⟨hx, hb, hml, hown, hts⟩ (c_X7_records l D cI cZ cM k0 k1 k2 k3 k4 k5 k6 k7 _ k_un k_len k_fi k_be k_to k_cl k_do k_ro k_ke k_te rv3 k_na k_no k_tu fu rv5.1 rv5.2 hrv5) (cwV 0 hts gX7_move_X7_records rfl rfl rfl ⟨rfl, hdc_X7_records⟩ ⟨Nat.le_of_ble_eq_true rfl, Nat.le_of_ble_eq_true rfl⟩) (pmV hK hP hD [0, 1, 2, 3, 4, 5, 6, 7] (by decide) rfl rfl (ci := 7) (q0 := 0) rfl rfl) rfl rfl hl.1 rfl (lv_room (Nat.le_of_ble_eq_true rfl)) dX7_move_36 ⟨Nat.zero_le _, Nat.zero_le _⟩) hP hD hS hA [0, 1, 2, 3, 4, 5, 6, 7] [] rfl rfl (by decide) (by decide) (fun H locs hP hD hS => ?_)
        have hP : va_P D vwCl [(k0, .inr (7, [.ref k1, .int rv5.1, .ref k2, .ref k3, .int k_len, .int k_fi, .int k_be, .int k_to, .int k_cl, .int k_do, .ref k4, .ref k5, .ref k6, .ref k7])), (k1, .inl (cI, 583, .inl rv5.2)), (k2, .inl (cZ, 2, .inl k_ke)), (k3, .inl (cI, 200, .inl k_te)), (k4, .inl (cI, 10, .inl rv3)), (k5, .inl (cI, 48, .inl k_na)), (k6, .inl (cI, 1024, .inl k_no)), (k7, .inl (cI, 1024, .inl k_tu))] H := hP
        have hD : va_D A [(k0, .inr (7, [.ref k1, .int rv5.1, .ref k2, .ref k3, .int k_len, .int k_fi, .int k_be, .int k_to, .int k_cl, .int k_do, .ref k4, .ref k5, .ref k6, .ref k7])), (k1, .inl (cI, 583, .inl rv5.2)), (k2, .inl (cZ, 2, .inl k_ke)), (k3, .inl (cI, 200, .inl k_te)), (k4, .inl (cI, 10, .inl rv3)), (k5, .inl (cI, 48, .inl k_na)), (k6, .inl (cI, 1024, .inl k_no)), (k7, .inl (cI, 1024, .inl k_tu))] := hD
        refine lv_aload_n hx hb dX7_move_39 rfl (lv_at hl 0 rfl) ?_
        obtain ⟨rv6, hrv6, hf⟩ := bd hf
        refine muV0 (wr := []) (va_runV (As := []) (rest := []) ⟨hx, hb, hml, hown, hts⟩ (c_X7_swapOrder l D cI cZ cM k0 k1 k2 k3 k4 k5 k6 k7 _ rv5.1 k_len k_fi k_be k_to k_cl k_do rv5.2 k_ke k_te rv3 k_na k_no k_tu fu rv6.1 rv6.2 hrv6) (cwV 0 hts gX7_move_X7_swapOrder rfl rfl rfl ⟨rfl, hdc_X7_swapOrder⟩ ⟨Nat.le_of_ble_eq_true rfl, Nat.le_of_ble_eq_true rfl⟩) (pmV hK hP hD [0, 1, 2, 3, 4, 5, 6, 7] (by decide) rfl rfl (ci := 7) (q0 := 0) rfl rfl) rfl rfl hl.1 rfl (lv_room (Nat.le_of_ble_eq_true rfl)) dX7_move_40 ⟨Nat.zero_le _, Nat.zero_le _⟩) hP hD hS hA [0, 1, 2, 3, 4, 5, 6, 7] [] rfl rfl (by decide) (by decide) (fun H locs hP hD hS => ?_)
        have hP : va_P D vwCl [(k0, .inr (7, [.ref k1, .int rv5.1, .ref k2, .ref k3, .int k_len, .int k_fi, .int k_be, .int k_to, .int k_cl, .int k_do, .ref k4, .ref k5, .ref k6, .ref k7])), (k1, .inl (cI, 583, .inl rv6.1)), (k2, .inl (cZ, 2, .inl k_ke)), (k3, .inl (cI, 200, .inl k_te)), (k4, .inl (cI, 10, .inl rv6.2)), (k5, .inl (cI, 48, .inl k_na)), (k6, .inl (cI, 1024, .inl k_no)), (k7, .inl (cI, 1024, .inl k_tu))] H := hP
        have hD : va_D A [(k0, .inr (7, [.ref k1, .int rv5.1, .ref k2, .ref k3, .int k_len, .int k_fi, .int k_be, .int k_to, .int k_cl, .int k_do, .ref k4, .ref k5, .ref k6, .ref k7])), (k1, .inl (cI, 583, .inl rv6.1)), (k2, .inl (cZ, 2, .inl k_ke)), (k3, .inl (cI, 200, .inl k_te)), (k4, .inl (cI, 10, .inl rv6.2)), (k5, .inl (cI, 48, .inl k_na)), (k6, .inl (cI, 1024, .inl k_no)), (k7, .inl (cI, 1024, .inl k_tu))] := hD
        refine lv_aload_n hx hb dX7_move_43 rfl (lv_at hl 0 rfl) ?_
        obtain ⟨rv7, hrv7, hf⟩ := bd hf
        refine roI (va_runV (As := []) (rest := []) ⟨hx, hb, hml, hown, hts⟩ (c_X7_notesMany l D cI cZ cM k0 k1 k2 k3 k4 k5 k6 k7 rv5.1 k_len k_fi k_be k_to k_cl k_do rv6.1 k_ke k_te rv6.2 k_na k_no k_tu fu rv7 hrv7) (cwV 0 hts gX7_move_X7_notesMany rfl rfl rfl ⟨rfl, hdc_X7_notesMany⟩ ⟨Nat.le_of_ble_eq_true rfl, Nat.le_of_ble_eq_true rfl⟩) (prV hK hP [0, 1, 2, 3, 4, 5, 6, 7] rfl (ci := 7) (q0 := 0) rfl rfl) rfl rfl hl.1 rfl (lv_room (Nat.le_of_ble_eq_true rfl)) dX7_move_44 ⟨Nat.zero_le _, Nat.zero_le _⟩) ?_
        cases hf
        exact W.iret hx hb hr (fun t ht _ => ⟨⟨rfl, by rw [ht]; exact hP, hD⟩, hS.F ht⟩) hS.2.2 dX7_move_47
      · have hf := ifp hc hf
        refine lv_bipush (v := (-4 : Int32)) hx hb dX7_move_32 bp_m4 ?_
        cases hf
        exact W.iret hx hb hr (fun t ht _ => ⟨⟨rfl, by rw [ht]; exact hP, hD⟩, hS.F ht⟩) hS.2.2 dX7_move_34
    · have hf := ifp hc hf
      refine lv_bipush (v := (-2 : Int32)) hx hb dX7_move_16 bp_m2 ?_
      cases hf
      exact W.iret hx hb hr (fun t ht _ => ⟨⟨rfl, by rw [ht]; exact hP, hD⟩, hS.F ht⟩) hS.2.2 dX7_move_18
theorem hdc_X7_after : yX7_after.cls ≠ "java/lang/invoke/MethodHandle" ∧ yX7_after.cls ≠ "java/lang/invoke/VarHandle" ∧ (parseMethodDescriptor yX7_after.desc).map (fun d => d.parameters.length) = some 2 := by decide +kernel
set_option maxHeartbeats 4000000 in
set_option maxRecDepth 100000 in
theorem c_X7_after (l : Launch) (D : va_G) (cI cZ cM : ClassId) (k0 k1 k2 k3 k4 k5 k6 k7 : Nat) (sz : Nat) (k_un : Int32) (k_len : Int32) (k_fi : Int32) (k_be : Int32) (k_to : Int32) (k_cl : Int32) (k_do : Int32) (k_ro : Nat → Int32) (k_ke : Nat → Int32) (k_te : Nat → Int32) (k_nu : Nat → Int32) (k_na : Nat → Int32) (k_no : Nat → Int32) (k_tu : Nat → Int32) (x1 : Int32) (x2 : Int32) (fu : Nat) (r : Int32) (k_ro' : Nat → Int32) (k_nu' : Nat → Int32) (hf : m_X7_after fu k_ro k_nu x1 x2 = some (r, k_ro', k_nu')) : Met l yX7_after wsX7_after ({ frames := 4, cells := 0, slots := 0, locals := 90 }) (pM D cI cZ cM sz [(k0, .inr (7, [.ref k1, .int k_un, .ref k2, .ref k3, .int k_len, .int k_fi, .int k_be, .int k_to, .int k_cl, .int k_do, .ref k4, .ref k5, .ref k6, .ref k7])), (k1, .inl (cI, 583, .inl k_ro)), (k2, .inl (cZ, 2, .inl k_ke)), (k3, .inl (cI, 200, .inl k_te)), (k4, .inl (cI, 10, .inl k_nu)), (k5, .inl (cI, 48, .inl k_na)), (k6, .inl (cI, 1024, .inl k_no)), (k7, .inl (cI, 1024, .inl k_tu))] [.ref k0, .int x1, .int x2]) (qI D r [(k0, .inr (7, [.ref k1, .int k_un, .ref k2, .ref k3, .int k_len, .int k_fi, .int k_be, .int k_to, .int k_cl, .int k_do, .ref k4, .ref k5, .ref k6, .ref k7])), (k1, .inl (cI, 583, .inl k_ro')), (k2, .inl (cZ, 2, .inl k_ke)), (k3, .inl (cI, 200, .inl k_te)), (k4, .inl (cI, 10, .inl k_nu')), (k5, .inl (cI, 48, .inl k_na)), (k6, .inl (cI, 1024, .inl k_no)), (k7, .inl (cI, 1024, .inl k_tu))] (va_A [(k0, .inr (7, [.ref k1, .int k_un, .ref k2, .ref k3, .int k_len, .int k_fi, .int k_be, .int k_to, .int k_cl, .int k_do, .ref k4, .ref k5, .ref k6, .ref k7])), (k1, .inl (cI, 583, .inl k_ro)), (k2, .inl (cZ, 2, .inl k_ke)), (k3, .inl (cI, 200, .inl k_te)), (k4, .inl (cI, 10, .inl k_nu)), (k5, .inl (cI, 48, .inl k_na)), (k6, .inl (cI, 1024, .inl k_no)), (k7, .inl (cI, 1024, .inl k_tu))] sz)) 0 0 (va_A [(k0, .inr (7, [.ref k1, .int k_un, .ref k2, .ref k3, .int k_len, .int k_fi, .int k_be, .int k_to, .int k_cl, .int k_do, .ref k4, .ref k5, .ref k6, .ref k7])), (k1, .inl (cI, 583, .inl k_ro)), (k2, .inl (cZ, 2, .inl k_ke)), (k3, .inl (cI, 200, .inl k_te)), (k4, .inl (cI, 10, .inl k_nu)), (k5, .inl (cI, 48, .inl k_na)), (k6, .inl (cI, 1024, .inl k_no)), (k7, .inl (cI, 1024, .inl k_tu))] sz) := by
  refine Met.ofW (cc := cX7_after) (maxL := 4) (ret := (some .int)) (by decide) rfl ?_
  intro p e s m args below meth c s₁ B hml hv
  obtain ⟨rfl, hsz, hP, hK, hD0⟩ := hv
  have hx := B.exec
  have hb := B.bytes
  have hr := B.returns
  have hts := atoms_spec (ws := wsX7_after) B.pre
  have hown : s.vm.findClass RX7 = some m.cls := findClass_of_methodNamed B.named
  have hlocks := B.notSynchronized
  subst hsz
  have hD := hD0.self (sz := s.heap.size)
  generalize hAe : va_A [(k0, .inr (7, [.ref k1, .int k_un, .ref k2, .ref k3, .int k_len, .int k_fi, .int k_be, .int k_to, .int k_cl, .int k_do, .ref k4, .ref k5, .ref k6, .ref k7])), (k1, .inl (cI, 583, .inl k_ro)), (k2, .inl (cZ, 2, .inl k_ke)), (k3, .inl (cI, 200, .inl k_te)), (k4, .inl (cI, 10, .inl k_nu)), (k5, .inl (cI, 48, .inl k_na)), (k6, .inl (cI, 1024, .inl k_no)), (k7, .inl (cI, 1024, .inl k_tu))] s.heap.size = A at hD ⊢
  have hA : ∀ q : Nat, s.heap.size ≤ q → A q := fun q h => by rw [← hAe]; exact Or.inr h
  clear hAe hD0
  have hl := lv_entry ([.ref k0, .int x1, .int x2]) (n := 4) (Nat.le_of_ble_eq_true rfl)
  rw [lg_entry_eq]
  generalize (lg_sl ([.ref k0, .int x1, .int x2]) ++ List.replicate (4 - (lg_sl ([.ref k0, .int x1, .int x2])).length) Slot.unset).toArray = ls at hl ⊢
  have hl : lv_has ls 4 [(0, .ref k0), (1, .int x1), (2, .int x2)] := hl
  have hS : va_S A s.heap s.heap [] := va_S.rf
  unfold m_X7_after at hf
  refine lv_aload_n hx hb dX7_after_0 rfl (lv_at hl 0 rfl) ?_
  refine lv_iload_n hx hb dX7_after_1 rfl (lv_at hl 1 rfl) ?_
  obtain ⟨rv1, hrv1, hf⟩ := bd hf
  refine roI (va_runV (As := [.int x1]) (rest := []) ⟨hx, hb, hml, hown, hts⟩ (c_X7_isSection l D cI cZ cM k0 k1 k2 k3 k4 k5 k6 k7 k_un k_len k_fi k_be k_to k_cl k_do k_ro k_ke k_te k_nu k_na k_no k_tu x1 rv1 hrv1) (cwV 1 hts gX7_after_X7_isSection rfl rfl rfl ⟨rfl, hdc_X7_isSection⟩ ⟨Nat.le_of_ble_eq_true rfl, Nat.le_of_ble_eq_true rfl⟩) (prV hK hP [0, 1, 2, 3, 4, 5, 6, 7] rfl (ci := 7) (q0 := 0) rfl rfl) rfl rfl hl.1 rfl (lv_room (Nat.le_of_ble_eq_true rfl)) dX7_after_2 ⟨Nat.zero_le _, Nat.zero_le _⟩) ?_
  refine lv_if_eq (tgt := 16) hx hb dX7_after_5 (by decide) (fun hc => ?_) (fun hc => ?_)
  · have hf := ifp hc hf
    refine lv_bipush (v := (-2 : Int32)) hx hb dX7_after_16 bp_m2 ?_
    cases hf
    exact W.iret hx hb hr (fun t ht _ => ⟨⟨rfl, by rw [ht]; exact hP, hD⟩, hS.F ht⟩) hS.2.2 dX7_after_18
  · have hf := ifn hc hf
    refine lv_aload_n hx hb dX7_after_8 rfl (lv_at hl 0 rfl) ?_
    refine lv_iload_n hx hb dX7_after_9 rfl (lv_at hl 2 rfl) ?_
    obtain ⟨rv2, hrv2, hf⟩ := bd hf
    refine roI (va_runV (As := [.int x2]) (rest := []) ⟨hx, hb, hml, hown, hts⟩ (c_X7_isSection l D cI cZ cM k0 k1 k2 k3 k4 k5 k6 k7 k_un k_len k_fi k_be k_to k_cl k_do k_ro k_ke k_te k_nu k_na k_no k_tu x2 rv2 hrv2) (cwV 1 hts gX7_after_X7_isSection rfl rfl rfl ⟨rfl, hdc_X7_isSection⟩ ⟨Nat.le_of_ble_eq_true rfl, Nat.le_of_ble_eq_true rfl⟩) (prV hK hP [0, 1, 2, 3, 4, 5, 6, 7] rfl (ci := 7) (q0 := 0) rfl rfl) rfl rfl hl.1 rfl (lv_room (Nat.le_of_ble_eq_true rfl)) dX7_after_10 ⟨Nat.zero_le _, Nat.zero_le _⟩) ?_
    refine lv_if_ne (tgt := 19) hx hb dX7_after_13 (by decide) (fun hc => ?_) (fun hc => ?_)
    · have hf := ifn hc hf
      refine lv_aload_n hx hb dX7_after_19 rfl (lv_at hl 0 rfl) ?_
      refine lv_iload_n hx hb dX7_after_20 rfl (lv_at hl 1 rfl) ?_
      refine lv_iload_n hx hb dX7_after_21 rfl (lv_at hl 2 rfl) ?_
      obtain ⟨rv3, hrv3, hf⟩ := bd hf
      refine muV0 (wr := []) (va_runV (As := [.int x1, .int x2]) (rest := []) ⟨hx, hb, hml, hown, hts⟩ (c_X7_moves l D cI cZ cM k0 k1 k2 k3 k4 k5 k6 k7 _ k_un k_len k_fi k_be k_to k_cl k_do k_ro k_ke k_te k_nu k_na k_no k_tu x1 x2 fu rv3 hrv3) (cwV 2 hts gX7_after_X7_moves rfl rfl rfl ⟨rfl, hdc_X7_moves⟩ ⟨Nat.le_of_ble_eq_true rfl, Nat.le_of_ble_eq_true rfl⟩) (pmV hK hP hD [0, 1, 2, 3, 4, 5, 6, 7] (by decide) rfl rfl (ci := 7) (q0 := 0) rfl rfl) rfl rfl hl.1 rfl (lv_room (Nat.le_of_ble_eq_true rfl)) dX7_after_22 ⟨Nat.zero_le _, Nat.zero_le _⟩) hP hD hS hA [0, 1, 2, 3, 4, 5, 6, 7] [] rfl rfl (by decide) (by decide) (fun H locs hP hD hS => ?_)
      have hP : va_P D vwCl [(k0, .inr (7, [.ref k1, .int k_un, .ref k2, .ref k3, .int k_len, .int k_fi, .int k_be, .int k_to, .int k_cl, .int k_do, .ref k4, .ref k5, .ref k6, .ref k7])), (k1, .inl (cI, 583, .inl k_ro)), (k2, .inl (cZ, 2, .inl k_ke)), (k3, .inl (cI, 200, .inl k_te)), (k4, .inl (cI, 10, .inl rv3)), (k5, .inl (cI, 48, .inl k_na)), (k6, .inl (cI, 1024, .inl k_no)), (k7, .inl (cI, 1024, .inl k_tu))] H := hP
      have hD : va_D A [(k0, .inr (7, [.ref k1, .int k_un, .ref k2, .ref k3, .int k_len, .int k_fi, .int k_be, .int k_to, .int k_cl, .int k_do, .ref k4, .ref k5, .ref k6, .ref k7])), (k1, .inl (cI, 583, .inl k_ro)), (k2, .inl (cZ, 2, .inl k_ke)), (k3, .inl (cI, 200, .inl k_te)), (k4, .inl (cI, 10, .inl rv3)), (k5, .inl (cI, 48, .inl k_na)), (k6, .inl (cI, 1024, .inl k_no)), (k7, .inl (cI, 1024, .inl k_tu))] := hD
      refine lv_aload_n hx hb dX7_after_25 rfl (lv_at hl 0 rfl) ?_
      obtain ⟨rv4, hrv4, hf⟩ := bd hf
      refine roI (va_runV (As := []) (rest := []) ⟨hx, hb, hml, hown, hts⟩ (c_X7_isKeeping l D cI cZ cM k0 k1 k2 k3 k4 k5 k6 k7 k_un k_len k_fi k_be k_to k_cl k_do k_ro k_ke k_te rv3 k_na k_no k_tu fu rv4 hrv4) (cwV 0 hts gX7_after_X7_isKeeping rfl rfl rfl ⟨rfl, hdc_X7_isKeeping⟩ ⟨Nat.le_of_ble_eq_true rfl, Nat.le_of_ble_eq_true rfl⟩) (prV hK hP [0, 1, 2, 3, 4, 5, 6, 7] rfl (ci := 7) (q0 := 0) rfl rfl) rfl rfl hl.1 rfl (lv_room (Nat.le_of_ble_eq_true rfl)) dX7_after_26 ⟨Nat.zero_le _, Nat.zero_le _⟩) ?_
      refine lv_if_ne (tgt := 35) hx hb dX7_after_29 (by decide) (fun hc => ?_) (fun hc => ?_)
      · have hf := ifn hc hf
        refine lv_aload_n hx hb dX7_after_35 rfl (lv_at hl 0 rfl) ?_
        obtain ⟨rv5, hrv5, hf⟩ := bd hf
        refine muV0 (wr := []) (va_runV (As := []) (rest := []) ⟨hx, hb, hml, hown, hts⟩ (c_X7_swapOrder l D cI cZ cM k0 k1 k2 k3 k4 k5 k6 k7 _ k_un k_len k_fi k_be k_to k_cl k_do k_ro k_ke k_te rv3 k_na k_no k_tu fu rv5.1 rv5.2 hrv5) (cwV 0 hts gX7_after_X7_swapOrder rfl rfl rfl ⟨rfl, hdc_X7_swapOrder⟩ ⟨Nat.le_of_ble_eq_true rfl, Nat.le_of_ble_eq_true rfl⟩) (pmV hK hP hD [0, 1, 2, 3, 4, 5, 6, 7] (by decide) rfl rfl (ci := 7) (q0 := 0) rfl rfl) rfl rfl hl.1 rfl (lv_room (Nat.le_of_ble_eq_true rfl)) dX7_after_36 ⟨Nat.zero_le _, Nat.zero_le _⟩) hP hD hS hA [0, 1, 2, 3, 4, 5, 6, 7] [] rfl rfl (by decide) (by decide) (fun H locs hP hD hS => ?_)
        have hP : va_P D vwCl [(k0, .inr (7, [.ref k1, .int k_un, .ref k2, .ref k3, .int k_len, .int k_fi, .int k_be, .int k_to, .int k_cl, .int k_do, .ref k4, .ref k5, .ref k6, .ref k7])), (k1, .inl (cI, 583, .inl rv5.1)), (k2, .inl (cZ, 2, .inl k_ke)), (k3, .inl (cI, 200, .inl k_te)), (k4, .inl (cI, 10, .inl rv5.2)), (k5, .inl (cI, 48, .inl k_na)), (k6, .inl (cI, 1024, .inl k_no)), (k7, .inl (cI, 1024, .inl k_tu))] H := hP
        have hD : va_D A [(k0, .inr (7, [.ref k1, .int k_un, .ref k2, .ref k3, .int k_len, .int k_fi, .int k_be, .int k_to, .int k_cl, .int k_do, .ref k4, .ref k5, .ref k6, .ref k7])), (k1, .inl (cI, 583, .inl rv5.1)), (k2, .inl (cZ, 2, .inl k_ke)), (k3, .inl (cI, 200, .inl k_te)), (k4, .inl (cI, 10, .inl rv5.2)), (k5, .inl (cI, 48, .inl k_na)), (k6, .inl (cI, 1024, .inl k_no)), (k7, .inl (cI, 1024, .inl k_tu))] := hD
        refine lv_aload_n hx hb dX7_after_39 rfl (lv_at hl 0 rfl) ?_
        obtain ⟨rv6, hrv6, hf⟩ := bd hf
        refine roI (va_runV (As := []) (rest := []) ⟨hx, hb, hml, hown, hts⟩ (c_X7_notesMany l D cI cZ cM k0 k1 k2 k3 k4 k5 k6 k7 k_un k_len k_fi k_be k_to k_cl k_do rv5.1 k_ke k_te rv5.2 k_na k_no k_tu fu rv6 hrv6) (cwV 0 hts gX7_after_X7_notesMany rfl rfl rfl ⟨rfl, hdc_X7_notesMany⟩ ⟨Nat.le_of_ble_eq_true rfl, Nat.le_of_ble_eq_true rfl⟩) (prV hK hP [0, 1, 2, 3, 4, 5, 6, 7] rfl (ci := 7) (q0 := 0) rfl rfl) rfl rfl hl.1 rfl (lv_room (Nat.le_of_ble_eq_true rfl)) dX7_after_40 ⟨Nat.zero_le _, Nat.zero_le _⟩) ?_
        refine lv_istore_n (lv' := [(3, .int rv6), (0, .ref k0), (1, .int x1), (2, .int x2)]) hx hb dX7_after_43 rfl hl (by decide) rfl (fun ls hl => ?_)
        refine lv_aload_n hx hb dX7_after_44 rfl (lv_at hl 1 rfl) ?_
        obtain ⟨rv7, hrv7, hf⟩ := bd hf
        refine muV0 (wr := []) (va_runV (As := []) (rest := []) ⟨hx, hb, hml, hown, hts⟩ (c_X7_swapOrder l D cI cZ cM k0 k1 k2 k3 k4 k5 k6 k7 _ k_un k_len k_fi k_be k_to k_cl k_do rv5.1 k_ke k_te rv5.2 k_na k_no k_tu fu rv7.1 rv7.2 hrv7) (cwV 0 hts gX7_after_X7_swapOrder rfl rfl rfl ⟨rfl, hdc_X7_swapOrder⟩ ⟨Nat.le_of_ble_eq_true rfl, Nat.le_of_ble_eq_true rfl⟩) (pmV hK hP hD [0, 1, 2, 3, 4, 5, 6, 7] (by decide) rfl rfl (ci := 7) (q0 := 0) rfl rfl) rfl rfl hl.1 rfl (lv_room (Nat.le_of_ble_eq_true rfl)) dX7_after_45 ⟨Nat.zero_le _, Nat.zero_le _⟩) hP hD hS hA [0, 1, 2, 3, 4, 5, 6, 7] [] rfl rfl (by decide) (by decide) (fun H locs hP hD hS => ?_)
        have hP : va_P D vwCl [(k0, .inr (7, [.ref k1, .int k_un, .ref k2, .ref k3, .int k_len, .int k_fi, .int k_be, .int k_to, .int k_cl, .int k_do, .ref k4, .ref k5, .ref k6, .ref k7])), (k1, .inl (cI, 583, .inl rv7.1)), (k2, .inl (cZ, 2, .inl k_ke)), (k3, .inl (cI, 200, .inl k_te)), (k4, .inl (cI, 10, .inl rv7.2)), (k5, .inl (cI, 48, .inl k_na)), (k6, .inl (cI, 1024, .inl k_no)), (k7, .inl (cI, 1024, .inl k_tu))] H := hP
        have hD : va_D A [(k0, .inr (7, [.ref k1, .int k_un, .ref k2, .ref k3, .int k_len, .int k_fi, .int k_be, .int k_to, .int k_cl, .int k_do, .ref k4, .ref k5, .ref k6, .ref k7])), (k1, .inl (cI, 583, .inl rv7.1)), (k2, .inl (cZ, 2, .inl k_ke)), (k3, .inl (cI, 200, .inl k_te)), (k4, .inl (cI, 10, .inl rv7.2)), (k5, .inl (cI, 48, .inl k_na)), (k6, .inl (cI, 1024, .inl k_no)), (k7, .inl (cI, 1024, .inl k_tu))] := hD
        refine lv_iload_n hx hb dX7_after_48 rfl (lv_at hl 0 rfl) ?_
        cases hf
        exact W.iret hx hb hr (fun t ht _ => ⟨⟨rfl, by rw [ht]; exact hP, hD⟩, hS.F ht⟩) hS.2.2 dX7_after_49
      · have hf := ifp hc hf
        refine lv_bipush (v := (-4 : Int32)) hx hb dX7_after_32 bp_m4 ?_
        cases hf
        exact W.iret hx hb hr (fun t ht _ => ⟨⟨rfl, by rw [ht]; exact hP, hD⟩, hS.F ht⟩) hS.2.2 dX7_after_34
    · have hf := ifp hc hf
      refine lv_bipush (v := (-2 : Int32)) hx hb dX7_after_16 bp_m2 ?_
      cases hf
      exact W.iret hx hb hr (fun t ht _ => ⟨⟨rfl, by rw [ht]; exact hP, hD⟩, hS.F ht⟩) hS.2.2 dX7_after_18
theorem hdc_X7_settle : yX7_settle.cls ≠ "java/lang/invoke/MethodHandle" ∧ yX7_settle.cls ≠ "java/lang/invoke/VarHandle" ∧ (parseMethodDescriptor yX7_settle.desc).map (fun d => d.parameters.length) = some 0 := by decide +kernel
set_option maxHeartbeats 4000000 in
set_option maxRecDepth 100000 in
theorem c_X7_settle (l : Launch) (D : va_G) (cI cZ cM : ClassId) (k0 k1 k2 k3 k4 k5 k6 k7 : Nat) (sz : Nat) (k_un : Int32) (k_len : Int32) (k_fi : Int32) (k_be : Int32) (k_to : Int32) (k_cl : Int32) (k_do : Int32) (k_ro : Nat → Int32) (k_ke : Nat → Int32) (k_te : Nat → Int32) (k_nu : Nat → Int32) (k_na : Nat → Int32) (k_no : Nat → Int32) (k_tu : Nat → Int32) (fu : Nat) (r : Int32) (k_un' : Int32) (k_ro' : Nat → Int32) (k_nu' : Nat → Int32) (k_no' : Nat → Int32) (k_tu' : Nat → Int32) (hf : m_X7_settle fu k_un k_ro k_nu k_no k_tu = some (r, k_un', k_ro', k_nu', k_no', k_tu')) : Met l yX7_settle wsX7_settle ({ frames := 5, cells := 0, slots := 0, locals := 117 }) (pM D cI cZ cM sz [(k0, .inr (7, [.ref k1, .int k_un, .ref k2, .ref k3, .int k_len, .int k_fi, .int k_be, .int k_to, .int k_cl, .int k_do, .ref k4, .ref k5, .ref k6, .ref k7])), (k1, .inl (cI, 583, .inl k_ro)), (k2, .inl (cZ, 2, .inl k_ke)), (k3, .inl (cI, 200, .inl k_te)), (k4, .inl (cI, 10, .inl k_nu)), (k5, .inl (cI, 48, .inl k_na)), (k6, .inl (cI, 1024, .inl k_no)), (k7, .inl (cI, 1024, .inl k_tu))] [.ref k0]) (qI D r [(k0, .inr (7, [.ref k1, .int k_un', .ref k2, .ref k3, .int k_len, .int k_fi, .int k_be, .int k_to, .int k_cl, .int k_do, .ref k4, .ref k5, .ref k6, .ref k7])), (k1, .inl (cI, 583, .inl k_ro')), (k2, .inl (cZ, 2, .inl k_ke)), (k3, .inl (cI, 200, .inl k_te)), (k4, .inl (cI, 10, .inl k_nu')), (k5, .inl (cI, 48, .inl k_na)), (k6, .inl (cI, 1024, .inl k_no')), (k7, .inl (cI, 1024, .inl k_tu'))] (va_A [(k0, .inr (7, [.ref k1, .int k_un, .ref k2, .ref k3, .int k_len, .int k_fi, .int k_be, .int k_to, .int k_cl, .int k_do, .ref k4, .ref k5, .ref k6, .ref k7])), (k1, .inl (cI, 583, .inl k_ro)), (k2, .inl (cZ, 2, .inl k_ke)), (k3, .inl (cI, 200, .inl k_te)), (k4, .inl (cI, 10, .inl k_nu)), (k5, .inl (cI, 48, .inl k_na)), (k6, .inl (cI, 1024, .inl k_no)), (k7, .inl (cI, 1024, .inl k_tu))] sz)) 0 0 (va_A [(k0, .inr (7, [.ref k1, .int k_un, .ref k2, .ref k3, .int k_len, .int k_fi, .int k_be, .int k_to, .int k_cl, .int k_do, .ref k4, .ref k5, .ref k6, .ref k7])), (k1, .inl (cI, 583, .inl k_ro)), (k2, .inl (cZ, 2, .inl k_ke)), (k3, .inl (cI, 200, .inl k_te)), (k4, .inl (cI, 10, .inl k_nu)), (k5, .inl (cI, 48, .inl k_na)), (k6, .inl (cI, 1024, .inl k_no)), (k7, .inl (cI, 1024, .inl k_tu))] sz) := by
  refine Met.ofW (cc := cX7_settle) (maxL := 2) (ret := (some .int)) (by decide) rfl ?_
  intro p e s m args below meth c s₁ B hml hv
  obtain ⟨rfl, hsz, hP, hK, hD0⟩ := hv
  have hx := B.exec
  have hb := B.bytes
  have hr := B.returns
  have hts := atoms_spec (ws := wsX7_settle) B.pre
  have hown : s.vm.findClass RX7 = some m.cls := findClass_of_methodNamed B.named
  have hlocks := B.notSynchronized
  subst hsz
  have hD := hD0.self (sz := s.heap.size)
  generalize hAe : va_A [(k0, .inr (7, [.ref k1, .int k_un, .ref k2, .ref k3, .int k_len, .int k_fi, .int k_be, .int k_to, .int k_cl, .int k_do, .ref k4, .ref k5, .ref k6, .ref k7])), (k1, .inl (cI, 583, .inl k_ro)), (k2, .inl (cZ, 2, .inl k_ke)), (k3, .inl (cI, 200, .inl k_te)), (k4, .inl (cI, 10, .inl k_nu)), (k5, .inl (cI, 48, .inl k_na)), (k6, .inl (cI, 1024, .inl k_no)), (k7, .inl (cI, 1024, .inl k_tu))] s.heap.size = A at hD ⊢
  have hA : ∀ q : Nat, s.heap.size ≤ q → A q := fun q h => by rw [← hAe]; exact Or.inr h
  clear hAe hD0
  have hfl_29 := hts (.fieldLink RX7 29 "TermsFirstModel" "turns" "[I") (List.mem_cons_of_mem _ (List.mem_append_left _ (List.mem_append_left _ (List.mem_of_getElem? (i := 0) rfl))))
  have hiX7 : ∀ w ∈ u_ws RX7 TX7 14, w ∈ wsX7_settle := fun _ h => (List.mem_cons_of_mem _ (List.mem_append_right _ h))
  have hl := lv_entry ([.ref k0]) (n := 2) (Nat.le_of_ble_eq_true rfl)
  rw [lg_entry_eq]
  generalize (lg_sl ([.ref k0]) ++ List.replicate (2 - (lg_sl ([.ref k0])).length) Slot.unset).toArray = ls at hl ⊢
  have hl : lv_has ls 2 [(0, .ref k0)] := hl
  have hS : va_S A s.heap s.heap [] := va_S.rf
  unfold m_X7_settle at hf
  refine lv_aload_n hx hb dX7_settle_0 rfl (lv_at hl 0 rfl) ?_
  obtain ⟨rv1, hrv1, hf⟩ := bd hf
  refine muV0 (wr := []) (va_runV (As := []) (rest := []) ⟨hx, hb, hml, hown, hts⟩ (c_X7_lays l D cI cZ cM k0 k1 k2 k3 k4 k5 k6 k7 _ k_un k_len k_fi k_be k_to k_cl k_do k_ro k_ke k_te k_nu k_na k_no k_tu fu rv1.1 rv1.2.1 rv1.2.2 hrv1) (cwV 0 hts gX7_settle_X7_lays rfl rfl rfl ⟨rfl, hdc_X7_lays⟩ ⟨Nat.le_of_ble_eq_true rfl, Nat.le_of_ble_eq_true rfl⟩) (pmV hK hP hD [0, 1, 2, 3, 4, 5, 6, 7] (by decide) rfl rfl (ci := 7) (q0 := 0) rfl rfl) rfl rfl hl.1 rfl (lv_room (Nat.le_of_ble_eq_true rfl)) dX7_settle_1 ⟨Nat.zero_le _, Nat.zero_le _⟩) hP hD hS hA [0, 1, 2, 3, 4, 5, 6, 7] [] rfl rfl (by decide) (by decide) (fun H locs hP hD hS => ?_)
  have hP : va_P D vwCl [(k0, .inr (7, [.ref k1, .int k_un, .ref k2, .ref k3, .int k_len, .int k_fi, .int k_be, .int k_to, .int k_cl, .int k_do, .ref k4, .ref k5, .ref k6, .ref k7])), (k1, .inl (cI, 583, .inl k_ro)), (k2, .inl (cZ, 2, .inl k_ke)), (k3, .inl (cI, 200, .inl k_te)), (k4, .inl (cI, 10, .inl rv1.1)), (k5, .inl (cI, 48, .inl k_na)), (k6, .inl (cI, 1024, .inl rv1.2.1)), (k7, .inl (cI, 1024, .inl rv1.2.2))] H := hP
  have hD : va_D A [(k0, .inr (7, [.ref k1, .int k_un, .ref k2, .ref k3, .int k_len, .int k_fi, .int k_be, .int k_to, .int k_cl, .int k_do, .ref k4, .ref k5, .ref k6, .ref k7])), (k1, .inl (cI, 583, .inl k_ro)), (k2, .inl (cZ, 2, .inl k_ke)), (k3, .inl (cI, 200, .inl k_te)), (k4, .inl (cI, 10, .inl rv1.1)), (k5, .inl (cI, 48, .inl k_na)), (k6, .inl (cI, 1024, .inl rv1.2.1)), (k7, .inl (cI, 1024, .inl rv1.2.2))] := hD
  refine lv_aload_n hx hb dX7_settle_4 rfl (lv_at hl 0 rfl) ?_
  refine va_get (D := D) (ci := 7) (v := .ref k7) (C := RX7) (T := TX7) (N := 14) hx hb hts hiX7 hown hK.1 hP 0 rfl rfl 13 (by decide) hfl_29 (fun _ h9 => h9) rfl dX7_settle_5 ?_
  refine lv_iconst (v := (nI 0)) hx hb dX7_settle_8 ic_0 ?_
  obtain ⟨hi, hf⟩ := gd_some hf
  refine va_iald hx hb hK.1 hP 7 0 rfl rfl hi dX7_settle_9 ?_
  refine lv_istore_n (lv' := [(1, .int (rv1.2.2 (nI 0).toNatClampNeg)), (0, .ref k0)]) hx hb dX7_settle_10 rfl hl (by decide) rfl (fun ls hl => ?_)
  refine lv_aload_n hx hb dX7_settle_11 rfl (lv_at hl 1 rfl) ?_
  obtain ⟨rv2, hrv2, hf⟩ := bd hf
  refine muV0 (wr := []) (va_runV (As := []) (rest := []) ⟨hx, hb, hml, hown, hts⟩ (c_X7_records l D cI cZ cM k0 k1 k2 k3 k4 k5 k6 k7 _ k_un k_len k_fi k_be k_to k_cl k_do k_ro k_ke k_te rv1.1 k_na rv1.2.1 rv1.2.2 fu rv2.1 rv2.2 hrv2) (cwV 0 hts gX7_settle_X7_records rfl rfl rfl ⟨rfl, hdc_X7_records⟩ ⟨Nat.le_of_ble_eq_true rfl, Nat.le_of_ble_eq_true rfl⟩) (pmV hK hP hD [0, 1, 2, 3, 4, 5, 6, 7] (by decide) rfl rfl (ci := 7) (q0 := 0) rfl rfl) rfl rfl hl.1 rfl (lv_room (Nat.le_of_ble_eq_true rfl)) dX7_settle_12 ⟨Nat.zero_le _, Nat.zero_le _⟩) hP hD hS hA [0, 1, 2, 3, 4, 5, 6, 7] [] rfl rfl (by decide) (by decide) (fun H locs hP hD hS => ?_)
  have hP : va_P D vwCl [(k0, .inr (7, [.ref k1, .int rv2.1, .ref k2, .ref k3, .int k_len, .int k_fi, .int k_be, .int k_to, .int k_cl, .int k_do, .ref k4, .ref k5, .ref k6, .ref k7])), (k1, .inl (cI, 583, .inl rv2.2)), (k2, .inl (cZ, 2, .inl k_ke)), (k3, .inl (cI, 200, .inl k_te)), (k4, .inl (cI, 10, .inl rv1.1)), (k5, .inl (cI, 48, .inl k_na)), (k6, .inl (cI, 1024, .inl rv1.2.1)), (k7, .inl (cI, 1024, .inl rv1.2.2))] H := hP
  have hD : va_D A [(k0, .inr (7, [.ref k1, .int rv2.1, .ref k2, .ref k3, .int k_len, .int k_fi, .int k_be, .int k_to, .int k_cl, .int k_do, .ref k4, .ref k5, .ref k6, .ref k7])), (k1, .inl (cI, 583, .inl rv2.2)), (k2, .inl (cZ, 2, .inl k_ke)), (k3, .inl (cI, 200, .inl k_te)), (k4, .inl (cI, 10, .inl rv1.1)), (k5, .inl (cI, 48, .inl k_na)), (k6, .inl (cI, 1024, .inl rv1.2.1)), (k7, .inl (cI, 1024, .inl rv1.2.2))] := hD
  refine lv_aload_n hx hb dX7_settle_15 rfl (lv_at hl 1 rfl) ?_
  obtain ⟨rv3, hrv3, hf⟩ := bd hf
  refine muV0 (wr := []) (va_runV (As := []) (rest := []) ⟨hx, hb, hml, hown, hts⟩ (c_X7_swapOrder l D cI cZ cM k0 k1 k2 k3 k4 k5 k6 k7 _ rv2.1 k_len k_fi k_be k_to k_cl k_do rv2.2 k_ke k_te rv1.1 k_na rv1.2.1 rv1.2.2 fu rv3.1 rv3.2 hrv3) (cwV 0 hts gX7_settle_X7_swapOrder rfl rfl rfl ⟨rfl, hdc_X7_swapOrder⟩ ⟨Nat.le_of_ble_eq_true rfl, Nat.le_of_ble_eq_true rfl⟩) (pmV hK hP hD [0, 1, 2, 3, 4, 5, 6, 7] (by decide) rfl rfl (ci := 7) (q0 := 0) rfl rfl) rfl rfl hl.1 rfl (lv_room (Nat.le_of_ble_eq_true rfl)) dX7_settle_16 ⟨Nat.zero_le _, Nat.zero_le _⟩) hP hD hS hA [0, 1, 2, 3, 4, 5, 6, 7] [] rfl rfl (by decide) (by decide) (fun H locs hP hD hS => ?_)
  have hP : va_P D vwCl [(k0, .inr (7, [.ref k1, .int rv2.1, .ref k2, .ref k3, .int k_len, .int k_fi, .int k_be, .int k_to, .int k_cl, .int k_do, .ref k4, .ref k5, .ref k6, .ref k7])), (k1, .inl (cI, 583, .inl rv3.1)), (k2, .inl (cZ, 2, .inl k_ke)), (k3, .inl (cI, 200, .inl k_te)), (k4, .inl (cI, 10, .inl rv3.2)), (k5, .inl (cI, 48, .inl k_na)), (k6, .inl (cI, 1024, .inl rv1.2.1)), (k7, .inl (cI, 1024, .inl rv1.2.2))] H := hP
  have hD : va_D A [(k0, .inr (7, [.ref k1, .int rv2.1, .ref k2, .ref k3, .int k_len, .int k_fi, .int k_be, .int k_to, .int k_cl, .int k_do, .ref k4, .ref k5, .ref k6, .ref k7])), (k1, .inl (cI, 583, .inl rv3.1)), (k2, .inl (cZ, 2, .inl k_ke)), (k3, .inl (cI, 200, .inl k_te)), (k4, .inl (cI, 10, .inl rv3.2)), (k5, .inl (cI, 48, .inl k_na)), (k6, .inl (cI, 1024, .inl rv1.2.1)), (k7, .inl (cI, 1024, .inl rv1.2.2))] := hD
  refine lv_iload_n hx hb dX7_settle_19 rfl (lv_at hl 0 rfl) ?_
  cases hf
  exact W.iret hx hb hr (fun t ht _ => ⟨⟨rfl, by rw [ht]; exact hP, hD⟩, hS.F ht⟩) hS.2.2 dX7_settle_20
theorem hdc_X7_undo : yX7_undo.cls ≠ "java/lang/invoke/MethodHandle" ∧ yX7_undo.cls ≠ "java/lang/invoke/VarHandle" ∧ (parseMethodDescriptor yX7_undo.desc).map (fun d => d.parameters.length) = some 0 := by decide +kernel
set_option maxHeartbeats 4000000 in
set_option maxRecDepth 100000 in
theorem c_X7_undo (l : Launch) (D : va_G) (cI cZ cM : ClassId) (k0 k1 k2 k3 k4 k5 k6 k7 : Nat) (sz : Nat) (k_un : Int32) (k_len : Int32) (k_fi : Int32) (k_be : Int32) (k_to : Int32) (k_cl : Int32) (k_do : Int32) (k_ro : Nat → Int32) (k_ke : Nat → Int32) (k_te : Nat → Int32) (k_nu : Nat → Int32) (k_na : Nat → Int32) (k_no : Nat → Int32) (k_tu : Nat → Int32) (fu : Nat) (r : Int32) (k_un' : Int32) (k_ro' : Nat → Int32) (hf : m_X7_undo fu k_un k_ro = some (r, k_un', k_ro')) : Met l yX7_undo wsX7_undo ({ frames := 1, cells := 0, slots := 0, locals := 23 }) (pM D cI cZ cM sz [(k0, .inr (7, [.ref k1, .int k_un, .ref k2, .ref k3, .int k_len, .int k_fi, .int k_be, .int k_to, .int k_cl, .int k_do, .ref k4, .ref k5, .ref k6, .ref k7])), (k1, .inl (cI, 583, .inl k_ro)), (k2, .inl (cZ, 2, .inl k_ke)), (k3, .inl (cI, 200, .inl k_te)), (k4, .inl (cI, 10, .inl k_nu)), (k5, .inl (cI, 48, .inl k_na)), (k6, .inl (cI, 1024, .inl k_no)), (k7, .inl (cI, 1024, .inl k_tu))] [.ref k0]) (qI D r [(k0, .inr (7, [.ref k1, .int k_un', .ref k2, .ref k3, .int k_len, .int k_fi, .int k_be, .int k_to, .int k_cl, .int k_do, .ref k4, .ref k5, .ref k6, .ref k7])), (k1, .inl (cI, 583, .inl k_ro')), (k2, .inl (cZ, 2, .inl k_ke)), (k3, .inl (cI, 200, .inl k_te)), (k4, .inl (cI, 10, .inl k_nu)), (k5, .inl (cI, 48, .inl k_na)), (k6, .inl (cI, 1024, .inl k_no)), (k7, .inl (cI, 1024, .inl k_tu))] (va_A [(k0, .inr (7, [.ref k1, .int k_un, .ref k2, .ref k3, .int k_len, .int k_fi, .int k_be, .int k_to, .int k_cl, .int k_do, .ref k4, .ref k5, .ref k6, .ref k7])), (k1, .inl (cI, 583, .inl k_ro)), (k2, .inl (cZ, 2, .inl k_ke)), (k3, .inl (cI, 200, .inl k_te)), (k4, .inl (cI, 10, .inl k_nu)), (k5, .inl (cI, 48, .inl k_na)), (k6, .inl (cI, 1024, .inl k_no)), (k7, .inl (cI, 1024, .inl k_tu))] sz)) 0 0 (va_A [(k0, .inr (7, [.ref k1, .int k_un, .ref k2, .ref k3, .int k_len, .int k_fi, .int k_be, .int k_to, .int k_cl, .int k_do, .ref k4, .ref k5, .ref k6, .ref k7])), (k1, .inl (cI, 583, .inl k_ro)), (k2, .inl (cZ, 2, .inl k_ke)), (k3, .inl (cI, 200, .inl k_te)), (k4, .inl (cI, 10, .inl k_nu)), (k5, .inl (cI, 48, .inl k_na)), (k6, .inl (cI, 1024, .inl k_no)), (k7, .inl (cI, 1024, .inl k_tu))] sz) := by
  refine Met.ofW (cc := cX7_undo) (maxL := 1) (ret := (some .int)) (by decide) rfl ?_
  intro p e s m args below meth c s₁ B hml hv
  obtain ⟨rfl, hsz, hP, hK, hD0⟩ := hv
  have hx := B.exec
  have hb := B.bytes
  have hr := B.returns
  have hts := atoms_spec (ws := wsX7_undo) B.pre
  have hown : s.vm.findClass RX7 = some m.cls := findClass_of_methodNamed B.named
  have hlocks := B.notSynchronized
  subst hsz
  have hD := hD0.self (sz := s.heap.size)
  generalize hAe : va_A [(k0, .inr (7, [.ref k1, .int k_un, .ref k2, .ref k3, .int k_len, .int k_fi, .int k_be, .int k_to, .int k_cl, .int k_do, .ref k4, .ref k5, .ref k6, .ref k7])), (k1, .inl (cI, 583, .inl k_ro)), (k2, .inl (cZ, 2, .inl k_ke)), (k3, .inl (cI, 200, .inl k_te)), (k4, .inl (cI, 10, .inl k_nu)), (k5, .inl (cI, 48, .inl k_na)), (k6, .inl (cI, 1024, .inl k_no)), (k7, .inl (cI, 1024, .inl k_tu))] s.heap.size = A at hD ⊢
  have hA : ∀ q : Nat, s.heap.size ≤ q → A q := fun q h => by rw [← hAe]; exact Or.inr h
  clear hAe hD0
  have hfl_132 := hts (.fieldLink RX7 132 "TermsFirstModel" "undos" "I") (List.mem_cons_of_mem _ (List.mem_append_left _ (List.mem_of_getElem? (i := 0) rfl)))
  have hiX7 : ∀ w ∈ u_ws RX7 TX7 14, w ∈ wsX7_undo := fun _ h => (List.mem_cons_of_mem _ (List.mem_append_right _ h))
  have hl := lv_entry ([.ref k0]) (n := 1) (Nat.le_of_ble_eq_true rfl)
  rw [lg_entry_eq]
  generalize (lg_sl ([.ref k0]) ++ List.replicate (1 - (lg_sl ([.ref k0])).length) Slot.unset).toArray = ls at hl ⊢
  have hl : lv_has ls 1 [(0, .ref k0)] := hl
  have hS : va_S A s.heap s.heap [] := va_S.rf
  unfold m_X7_undo at hf
  refine lv_aload_n hx hb dX7_undo_0 rfl (lv_at hl 0 rfl) ?_
  refine va_get (D := D) (ci := 7) (v := .int k_un) (C := RX7) (T := TX7) (N := 14) hx hb hts hiX7 hown hK.1 hP 0 rfl rfl 1 (by decide) hfl_132 (fun _ h9 => h9) rfl dX7_undo_1 ?_
  refine lv_if_ne (tgt := 10) hx hb dX7_undo_4 (by decide) (fun hc => ?_) (fun hc => ?_)
  · have hf := ifn hc hf
    refine lv_aload_n hx hb dX7_undo_10 rfl (lv_at hl 0 rfl) ?_
    refine lv_dup hx hb dX7_undo_11 rfl ?_
    refine va_get (D := D) (ci := 7) (v := .int k_un) (C := RX7) (T := TX7) (N := 14) hx hb hts hiX7 hown hK.1 hP 0 rfl rfl 1 (by decide) hfl_132 (fun _ h9 => h9) rfl dX7_undo_12 ?_
    refine lv_iconst (v := (nI 1)) hx hb dX7_undo_15 ic_1 ?_
    refine lv_isub hx hb dX7_undo_16 ?_
    refine va_put (D := D) (ci := 7) (v := .int (k_un - (nI 1))) (ty := .int) (C := RX7) (T := TX7) (N := 14) hx hb hts hiX7 tyX7 tyX7_ok nmX7 hown hK.1 hP hD hS 0 rfl rfl 1 (by decide) hfl_132 (fun _ h9 => h9) rfl (tyX7_ok 1 (by decide)) rfl rfl (Nat.le_of_ble_eq_true rfl) dX7_undo_17 (fun H locs hP hD hS => ?_)
    have hP : va_P D vwCl [(k0, .inr (7, [.ref k1, .int (k_un - (nI 1)), .ref k2, .ref k3, .int k_len, .int k_fi, .int k_be, .int k_to, .int k_cl, .int k_do, .ref k4, .ref k5, .ref k6, .ref k7])), (k1, .inl (cI, 583, .inl k_ro)), (k2, .inl (cZ, 2, .inl k_ke)), (k3, .inl (cI, 200, .inl k_te)), (k4, .inl (cI, 10, .inl k_nu)), (k5, .inl (cI, 48, .inl k_na)), (k6, .inl (cI, 1024, .inl k_no)), (k7, .inl (cI, 1024, .inl k_tu))] H := hP
    have hD : va_D A [(k0, .inr (7, [.ref k1, .int (k_un - (nI 1)), .ref k2, .ref k3, .int k_len, .int k_fi, .int k_be, .int k_to, .int k_cl, .int k_do, .ref k4, .ref k5, .ref k6, .ref k7])), (k1, .inl (cI, 583, .inl k_ro)), (k2, .inl (cZ, 2, .inl k_ke)), (k3, .inl (cI, 200, .inl k_te)), (k4, .inl (cI, 10, .inl k_nu)), (k5, .inl (cI, 48, .inl k_na)), (k6, .inl (cI, 1024, .inl k_no)), (k7, .inl (cI, 1024, .inl k_tu))] := hD
    refine lv_aload_n hx hb dX7_undo_20 rfl (lv_at hl 0 rfl) ?_
    refine lv_bipush (v := (nI 53)) hx hb dX7_undo_21 bp_53 ?_
    refine lv_bipush (v := (nI 53)) hx hb dX7_undo_23 bp_53 ?_
    refine lv_aload_n hx hb dX7_undo_25 rfl (lv_at hl 0 rfl) ?_
    refine va_get (D := D) (ci := 7) (v := .int (k_un - (nI 1))) (C := RX7) (T := TX7) (N := 14) hx hb hts hiX7 hown hK.1 hP 0 rfl rfl 1 (by decide) hfl_132 (fun _ h9 => h9) rfl dX7_undo_26 ?_
    refine lv_imul hx hb dX7_undo_29 ?_
    refine lv_iadd hx hb dX7_undo_30 ?_
    refine lv_iconst (v := (nI 0)) hx hb dX7_undo_31 ic_0 ?_
    obtain ⟨rv1, hrv1, hf⟩ := bd hf
    refine muV0 (wr := []) (va_runV (As := [.int ((nI 53) + ((nI 53) * (k_un - (nI 1)))), .int (nI 0)]) (rest := []) ⟨hx, hb, hml, hown, hts⟩ (c_X7_copyRow l D cI cZ cM k0 k1 k2 k3 k4 k5 k6 k7 _ (k_un - (nI 1)) k_len k_fi k_be k_to k_cl k_do k_ro k_ke k_te k_nu k_na k_no k_tu ((nI 53) + ((nI 53) * (k_un - (nI 1)))) (nI 0) fu rv1 hrv1) (cwV 2 hts gX7_undo_X7_copyRow rfl rfl rfl ⟨rfl, hdc_X7_copyRow⟩ ⟨Nat.le_of_ble_eq_true rfl, Nat.le_of_ble_eq_true rfl⟩) (pmV hK hP hD [0, 1, 2, 3, 4, 5, 6, 7] (by decide) rfl rfl (ci := 7) (q0 := 0) rfl rfl) rfl rfl hl.1 rfl (lv_room (Nat.le_of_ble_eq_true rfl)) dX7_undo_32 ⟨Nat.zero_le _, Nat.zero_le _⟩) hP hD hS hA [0, 1, 2, 3, 4, 5, 6, 7] [] rfl rfl (by decide) (by decide) (fun H locs hP hD hS => ?_)
    have hP : va_P D vwCl [(k0, .inr (7, [.ref k1, .int (k_un - (nI 1)), .ref k2, .ref k3, .int k_len, .int k_fi, .int k_be, .int k_to, .int k_cl, .int k_do, .ref k4, .ref k5, .ref k6, .ref k7])), (k1, .inl (cI, 583, .inl rv1)), (k2, .inl (cZ, 2, .inl k_ke)), (k3, .inl (cI, 200, .inl k_te)), (k4, .inl (cI, 10, .inl k_nu)), (k5, .inl (cI, 48, .inl k_na)), (k6, .inl (cI, 1024, .inl k_no)), (k7, .inl (cI, 1024, .inl k_tu))] H := hP
    have hD : va_D A [(k0, .inr (7, [.ref k1, .int (k_un - (nI 1)), .ref k2, .ref k3, .int k_len, .int k_fi, .int k_be, .int k_to, .int k_cl, .int k_do, .ref k4, .ref k5, .ref k6, .ref k7])), (k1, .inl (cI, 583, .inl rv1)), (k2, .inl (cZ, 2, .inl k_ke)), (k3, .inl (cI, 200, .inl k_te)), (k4, .inl (cI, 10, .inl k_nu)), (k5, .inl (cI, 48, .inl k_na)), (k6, .inl (cI, 1024, .inl k_no)), (k7, .inl (cI, 1024, .inl k_tu))] := hD
    refine lv_aload_n hx hb dX7_undo_35 rfl (lv_at hl 0 rfl) ?_
    refine va_get (D := D) (ci := 7) (v := .int (k_un - (nI 1))) (C := RX7) (T := TX7) (N := 14) hx hb hts hiX7 hown hK.1 hP 0 rfl rfl 1 (by decide) hfl_132 (fun _ h9 => h9) rfl dX7_undo_36 ?_
    cases hf
    exact W.iret hx hb hr (fun t ht _ => ⟨⟨rfl, by rw [ht]; exact hP, hD⟩, hS.F ht⟩) hS.2.2 dX7_undo_39
  · have hf := ifp hc hf
    refine lv_bipush (v := (-4 : Int32)) hx hb dX7_undo_7 bp_m4 ?_
    cases hf
    exact W.iret hx hb hr (fun t ht _ => ⟨⟨rfl, by rw [ht]; exact hP, hD⟩, hS.F ht⟩) hS.2.2 dX7_undo_9
theorem hdc_X7_keep : yX7_keep.cls ≠ "java/lang/invoke/MethodHandle" ∧ yX7_keep.cls ≠ "java/lang/invoke/VarHandle" ∧ (parseMethodDescriptor yX7_keep.desc).map (fun d => d.parameters.length) = some 1 := by decide +kernel
set_option maxHeartbeats 4000000 in
set_option maxRecDepth 100000 in
theorem c_X7_keep (l : Launch) (D : va_G) (cI cZ cM : ClassId) (k0 k1 k2 k3 k4 k5 k6 k7 : Nat) (sz : Nat) (k_un : Int32) (k_len : Int32) (k_fi : Int32) (k_be : Int32) (k_to : Int32) (k_cl : Int32) (k_do : Int32) (k_ro : Nat → Int32) (k_ke : Nat → Int32) (k_te : Nat → Int32) (k_nu : Nat → Int32) (k_na : Nat → Int32) (k_no : Nat → Int32) (k_tu : Nat → Int32) (x1 : Int32) (fu : Nat) (r : Int32) (k_ro' : Nat → Int32) (k_ke' : Nat → Int32) (hf : m_X7_keep fu k_ro k_ke x1 = some (r, k_ro', k_ke')) : Met l yX7_keep wsX7_keep ({ frames := 4, cells := 0, slots := 0, locals := 90 }) (pM D cI cZ cM sz [(k0, .inr (7, [.ref k1, .int k_un, .ref k2, .ref k3, .int k_len, .int k_fi, .int k_be, .int k_to, .int k_cl, .int k_do, .ref k4, .ref k5, .ref k6, .ref k7])), (k1, .inl (cI, 583, .inl k_ro)), (k2, .inl (cZ, 2, .inl k_ke)), (k3, .inl (cI, 200, .inl k_te)), (k4, .inl (cI, 10, .inl k_nu)), (k5, .inl (cI, 48, .inl k_na)), (k6, .inl (cI, 1024, .inl k_no)), (k7, .inl (cI, 1024, .inl k_tu))] [.ref k0, .int x1]) (qI D r [(k0, .inr (7, [.ref k1, .int k_un, .ref k2, .ref k3, .int k_len, .int k_fi, .int k_be, .int k_to, .int k_cl, .int k_do, .ref k4, .ref k5, .ref k6, .ref k7])), (k1, .inl (cI, 583, .inl k_ro')), (k2, .inl (cZ, 2, .inl k_ke')), (k3, .inl (cI, 200, .inl k_te)), (k4, .inl (cI, 10, .inl k_nu)), (k5, .inl (cI, 48, .inl k_na)), (k6, .inl (cI, 1024, .inl k_no)), (k7, .inl (cI, 1024, .inl k_tu))] (va_A [(k0, .inr (7, [.ref k1, .int k_un, .ref k2, .ref k3, .int k_len, .int k_fi, .int k_be, .int k_to, .int k_cl, .int k_do, .ref k4, .ref k5, .ref k6, .ref k7])), (k1, .inl (cI, 583, .inl k_ro)), (k2, .inl (cZ, 2, .inl k_ke)), (k3, .inl (cI, 200, .inl k_te)), (k4, .inl (cI, 10, .inl k_nu)), (k5, .inl (cI, 48, .inl k_na)), (k6, .inl (cI, 1024, .inl k_no)), (k7, .inl (cI, 1024, .inl k_tu))] sz)) 0 0 (va_A [(k0, .inr (7, [.ref k1, .int k_un, .ref k2, .ref k3, .int k_len, .int k_fi, .int k_be, .int k_to, .int k_cl, .int k_do, .ref k4, .ref k5, .ref k6, .ref k7])), (k1, .inl (cI, 583, .inl k_ro)), (k2, .inl (cZ, 2, .inl k_ke)), (k3, .inl (cI, 200, .inl k_te)), (k4, .inl (cI, 10, .inl k_nu)), (k5, .inl (cI, 48, .inl k_na)), (k6, .inl (cI, 1024, .inl k_no)), (k7, .inl (cI, 1024, .inl k_tu))] sz) := by
  refine Met.ofW (cc := cX7_keep) (maxL := 2) (ret := (some .int)) (by decide) rfl ?_
  intro p e s m args below meth c s₁ B hml hv
  obtain ⟨rfl, hsz, hP, hK, hD0⟩ := hv
  have hx := B.exec
  have hb := B.bytes
  have hr := B.returns
  have hts := atoms_spec (ws := wsX7_keep) B.pre
  have hown : s.vm.findClass RX7 = some m.cls := findClass_of_methodNamed B.named
  have hlocks := B.notSynchronized
  subst hsz
  have hD := hD0.self (sz := s.heap.size)
  generalize hAe : va_A [(k0, .inr (7, [.ref k1, .int k_un, .ref k2, .ref k3, .int k_len, .int k_fi, .int k_be, .int k_to, .int k_cl, .int k_do, .ref k4, .ref k5, .ref k6, .ref k7])), (k1, .inl (cI, 583, .inl k_ro)), (k2, .inl (cZ, 2, .inl k_ke)), (k3, .inl (cI, 200, .inl k_te)), (k4, .inl (cI, 10, .inl k_nu)), (k5, .inl (cI, 48, .inl k_na)), (k6, .inl (cI, 1024, .inl k_no)), (k7, .inl (cI, 1024, .inl k_tu))] s.heap.size = A at hD ⊢
  have hA : ∀ q : Nat, s.heap.size ≤ q → A q := fun q h => by rw [← hAe]; exact Or.inr h
  clear hAe hD0
  have hfl_13 := hts (.fieldLink RX7 13 "TermsFirstModel" "isKept" "[Z") (List.mem_cons_of_mem _ (List.mem_append_left _ (List.mem_append_left _ (List.mem_of_getElem? (i := 0) rfl))))
  have hiX7 : ∀ w ∈ u_ws RX7 TX7 14, w ∈ wsX7_keep := fun _ h => (List.mem_cons_of_mem _ (List.mem_append_right _ h))
  have hl := lv_entry ([.ref k0, .int x1]) (n := 2) (Nat.le_of_ble_eq_true rfl)
  rw [lg_entry_eq]
  generalize (lg_sl ([.ref k0, .int x1]) ++ List.replicate (2 - (lg_sl ([.ref k0, .int x1])).length) Slot.unset).toArray = ls at hl ⊢
  have hl : lv_has ls 2 [(0, .ref k0), (1, .int x1)] := hl
  have hS : va_S A s.heap s.heap [] := va_S.rf
  unfold m_X7_keep at hf
  refine lv_iload_n hx hb dX7_keep_0 rfl (lv_at hl 1 rfl) ?_
  refine lv_i2l (v := x1.toInt64) hx hb dX7_keep_1 rfl ?_
  refine lv_lconst (v := (lN 0)) hx hb dX7_keep_2 rfl ?_
  refine lv_lconst (v := (lN 1)) hx hb dX7_keep_3 rfl ?_
  obtain ⟨rv1, hrv1, hf⟩ := bd hf
  refine roI (va_runS (As := [.long x1.toInt64, .long (lN 0), .long (lN 1)]) (rest := []) ⟨hx, hb, hml, hown, hts⟩ (c_X7_in l D cI cZ cM x1.toInt64 (lN 0) (lN 1) rv1 hrv1) (va_cwS 3 hts gX7_keep_X7_in rfl rfl rfl hdc_X7_in ⟨Nat.le_of_ble_eq_true rfl, Nat.le_of_ble_eq_true rfl⟩) (prS hK hP [] rfl) rfl rfl hl.1 rfl (lv_room (Nat.le_of_ble_eq_true rfl)) dX7_keep_4 ⟨Nat.zero_le _, Nat.zero_le _⟩) ?_
  refine lv_if_ne (tgt := 13) hx hb dX7_keep_7 (by decide) (fun hc => ?_) (fun hc => ?_)
  · have hf := ifn hc hf
    refine lv_aload_n hx hb dX7_keep_13 rfl (lv_at hl 0 rfl) ?_
    refine lv_iconst (v := (nI 0)) hx hb dX7_keep_14 ic_0 ?_
    refine lv_sipush (v := (nI 477)) hx hb dX7_keep_15 sp_477 ?_
    refine lv_bipush (v := (nI 53)) hx hb dX7_keep_18 bp_53 ?_
    refine lv_iload_n hx hb dX7_keep_20 rfl (lv_at hl 1 rfl) ?_
    refine lv_imul hx hb dX7_keep_21 ?_
    refine lv_iadd hx hb dX7_keep_22 ?_
    obtain ⟨rv2, hrv2, hf⟩ := bd hf
    refine muV0 (wr := []) (va_runV (As := [.int (nI 0), .int ((nI 477) + ((nI 53) * x1))]) (rest := []) ⟨hx, hb, hml, hown, hts⟩ (c_X7_copyRow l D cI cZ cM k0 k1 k2 k3 k4 k5 k6 k7 _ k_un k_len k_fi k_be k_to k_cl k_do k_ro k_ke k_te k_nu k_na k_no k_tu (nI 0) ((nI 477) + ((nI 53) * x1)) fu rv2 hrv2) (cwV 2 hts gX7_keep_X7_copyRow rfl rfl rfl ⟨rfl, hdc_X7_copyRow⟩ ⟨Nat.le_of_ble_eq_true rfl, Nat.le_of_ble_eq_true rfl⟩) (pmV hK hP hD [0, 1, 2, 3, 4, 5, 6, 7] (by decide) rfl rfl (ci := 7) (q0 := 0) rfl rfl) rfl rfl hl.1 rfl (lv_room (Nat.le_of_ble_eq_true rfl)) dX7_keep_23 ⟨Nat.zero_le _, Nat.zero_le _⟩) hP hD hS hA [0, 1, 2, 3, 4, 5, 6, 7] [] rfl rfl (by decide) (by decide) (fun H locs hP hD hS => ?_)
    have hP : va_P D vwCl [(k0, .inr (7, [.ref k1, .int k_un, .ref k2, .ref k3, .int k_len, .int k_fi, .int k_be, .int k_to, .int k_cl, .int k_do, .ref k4, .ref k5, .ref k6, .ref k7])), (k1, .inl (cI, 583, .inl rv2)), (k2, .inl (cZ, 2, .inl k_ke)), (k3, .inl (cI, 200, .inl k_te)), (k4, .inl (cI, 10, .inl k_nu)), (k5, .inl (cI, 48, .inl k_na)), (k6, .inl (cI, 1024, .inl k_no)), (k7, .inl (cI, 1024, .inl k_tu))] H := hP
    have hD : va_D A [(k0, .inr (7, [.ref k1, .int k_un, .ref k2, .ref k3, .int k_len, .int k_fi, .int k_be, .int k_to, .int k_cl, .int k_do, .ref k4, .ref k5, .ref k6, .ref k7])), (k1, .inl (cI, 583, .inl rv2)), (k2, .inl (cZ, 2, .inl k_ke)), (k3, .inl (cI, 200, .inl k_te)), (k4, .inl (cI, 10, .inl k_nu)), (k5, .inl (cI, 48, .inl k_na)), (k6, .inl (cI, 1024, .inl k_no)), (k7, .inl (cI, 1024, .inl k_tu))] := hD
    refine lv_aload_n hx hb dX7_keep_26 rfl (lv_at hl 0 rfl) ?_
    refine va_get (D := D) (ci := 7) (v := .ref k2) (C := RX7) (T := TX7) (N := 14) hx hb hts hiX7 hown hK.1 hP 0 rfl rfl 2 (by decide) hfl_13 (fun _ h9 => h9) rfl dX7_keep_27 ?_
    refine lv_iload_n hx hb dX7_keep_30 rfl (lv_at hl 1 rfl) ?_
    refine lv_iconst (v := (nI 1)) hx hb dX7_keep_31 ic_1 ?_
    obtain ⟨hi, hf⟩ := gd_some hf
    refine va_zast hx hb hK.1 hP hD hS 2 1 rfl rfl hi dX7_keep_32 (fun H locs hP hD hS => ?_)
    rw [zbl_1.2.2] at hP hD
    have hP : va_P D vwCl [(k0, .inr (7, [.ref k1, .int k_un, .ref k2, .ref k3, .int k_len, .int k_fi, .int k_be, .int k_to, .int k_cl, .int k_do, .ref k4, .ref k5, .ref k6, .ref k7])), (k1, .inl (cI, 583, .inl rv2)), (k2, .inl (cZ, 2, .inl (upd k_ke x1.toNatClampNeg (nI 1)))), (k3, .inl (cI, 200, .inl k_te)), (k4, .inl (cI, 10, .inl k_nu)), (k5, .inl (cI, 48, .inl k_na)), (k6, .inl (cI, 1024, .inl k_no)), (k7, .inl (cI, 1024, .inl k_tu))] H := hP
    have hD : va_D A [(k0, .inr (7, [.ref k1, .int k_un, .ref k2, .ref k3, .int k_len, .int k_fi, .int k_be, .int k_to, .int k_cl, .int k_do, .ref k4, .ref k5, .ref k6, .ref k7])), (k1, .inl (cI, 583, .inl rv2)), (k2, .inl (cZ, 2, .inl (upd k_ke x1.toNatClampNeg (nI 1)))), (k3, .inl (cI, 200, .inl k_te)), (k4, .inl (cI, 10, .inl k_nu)), (k5, .inl (cI, 48, .inl k_na)), (k6, .inl (cI, 1024, .inl k_no)), (k7, .inl (cI, 1024, .inl k_tu))] := hD
    refine lv_aload_n hx hb dX7_keep_33 rfl (lv_at hl 0 rfl) ?_
    obtain ⟨rv3, hrv3, hf⟩ := bd hf
    refine roI (va_runV (As := []) (rest := []) ⟨hx, hb, hml, hown, hts⟩ (c_X7_notesMany l D cI cZ cM k0 k1 k2 k3 k4 k5 k6 k7 k_un k_len k_fi k_be k_to k_cl k_do rv2 (upd k_ke x1.toNatClampNeg (nI 1)) k_te k_nu k_na k_no k_tu fu rv3 hrv3) (cwV 0 hts gX7_keep_X7_notesMany rfl rfl rfl ⟨rfl, hdc_X7_notesMany⟩ ⟨Nat.le_of_ble_eq_true rfl, Nat.le_of_ble_eq_true rfl⟩) (prV hK hP [0, 1, 2, 3, 4, 5, 6, 7] rfl (ci := 7) (q0 := 0) rfl rfl) rfl rfl hl.1 rfl (lv_room (Nat.le_of_ble_eq_true rfl)) dX7_keep_34 ⟨Nat.zero_le _, Nat.zero_le _⟩) ?_
    cases hf
    exact W.iret hx hb hr (fun t ht _ => ⟨⟨rfl, by rw [ht]; exact hP, hD⟩, hS.F ht⟩) hS.2.2 dX7_keep_37
  · have hf := ifp hc hf
    refine lv_bipush (v := (-3 : Int32)) hx hb dX7_keep_10 bp_m3 ?_
    cases hf
    exact W.iret hx hb hr (fun t ht _ => ⟨⟨rfl, by rw [ht]; exact hP, hD⟩, hS.F ht⟩) hS.2.2 dX7_keep_12
theorem hdc_X7_back : yX7_back.cls ≠ "java/lang/invoke/MethodHandle" ∧ yX7_back.cls ≠ "java/lang/invoke/VarHandle" ∧ (parseMethodDescriptor yX7_back.desc).map (fun d => d.parameters.length) = some 1 := by decide +kernel
set_option maxHeartbeats 4000000 in
set_option maxRecDepth 100000 in
theorem c_X7_back (l : Launch) (D : va_G) (cI cZ cM : ClassId) (k0 k1 k2 k3 k4 k5 k6 k7 : Nat) (sz : Nat) (k_un : Int32) (k_len : Int32) (k_fi : Int32) (k_be : Int32) (k_to : Int32) (k_cl : Int32) (k_do : Int32) (k_ro : Nat → Int32) (k_ke : Nat → Int32) (k_te : Nat → Int32) (k_nu : Nat → Int32) (k_na : Nat → Int32) (k_no : Nat → Int32) (k_tu : Nat → Int32) (x1 : Int32) (fu : Nat) (r : Int32) (k_un' : Int32) (k_ro' : Nat → Int32) (hf : m_X7_back fu k_un k_ro k_ke x1 = some (r, k_un', k_ro')) : Met l yX7_back wsX7_back ({ frames := 4, cells := 0, slots := 0, locals := 90 }) (pM D cI cZ cM sz [(k0, .inr (7, [.ref k1, .int k_un, .ref k2, .ref k3, .int k_len, .int k_fi, .int k_be, .int k_to, .int k_cl, .int k_do, .ref k4, .ref k5, .ref k6, .ref k7])), (k1, .inl (cI, 583, .inl k_ro)), (k2, .inl (cZ, 2, .inl k_ke)), (k3, .inl (cI, 200, .inl k_te)), (k4, .inl (cI, 10, .inl k_nu)), (k5, .inl (cI, 48, .inl k_na)), (k6, .inl (cI, 1024, .inl k_no)), (k7, .inl (cI, 1024, .inl k_tu))] [.ref k0, .int x1]) (qI D r [(k0, .inr (7, [.ref k1, .int k_un', .ref k2, .ref k3, .int k_len, .int k_fi, .int k_be, .int k_to, .int k_cl, .int k_do, .ref k4, .ref k5, .ref k6, .ref k7])), (k1, .inl (cI, 583, .inl k_ro')), (k2, .inl (cZ, 2, .inl k_ke)), (k3, .inl (cI, 200, .inl k_te)), (k4, .inl (cI, 10, .inl k_nu)), (k5, .inl (cI, 48, .inl k_na)), (k6, .inl (cI, 1024, .inl k_no)), (k7, .inl (cI, 1024, .inl k_tu))] (va_A [(k0, .inr (7, [.ref k1, .int k_un, .ref k2, .ref k3, .int k_len, .int k_fi, .int k_be, .int k_to, .int k_cl, .int k_do, .ref k4, .ref k5, .ref k6, .ref k7])), (k1, .inl (cI, 583, .inl k_ro)), (k2, .inl (cZ, 2, .inl k_ke)), (k3, .inl (cI, 200, .inl k_te)), (k4, .inl (cI, 10, .inl k_nu)), (k5, .inl (cI, 48, .inl k_na)), (k6, .inl (cI, 1024, .inl k_no)), (k7, .inl (cI, 1024, .inl k_tu))] sz)) 0 0 (va_A [(k0, .inr (7, [.ref k1, .int k_un, .ref k2, .ref k3, .int k_len, .int k_fi, .int k_be, .int k_to, .int k_cl, .int k_do, .ref k4, .ref k5, .ref k6, .ref k7])), (k1, .inl (cI, 583, .inl k_ro)), (k2, .inl (cZ, 2, .inl k_ke)), (k3, .inl (cI, 200, .inl k_te)), (k4, .inl (cI, 10, .inl k_nu)), (k5, .inl (cI, 48, .inl k_na)), (k6, .inl (cI, 1024, .inl k_no)), (k7, .inl (cI, 1024, .inl k_tu))] sz) := by
  refine Met.ofW (cc := cX7_back) (maxL := 2) (ret := (some .int)) (by decide) rfl ?_
  intro p e s m args below meth c s₁ B hml hv
  obtain ⟨rfl, hsz, hP, hK, hD0⟩ := hv
  have hx := B.exec
  have hb := B.bytes
  have hr := B.returns
  have hts := atoms_spec (ws := wsX7_back) B.pre
  have hown : s.vm.findClass RX7 = some m.cls := findClass_of_methodNamed B.named
  have hlocks := B.notSynchronized
  subst hsz
  have hD := hD0.self (sz := s.heap.size)
  generalize hAe : va_A [(k0, .inr (7, [.ref k1, .int k_un, .ref k2, .ref k3, .int k_len, .int k_fi, .int k_be, .int k_to, .int k_cl, .int k_do, .ref k4, .ref k5, .ref k6, .ref k7])), (k1, .inl (cI, 583, .inl k_ro)), (k2, .inl (cZ, 2, .inl k_ke)), (k3, .inl (cI, 200, .inl k_te)), (k4, .inl (cI, 10, .inl k_nu)), (k5, .inl (cI, 48, .inl k_na)), (k6, .inl (cI, 1024, .inl k_no)), (k7, .inl (cI, 1024, .inl k_tu))] s.heap.size = A at hD ⊢
  have hA : ∀ q : Nat, s.heap.size ≤ q → A q := fun q h => by rw [← hAe]; exact Or.inr h
  clear hAe hD0
  have hfl_13 := hts (.fieldLink RX7 13 "TermsFirstModel" "isKept" "[Z") (List.mem_cons_of_mem _ (List.mem_append_left _ (List.mem_append_left _ (List.mem_of_getElem? (i := 0) rfl))))
  have hfl_132 := hts (.fieldLink RX7 132 "TermsFirstModel" "undos" "I") (List.mem_cons_of_mem _ (List.mem_append_left _ (List.mem_append_left _ (List.mem_of_getElem? (i := 1) rfl))))
  have hiX7 : ∀ w ∈ u_ws RX7 TX7 14, w ∈ wsX7_back := fun _ h => (List.mem_cons_of_mem _ (List.mem_append_right _ h))
  have hl := lv_entry ([.ref k0, .int x1]) (n := 2) (Nat.le_of_ble_eq_true rfl)
  rw [lg_entry_eq]
  generalize (lg_sl ([.ref k0, .int x1]) ++ List.replicate (2 - (lg_sl ([.ref k0, .int x1])).length) Slot.unset).toArray = ls at hl ⊢
  have hl : lv_has ls 2 [(0, .ref k0), (1, .int x1)] := hl
  have hS : va_S A s.heap s.heap [] := va_S.rf
  unfold m_X7_back at hf
  refine lv_iload_n hx hb dX7_back_0 rfl (lv_at hl 1 rfl) ?_
  refine lv_i2l (v := x1.toInt64) hx hb dX7_back_1 rfl ?_
  refine lv_lconst (v := (lN 0)) hx hb dX7_back_2 rfl ?_
  refine lv_lconst (v := (lN 1)) hx hb dX7_back_3 rfl ?_
  obtain ⟨rv1, hrv1, hf⟩ := bd hf
  refine roI (va_runS (As := [.long x1.toInt64, .long (lN 0), .long (lN 1)]) (rest := []) ⟨hx, hb, hml, hown, hts⟩ (c_X7_in l D cI cZ cM x1.toInt64 (lN 0) (lN 1) rv1 hrv1) (va_cwS 3 hts gX7_back_X7_in rfl rfl rfl hdc_X7_in ⟨Nat.le_of_ble_eq_true rfl, Nat.le_of_ble_eq_true rfl⟩) (prS hK hP [] rfl) rfl rfl hl.1 rfl (lv_room (Nat.le_of_ble_eq_true rfl)) dX7_back_4 ⟨Nat.zero_le _, Nat.zero_le _⟩) ?_
  refine lv_if_ne (tgt := 13) hx hb dX7_back_7 (by decide) (fun hc => ?_) (fun hc => ?_)
  · have hf := ifn hc hf
    refine lv_aload_n hx hb dX7_back_13 rfl (lv_at hl 0 rfl) ?_
    refine va_get (D := D) (ci := 7) (v := .ref k2) (C := RX7) (T := TX7) (N := 14) hx hb hts hiX7 hown hK.1 hP 0 rfl rfl 2 (by decide) hfl_13 (fun _ h9 => h9) rfl dX7_back_14 ?_
    refine lv_iload_n hx hb dX7_back_17 rfl (lv_at hl 1 rfl) ?_
    obtain ⟨hi, hf⟩ := gd_some hf
    refine va_zald hx hb hK.1 hP 2 1 rfl rfl hi dX7_back_18 ?_
    refine lv_if_ne (tgt := 25) hx hb dX7_back_19 (by decide) (fun hc => ?_) (fun hc => ?_)
    · have hf := ifn hc hf
      refine lv_aload_n hx hb dX7_back_25 rfl (lv_at hl 0 rfl) ?_
      refine lv_sipush (v := (nI 477)) hx hb dX7_back_26 sp_477 ?_
      refine lv_bipush (v := (nI 53)) hx hb dX7_back_29 bp_53 ?_
      refine lv_iload_n hx hb dX7_back_31 rfl (lv_at hl 1 rfl) ?_
      refine lv_imul hx hb dX7_back_32 ?_
      refine lv_iadd hx hb dX7_back_33 ?_
      refine lv_iconst (v := (nI 0)) hx hb dX7_back_34 ic_0 ?_
      obtain ⟨rv2, hrv2, hf⟩ := bd hf
      refine muV0 (wr := []) (va_runV (As := [.int ((nI 477) + ((nI 53) * x1)), .int (nI 0)]) (rest := []) ⟨hx, hb, hml, hown, hts⟩ (c_X7_copyRow l D cI cZ cM k0 k1 k2 k3 k4 k5 k6 k7 _ k_un k_len k_fi k_be k_to k_cl k_do k_ro k_ke k_te k_nu k_na k_no k_tu ((nI 477) + ((nI 53) * x1)) (nI 0) fu rv2 hrv2) (cwV 2 hts gX7_back_X7_copyRow rfl rfl rfl ⟨rfl, hdc_X7_copyRow⟩ ⟨Nat.le_of_ble_eq_true rfl, Nat.le_of_ble_eq_true rfl⟩) (pmV hK hP hD [0, 1, 2, 3, 4, 5, 6, 7] (by decide) rfl rfl (ci := 7) (q0 := 0) rfl rfl) rfl rfl hl.1 rfl (lv_room (Nat.le_of_ble_eq_true rfl)) dX7_back_35 ⟨Nat.zero_le _, Nat.zero_le _⟩) hP hD hS hA [0, 1, 2, 3, 4, 5, 6, 7] [] rfl rfl (by decide) (by decide) (fun H locs hP hD hS => ?_)
      have hP : va_P D vwCl [(k0, .inr (7, [.ref k1, .int k_un, .ref k2, .ref k3, .int k_len, .int k_fi, .int k_be, .int k_to, .int k_cl, .int k_do, .ref k4, .ref k5, .ref k6, .ref k7])), (k1, .inl (cI, 583, .inl rv2)), (k2, .inl (cZ, 2, .inl k_ke)), (k3, .inl (cI, 200, .inl k_te)), (k4, .inl (cI, 10, .inl k_nu)), (k5, .inl (cI, 48, .inl k_na)), (k6, .inl (cI, 1024, .inl k_no)), (k7, .inl (cI, 1024, .inl k_tu))] H := hP
      have hD : va_D A [(k0, .inr (7, [.ref k1, .int k_un, .ref k2, .ref k3, .int k_len, .int k_fi, .int k_be, .int k_to, .int k_cl, .int k_do, .ref k4, .ref k5, .ref k6, .ref k7])), (k1, .inl (cI, 583, .inl rv2)), (k2, .inl (cZ, 2, .inl k_ke)), (k3, .inl (cI, 200, .inl k_te)), (k4, .inl (cI, 10, .inl k_nu)), (k5, .inl (cI, 48, .inl k_na)), (k6, .inl (cI, 1024, .inl k_no)), (k7, .inl (cI, 1024, .inl k_tu))] := hD
      refine lv_aload_n hx hb dX7_back_38 rfl (lv_at hl 0 rfl) ?_
      refine lv_iconst (v := (nI 0)) hx hb dX7_back_39 ic_0 ?_
      refine va_put (D := D) (ci := 7) (v := .int (nI 0)) (ty := .int) (C := RX7) (T := TX7) (N := 14) hx hb hts hiX7 tyX7 tyX7_ok nmX7 hown hK.1 hP hD hS 0 rfl rfl 1 (by decide) hfl_132 (fun _ h9 => h9) rfl (tyX7_ok 1 (by decide)) rfl rfl (Nat.le_of_ble_eq_true rfl) dX7_back_40 (fun H locs hP hD hS => ?_)
      have hP : va_P D vwCl [(k0, .inr (7, [.ref k1, .int (nI 0), .ref k2, .ref k3, .int k_len, .int k_fi, .int k_be, .int k_to, .int k_cl, .int k_do, .ref k4, .ref k5, .ref k6, .ref k7])), (k1, .inl (cI, 583, .inl rv2)), (k2, .inl (cZ, 2, .inl k_ke)), (k3, .inl (cI, 200, .inl k_te)), (k4, .inl (cI, 10, .inl k_nu)), (k5, .inl (cI, 48, .inl k_na)), (k6, .inl (cI, 1024, .inl k_no)), (k7, .inl (cI, 1024, .inl k_tu))] H := hP
      have hD : va_D A [(k0, .inr (7, [.ref k1, .int (nI 0), .ref k2, .ref k3, .int k_len, .int k_fi, .int k_be, .int k_to, .int k_cl, .int k_do, .ref k4, .ref k5, .ref k6, .ref k7])), (k1, .inl (cI, 583, .inl rv2)), (k2, .inl (cZ, 2, .inl k_ke)), (k3, .inl (cI, 200, .inl k_te)), (k4, .inl (cI, 10, .inl k_nu)), (k5, .inl (cI, 48, .inl k_na)), (k6, .inl (cI, 1024, .inl k_no)), (k7, .inl (cI, 1024, .inl k_tu))] := hD
      refine lv_aload_n hx hb dX7_back_43 rfl (lv_at hl 0 rfl) ?_
      obtain ⟨rv3, hrv3, hf⟩ := bd hf
      refine roI (va_runV (As := []) (rest := []) ⟨hx, hb, hml, hown, hts⟩ (c_X7_notesMany l D cI cZ cM k0 k1 k2 k3 k4 k5 k6 k7 (nI 0) k_len k_fi k_be k_to k_cl k_do rv2 k_ke k_te k_nu k_na k_no k_tu fu rv3 hrv3) (cwV 0 hts gX7_back_X7_notesMany rfl rfl rfl ⟨rfl, hdc_X7_notesMany⟩ ⟨Nat.le_of_ble_eq_true rfl, Nat.le_of_ble_eq_true rfl⟩) (prV hK hP [0, 1, 2, 3, 4, 5, 6, 7] rfl (ci := 7) (q0 := 0) rfl rfl) rfl rfl hl.1 rfl (lv_room (Nat.le_of_ble_eq_true rfl)) dX7_back_44 ⟨Nat.zero_le _, Nat.zero_le _⟩) ?_
      cases hf
      exact W.iret hx hb hr (fun t ht _ => ⟨⟨rfl, by rw [ht]; exact hP, hD⟩, hS.F ht⟩) hS.2.2 dX7_back_47
    · have hf := ifp hc hf
      refine lv_bipush (v := (-4 : Int32)) hx hb dX7_back_22 bp_m4 ?_
      cases hf
      exact W.iret hx hb hr (fun t ht _ => ⟨⟨rfl, by rw [ht]; exact hP, hD⟩, hS.F ht⟩) hS.2.2 dX7_back_24
  · have hf := ifp hc hf
    refine lv_bipush (v := (-3 : Int32)) hx hb dX7_back_10 bp_m3 ?_
    cases hf
    exact W.iret hx hb hr (fun t ht _ => ⟨⟨rfl, by rw [ht]; exact hP, hD⟩, hS.F ht⟩) hS.2.2 dX7_back_12
theorem hdc_X7_at : yX7_at.cls ≠ "java/lang/invoke/MethodHandle" ∧ yX7_at.cls ≠ "java/lang/invoke/VarHandle" ∧ (parseMethodDescriptor yX7_at.desc).map (fun d => d.parameters.length) = some 1 := by decide +kernel
set_option maxHeartbeats 4000000 in
set_option maxRecDepth 100000 in
theorem c_X7_at (l : Launch) (D : va_G) (cI cZ cM : ClassId) (k0 k1 k2 k3 k4 k5 k6 k7 : Nat) (k_un : Int32) (k_len : Int32) (k_fi : Int32) (k_be : Int32) (k_to : Int32) (k_cl : Int32) (k_do : Int32) (k_ro : Nat → Int32) (k_ke : Nat → Int32) (k_te : Nat → Int32) (k_nu : Nat → Int32) (k_na : Nat → Int32) (k_no : Nat → Int32) (k_tu : Nat → Int32) (x1 : Int32) (r : Int32) (hf : m_X7_at k_ro x1 = some r) : Met l yX7_at wsX7_at ({ frames := 2, cells := 0, slots := 0, locals := 46 }) (pR D cI cZ cM [(k0, .inr (7, [.ref k1, .int k_un, .ref k2, .ref k3, .int k_len, .int k_fi, .int k_be, .int k_to, .int k_cl, .int k_do, .ref k4, .ref k5, .ref k6, .ref k7])), (k1, .inl (cI, 583, .inl k_ro)), (k2, .inl (cZ, 2, .inl k_ke)), (k3, .inl (cI, 200, .inl k_te)), (k4, .inl (cI, 10, .inl k_nu)), (k5, .inl (cI, 48, .inl k_na)), (k6, .inl (cI, 1024, .inl k_no)), (k7, .inl (cI, 1024, .inl k_tu))] [.ref k0, .int x1]) (qR r) 0 0 (fun _ => False) := by
  refine Met.ofW (cc := cX7_at) (maxL := 2) (ret := (some .int)) (by decide) rfl ?_
  intro p e s m args below meth c s₁ B hml hv
  obtain ⟨rfl, hP, hK⟩ := hv
  have hx := B.exec
  have hb := B.bytes
  have hr := B.returns
  have hts := atoms_spec (ws := wsX7_at) B.pre
  have hown : s.vm.findClass RX7 = some m.cls := findClass_of_methodNamed B.named
  have hlocks := B.notSynchronized
  have hfl_7 := hts (.fieldLink RX7 7 "TermsFirstModel" "rows" "[I") (List.mem_cons_of_mem _ (List.mem_append_left _ (List.mem_of_getElem? (i := 0) rfl)))
  have hiX7 : ∀ w ∈ u_ws RX7 TX7 14, w ∈ wsX7_at := fun _ h => (List.mem_cons_of_mem _ (List.mem_append_right _ h))
  have hl := lv_entry ([.ref k0, .int x1]) (n := 2) (Nat.le_of_ble_eq_true rfl)
  rw [lg_entry_eq]
  generalize (lg_sl ([.ref k0, .int x1]) ++ List.replicate (2 - (lg_sl ([.ref k0, .int x1])).length) Slot.unset).toArray = ls at hl ⊢
  have hl : lv_has ls 2 [(0, .ref k0), (1, .int x1)] := hl
  unfold m_X7_at at hf
  refine lv_aload_n hx hb dX7_at_0 rfl (lv_at hl 0 rfl) ?_
  refine lv_iload_n hx hb dX7_at_1 rfl (lv_at hl 1 rfl) ?_
  obtain ⟨rv1, hrv1, hf⟩ := bd hf
  refine roI (va_runV (As := [.int x1]) (rest := []) ⟨hx, hb, hml, hown, hts⟩ (c_X7_isSection l D cI cZ cM k0 k1 k2 k3 k4 k5 k6 k7 k_un k_len k_fi k_be k_to k_cl k_do k_ro k_ke k_te k_nu k_na k_no k_tu x1 rv1 hrv1) (cwV 1 hts gX7_at_X7_isSection rfl rfl rfl ⟨rfl, hdc_X7_isSection⟩ ⟨Nat.le_of_ble_eq_true rfl, Nat.le_of_ble_eq_true rfl⟩) (prV hK hP [0, 1, 2, 3, 4, 5, 6, 7] rfl (ci := 7) (q0 := 0) rfl rfl) rfl rfl hl.1 rfl (lv_room (Nat.le_of_ble_eq_true rfl)) dX7_at_2 ⟨Nat.zero_le _, Nat.zero_le _⟩) ?_
  refine lv_if_eq (tgt := 20) hx hb dX7_at_5 (by decide) (fun hc => ?_) (fun hc => ?_)
  · have hf := ifp hc hf
    refine lv_bipush (v := (-2 : Int32)) hx hb dX7_at_20 bp_m2 ?_
    cases hf
    exact W.iret hx hb hr (fun t ht _ => ⟨rfl, ht⟩) (fun _ h => nomatch h) dX7_at_22
  · have hf := ifn hc hf
    refine lv_aload_n hx hb dX7_at_8 rfl (lv_at hl 0 rfl) ?_
    refine va_get (D := D) (ci := 7) (v := .ref k1) (C := RX7) (T := TX7) (N := 14) hx hb hts hiX7 hown hK.1 hP 0 rfl rfl 0 (by decide) hfl_7 (fun _ h9 => h9) rfl dX7_at_9 ?_
    refine lv_bipush (v := (nI 33)) hx hb dX7_at_12 bp_33 ?_
    refine lv_iload_n hx hb dX7_at_14 rfl (lv_at hl 1 rfl) ?_
    refine lv_iadd hx hb dX7_at_15 ?_
    obtain ⟨hi, hf⟩ := gd_some hf
    refine va_iald hx hb hK.1 hP 1 0 rfl rfl hi dX7_at_16 ?_
    refine lv_goto (tgt := 22) hx hb dX7_at_17 (by decide) ?_
    cases hf
    exact W.iret hx hb hr (fun t ht _ => ⟨rfl, ht⟩) (fun _ h => nomatch h) dX7_at_22
theorem hdc_X7_homesIn : yX7_homesIn.cls ≠ "java/lang/invoke/MethodHandle" ∧ yX7_homesIn.cls ≠ "java/lang/invoke/VarHandle" ∧ (parseMethodDescriptor yX7_homesIn.desc).map (fun d => d.parameters.length) = some 1 := by decide +kernel
set_option maxHeartbeats 4000000 in
set_option maxRecDepth 100000 in
theorem c_X7_homesIn (l : Launch) (D : va_G) (cI cZ cM : ClassId) (k0 k1 k2 k3 k4 k5 k6 k7 : Nat) (k_un : Int32) (k_len : Int32) (k_fi : Int32) (k_be : Int32) (k_to : Int32) (k_cl : Int32) (k_do : Int32) (k_ro : Nat → Int32) (k_ke : Nat → Int32) (k_te : Nat → Int32) (k_nu : Nat → Int32) (k_na : Nat → Int32) (k_no : Nat → Int32) (k_tu : Nat → Int32) (x1 : Int32) (fu : Nat) (r : Int32) (hf : m_X7_homesIn fu k_ro x1 = some r) : Met l yX7_homesIn wsX7_homesIn ({ frames := 0, cells := 0, slots := 0, locals := 0 }) (pR D cI cZ cM [(k0, .inr (7, [.ref k1, .int k_un, .ref k2, .ref k3, .int k_len, .int k_fi, .int k_be, .int k_to, .int k_cl, .int k_do, .ref k4, .ref k5, .ref k6, .ref k7])), (k1, .inl (cI, 583, .inl k_ro)), (k2, .inl (cZ, 2, .inl k_ke)), (k3, .inl (cI, 200, .inl k_te)), (k4, .inl (cI, 10, .inl k_nu)), (k5, .inl (cI, 48, .inl k_na)), (k6, .inl (cI, 1024, .inl k_no)), (k7, .inl (cI, 1024, .inl k_tu))] [.ref k0, .int x1]) (qR r) 0 0 (fun _ => False) := by
  refine Met.ofW (cc := cX7_homesIn) (maxL := 4) (ret := (some .int)) (by decide) rfl ?_
  intro p e s m args below meth c s₁ B hml hv
  obtain ⟨rfl, hP, hK⟩ := hv
  have hx := B.exec
  have hb := B.bytes
  have hr := B.returns
  have hts := atoms_spec (ws := wsX7_homesIn) B.pre
  have hown : s.vm.findClass RX7 = some m.cls := findClass_of_methodNamed B.named
  have hlocks := B.notSynchronized
  have hfl_7 := hts (.fieldLink RX7 7 "TermsFirstModel" "rows" "[I") (List.mem_cons_of_mem _ (List.mem_append_left _ (List.mem_of_getElem? (i := 0) rfl)))
  have hiX7 : ∀ w ∈ u_ws RX7 TX7 14, w ∈ wsX7_homesIn := fun _ h => (List.mem_cons_of_mem _ (List.mem_append_right _ h))
  have hB_4 : ∀ (fn : Nat) (x2 : Int32) (x3 : Int32), m_X7_homesIn_4 k_ro x1 fn x2 x3 = some r → ∀ ls : Array Slot, lv_has ls 4 [(0, .ref k0), (1, .int x1), (2, .int x2), (3, .int x3)] → W p l e (headSpec wsX7_homesIn { frames := 0, cells := 0, slots := 0, locals := 0 }).room s m ([.ref k0, .int x1] : List Value).toArray below meth c s.heap [] 0 0 (MQ below (qR r) ([.ref k0, .int x1] : List Value).toArray s 0 0 (fun _ => False)) (F0 m 4 ls []) := by
    intro fn
    induction fn with
    | zero => intro x2 x3 hf; rw [m_X7_homesIn_4] at hf; cases hf
    | succ fn ih =>
      intro x2 x3 hf ls hl
      rw [m_X7_homesIn_4] at hf
      refine lv_iload_n hx hb dX7_homesIn_4 rfl (lv_at hl 3 rfl) ?_
      refine lv_bipush (v := (nI 12)) hx hb dX7_homesIn_5 bp_12 ?_
      refine lv_icmp_ge (tgt := 39) hx hb dX7_homesIn_7 (by decide) (fun hc => ?_) (fun hc => ?_)
      · have hf := ifp hc hf
        refine lv_iload_n hx hb dX7_homesIn_39 rfl (lv_at hl 2 rfl) ?_
        cases hf
        exact W.iret hx hb hr (fun t ht _ => ⟨rfl, ht⟩) (fun _ h => nomatch h) dX7_homesIn_40
      · have hf := ifn hc hf
        refine lv_iload_n hx hb dX7_homesIn_10 rfl (lv_at hl 2 rfl) ?_
        refine lv_aload_n hx hb dX7_homesIn_11 rfl (lv_at hl 0 rfl) ?_
        refine va_get (D := D) (ci := 7) (v := .ref k1) (C := RX7) (T := TX7) (N := 14) hx hb hts hiX7 hown hK.1 hP 0 rfl rfl 0 (by decide) hfl_7 (fun _ h9 => h9) rfl dX7_homesIn_12 ?_
        refine lv_bipush (v := (nI 11)) hx hb dX7_homesIn_15 bp_11 ?_
        refine lv_iload_n hx hb dX7_homesIn_17 rfl (lv_at hl 3 rfl) ?_
        refine lv_iadd hx hb dX7_homesIn_18 ?_
        obtain ⟨hi, hf⟩ := gd_some hf
        refine va_iald hx hb hK.1 hP 1 0 rfl rfl hi dX7_homesIn_19 ?_
        refine lv_iload_n hx hb dX7_homesIn_20 rfl (lv_at hl 1 rfl) ?_
        refine lv_icmp_ne (tgt := 30) hx hb dX7_homesIn_21 (by decide) (fun hc => ?_) (fun hc => ?_)
        · have hf := ifn hc hf
          refine lv_iconst (v := (nI 0)) hx hb dX7_homesIn_30 ic_0 ?_
          refine lv_ior hx hb dX7_homesIn_31 ?_
          refine lv_istore_n (lv' := [(2, .int (x2 ||| (nI 0))), (0, .ref k0), (1, .int x1), (3, .int x3)]) hx hb dX7_homesIn_32 rfl hl (by decide) rfl (fun ls hl => ?_)
          refine lv_iinc (v := (x3 + (nI 1))) (lv' := [(3, .int (x3 + (nI 1))), (2, .int (x2 ||| (nI 0))), (0, .ref k0), (1, .int x1)]) hx hb dX7_homesIn_33 hl (k := 3) rfl (ii_1 _) (by decide) rfl (fun ls hl => ?_)
          refine lv_goto (tgt := 4) hx hb dX7_homesIn_36 (by decide) ?_
          exact ih (x2 ||| (nI 0)) (x3 + (nI 1)) hf  ls (lv_sub hl [2, 3, 1, 0] rfl)
        · have hf := ifp hc hf
          refine lv_iconst (v := (nI 1)) hx hb dX7_homesIn_24 ic_1 ?_
          refine lv_iload_n hx hb dX7_homesIn_25 rfl (lv_at hl 3 rfl) ?_
          refine lv_ishl hx hb dX7_homesIn_26 ?_
          refine lv_goto (tgt := 31) hx hb dX7_homesIn_27 (by decide) ?_
          refine lv_ior hx hb dX7_homesIn_31 ?_
          refine lv_istore_n (lv' := [(2, .int (x2 ||| ((nI 1) <<< (x3 &&& 31)))), (0, .ref k0), (1, .int x1), (3, .int x3)]) hx hb dX7_homesIn_32 rfl hl (by decide) rfl (fun ls hl => ?_)
          refine lv_iinc (v := (x3 + (nI 1))) (lv' := [(3, .int (x3 + (nI 1))), (2, .int (x2 ||| ((nI 1) <<< (x3 &&& 31)))), (0, .ref k0), (1, .int x1)]) hx hb dX7_homesIn_33 hl (k := 3) rfl (ii_1 _) (by decide) rfl (fun ls hl => ?_)
          refine lv_goto (tgt := 4) hx hb dX7_homesIn_36 (by decide) ?_
          exact ih (x2 ||| ((nI 1) <<< (x3 &&& 31))) (x3 + (nI 1)) hf  ls (lv_sub hl [2, 3, 1, 0] rfl)
  have hl := lv_entry ([.ref k0, .int x1]) (n := 4) (Nat.le_of_ble_eq_true rfl)
  rw [lg_entry_eq]
  generalize (lg_sl ([.ref k0, .int x1]) ++ List.replicate (4 - (lg_sl ([.ref k0, .int x1])).length) Slot.unset).toArray = ls at hl ⊢
  have hl : lv_has ls 4 [(0, .ref k0), (1, .int x1)] := hl
  unfold m_X7_homesIn at hf
  refine lv_iconst (v := (nI 0)) hx hb dX7_homesIn_0 ic_0 ?_
  refine lv_istore_n (lv' := [(2, .int (nI 0)), (0, .ref k0), (1, .int x1)]) hx hb dX7_homesIn_1 rfl hl (by decide) rfl (fun ls hl => ?_)
  refine lv_iconst (v := (nI 0)) hx hb dX7_homesIn_2 ic_0 ?_
  refine lv_istore_n (lv' := [(3, .int (nI 0)), (2, .int (nI 0)), (0, .ref k0), (1, .int x1)]) hx hb dX7_homesIn_3 rfl hl (by decide) rfl (fun ls hl => ?_)
  exact hB_4 fu (nI 0) (nI 0) hf  ls (lv_sub hl [2, 3, 1, 0] rfl)
theorem hdc_X7_notesIn : yX7_notesIn.cls ≠ "java/lang/invoke/MethodHandle" ∧ yX7_notesIn.cls ≠ "java/lang/invoke/VarHandle" ∧ (parseMethodDescriptor yX7_notesIn.desc).map (fun d => d.parameters.length) = some 1 := by decide +kernel
set_option maxHeartbeats 4000000 in
set_option maxRecDepth 100000 in
theorem c_X7_notesIn (l : Launch) (D : va_G) (cI cZ cM : ClassId) (k0 k1 k2 k3 k4 k5 k6 k7 : Nat) (k_un : Int32) (k_len : Int32) (k_fi : Int32) (k_be : Int32) (k_to : Int32) (k_cl : Int32) (k_do : Int32) (k_ro : Nat → Int32) (k_ke : Nat → Int32) (k_te : Nat → Int32) (k_nu : Nat → Int32) (k_na : Nat → Int32) (k_no : Nat → Int32) (k_tu : Nat → Int32) (x1 : Int32) (fu : Nat) (r : Int32) (hf : m_X7_notesIn fu k_ro x1 = some r) : Met l yX7_notesIn wsX7_notesIn ({ frames := 3, cells := 0, slots := 0, locals := 68 }) (pR D cI cZ cM [(k0, .inr (7, [.ref k1, .int k_un, .ref k2, .ref k3, .int k_len, .int k_fi, .int k_be, .int k_to, .int k_cl, .int k_do, .ref k4, .ref k5, .ref k6, .ref k7])), (k1, .inl (cI, 583, .inl k_ro)), (k2, .inl (cZ, 2, .inl k_ke)), (k3, .inl (cI, 200, .inl k_te)), (k4, .inl (cI, 10, .inl k_nu)), (k5, .inl (cI, 48, .inl k_na)), (k6, .inl (cI, 1024, .inl k_no)), (k7, .inl (cI, 1024, .inl k_tu))] [.ref k0, .int x1]) (qR r) 0 0 (fun _ => False) := by
  refine Met.ofW (cc := cX7_notesIn) (maxL := 4) (ret := (some .int)) (by decide) rfl ?_
  intro p e s m args below meth c s₁ B hml hv
  obtain ⟨rfl, hP, hK⟩ := hv
  have hx := B.exec
  have hb := B.bytes
  have hr := B.returns
  have hts := atoms_spec (ws := wsX7_notesIn) B.pre
  have hown : s.vm.findClass RX7 = some m.cls := findClass_of_methodNamed B.named
  have hlocks := B.notSynchronized
  have hB_4 : ∀ (fn : Nat) (x2 : Int32) (x3 : Int32), m_X7_notesIn_4 fu k_ro x1 fn x2 x3 = some r → ∀ ls : Array Slot, lv_has ls 4 [(0, .ref k0), (1, .int x1), (2, .int x2), (3, .int x3)] → W p l e (headSpec wsX7_notesIn { frames := 3, cells := 0, slots := 0, locals := 68 }).room s m ([.ref k0, .int x1] : List Value).toArray below meth c s.heap [] 0 0 (MQ below (qR r) ([.ref k0, .int x1] : List Value).toArray s 0 0 (fun _ => False)) (F0 m 4 ls []) := by
    intro fn
    induction fn with
    | zero => intro x2 x3 hf; rw [m_X7_notesIn_4] at hf; cases hf
    | succ fn ih =>
      intro x2 x3 hf ls hl
      rw [m_X7_notesIn_4] at hf
      refine lv_iload_n hx hb dX7_notesIn_4 rfl (lv_at hl 3 rfl) ?_
      refine lv_bipush (v := (nI 12)) hx hb dX7_notesIn_5 bp_12 ?_
      refine lv_icmp_ge (tgt := 35) hx hb dX7_notesIn_7 (by decide) (fun hc => ?_) (fun hc => ?_)
      · have hf := ifp hc hf
        refine lv_iload_n hx hb dX7_notesIn_35 rfl (lv_at hl 2 rfl) ?_
        cases hf
        exact W.iret hx hb hr (fun t ht _ => ⟨rfl, ht⟩) (fun _ h => nomatch h) dX7_notesIn_36
      · have hf := ifn hc hf
        refine lv_iload_n hx hb dX7_notesIn_10 rfl (lv_at hl 2 rfl) ?_
        refine lv_aload_n hx hb dX7_notesIn_11 rfl (lv_at hl 0 rfl) ?_
        refine lv_iload_n hx hb dX7_notesIn_12 rfl (lv_at hl 3 rfl) ?_
        obtain ⟨rv1, hrv1, hf⟩ := bd hf
        refine roI (va_runV (As := [.int x3]) (rest := [.int x2]) ⟨hx, hb, hml, hown, hts⟩ (c_X7_noteOf l D cI cZ cM k0 k1 k2 k3 k4 k5 k6 k7 k_un k_len k_fi k_be k_to k_cl k_do k_ro k_ke k_te k_nu k_na k_no k_tu x3 fu rv1 hrv1) (cwV 1 hts gX7_notesIn_X7_noteOf rfl rfl rfl ⟨rfl, hdc_X7_noteOf⟩ ⟨Nat.le_of_ble_eq_true rfl, Nat.le_of_ble_eq_true rfl⟩) (prV hK hP [0, 1, 2, 3, 4, 5, 6, 7] rfl (ci := 7) (q0 := 0) rfl rfl) rfl rfl hl.1 rfl (lv_room (Nat.le_of_ble_eq_true rfl)) dX7_notesIn_13 ⟨Nat.zero_le _, Nat.zero_le _⟩) ?_
        refine lv_iload_n hx hb dX7_notesIn_16 rfl (lv_at hl 1 rfl) ?_
        refine lv_icmp_ne (tgt := 26) hx hb dX7_notesIn_17 (by decide) (fun hc => ?_) (fun hc => ?_)
        · have hf := ifn hc hf
          refine lv_iconst (v := (nI 0)) hx hb dX7_notesIn_26 ic_0 ?_
          refine lv_ior hx hb dX7_notesIn_27 ?_
          refine lv_istore_n (lv' := [(2, .int (x2 ||| (nI 0))), (0, .ref k0), (1, .int x1), (3, .int x3)]) hx hb dX7_notesIn_28 rfl hl (by decide) rfl (fun ls hl => ?_)
          refine lv_iinc (v := (x3 + (nI 1))) (lv' := [(3, .int (x3 + (nI 1))), (2, .int (x2 ||| (nI 0))), (0, .ref k0), (1, .int x1)]) hx hb dX7_notesIn_29 hl (k := 3) rfl (ii_1 _) (by decide) rfl (fun ls hl => ?_)
          refine lv_goto (tgt := 4) hx hb dX7_notesIn_32 (by decide) ?_
          exact ih (x2 ||| (nI 0)) (x3 + (nI 1)) hf  ls (lv_sub hl [2, 3, 1, 0] rfl)
        · have hf := ifp hc hf
          refine lv_iconst (v := (nI 1)) hx hb dX7_notesIn_20 ic_1 ?_
          refine lv_iload_n hx hb dX7_notesIn_21 rfl (lv_at hl 3 rfl) ?_
          refine lv_ishl hx hb dX7_notesIn_22 ?_
          refine lv_goto (tgt := 27) hx hb dX7_notesIn_23 (by decide) ?_
          refine lv_ior hx hb dX7_notesIn_27 ?_
          refine lv_istore_n (lv' := [(2, .int (x2 ||| ((nI 1) <<< (x3 &&& 31)))), (0, .ref k0), (1, .int x1), (3, .int x3)]) hx hb dX7_notesIn_28 rfl hl (by decide) rfl (fun ls hl => ?_)
          refine lv_iinc (v := (x3 + (nI 1))) (lv' := [(3, .int (x3 + (nI 1))), (2, .int (x2 ||| ((nI 1) <<< (x3 &&& 31)))), (0, .ref k0), (1, .int x1)]) hx hb dX7_notesIn_29 hl (k := 3) rfl (ii_1 _) (by decide) rfl (fun ls hl => ?_)
          refine lv_goto (tgt := 4) hx hb dX7_notesIn_32 (by decide) ?_
          exact ih (x2 ||| ((nI 1) <<< (x3 &&& 31))) (x3 + (nI 1)) hf  ls (lv_sub hl [2, 3, 1, 0] rfl)
  have hl := lv_entry ([.ref k0, .int x1]) (n := 4) (Nat.le_of_ble_eq_true rfl)
  rw [lg_entry_eq]
  generalize (lg_sl ([.ref k0, .int x1]) ++ List.replicate (4 - (lg_sl ([.ref k0, .int x1])).length) Slot.unset).toArray = ls at hl ⊢
  have hl : lv_has ls 4 [(0, .ref k0), (1, .int x1)] := hl
  unfold m_X7_notesIn at hf
  refine lv_iconst (v := (nI 0)) hx hb dX7_notesIn_0 ic_0 ?_
  refine lv_istore_n (lv' := [(2, .int (nI 0)), (0, .ref k0), (1, .int x1)]) hx hb dX7_notesIn_1 rfl hl (by decide) rfl (fun ls hl => ?_)
  refine lv_iconst (v := (nI 0)) hx hb dX7_notesIn_2 ic_0 ?_
  refine lv_istore_n (lv' := [(3, .int (nI 0)), (2, .int (nI 0)), (0, .ref k0), (1, .int x1)]) hx hb dX7_notesIn_3 rfl hl (by decide) rfl (fun ls hl => ?_)
  exact hB_4 fu (nI 0) (nI 0) hf  ls (lv_sub hl [2, 3, 1, 0] rfl)
theorem hdc_X7_section : yX7_section.cls ≠ "java/lang/invoke/MethodHandle" ∧ yX7_section.cls ≠ "java/lang/invoke/VarHandle" ∧ (parseMethodDescriptor yX7_section.desc).map (fun d => d.parameters.length) = some 2 := by decide +kernel
set_option maxHeartbeats 4000000 in
set_option maxRecDepth 100000 in
theorem c_X7_section (l : Launch) (D : va_G) (cI cZ cM : ClassId) (k0 k1 k2 k3 k4 k5 k6 k7 : Nat) (k_un : Int32) (k_len : Int32) (k_fi : Int32) (k_be : Int32) (k_to : Int32) (k_cl : Int32) (k_do : Int32) (k_ro : Nat → Int32) (k_ke : Nat → Int32) (k_te : Nat → Int32) (k_nu : Nat → Int32) (k_na : Nat → Int32) (k_no : Nat → Int32) (k_tu : Nat → Int32) (x1 : Int32) (x2 : Int32) (fu : Nat) (r : Int32) (hf : m_X7_section fu k_ro x1 x2 = some r) : Met l yX7_section wsX7_section ({ frames := 4, cells := 0, slots := 0, locals := 92 }) (pR D cI cZ cM [(k0, .inr (7, [.ref k1, .int k_un, .ref k2, .ref k3, .int k_len, .int k_fi, .int k_be, .int k_to, .int k_cl, .int k_do, .ref k4, .ref k5, .ref k6, .ref k7])), (k1, .inl (cI, 583, .inl k_ro)), (k2, .inl (cZ, 2, .inl k_ke)), (k3, .inl (cI, 200, .inl k_te)), (k4, .inl (cI, 10, .inl k_nu)), (k5, .inl (cI, 48, .inl k_na)), (k6, .inl (cI, 1024, .inl k_no)), (k7, .inl (cI, 1024, .inl k_tu))] [.ref k0, .int x1, .int x2]) (qR r) 0 0 (fun _ => False) := by
  refine Met.ofW (cc := cX7_section) (maxL := 3) (ret := (some .int)) (by decide) rfl ?_
  intro p e s m args below meth c s₁ B hml hv
  obtain ⟨rfl, hP, hK⟩ := hv
  have hx := B.exec
  have hb := B.bytes
  have hr := B.returns
  have hts := atoms_spec (ws := wsX7_section) B.pre
  have hown : s.vm.findClass RX7 = some m.cls := findClass_of_methodNamed B.named
  have hlocks := B.notSynchronized
  have hfl_7 := hts (.fieldLink RX7 7 "TermsFirstModel" "rows" "[I") (List.mem_cons_of_mem _ (List.mem_append_left _ (List.mem_append_left _ (List.mem_of_getElem? (i := 0) rfl))))
  have hiX7 : ∀ w ∈ u_ws RX7 TX7 14, w ∈ wsX7_section := fun _ h => (List.mem_cons_of_mem _ (List.mem_append_right _ h))
  have hl := lv_entry ([.ref k0, .int x1, .int x2]) (n := 3) (Nat.le_of_ble_eq_true rfl)
  rw [lg_entry_eq]
  generalize (lg_sl ([.ref k0, .int x1, .int x2]) ++ List.replicate (3 - (lg_sl ([.ref k0, .int x1, .int x2])).length) Slot.unset).toArray = ls at hl ⊢
  have hl : lv_has ls 3 [(0, .ref k0), (1, .int x1), (2, .int x2)] := hl
  unfold m_X7_section at hf
  refine lv_aload_n hx hb dX7_section_0 rfl (lv_at hl 0 rfl) ?_
  refine lv_iload_n hx hb dX7_section_1 rfl (lv_at hl 1 rfl) ?_
  obtain ⟨rv1, hrv1, hf⟩ := bd hf
  refine roI (va_runV (As := [.int x1]) (rest := []) ⟨hx, hb, hml, hown, hts⟩ (c_X7_isSection l D cI cZ cM k0 k1 k2 k3 k4 k5 k6 k7 k_un k_len k_fi k_be k_to k_cl k_do k_ro k_ke k_te k_nu k_na k_no k_tu x1 rv1 hrv1) (cwV 1 hts gX7_section_X7_isSection rfl rfl rfl ⟨rfl, hdc_X7_isSection⟩ ⟨Nat.le_of_ble_eq_true rfl, Nat.le_of_ble_eq_true rfl⟩) (prV hK hP [0, 1, 2, 3, 4, 5, 6, 7] rfl (ci := 7) (q0 := 0) rfl rfl) rfl rfl hl.1 rfl (lv_room (Nat.le_of_ble_eq_true rfl)) dX7_section_2 ⟨Nat.zero_le _, Nat.zero_le _⟩) ?_
  refine lv_if_ne (tgt := 11) hx hb dX7_section_5 (by decide) (fun hc => ?_) (fun hc => ?_)
  · have hf := ifn hc hf
    refine lv_iload_n hx hb dX7_section_11 rfl (lv_at hl 2 rfl) ?_
    by_cases hk0 : x2 = (nI 0)
    · have hf := ifp hk0 hf
      refine lv_tableIn (off := 52) (tgt := 64) hx hb dX7_section_12 (by rw [hk0]; decide +kernel) (by rw [hk0]; decide +kernel) (by rw [hk0]; decide +kernel) (by decide) ?_
      refine lv_aload_n hx hb dX7_section_64 rfl (lv_at hl 0 rfl) ?_
      refine lv_iload_n hx hb dX7_section_65 rfl (lv_at hl 1 rfl) ?_
      obtain ⟨rv2, hrv2, hf⟩ := bd hf
      refine roI (va_runV (As := [.int x1]) (rest := []) ⟨hx, hb, hml, hown, hts⟩ (c_X7_placeOf l D cI cZ cM k0 k1 k2 k3 k4 k5 k6 k7 k_un k_len k_fi k_be k_to k_cl k_do k_ro k_ke k_te k_nu k_na k_no k_tu x1 fu rv2 hrv2) (cwV 1 hts gX7_section_X7_placeOf rfl rfl rfl ⟨rfl, hdc_X7_placeOf⟩ ⟨Nat.le_of_ble_eq_true rfl, Nat.le_of_ble_eq_true rfl⟩) (prV hK hP [0, 1, 2, 3, 4, 5, 6, 7] rfl (ci := 7) (q0 := 0) rfl rfl) rfl rfl hl.1 rfl (lv_room (Nat.le_of_ble_eq_true rfl)) dX7_section_66 ⟨Nat.zero_le _, Nat.zero_le _⟩) ?_
      cases hf
      exact W.iret hx hb hr (fun t ht _ => ⟨rfl, ht⟩) (fun _ h => nomatch h) dX7_section_69
    · have hf := ifn hk0 hf
      by_cases hk1 : x2 = (nI 1)
      · have hf := ifp hk1 hf
        refine lv_tableIn (off := 58) (tgt := 70) hx hb dX7_section_12 (by rw [hk1]; decide +kernel) (by rw [hk1]; decide +kernel) (by rw [hk1]; decide +kernel) (by decide) ?_
        refine lv_aload_n hx hb dX7_section_70 rfl (lv_at hl 0 rfl) ?_
        refine va_get (D := D) (ci := 7) (v := .ref k1) (C := RX7) (T := TX7) (N := 14) hx hb hts hiX7 hown hK.1 hP 0 rfl rfl 0 (by decide) hfl_7 (fun _ h9 => h9) rfl dX7_section_71 ?_
        refine lv_iconst (v := (nI 1)) hx hb dX7_section_74 ic_1 ?_
        refine lv_iload_n hx hb dX7_section_75 rfl (lv_at hl 1 rfl) ?_
        refine lv_iadd hx hb dX7_section_76 ?_
        obtain ⟨hi, hf⟩ := gd_some hf
        refine va_iald hx hb hK.1 hP 1 0 rfl rfl hi dX7_section_77 ?_
        cases hf
        exact W.iret hx hb hr (fun t ht _ => ⟨rfl, ht⟩) (fun _ h => nomatch h) dX7_section_78
      · have hf := ifn hk1 hf
        by_cases hk2 : x2 = (nI 2)
        · have hf := ifp hk2 hf
          refine lv_tableIn (off := 67) (tgt := 79) hx hb dX7_section_12 (by rw [hk2]; decide +kernel) (by rw [hk2]; decide +kernel) (by rw [hk2]; decide +kernel) (by decide) ?_
          refine lv_aload_n hx hb dX7_section_79 rfl (lv_at hl 0 rfl) ?_
          refine va_get (D := D) (ci := 7) (v := .ref k1) (C := RX7) (T := TX7) (N := 14) hx hb hts hiX7 hown hK.1 hP 0 rfl rfl 0 (by decide) hfl_7 (fun _ h9 => h9) rfl dX7_section_80 ?_
          refine lv_bipush (v := (nI 23)) hx hb dX7_section_83 bp_23 ?_
          refine lv_iload_n hx hb dX7_section_85 rfl (lv_at hl 1 rfl) ?_
          refine lv_iadd hx hb dX7_section_86 ?_
          obtain ⟨hi, hf⟩ := gd_some hf
          refine va_iald hx hb hK.1 hP 1 0 rfl rfl hi dX7_section_87 ?_
          cases hf
          exact W.iret hx hb hr (fun t ht _ => ⟨rfl, ht⟩) (fun _ h => nomatch h) dX7_section_88
        · have hf := ifn hk2 hf
          by_cases hk3 : x2 = (nI 3)
          · have hf := ifp hk3 hf
            refine lv_tableIn (off := 77) (tgt := 89) hx hb dX7_section_12 (by rw [hk3]; decide +kernel) (by rw [hk3]; decide +kernel) (by rw [hk3]; decide +kernel) (by decide) ?_
            refine lv_aload_n hx hb dX7_section_89 rfl (lv_at hl 0 rfl) ?_
            refine lv_iload_n hx hb dX7_section_90 rfl (lv_at hl 1 rfl) ?_
            obtain ⟨rv3, hrv3, hf⟩ := bd hf
            refine roI (va_runV (As := [.int x1]) (rest := []) ⟨hx, hb, hml, hown, hts⟩ (c_X7_homesIn l D cI cZ cM k0 k1 k2 k3 k4 k5 k6 k7 k_un k_len k_fi k_be k_to k_cl k_do k_ro k_ke k_te k_nu k_na k_no k_tu x1 fu rv3 hrv3) (cwV 1 hts gX7_section_X7_homesIn rfl rfl rfl ⟨rfl, hdc_X7_homesIn⟩ ⟨Nat.le_of_ble_eq_true rfl, Nat.le_of_ble_eq_true rfl⟩) (prV hK hP [0, 1, 2, 3, 4, 5, 6, 7] rfl (ci := 7) (q0 := 0) rfl rfl) rfl rfl hl.1 rfl (lv_room (Nat.le_of_ble_eq_true rfl)) dX7_section_91 ⟨Nat.zero_le _, Nat.zero_le _⟩) ?_
            cases hf
            exact W.iret hx hb hr (fun t ht _ => ⟨rfl, ht⟩) (fun _ h => nomatch h) dX7_section_94
          · have hf := ifn hk3 hf
            by_cases hk4 : x2 = (nI 4)
            · have hf := ifp hk4 hf
              refine lv_tableIn (off := 83) (tgt := 95) hx hb dX7_section_12 (by rw [hk4]; decide +kernel) (by rw [hk4]; decide +kernel) (by rw [hk4]; decide +kernel) (by decide) ?_
              refine lv_aload_n hx hb dX7_section_95 rfl (lv_at hl 0 rfl) ?_
              refine lv_iload_n hx hb dX7_section_96 rfl (lv_at hl 1 rfl) ?_
              obtain ⟨rv4, hrv4, hf⟩ := bd hf
              refine roI (va_runV (As := [.int x1]) (rest := []) ⟨hx, hb, hml, hown, hts⟩ (c_X7_earlyIn l D cI cZ cM k0 k1 k2 k3 k4 k5 k6 k7 k_un k_len k_fi k_be k_to k_cl k_do k_ro k_ke k_te k_nu k_na k_no k_tu x1 fu rv4 hrv4) (cwV 1 hts gX7_section_X7_earlyIn rfl rfl rfl ⟨rfl, hdc_X7_earlyIn⟩ ⟨Nat.le_of_ble_eq_true rfl, Nat.le_of_ble_eq_true rfl⟩) (prV hK hP [0, 1, 2, 3, 4, 5, 6, 7] rfl (ci := 7) (q0 := 0) rfl rfl) rfl rfl hl.1 rfl (lv_room (Nat.le_of_ble_eq_true rfl)) dX7_section_97 ⟨Nat.zero_le _, Nat.zero_le _⟩) ?_
              cases hf
              exact W.iret hx hb hr (fun t ht _ => ⟨rfl, ht⟩) (fun _ h => nomatch h) dX7_section_100
            · have hf := ifn hk4 hf
              by_cases hk5 : x2 = (nI 5)
              · have hf := ifp hk5 hf
                refine lv_tableIn (off := 89) (tgt := 101) hx hb dX7_section_12 (by rw [hk5]; decide +kernel) (by rw [hk5]; decide +kernel) (by rw [hk5]; decide +kernel) (by decide) ?_
                refine lv_aload_n hx hb dX7_section_101 rfl (lv_at hl 0 rfl) ?_
                refine lv_iload_n hx hb dX7_section_102 rfl (lv_at hl 1 rfl) ?_
                obtain ⟨rv5, hrv5, hf⟩ := bd hf
                refine roI (va_runV (As := [.int x1]) (rest := []) ⟨hx, hb, hml, hown, hts⟩ (c_X7_notesIn l D cI cZ cM k0 k1 k2 k3 k4 k5 k6 k7 k_un k_len k_fi k_be k_to k_cl k_do k_ro k_ke k_te k_nu k_na k_no k_tu x1 fu rv5 hrv5) (cwV 1 hts gX7_section_X7_notesIn rfl rfl rfl ⟨rfl, hdc_X7_notesIn⟩ ⟨Nat.le_of_ble_eq_true rfl, Nat.le_of_ble_eq_true rfl⟩) (prV hK hP [0, 1, 2, 3, 4, 5, 6, 7] rfl (ci := 7) (q0 := 0) rfl rfl) rfl rfl hl.1 rfl (lv_room (Nat.le_of_ble_eq_true rfl)) dX7_section_103 ⟨Nat.zero_le _, Nat.zero_le _⟩) ?_
                cases hf
                exact W.iret hx hb hr (fun t ht _ => ⟨rfl, ht⟩) (fun _ h => nomatch h) dX7_section_106
              · have hf := ifn hk5 hf
                by_cases hk6 : x2 = (nI 6)
                · have hf := ifp hk6 hf
                  refine lv_tableIn (off := 95) (tgt := 107) hx hb dX7_section_12 (by rw [hk6]; decide +kernel) (by rw [hk6]; decide +kernel) (by rw [hk6]; decide +kernel) (by decide) ?_
                  refine lv_aload_n hx hb dX7_section_107 rfl (lv_at hl 0 rfl) ?_
                  refine lv_iload_n hx hb dX7_section_108 rfl (lv_at hl 1 rfl) ?_
                  obtain ⟨rv6, hrv6, hf⟩ := bd hf
                  refine roI (va_runV (As := [.int x1]) (rest := []) ⟨hx, hb, hml, hown, hts⟩ (c_X7_needs l D cI cZ cM k0 k1 k2 k3 k4 k5 k6 k7 k_un k_len k_fi k_be k_to k_cl k_do k_ro k_ke k_te k_nu k_na k_no k_tu x1 fu rv6 hrv6) (cwV 1 hts gX7_section_X7_needs rfl rfl rfl ⟨rfl, hdc_X7_needs⟩ ⟨Nat.le_of_ble_eq_true rfl, Nat.le_of_ble_eq_true rfl⟩) (prV hK hP [0, 1, 2, 3, 4, 5, 6, 7] rfl (ci := 7) (q0 := 0) rfl rfl) rfl rfl hl.1 rfl (lv_room (Nat.le_of_ble_eq_true rfl)) dX7_section_109 ⟨Nat.zero_le _, Nat.zero_le _⟩) ?_
                  cases hf
                  exact W.iret hx hb hr (fun t ht _ => ⟨rfl, ht⟩) (fun _ h => nomatch h) dX7_section_112
                · have hf := ifn hk6 hf
                  by_cases hk7 : x2 = (nI 7)
                  · have hf := ifp hk7 hf
                    refine lv_tableIn (off := 101) (tgt := 113) hx hb dX7_section_12 (by rw [hk7]; decide +kernel) (by rw [hk7]; decide +kernel) (by rw [hk7]; decide +kernel) (by decide) ?_
                    refine lv_aload_n hx hb dX7_section_113 rfl (lv_at hl 0 rfl) ?_
                    refine lv_iload_n hx hb dX7_section_114 rfl (lv_at hl 1 rfl) ?_
                    obtain ⟨rv7, hrv7, hf⟩ := bd hf
                    refine roI (va_runV (As := [.int x1]) (rest := []) ⟨hx, hb, hml, hown, hts⟩ (c_X7_knotOf l D cI cZ cM k0 k1 k2 k3 k4 k5 k6 k7 k_un k_len k_fi k_be k_to k_cl k_do k_ro k_ke k_te k_nu k_na k_no k_tu x1 fu rv7 hrv7) (cwV 1 hts gX7_section_X7_knotOf rfl rfl rfl ⟨rfl, hdc_X7_knotOf⟩ ⟨Nat.le_of_ble_eq_true rfl, Nat.le_of_ble_eq_true rfl⟩) (prV hK hP [0, 1, 2, 3, 4, 5, 6, 7] rfl (ci := 7) (q0 := 0) rfl rfl) rfl rfl hl.1 rfl (lv_room (Nat.le_of_ble_eq_true rfl)) dX7_section_115 ⟨Nat.zero_le _, Nat.zero_le _⟩) ?_
                    cases hf
                    exact W.iret hx hb hr (fun t ht _ => ⟨rfl, ht⟩) (fun _ h => nomatch h) dX7_section_118
                  · have hf := ifn hk7 hf
                    by_cases hk8 : x2 = (nI 8)
                    · have hf := ifp hk8 hf
                      refine lv_tableIn (off := 107) (tgt := 119) hx hb dX7_section_12 (by rw [hk8]; decide +kernel) (by rw [hk8]; decide +kernel) (by rw [hk8]; decide +kernel) (by decide) ?_
                      refine lv_aload_n hx hb dX7_section_119 rfl (lv_at hl 0 rfl) ?_
                      refine va_get (D := D) (ci := 7) (v := .ref k1) (C := RX7) (T := TX7) (N := 14) hx hb hts hiX7 hown hK.1 hP 0 rfl rfl 0 (by decide) hfl_7 (fun _ h9 => h9) rfl dX7_section_120 ?_
                      refine lv_bipush (v := (nI 43)) hx hb dX7_section_123 bp_43 ?_
                      refine lv_iload_n hx hb dX7_section_125 rfl (lv_at hl 1 rfl) ?_
                      refine lv_iadd hx hb dX7_section_126 ?_
                      obtain ⟨hi, hf⟩ := gd_some hf
                      refine va_iald hx hb hK.1 hP 1 0 rfl rfl hi dX7_section_127 ?_
                      cases hf
                      exact W.iret hx hb hr (fun t ht _ => ⟨rfl, ht⟩) (fun _ h => nomatch h) dX7_section_128
                    · have hf := ifn hk8 hf
                      refine lv_tableOut (tgt := 129) hx hb dX7_section_12 (tsOut (fun k h1 _ => by rcases (show k = 0 ∨ k = 1 ∨ k = 2 ∨ k = 3 ∨ k = 4 ∨ k = 5 ∨ k = 6 ∨ k = 7 ∨ k = 8 by omega) with rfl | rfl | rfl | rfl | rfl | rfl | rfl | rfl | rfl <;> assumption)) (by decide) ?_
                      refine lv_bipush (v := (-3 : Int32)) hx hb dX7_section_129 bp_m3 ?_
                      cases hf
                      exact W.iret hx hb hr (fun t ht _ => ⟨rfl, ht⟩) (fun _ h => nomatch h) dX7_section_131
  · have hf := ifp hc hf
    refine lv_bipush (v := (-2 : Int32)) hx hb dX7_section_8 bp_m2 ?_
    cases hf
    exact W.iret hx hb hr (fun t ht _ => ⟨rfl, ht⟩) (fun _ h => nomatch h) dX7_section_10
