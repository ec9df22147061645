theorem hdc_X7_finds : yX7_finds.cls ≠ "java/lang/invoke/MethodHandle" ∧ yX7_finds.cls ≠ "java/lang/invoke/VarHandle" ∧ (parseMethodDescriptor yX7_finds.desc).map (fun d => d.parameters.length) = some 0 := by decide +kernel
set_option maxHeartbeats 4000000 in
set_option maxRecDepth 100000 in
theorem c_X7_finds (l : Launch) (D : va_G) (cI cZ cM : ClassId) (k0 k1 k2 k3 k4 k5 k6 k7 : Nat) (sz : Nat) (k_un : Int32) (k_len : Int32) (k_fi : Int32) (k_be : Int32) (k_to : Int32) (k_cl : Int32) (k_do : Int32) (k_ro : Nat → Int32) (k_ke : Nat → Int32) (k_te : Nat → Int32) (k_nu : Nat → Int32) (k_na : Nat → Int32) (k_no : Nat → Int32) (k_tu : Nat → Int32) (fu : Nat) (k_no' : Nat → Int32) (k_tu' : Nat → Int32) (hf : m_X7_finds fu k_ro k_no k_tu = some (k_no', k_tu')) : Met l yX7_finds wsX7_finds ({ frames := 3, cells := 0, slots := 0, locals := 68 }) (pM D cI cZ cM sz [(k0, .inr (7, [.ref k1, .int k_un, .ref k2, .ref k3, .int k_len, .int k_fi, .int k_be, .int k_to, .int k_cl, .int k_do, .ref k4, .ref k5, .ref k6, .ref k7])), (k1, .inl (cI, 583, .inl k_ro)), (k2, .inl (cZ, 2, .inl k_ke)), (k3, .inl (cI, 200, .inl k_te)), (k4, .inl (cI, 10, .inl k_nu)), (k5, .inl (cI, 48, .inl k_na)), (k6, .inl (cI, 1024, .inl k_no)), (k7, .inl (cI, 1024, .inl k_tu))] [.ref k0]) (qV D [(k0, .inr (7, [.ref k1, .int k_un, .ref k2, .ref k3, .int k_len, .int k_fi, .int k_be, .int k_to, .int k_cl, .int k_do, .ref k4, .ref k5, .ref k6, .ref k7])), (k1, .inl (cI, 583, .inl k_ro)), (k2, .inl (cZ, 2, .inl k_ke)), (k3, .inl (cI, 200, .inl k_te)), (k4, .inl (cI, 10, .inl k_nu)), (k5, .inl (cI, 48, .inl k_na)), (k6, .inl (cI, 1024, .inl k_no')), (k7, .inl (cI, 1024, .inl k_tu'))] (va_A [(k0, .inr (7, [.ref k1, .int k_un, .ref k2, .ref k3, .int k_len, .int k_fi, .int k_be, .int k_to, .int k_cl, .int k_do, .ref k4, .ref k5, .ref k6, .ref k7])), (k1, .inl (cI, 583, .inl k_ro)), (k2, .inl (cZ, 2, .inl k_ke)), (k3, .inl (cI, 200, .inl k_te)), (k4, .inl (cI, 10, .inl k_nu)), (k5, .inl (cI, 48, .inl k_na)), (k6, .inl (cI, 1024, .inl k_no)), (k7, .inl (cI, 1024, .inl k_tu))] sz)) 0 0 (va_A [(k0, .inr (7, [.ref k1, .int k_un, .ref k2, .ref k3, .int k_len, .int k_fi, .int k_be, .int k_to, .int k_cl, .int k_do, .ref k4, .ref k5, .ref k6, .ref k7])), (k1, .inl (cI, 583, .inl k_ro)), (k2, .inl (cZ, 2, .inl k_ke)), (k3, .inl (cI, 200, .inl k_te)), (k4, .inl (cI, 10, .inl k_nu)), (k5, .inl (cI, 48, .inl k_na)), (k6, .inl (cI, 1024, .inl k_no)), (k7, .inl (cI, 1024, .inl k_tu))] sz) := by
  refine Met.ofW (cc := cX7_finds) (maxL := 7) (ret := none) (by decide) rfl ?_
  intro p e s m args below meth c s₁ B hml hv
  obtain ⟨rfl, hsz, hP, hK, hD0⟩ := hv
  have hx := B.exec
  have hb := B.bytes
  have hr := B.returns
  have hts := atoms_spec (ws := wsX7_finds) B.pre
  have hown : s.vm.findClass RX7 = some m.cls := findClass_of_methodNamed B.named
  have hlocks := B.notSynchronized
  subst hsz
  have hD := hD0.self (sz := s.heap.size)
  generalize hAe : va_A [(k0, .inr (7, [.ref k1, .int k_un, .ref k2, .ref k3, .int k_len, .int k_fi, .int k_be, .int k_to, .int k_cl, .int k_do, .ref k4, .ref k5, .ref k6, .ref k7])), (k1, .inl (cI, 583, .inl k_ro)), (k2, .inl (cZ, 2, .inl k_ke)), (k3, .inl (cI, 200, .inl k_te)), (k4, .inl (cI, 10, .inl k_nu)), (k5, .inl (cI, 48, .inl k_na)), (k6, .inl (cI, 1024, .inl k_no)), (k7, .inl (cI, 1024, .inl k_tu))] s.heap.size = A at hD ⊢
  have hA : ∀ q : Nat, s.heap.size ≤ q → A q := fun q h => by rw [← hAe]; exact Or.inr h
  clear hAe hD0
  have hfl_7 := hts (.fieldLink RX7 7 "TermsFirstModel" "rows" "[I") (List.mem_cons_of_mem _ (List.mem_append_left _ (List.mem_append_left _ (List.mem_of_getElem? (i := 0) rfl))))
  have hfl_26 := hts (.fieldLink RX7 26 "TermsFirstModel" "notes" "[I") (List.mem_cons_of_mem _ (List.mem_append_left _ (List.mem_append_left _ (List.mem_of_getElem? (i := 1) rfl))))
  have hfl_29 := hts (.fieldLink RX7 29 "TermsFirstModel" "turns" "[I") (List.mem_cons_of_mem _ (List.mem_append_left _ (List.mem_append_left _ (List.mem_of_getElem? (i := 2) rfl))))
  have hiX7 : ∀ w ∈ u_ws RX7 TX7 14, w ∈ wsX7_finds := fun _ h => (List.mem_cons_of_mem _ (List.mem_append_right _ h))
  have hB_174 : ∀ (x2 : Int32) (x3 : Int32) (x5 : Int32) (x6 : Int32) (s2 : Int32) (s1 : Int32) (k_no : Nat → Int32) (k_tu : Nat → Int32) (kt53 : (Nat → Int32) → (Nat → Int32) → Int32 → Option ((Nat → Int32) × (Nat → Int32))) (hkt53 : ∀ (x3 : Int32) (k_no : Nat → Int32) (k_tu : Nat → Int32), kt53 k_no k_tu x3 = some (k_no', k_tu') → ∀ (H : Heap) (locs : List Loc), va_P D vwCl [(k0, .inr (7, [.ref k1, .int k_un, .ref k2, .ref k3, .int k_len, .int k_fi, .int k_be, .int k_to, .int k_cl, .int k_do, .ref k4, .ref k5, .ref k6, .ref k7])), (k1, .inl (cI, 583, .inl k_ro)), (k2, .inl (cZ, 2, .inl k_ke)), (k3, .inl (cI, 200, .inl k_te)), (k4, .inl (cI, 10, .inl k_nu)), (k5, .inl (cI, 48, .inl k_na)), (k6, .inl (cI, 1024, .inl k_no)), (k7, .inl (cI, 1024, .inl k_tu))] H → va_D A [(k0, .inr (7, [.ref k1, .int k_un, .ref k2, .ref k3, .int k_len, .int k_fi, .int k_be, .int k_to, .int k_cl, .int k_do, .ref k4, .ref k5, .ref k6, .ref k7])), (k1, .inl (cI, 583, .inl k_ro)), (k2, .inl (cZ, 2, .inl k_ke)), (k3, .inl (cI, 200, .inl k_te)), (k4, .inl (cI, 10, .inl k_nu)), (k5, .inl (cI, 48, .inl k_na)), (k6, .inl (cI, 1024, .inl k_no)), (k7, .inl (cI, 1024, .inl k_tu))] → va_S A s.heap H locs → ∀ ls : Array Slot, lv_has ls 7 [(0, .ref k0), (2, .int x2), (3, .int x3)] → W p l e (headSpec wsX7_finds { frames := 3, cells := 0, slots := 0, locals := 68 }).room s m ([.ref k0] : List Value).toArray below meth c H locs 0 0 (MQ below (qV D [(k0, .inr (7, [.ref k1, .int k_un, .ref k2, .ref k3, .int k_len, .int k_fi, .int k_be, .int k_to, .int k_cl, .int k_do, .ref k4, .ref k5, .ref k6, .ref k7])), (k1, .inl (cI, 583, .inl k_ro)), (k2, .inl (cZ, 2, .inl k_ke)), (k3, .inl (cI, 200, .inl k_te)), (k4, .inl (cI, 10, .inl k_nu)), (k5, .inl (cI, 48, .inl k_na)), (k6, .inl (cI, 1024, .inl k_no')), (k7, .inl (cI, 1024, .inl k_tu'))] A) ([.ref k0] : List Value).toArray s 0 0 A) (F0 m 53 ls [])), m_X7_finds_174 k_no k_tu s1 s2 x2 x3 x5 x6 kt53 = some (k_no', k_tu') → ∀ (H : Heap) (locs : List Loc), va_P D vwCl [(k0, .inr (7, [.ref k1, .int k_un, .ref k2, .ref k3, .int k_len, .int k_fi, .int k_be, .int k_to, .int k_cl, .int k_do, .ref k4, .ref k5, .ref k6, .ref k7])), (k1, .inl (cI, 583, .inl k_ro)), (k2, .inl (cZ, 2, .inl k_ke)), (k3, .inl (cI, 200, .inl k_te)), (k4, .inl (cI, 10, .inl k_nu)), (k5, .inl (cI, 48, .inl k_na)), (k6, .inl (cI, 1024, .inl k_no)), (k7, .inl (cI, 1024, .inl k_tu))] H → va_D A [(k0, .inr (7, [.ref k1, .int k_un, .ref k2, .ref k3, .int k_len, .int k_fi, .int k_be, .int k_to, .int k_cl, .int k_do, .ref k4, .ref k5, .ref k6, .ref k7])), (k1, .inl (cI, 583, .inl k_ro)), (k2, .inl (cZ, 2, .inl k_ke)), (k3, .inl (cI, 200, .inl k_te)), (k4, .inl (cI, 10, .inl k_nu)), (k5, .inl (cI, 48, .inl k_na)), (k6, .inl (cI, 1024, .inl k_no)), (k7, .inl (cI, 1024, .inl k_tu))] → va_S A s.heap H locs → ∀ ls : Array Slot, lv_has ls 7 [(0, .ref k0), (2, .int x2), (3, .int x3), (5, .int x5), (6, .int x6)] → W p l e (headSpec wsX7_finds { frames := 3, cells := 0, slots := 0, locals := 68 }).room s m ([.ref k0] : List Value).toArray below meth c H locs 0 0 (MQ below (qV D [(k0, .inr (7, [.ref k1, .int k_un, .ref k2, .ref k3, .int k_len, .int k_fi, .int k_be, .int k_to, .int k_cl, .int k_do, .ref k4, .ref k5, .ref k6, .ref k7])), (k1, .inl (cI, 583, .inl k_ro)), (k2, .inl (cZ, 2, .inl k_ke)), (k3, .inl (cI, 200, .inl k_te)), (k4, .inl (cI, 10, .inl k_nu)), (k5, .inl (cI, 48, .inl k_na)), (k6, .inl (cI, 1024, .inl k_no')), (k7, .inl (cI, 1024, .inl k_tu'))] A) ([.ref k0] : List Value).toArray s 0 0 A) (F0 m 174 ls [.int s2, .int s1, .ref k6]) := by
    intro x2 x3 x5 x6 s2 s1 k_no k_tu kt53 hkt53 hf H locs hP hD hS ls hl
    unfold m_X7_finds_174 at hf
    obtain ⟨hi, hf⟩ := gd_some hf
    refine va_iast hx hb hK.1 hP hD hS 6 0 rfl rfl hi dX7_finds_174 (fun H locs hP hD hS => ?_)
    have hP : va_P D vwCl [(k0, .inr (7, [.ref k1, .int k_un, .ref k2, .ref k3, .int k_len, .int k_fi, .int k_be, .int k_to, .int k_cl, .int k_do, .ref k4, .ref k5, .ref k6, .ref k7])), (k1, .inl (cI, 583, .inl k_ro)), (k2, .inl (cZ, 2, .inl k_ke)), (k3, .inl (cI, 200, .inl k_te)), (k4, .inl (cI, 10, .inl k_nu)), (k5, .inl (cI, 48, .inl k_na)), (k6, .inl (cI, 1024, .inl (upd k_no s1.toNatClampNeg s2))), (k7, .inl (cI, 1024, .inl k_tu))] H := hP
    have hD : va_D A [(k0, .inr (7, [.ref k1, .int k_un, .ref k2, .ref k3, .int k_len, .int k_fi, .int k_be, .int k_to, .int k_cl, .int k_do, .ref k4, .ref k5, .ref k6, .ref k7])), (k1, .inl (cI, 583, .inl k_ro)), (k2, .inl (cZ, 2, .inl k_ke)), (k3, .inl (cI, 200, .inl k_te)), (k4, .inl (cI, 10, .inl k_nu)), (k5, .inl (cI, 48, .inl k_na)), (k6, .inl (cI, 1024, .inl (upd k_no s1.toNatClampNeg s2))), (k7, .inl (cI, 1024, .inl k_tu))] := hD
    refine lv_aload_n hx hb dX7_finds_175 rfl (lv_at hl 0 rfl) ?_
    refine va_get (D := D) (ci := 7) (v := .ref k7) (C := RX7) (T := TX7) (N := 14) hx hb hts hiX7 hown hK.1 hP 0 rfl rfl 13 (by decide) hfl_29 (fun _ h9 => h9) rfl dX7_finds_176 ?_
    refine lv_iload_n hx hb dX7_finds_179 rfl (lv_at hl 1 rfl) ?_
    refine lv_iload hx hb dX7_finds_180 (lv_at hl 4 rfl) ?_
    refine lv_if_eq (tgt := 190) hx hb dX7_finds_182 (by decide) (fun hc => ?_) (fun hc => ?_)
    · have hf := ifp hc hf
      refine lv_aload_n hx hb dX7_finds_190 rfl (lv_at hl 0 rfl) ?_
      refine va_get (D := D) (ci := 7) (v := .ref k7) (C := RX7) (T := TX7) (N := 14) hx hb hts hiX7 hown hK.1 hP 0 rfl rfl 13 (by decide) hfl_29 (fun _ h9 => h9) rfl dX7_finds_191 ?_
      refine lv_iload_n hx hb dX7_finds_194 rfl (lv_at hl 1 rfl) ?_
      obtain ⟨hi, hf⟩ := gd_some hf
      refine va_iald hx hb hK.1 hP 7 0 rfl rfl hi dX7_finds_195 ?_
      obtain ⟨hi, hf⟩ := gd_some hf
      refine va_iast hx hb hK.1 hP hD hS 7 0 rfl rfl hi dX7_finds_196 (fun H locs hP hD hS => ?_)
      have hP : va_P D vwCl [(k0, .inr (7, [.ref k1, .int k_un, .ref k2, .ref k3, .int k_len, .int k_fi, .int k_be, .int k_to, .int k_cl, .int k_do, .ref k4, .ref k5, .ref k6, .ref k7])), (k1, .inl (cI, 583, .inl k_ro)), (k2, .inl (cZ, 2, .inl k_ke)), (k3, .inl (cI, 200, .inl k_te)), (k4, .inl (cI, 10, .inl k_nu)), (k5, .inl (cI, 48, .inl k_na)), (k6, .inl (cI, 1024, .inl (upd k_no s1.toNatClampNeg s2))), (k7, .inl (cI, 1024, .inl (upd k_tu x2.toNatClampNeg (k_tu x2.toNatClampNeg))))] H := hP
      have hD : va_D A [(k0, .inr (7, [.ref k1, .int k_un, .ref k2, .ref k3, .int k_len, .int k_fi, .int k_be, .int k_to, .int k_cl, .int k_do, .ref k4, .ref k5, .ref k6, .ref k7])), (k1, .inl (cI, 583, .inl k_ro)), (k2, .inl (cZ, 2, .inl k_ke)), (k3, .inl (cI, 200, .inl k_te)), (k4, .inl (cI, 10, .inl k_nu)), (k5, .inl (cI, 48, .inl k_na)), (k6, .inl (cI, 1024, .inl (upd k_no s1.toNatClampNeg s2))), (k7, .inl (cI, 1024, .inl (upd k_tu x2.toNatClampNeg (k_tu x2.toNatClampNeg))))] := hD
      refine lv_iinc (v := (x3 + (nI 1))) (lv' := [(3, .int (x3 + (nI 1))), (0, .ref k0), (2, .int x2), (5, .int x5), (6, .int x6)]) hx hb dX7_finds_197 hl (k := 2) rfl (ii_1 _) (by decide) rfl (fun ls hl => ?_)
      refine lv_goto (tgt := 53) hx hb dX7_finds_200 (by decide) ?_
      exact hkt53 (x3 + (nI 1)) (upd k_no s1.toNatClampNeg s2) (upd k_tu x2.toNatClampNeg (k_tu x2.toNatClampNeg)) hf _ _ hP hD hS ls (lv_sub hl [1, 2, 0] rfl)
    · have hf := ifn hc hf
      refine lv_iload hx hb dX7_finds_185 (lv_at hl 3 rfl) ?_
      refine lv_goto (tgt := 196) hx hb dX7_finds_187 (by decide) ?_
      obtain ⟨hi, hf⟩ := gd_some hf
      refine va_iast hx hb hK.1 hP hD hS 7 0 rfl rfl hi dX7_finds_196 (fun H locs hP hD hS => ?_)
      have hP : va_P D vwCl [(k0, .inr (7, [.ref k1, .int k_un, .ref k2, .ref k3, .int k_len, .int k_fi, .int k_be, .int k_to, .int k_cl, .int k_do, .ref k4, .ref k5, .ref k6, .ref k7])), (k1, .inl (cI, 583, .inl k_ro)), (k2, .inl (cZ, 2, .inl k_ke)), (k3, .inl (cI, 200, .inl k_te)), (k4, .inl (cI, 10, .inl k_nu)), (k5, .inl (cI, 48, .inl k_na)), (k6, .inl (cI, 1024, .inl (upd k_no s1.toNatClampNeg s2))), (k7, .inl (cI, 1024, .inl (upd k_tu x2.toNatClampNeg x5)))] H := hP
      have hD : va_D A [(k0, .inr (7, [.ref k1, .int k_un, .ref k2, .ref k3, .int k_len, .int k_fi, .int k_be, .int k_to, .int k_cl, .int k_do, .ref k4, .ref k5, .ref k6, .ref k7])), (k1, .inl (cI, 583, .inl k_ro)), (k2, .inl (cZ, 2, .inl k_ke)), (k3, .inl (cI, 200, .inl k_te)), (k4, .inl (cI, 10, .inl k_nu)), (k5, .inl (cI, 48, .inl k_na)), (k6, .inl (cI, 1024, .inl (upd k_no s1.toNatClampNeg s2))), (k7, .inl (cI, 1024, .inl (upd k_tu x2.toNatClampNeg x5)))] := hD
      refine lv_iinc (v := (x3 + (nI 1))) (lv' := [(3, .int (x3 + (nI 1))), (0, .ref k0), (2, .int x2), (5, .int x5), (6, .int x6)]) hx hb dX7_finds_197 hl (k := 2) rfl (ii_1 _) (by decide) rfl (fun ls hl => ?_)
      refine lv_goto (tgt := 53) hx hb dX7_finds_200 (by decide) ?_
      exact hkt53 (x3 + (nI 1)) (upd k_no s1.toNatClampNeg s2) (upd k_tu x2.toNatClampNeg x5) hf _ _ hP hD hS ls (lv_sub hl [1, 2, 0] rfl)
  have hB_151 : ∀ (x2 : Int32) (x3 : Int32) (x4 : Int32) (x5 : Int32) (s0 : Int32) (k_no : Nat → Int32) (k_tu : Nat → Int32) (kt53 : (Nat → Int32) → (Nat → Int32) → Int32 → Option ((Nat → Int32) × (Nat → Int32))) (hkt53 : ∀ (x3 : Int32) (k_no : Nat → Int32) (k_tu : Nat → Int32), kt53 k_no k_tu x3 = some (k_no', k_tu') → ∀ (H : Heap) (locs : List Loc), va_P D vwCl [(k0, .inr (7, [.ref k1, .int k_un, .ref k2, .ref k3, .int k_len, .int k_fi, .int k_be, .int k_to, .int k_cl, .int k_do, .ref k4, .ref k5, .ref k6, .ref k7])), (k1, .inl (cI, 583, .inl k_ro)), (k2, .inl (cZ, 2, .inl k_ke)), (k3, .inl (cI, 200, .inl k_te)), (k4, .inl (cI, 10, .inl k_nu)), (k5, .inl (cI, 48, .inl k_na)), (k6, .inl (cI, 1024, .inl k_no)), (k7, .inl (cI, 1024, .inl k_tu))] H → va_D A [(k0, .inr (7, [.ref k1, .int k_un, .ref k2, .ref k3, .int k_len, .int k_fi, .int k_be, .int k_to, .int k_cl, .int k_do, .ref k4, .ref k5, .ref k6, .ref k7])), (k1, .inl (cI, 583, .inl k_ro)), (k2, .inl (cZ, 2, .inl k_ke)), (k3, .inl (cI, 200, .inl k_te)), (k4, .inl (cI, 10, .inl k_nu)), (k5, .inl (cI, 48, .inl k_na)), (k6, .inl (cI, 1024, .inl k_no)), (k7, .inl (cI, 1024, .inl k_tu))] → va_S A s.heap H locs → ∀ ls : Array Slot, lv_has ls 7 [(0, .ref k0), (2, .int x2), (3, .int x3)] → W p l e (headSpec wsX7_finds { frames := 3, cells := 0, slots := 0, locals := 68 }).room s m ([.ref k0] : List Value).toArray below meth c H locs 0 0 (MQ below (qV D [(k0, .inr (7, [.ref k1, .int k_un, .ref k2, .ref k3, .int k_len, .int k_fi, .int k_be, .int k_to, .int k_cl, .int k_do, .ref k4, .ref k5, .ref k6, .ref k7])), (k1, .inl (cI, 583, .inl k_ro)), (k2, .inl (cZ, 2, .inl k_ke)), (k3, .inl (cI, 200, .inl k_te)), (k4, .inl (cI, 10, .inl k_nu)), (k5, .inl (cI, 48, .inl k_na)), (k6, .inl (cI, 1024, .inl k_no')), (k7, .inl (cI, 1024, .inl k_tu'))] A) ([.ref k0] : List Value).toArray s 0 0 A) (F0 m 53 ls [])), m_X7_finds_151 k_no k_tu s0 x2 x3 x4 x5 kt53 = some (k_no', k_tu') → ∀ (H : Heap) (locs : List Loc), va_P D vwCl [(k0, .inr (7, [.ref k1, .int k_un, .ref k2, .ref k3, .int k_len, .int k_fi, .int k_be, .int k_to, .int k_cl, .int k_do, .ref k4, .ref k5, .ref k6, .ref k7])), (k1, .inl (cI, 583, .inl k_ro)), (k2, .inl (cZ, 2, .inl k_ke)), (k3, .inl (cI, 200, .inl k_te)), (k4, .inl (cI, 10, .inl k_nu)), (k5, .inl (cI, 48, .inl k_na)), (k6, .inl (cI, 1024, .inl k_no)), (k7, .inl (cI, 1024, .inl k_tu))] H → va_D A [(k0, .inr (7, [.ref k1, .int k_un, .ref k2, .ref k3, .int k_len, .int k_fi, .int k_be, .int k_to, .int k_cl, .int k_do, .ref k4, .ref k5, .ref k6, .ref k7])), (k1, .inl (cI, 583, .inl k_ro)), (k2, .inl (cZ, 2, .inl k_ke)), (k3, .inl (cI, 200, .inl k_te)), (k4, .inl (cI, 10, .inl k_nu)), (k5, .inl (cI, 48, .inl k_na)), (k6, .inl (cI, 1024, .inl k_no)), (k7, .inl (cI, 1024, .inl k_tu))] → va_S A s.heap H locs → ∀ ls : Array Slot, lv_has ls 7 [(0, .ref k0), (2, .int x2), (3, .int x3), (4, .int x4), (5, .int x5)] → W p l e (headSpec wsX7_finds { frames := 3, cells := 0, slots := 0, locals := 68 }).room s m ([.ref k0] : List Value).toArray below meth c H locs 0 0 (MQ below (qV D [(k0, .inr (7, [.ref k1, .int k_un, .ref k2, .ref k3, .int k_len, .int k_fi, .int k_be, .int k_to, .int k_cl, .int k_do, .ref k4, .ref k5, .ref k6, .ref k7])), (k1, .inl (cI, 583, .inl k_ro)), (k2, .inl (cZ, 2, .inl k_ke)), (k3, .inl (cI, 200, .inl k_te)), (k4, .inl (cI, 10, .inl k_nu)), (k5, .inl (cI, 48, .inl k_na)), (k6, .inl (cI, 1024, .inl k_no')), (k7, .inl (cI, 1024, .inl k_tu'))] A) ([.ref k0] : List Value).toArray s 0 0 A) (F0 m 151 ls [.int s0]) := by
    intro x2 x3 x4 x5 s0 k_no k_tu kt53 hkt53 hf H locs hP hD hS ls hl
    unfold m_X7_finds_151 at hf
    refine lv_istore (lv' := [(6, .int s0), (0, .ref k0), (2, .int x2), (3, .int x3), (4, .int x4), (5, .int x5)]) hx hb dX7_finds_151 hl (by decide) rfl (fun ls hl => ?_)
    refine lv_aload_n hx hb dX7_finds_153 rfl (lv_at hl 1 rfl) ?_
    refine va_get (D := D) (ci := 7) (v := .ref k6) (C := RX7) (T := TX7) (N := 14) hx hb hts hiX7 hown hK.1 hP 0 rfl rfl 12 (by decide) hfl_26 (fun _ h9 => h9) rfl dX7_finds_154 ?_
    refine lv_iload_n hx hb dX7_finds_157 rfl (lv_at hl 2 rfl) ?_
    refine lv_iload hx hb dX7_finds_158 (lv_at hl 0 rfl) ?_
    refine lv_if_eq (tgt := 168) hx hb dX7_finds_160 (by decide) (fun hc => ?_) (fun hc => ?_)
    · have hf := ifp hc hf
      refine lv_aload_n hx hb dX7_finds_168 rfl (lv_at hl 1 rfl) ?_
      refine va_get (D := D) (ci := 7) (v := .ref k6) (C := RX7) (T := TX7) (N := 14) hx hb hts hiX7 hown hK.1 hP 0 rfl rfl 12 (by decide) hfl_26 (fun _ h9 => h9) rfl dX7_finds_169 ?_
      refine lv_iload_n hx hb dX7_finds_172 rfl (lv_at hl 2 rfl) ?_
      obtain ⟨hi, hf⟩ := gd_some hf
      refine va_iald hx hb hK.1 hP 6 0 rfl rfl hi dX7_finds_173 ?_
      exact hB_174 x2 x3 x5 s0 (k_no x2.toNatClampNeg) x2 k_no k_tu _ hkt53 hf _ _ hP hD hS ls (lv_sub hl [1, 2, 3, 5, 0] rfl)
    · have hf := ifn hc hf
      refine lv_iload hx hb dX7_finds_163 (lv_at hl 4 rfl) ?_
      refine lv_goto (tgt := 174) hx hb dX7_finds_165 (by decide) ?_
      exact hB_174 x2 x3 x5 s0 x4 x2 k_no k_tu _ hkt53 hf _ _ hP hD hS ls (lv_sub hl [1, 2, 3, 5, 0] rfl)
  have hB_53 : ∀ (x2 : Int32) (kt29 : (Nat → Int32) → (Nat → Int32) → Int32 → Option ((Nat → Int32) × (Nat → Int32))) (hkt29 : ∀ (x2 : Int32) (k_no : Nat → Int32) (k_tu : Nat → Int32), kt29 k_no k_tu x2 = some (k_no', k_tu') → ∀ (H : Heap) (locs : List Loc), va_P D vwCl [(k0, .inr (7, [.ref k1, .int k_un, .ref k2, .ref k3, .int k_len, .int k_fi, .int k_be, .int k_to, .int k_cl, .int k_do, .ref k4, .ref k5, .ref k6, .ref k7])), (k1, .inl (cI, 583, .inl k_ro)), (k2, .inl (cZ, 2, .inl k_ke)), (k3, .inl (cI, 200, .inl k_te)), (k4, .inl (cI, 10, .inl k_nu)), (k5, .inl (cI, 48, .inl k_na)), (k6, .inl (cI, 1024, .inl k_no)), (k7, .inl (cI, 1024, .inl k_tu))] H → va_D A [(k0, .inr (7, [.ref k1, .int k_un, .ref k2, .ref k3, .int k_len, .int k_fi, .int k_be, .int k_to, .int k_cl, .int k_do, .ref k4, .ref k5, .ref k6, .ref k7])), (k1, .inl (cI, 583, .inl k_ro)), (k2, .inl (cZ, 2, .inl k_ke)), (k3, .inl (cI, 200, .inl k_te)), (k4, .inl (cI, 10, .inl k_nu)), (k5, .inl (cI, 48, .inl k_na)), (k6, .inl (cI, 1024, .inl k_no)), (k7, .inl (cI, 1024, .inl k_tu))] → va_S A s.heap H locs → ∀ ls : Array Slot, lv_has ls 7 [(0, .ref k0), (2, .int x2)] → W p l e (headSpec wsX7_finds { frames := 3, cells := 0, slots := 0, locals := 68 }).room s m ([.ref k0] : List Value).toArray below meth c H locs 0 0 (MQ below (qV D [(k0, .inr (7, [.ref k1, .int k_un, .ref k2, .ref k3, .int k_len, .int k_fi, .int k_be, .int k_to, .int k_cl, .int k_do, .ref k4, .ref k5, .ref k6, .ref k7])), (k1, .inl (cI, 583, .inl k_ro)), (k2, .inl (cZ, 2, .inl k_ke)), (k3, .inl (cI, 200, .inl k_te)), (k4, .inl (cI, 10, .inl k_nu)), (k5, .inl (cI, 48, .inl k_na)), (k6, .inl (cI, 1024, .inl k_no')), (k7, .inl (cI, 1024, .inl k_tu'))] A) ([.ref k0] : List Value).toArray s 0 0 A) (F0 m 29 ls [])) (fn : Nat) (x3 : Int32) (k_no : Nat → Int32) (k_tu : Nat → Int32), m_X7_finds_53 fu k_ro x2 kt29 fn k_no k_tu x3 = some (k_no', k_tu') → ∀ (H : Heap) (locs : List Loc), va_P D vwCl [(k0, .inr (7, [.ref k1, .int k_un, .ref k2, .ref k3, .int k_len, .int k_fi, .int k_be, .int k_to, .int k_cl, .int k_do, .ref k4, .ref k5, .ref k6, .ref k7])), (k1, .inl (cI, 583, .inl k_ro)), (k2, .inl (cZ, 2, .inl k_ke)), (k3, .inl (cI, 200, .inl k_te)), (k4, .inl (cI, 10, .inl k_nu)), (k5, .inl (cI, 48, .inl k_na)), (k6, .inl (cI, 1024, .inl k_no)), (k7, .inl (cI, 1024, .inl k_tu))] H → va_D A [(k0, .inr (7, [.ref k1, .int k_un, .ref k2, .ref k3, .int k_len, .int k_fi, .int k_be, .int k_to, .int k_cl, .int k_do, .ref k4, .ref k5, .ref k6, .ref k7])), (k1, .inl (cI, 583, .inl k_ro)), (k2, .inl (cZ, 2, .inl k_ke)), (k3, .inl (cI, 200, .inl k_te)), (k4, .inl (cI, 10, .inl k_nu)), (k5, .inl (cI, 48, .inl k_na)), (k6, .inl (cI, 1024, .inl k_no)), (k7, .inl (cI, 1024, .inl k_tu))] → va_S A s.heap H locs → ∀ ls : Array Slot, lv_has ls 7 [(0, .ref k0), (2, .int x2), (3, .int x3)] → W p l e (headSpec wsX7_finds { frames := 3, cells := 0, slots := 0, locals := 68 }).room s m ([.ref k0] : List Value).toArray below meth c H locs 0 0 (MQ below (qV D [(k0, .inr (7, [.ref k1, .int k_un, .ref k2, .ref k3, .int k_len, .int k_fi, .int k_be, .int k_to, .int k_cl, .int k_do, .ref k4, .ref k5, .ref k6, .ref k7])), (k1, .inl (cI, 583, .inl k_ro)), (k2, .inl (cZ, 2, .inl k_ke)), (k3, .inl (cI, 200, .inl k_te)), (k4, .inl (cI, 10, .inl k_nu)), (k5, .inl (cI, 48, .inl k_na)), (k6, .inl (cI, 1024, .inl k_no')), (k7, .inl (cI, 1024, .inl k_tu'))] A) ([.ref k0] : List Value).toArray s 0 0 A) (F0 m 53 ls []) := by
    intro x2 kt29 hkt29 fn
    induction fn with
    | zero => intro x3 k_no k_tu hf; rw [m_X7_finds_53] at hf; cases hf
    | succ fn ih =>
      intro x3 k_no k_tu hf H locs hP hD hS ls hl
      rw [m_X7_finds_53] at hf
      refine lv_iload_n hx hb dX7_finds_53 rfl (lv_at hl 2 rfl) ?_
      refine lv_aload_n hx hb dX7_finds_54 rfl (lv_at hl 0 rfl) ?_
      refine va_get (D := D) (ci := 7) (v := .ref k1) (C := RX7) (T := TX7) (N := 14) hx hb hts hiX7 hown hK.1 hP 0 rfl rfl 0 (by decide) hfl_7 (fun _ h9 => h9) rfl dX7_finds_55 ?_
      refine lv_iconst (v := (nI 0)) hx hb dX7_finds_58 ic_0 ?_
      obtain ⟨hi, hf⟩ := gd_some hf
      refine va_iald hx hb hK.1 hP 1 0 rfl rfl hi dX7_finds_59 ?_
      refine lv_icmp_ge (tgt := 203) hx hb dX7_finds_60 (by decide) (fun hc => ?_) (fun hc => ?_)
      · have hf := ifp hc hf
        refine lv_iinc (v := (x2 + (-1 : Int32))) (lv' := [(2, .int (x2 + (-1 : Int32))), (0, .ref k0), (3, .int x3)]) hx hb dX7_finds_203 hl (k := 1) rfl (ii_m1 _) (by decide) rfl (fun ls hl => ?_)
        refine lv_goto (tgt := 29) hx hb dX7_finds_206 (by decide) ?_
        exact hkt29 (x2 + (-1 : Int32)) k_no k_tu hf _ _ hP hD hS ls (lv_sub hl [1, 0] rfl)
      · have hf := ifn hc hf
        refine lv_aload_n hx hb dX7_finds_63 rfl (lv_at hl 0 rfl) ?_
        refine lv_iload_n hx hb dX7_finds_64 rfl (lv_at hl 2 rfl) ?_
        refine lv_iload_n hx hb dX7_finds_65 rfl (lv_at hl 1 rfl) ?_
        obtain ⟨rv1, hrv1, hf⟩ := bd hf
        refine roI (va_runV (As := [.int x3, .int x2]) (rest := []) ⟨hx, hb, hml, hown, hts⟩ (c_X7_canStand l D cI cZ cM k0 k1 k2 k3 k4 k5 k6 k7 k_un k_len k_fi k_be k_to k_cl k_do k_ro k_ke k_te k_nu k_na k_no k_tu x3 x2 rv1 hrv1) (cwV 2 hts gX7_finds_X7_canStand rfl rfl rfl ⟨rfl, hdc_X7_canStand⟩ ⟨Nat.le_of_ble_eq_true rfl, Nat.le_of_ble_eq_true rfl⟩) (prV hK hP [0, 1, 2, 3, 4, 5, 6, 7] rfl (ci := 7) (q0 := 0) rfl rfl) rfl rfl hl.1 rfl (lv_room (Nat.le_of_ble_eq_true rfl)) dX7_finds_66 ⟨Nat.zero_le _, Nat.zero_le _⟩) ?_
        refine lv_if_eq (tgt := 197) hx hb dX7_finds_69 (by decide) (fun hc => ?_) (fun hc => ?_)
        · have hf := ifp hc hf
          refine lv_iinc (v := (x3 + (nI 1))) (lv' := [(3, .int (x3 + (nI 1))), (0, .ref k0), (2, .int x2)]) hx hb dX7_finds_197 hl (k := 2) rfl (ii_1 _) (by decide) rfl (fun ls hl => ?_)
          refine lv_goto (tgt := 53) hx hb dX7_finds_200 (by decide) ?_
          exact ih (x3 + (nI 1)) k_no k_tu hf _ _ hP hD hS ls (lv_sub hl [1, 2, 0] rfl)
        · have hf := ifn hc hf
          refine lv_aload_n hx hb dX7_finds_72 rfl (lv_at hl 0 rfl) ?_
          refine lv_iload_n hx hb dX7_finds_73 rfl (lv_at hl 2 rfl) ?_
          refine lv_iload_n hx hb dX7_finds_74 rfl (lv_at hl 1 rfl) ?_
          obtain ⟨rv2, hrv2, hf⟩ := bd hf
          refine roI (va_runV (As := [.int x3, .int x2]) (rest := []) ⟨hx, hb, hml, hown, hts⟩ (c_X7_noted l D cI cZ cM k0 k1 k2 k3 k4 k5 k6 k7 k_un k_len k_fi k_be k_to k_cl k_do k_ro k_ke k_te k_nu k_na k_no k_tu x3 x2 fu rv2 hrv2) (cwV 2 hts gX7_finds_X7_noted rfl rfl rfl ⟨rfl, hdc_X7_noted⟩ ⟨Nat.le_of_ble_eq_true rfl, Nat.le_of_ble_eq_true rfl⟩) (prV hK hP [0, 1, 2, 3, 4, 5, 6, 7] rfl (ci := 7) (q0 := 0) rfl rfl) rfl rfl hl.1 rfl (lv_room (Nat.le_of_ble_eq_true rfl)) dX7_finds_75 ⟨Nat.zero_le _, Nat.zero_le _⟩) ?_
          obtain ⟨rv3, hrv3, hf⟩ := bd hf
          refine roI (va_runS (As := [.int rv2]) (rest := []) ⟨hx, hb, hml, hown, hts⟩ (c_X7_ones l D cI cZ cM rv2 fu rv3 hrv3) (va_cwS 1 hts gX7_finds_X7_ones rfl rfl rfl hdc_X7_ones ⟨Nat.le_of_ble_eq_true rfl, Nat.le_of_ble_eq_true rfl⟩) (prS hK hP [] rfl) rfl rfl hl.1 rfl (lv_room (Nat.le_of_ble_eq_true rfl)) dX7_finds_78 ⟨Nat.zero_le _, Nat.zero_le _⟩) ?_
          refine lv_aload_n hx hb dX7_finds_81 rfl (lv_at hl 0 rfl) ?_
          refine va_get (D := D) (ci := 7) (v := .ref k6) (C := RX7) (T := TX7) (N := 14) hx hb hts hiX7 hown hK.1 hP 0 rfl rfl 12 (by decide) hfl_26 (fun _ h9 => h9) rfl dX7_finds_82 ?_
          refine lv_iload_n hx hb dX7_finds_85 rfl (lv_at hl 1 rfl) ?_
          refine lv_iconst (v := (nI 1)) hx hb dX7_finds_86 ic_1 ?_
          refine lv_iload_n hx hb dX7_finds_87 rfl (lv_at hl 2 rfl) ?_
          refine lv_ishl hx hb dX7_finds_88 ?_
          refine lv_ior hx hb dX7_finds_89 ?_
          obtain ⟨hi, hf⟩ := gd_some hf
          refine va_iald hx hb hK.1 hP 6 0 rfl rfl hi dX7_finds_90 ?_
          refine lv_iadd hx hb dX7_finds_91 ?_
          refine lv_istore (lv' := [(4, .int (rv3 + (k_no (x2 ||| ((nI 1) <<< (x3 &&& 31))).toNatClampNeg))), (0, .ref k0), (2, .int x2), (3, .int x3)]) hx hb dX7_finds_92 hl (by decide) rfl (fun ls hl => ?_)
          refine lv_aload_n hx hb dX7_finds_94 rfl (lv_at hl 1 rfl) ?_
          refine lv_iload_n hx hb dX7_finds_95 rfl (lv_at hl 3 rfl) ?_
          refine lv_iload_n hx hb dX7_finds_96 rfl (lv_at hl 2 rfl) ?_
          obtain ⟨rv4, hrv4, hf⟩ := bd hf
          refine roI (va_runV (As := [.int x3, .int x2]) (rest := []) ⟨hx, hb, hml, hown, hts⟩ (c_X7_turned l D cI cZ cM k0 k1 k2 k3 k4 k5 k6 k7 k_un k_len k_fi k_be k_to k_cl k_do k_ro k_ke k_te k_nu k_na k_no k_tu x3 x2 fu rv4 hrv4) (cwV 2 hts gX7_finds_X7_turned rfl rfl rfl ⟨rfl, hdc_X7_turned⟩ ⟨Nat.le_of_ble_eq_true rfl, Nat.le_of_ble_eq_true rfl⟩) (prV hK hP [0, 1, 2, 3, 4, 5, 6, 7] rfl (ci := 7) (q0 := 0) rfl rfl) rfl rfl hl.1 rfl (lv_room (Nat.le_of_ble_eq_true rfl)) dX7_finds_97 ⟨Nat.zero_le _, Nat.zero_le _⟩) ?_
          refine lv_aload_n hx hb dX7_finds_100 rfl (lv_at hl 1 rfl) ?_
          refine va_get (D := D) (ci := 7) (v := .ref k7) (C := RX7) (T := TX7) (N := 14) hx hb hts hiX7 hown hK.1 hP 0 rfl rfl 13 (by decide) hfl_29 (fun _ h9 => h9) rfl dX7_finds_101 ?_
          refine lv_iload_n hx hb dX7_finds_104 rfl (lv_at hl 2 rfl) ?_
          refine lv_iconst (v := (nI 1)) hx hb dX7_finds_105 ic_1 ?_
          refine lv_iload_n hx hb dX7_finds_106 rfl (lv_at hl 3 rfl) ?_
          refine lv_ishl hx hb dX7_finds_107 ?_
          refine lv_ior hx hb dX7_finds_108 ?_
          obtain ⟨hi, hf⟩ := gd_some hf
          refine va_iald hx hb hK.1 hP 7 0 rfl rfl hi dX7_finds_109 ?_
          refine lv_iadd hx hb dX7_finds_110 ?_
          refine lv_istore (lv' := [(5, .int (rv4 + (k_tu (x2 ||| ((nI 1) <<< (x3 &&& 31))).toNatClampNeg))), (4, .int (rv3 + (k_no (x2 ||| ((nI 1) <<< (x3 &&& 31))).toNatClampNeg))), (0, .ref k0), (2, .int x2), (3, .int x3)]) hx hb dX7_finds_111 hl (by decide) rfl (fun ls hl => ?_)
          refine lv_iload hx hb dX7_finds_113 (lv_at hl 1 rfl) ?_
          refine lv_aload_n hx hb dX7_finds_115 rfl (lv_at hl 2 rfl) ?_
          refine va_get (D := D) (ci := 7) (v := .ref k6) (C := RX7) (T := TX7) (N := 14) hx hb hts hiX7 hown hK.1 hP 0 rfl rfl 12 (by decide) hfl_26 (fun _ h9 => h9) rfl dX7_finds_116 ?_
          refine lv_iload_n hx hb dX7_finds_119 rfl (lv_at hl 3 rfl) ?_
          obtain ⟨hi, hf⟩ := gd_some hf
          refine va_iald hx hb hK.1 hP 6 0 rfl rfl hi dX7_finds_120 ?_
          refine lv_icmp_lt (tgt := 146) hx hb dX7_finds_121 (by decide) (fun hc => ?_) (fun hc => ?_)
          · have hf := ifp hc hf
            refine lv_iconst (v := (nI 1)) hx hb dX7_finds_146 ic_1 ?_
            refine lv_goto (tgt := 151) hx hb dX7_finds_147 (by decide) ?_
            exact hB_151 x2 x3 (rv3 + (k_no (x2 ||| ((nI 1) <<< (x3 &&& 31))).toNatClampNeg)) (rv4 + (k_tu (x2 ||| ((nI 1) <<< (x3 &&& 31))).toNatClampNeg)) (nI 1) k_no k_tu _ ih hf _ _ hP hD hS ls (lv_sub hl [2, 3, 4, 1, 0] rfl)
          · have hf := ifn hc hf
            refine lv_iload hx hb dX7_finds_124 (lv_at hl 1 rfl) ?_
            refine lv_aload_n hx hb dX7_finds_126 rfl (lv_at hl 2 rfl) ?_
            refine va_get (D := D) (ci := 7) (v := .ref k6) (C := RX7) (T := TX7) (N := 14) hx hb hts hiX7 hown hK.1 hP 0 rfl rfl 12 (by decide) hfl_26 (fun _ h9 => h9) rfl dX7_finds_127 ?_
            refine lv_iload_n hx hb dX7_finds_130 rfl (lv_at hl 3 rfl) ?_
            obtain ⟨hi, hf⟩ := gd_some hf
            refine va_iald hx hb hK.1 hP 6 0 rfl rfl hi dX7_finds_131 ?_
            refine lv_icmp_ne (tgt := 150) hx hb dX7_finds_132 (by decide) (fun hc => ?_) (fun hc => ?_)
            · have hf := ifn hc hf
              refine lv_iconst (v := (nI 0)) hx hb dX7_finds_150 ic_0 ?_
              exact hB_151 x2 x3 (rv3 + (k_no (x2 ||| ((nI 1) <<< (x3 &&& 31))).toNatClampNeg)) (rv4 + (k_tu (x2 ||| ((nI 1) <<< (x3 &&& 31))).toNatClampNeg)) (nI 0) k_no k_tu _ ih hf _ _ hP hD hS ls (lv_sub hl [2, 3, 4, 1, 0] rfl)
            · have hf := ifp hc hf
              refine lv_iload hx hb dX7_finds_135 (lv_at hl 0 rfl) ?_
              refine lv_aload_n hx hb dX7_finds_137 rfl (lv_at hl 2 rfl) ?_
              refine va_get (D := D) (ci := 7) (v := .ref k7) (C := RX7) (T := TX7) (N := 14) hx hb hts hiX7 hown hK.1 hP 0 rfl rfl 13 (by decide) hfl_29 (fun _ h9 => h9) rfl dX7_finds_138 ?_
              refine lv_iload_n hx hb dX7_finds_141 rfl (lv_at hl 3 rfl) ?_
              obtain ⟨hi, hf⟩ := gd_some hf
              refine va_iald hx hb hK.1 hP 7 0 rfl rfl hi dX7_finds_142 ?_
              refine lv_icmp_ge (tgt := 150) hx hb dX7_finds_143 (by decide) (fun hc => ?_) (fun hc => ?_)
              · have hf := ifp hc hf
                refine lv_iconst (v := (nI 0)) hx hb dX7_finds_150 ic_0 ?_
                exact hB_151 x2 x3 (rv3 + (k_no (x2 ||| ((nI 1) <<< (x3 &&& 31))).toNatClampNeg)) (rv4 + (k_tu (x2 ||| ((nI 1) <<< (x3 &&& 31))).toNatClampNeg)) (nI 0) k_no k_tu _ ih hf _ _ hP hD hS ls (lv_sub hl [2, 3, 4, 1, 0] rfl)
              · have hf := ifn hc hf
                refine lv_iconst (v := (nI 1)) hx hb dX7_finds_146 ic_1 ?_
                refine lv_goto (tgt := 151) hx hb dX7_finds_147 (by decide) ?_
                exact hB_151 x2 x3 (rv3 + (k_no (x2 ||| ((nI 1) <<< (x3 &&& 31))).toNatClampNeg)) (rv4 + (k_tu (x2 ||| ((nI 1) <<< (x3 &&& 31))).toNatClampNeg)) (nI 1) k_no k_tu _ ih hf _ _ hP hD hS ls (lv_sub hl [2, 3, 4, 1, 0] rfl)
  have hB_29 : ∀ (fn : Nat) (x2 : Int32) (k_no : Nat → Int32) (k_tu : Nat → Int32), m_X7_finds_29 fu k_ro fn k_no k_tu x2 = some (k_no', k_tu') → ∀ (H : Heap) (locs : List Loc), va_P D vwCl [(k0, .inr (7, [.ref k1, .int k_un, .ref k2, .ref k3, .int k_len, .int k_fi, .int k_be, .int k_to, .int k_cl, .int k_do, .ref k4, .ref k5, .ref k6, .ref k7])), (k1, .inl (cI, 583, .inl k_ro)), (k2, .inl (cZ, 2, .inl k_ke)), (k3, .inl (cI, 200, .inl k_te)), (k4, .inl (cI, 10, .inl k_nu)), (k5, .inl (cI, 48, .inl k_na)), (k6, .inl (cI, 1024, .inl k_no)), (k7, .inl (cI, 1024, .inl k_tu))] H → va_D A [(k0, .inr (7, [.ref k1, .int k_un, .ref k2, .ref k3, .int k_len, .int k_fi, .int k_be, .int k_to, .int k_cl, .int k_do, .ref k4, .ref k5, .ref k6, .ref k7])), (k1, .inl (cI, 583, .inl k_ro)), (k2, .inl (cZ, 2, .inl k_ke)), (k3, .inl (cI, 200, .inl k_te)), (k4, .inl (cI, 10, .inl k_nu)), (k5, .inl (cI, 48, .inl k_na)), (k6, .inl (cI, 1024, .inl k_no)), (k7, .inl (cI, 1024, .inl k_tu))] → va_S A s.heap H locs → ∀ ls : Array Slot, lv_has ls 7 [(0, .ref k0), (2, .int x2)] → W p l e (headSpec wsX7_finds { frames := 3, cells := 0, slots := 0, locals := 68 }).room s m ([.ref k0] : List Value).toArray below meth c H locs 0 0 (MQ below (qV D [(k0, .inr (7, [.ref k1, .int k_un, .ref k2, .ref k3, .int k_len, .int k_fi, .int k_be, .int k_to, .int k_cl, .int k_do, .ref k4, .ref k5, .ref k6, .ref k7])), (k1, .inl (cI, 583, .inl k_ro)), (k2, .inl (cZ, 2, .inl k_ke)), (k3, .inl (cI, 200, .inl k_te)), (k4, .inl (cI, 10, .inl k_nu)), (k5, .inl (cI, 48, .inl k_na)), (k6, .inl (cI, 1024, .inl k_no')), (k7, .inl (cI, 1024, .inl k_tu'))] A) ([.ref k0] : List Value).toArray s 0 0 A) (F0 m 29 ls []) := by
    intro fn
    induction fn with
    | zero => intro x2 k_no k_tu hf; rw [m_X7_finds_29] at hf; cases hf
    | succ fn ih =>
      intro x2 k_no k_tu hf H locs hP hD hS ls hl
      rw [m_X7_finds_29] at hf
      refine lv_iload_n hx hb dX7_finds_29 rfl (lv_at hl 1 rfl) ?_
      refine lv_if_lt (tgt := 209) hx hb dX7_finds_30 (by decide) (fun hc => ?_) (fun hc => ?_)
      · have hf := ifp hc hf
        cases hf
        exact W.vret hx hb hr (fun t ht _ => ⟨⟨rfl, by rw [ht]; exact hP, hD⟩, hS.F ht⟩) hS.2.2 dX7_finds_209
      · have hf := ifn hc hf
        refine lv_aload_n hx hb dX7_finds_33 rfl (lv_at hl 0 rfl) ?_
        refine va_get (D := D) (ci := 7) (v := .ref k6) (C := RX7) (T := TX7) (N := 14) hx hb hts hiX7 hown hK.1 hP 0 rfl rfl 12 (by decide) hfl_26 (fun _ h9 => h9) rfl dX7_finds_34 ?_
        refine lv_iload_n hx hb dX7_finds_37 rfl (lv_at hl 1 rfl) ?_
        refine lv_sipush (v := (nI 1000)) hx hb dX7_finds_38 sp_1000 ?_
        obtain ⟨hi, hf⟩ := gd_some hf
        refine va_iast hx hb hK.1 hP hD hS 6 0 rfl rfl hi dX7_finds_41 (fun H locs hP hD hS => ?_)
        have hP : va_P D vwCl [(k0, .inr (7, [.ref k1, .int k_un, .ref k2, .ref k3, .int k_len, .int k_fi, .int k_be, .int k_to, .int k_cl, .int k_do, .ref k4, .ref k5, .ref k6, .ref k7])), (k1, .inl (cI, 583, .inl k_ro)), (k2, .inl (cZ, 2, .inl k_ke)), (k3, .inl (cI, 200, .inl k_te)), (k4, .inl (cI, 10, .inl k_nu)), (k5, .inl (cI, 48, .inl k_na)), (k6, .inl (cI, 1024, .inl (upd k_no x2.toNatClampNeg (nI 1000)))), (k7, .inl (cI, 1024, .inl k_tu))] H := hP
        have hD : va_D A [(k0, .inr (7, [.ref k1, .int k_un, .ref k2, .ref k3, .int k_len, .int k_fi, .int k_be, .int k_to, .int k_cl, .int k_do, .ref k4, .ref k5, .ref k6, .ref k7])), (k1, .inl (cI, 583, .inl k_ro)), (k2, .inl (cZ, 2, .inl k_ke)), (k3, .inl (cI, 200, .inl k_te)), (k4, .inl (cI, 10, .inl k_nu)), (k5, .inl (cI, 48, .inl k_na)), (k6, .inl (cI, 1024, .inl (upd k_no x2.toNatClampNeg (nI 1000)))), (k7, .inl (cI, 1024, .inl k_tu))] := hD
        refine lv_aload_n hx hb dX7_finds_42 rfl (lv_at hl 0 rfl) ?_
        refine va_get (D := D) (ci := 7) (v := .ref k7) (C := RX7) (T := TX7) (N := 14) hx hb hts hiX7 hown hK.1 hP 0 rfl rfl 13 (by decide) hfl_29 (fun _ h9 => h9) rfl dX7_finds_43 ?_
        refine lv_iload_n hx hb dX7_finds_46 rfl (lv_at hl 1 rfl) ?_
        refine lv_sipush (v := (nI 1000)) hx hb dX7_finds_47 sp_1000 ?_
        obtain ⟨hi, hf⟩ := gd_some hf
        refine va_iast hx hb hK.1 hP hD hS 7 0 rfl rfl hi dX7_finds_50 (fun H locs hP hD hS => ?_)
        have hP : va_P D vwCl [(k0, .inr (7, [.ref k1, .int k_un, .ref k2, .ref k3, .int k_len, .int k_fi, .int k_be, .int k_to, .int k_cl, .int k_do, .ref k4, .ref k5, .ref k6, .ref k7])), (k1, .inl (cI, 583, .inl k_ro)), (k2, .inl (cZ, 2, .inl k_ke)), (k3, .inl (cI, 200, .inl k_te)), (k4, .inl (cI, 10, .inl k_nu)), (k5, .inl (cI, 48, .inl k_na)), (k6, .inl (cI, 1024, .inl (upd k_no x2.toNatClampNeg (nI 1000)))), (k7, .inl (cI, 1024, .inl (upd k_tu x2.toNatClampNeg (nI 1000))))] H := hP
        have hD : va_D A [(k0, .inr (7, [.ref k1, .int k_un, .ref k2, .ref k3, .int k_len, .int k_fi, .int k_be, .int k_to, .int k_cl, .int k_do, .ref k4, .ref k5, .ref k6, .ref k7])), (k1, .inl (cI, 583, .inl k_ro)), (k2, .inl (cZ, 2, .inl k_ke)), (k3, .inl (cI, 200, .inl k_te)), (k4, .inl (cI, 10, .inl k_nu)), (k5, .inl (cI, 48, .inl k_na)), (k6, .inl (cI, 1024, .inl (upd k_no x2.toNatClampNeg (nI 1000)))), (k7, .inl (cI, 1024, .inl (upd k_tu x2.toNatClampNeg (nI 1000))))] := hD
        refine lv_iconst (v := (nI 0)) hx hb dX7_finds_51 ic_0 ?_
        refine lv_istore_n (lv' := [(3, .int (nI 0)), (0, .ref k0), (2, .int x2)]) hx hb dX7_finds_52 rfl hl (by decide) rfl (fun ls hl => ?_)
        exact hB_53 x2 _ ih fu (nI 0) (upd k_no x2.toNatClampNeg (nI 1000)) (upd k_tu x2.toNatClampNeg (nI 1000)) hf _ _ hP hD hS ls (lv_sub hl [1, 2, 0] rfl)
  have hl := lv_entry ([.ref k0]) (n := 7) (Nat.le_of_ble_eq_true rfl)
  rw [lg_entry_eq]
  generalize (lg_sl ([.ref k0]) ++ List.replicate (7 - (lg_sl ([.ref k0])).length) Slot.unset).toArray = ls at hl ⊢
  have hl : lv_has ls 7 [(0, .ref k0)] := hl
  have hS : va_S A s.heap s.heap [] := va_S.rf
  unfold m_X7_finds at hf
  refine lv_iconst (v := (nI 1)) hx hb dX7_finds_0 ic_1 ?_
  refine lv_aload_n hx hb dX7_finds_1 rfl (lv_at hl 0 rfl) ?_
  refine va_get (D := D) (ci := 7) (v := .ref k1) (C := RX7) (T := TX7) (N := 14) hx hb hts hiX7 hown hK.1 hP 0 rfl rfl 0 (by decide) hfl_7 (fun _ h9 => h9) rfl dX7_finds_2 ?_
  refine lv_iconst (v := (nI 0)) hx hb dX7_finds_5 ic_0 ?_
  obtain ⟨hi, hf⟩ := gd_some hf
  refine va_iald hx hb hK.1 hP 1 0 rfl rfl hi dX7_finds_6 ?_
  refine lv_ishl hx hb dX7_finds_7 ?_
  refine lv_iconst (v := (nI 1)) hx hb dX7_finds_8 ic_1 ?_
  refine lv_isub hx hb dX7_finds_9 ?_
  refine lv_istore_n (lv' := [(1, .int (((nI 1) <<< ((k_ro (nI 0).toNatClampNeg) &&& 31)) - (nI 1))), (0, .ref k0)]) hx hb dX7_finds_10 rfl hl (by decide) rfl (fun ls hl => ?_)
  refine lv_aload_n hx hb dX7_finds_11 rfl (lv_at hl 1 rfl) ?_
  refine va_get (D := D) (ci := 7) (v := .ref k6) (C := RX7) (T := TX7) (N := 14) hx hb hts hiX7 hown hK.1 hP 0 rfl rfl 12 (by decide) hfl_26 (fun _ h9 => h9) rfl dX7_finds_12 ?_
  refine lv_iload_n hx hb dX7_finds_15 rfl (lv_at hl 0 rfl) ?_
  refine lv_iconst (v := (nI 0)) hx hb dX7_finds_16 ic_0 ?_
  obtain ⟨hi, hf⟩ := gd_some hf
  refine va_iast hx hb hK.1 hP hD hS 6 0 rfl rfl hi dX7_finds_17 (fun H locs hP hD hS => ?_)
  have hP : va_P D vwCl [(k0, .inr (7, [.ref k1, .int k_un, .ref k2, .ref k3, .int k_len, .int k_fi, .int k_be, .int k_to, .int k_cl, .int k_do, .ref k4, .ref k5, .ref k6, .ref k7])), (k1, .inl (cI, 583, .inl k_ro)), (k2, .inl (cZ, 2, .inl k_ke)), (k3, .inl (cI, 200, .inl k_te)), (k4, .inl (cI, 10, .inl k_nu)), (k5, .inl (cI, 48, .inl k_na)), (k6, .inl (cI, 1024, .inl (upd k_no (((nI 1) <<< ((k_ro (nI 0).toNatClampNeg) &&& 31)) - (nI 1)).toNatClampNeg (nI 0)))), (k7, .inl (cI, 1024, .inl k_tu))] H := hP
  have hD : va_D A [(k0, .inr (7, [.ref k1, .int k_un, .ref k2, .ref k3, .int k_len, .int k_fi, .int k_be, .int k_to, .int k_cl, .int k_do, .ref k4, .ref k5, .ref k6, .ref k7])), (k1, .inl (cI, 583, .inl k_ro)), (k2, .inl (cZ, 2, .inl k_ke)), (k3, .inl (cI, 200, .inl k_te)), (k4, .inl (cI, 10, .inl k_nu)), (k5, .inl (cI, 48, .inl k_na)), (k6, .inl (cI, 1024, .inl (upd k_no (((nI 1) <<< ((k_ro (nI 0).toNatClampNeg) &&& 31)) - (nI 1)).toNatClampNeg (nI 0)))), (k7, .inl (cI, 1024, .inl k_tu))] := hD
  refine lv_aload_n hx hb dX7_finds_18 rfl (lv_at hl 1 rfl) ?_
  refine va_get (D := D) (ci := 7) (v := .ref k7) (C := RX7) (T := TX7) (N := 14) hx hb hts hiX7 hown hK.1 hP 0 rfl rfl 13 (by decide) hfl_29 (fun _ h9 => h9) rfl dX7_finds_19 ?_
  refine lv_iload_n hx hb dX7_finds_22 rfl (lv_at hl 0 rfl) ?_
  refine lv_iconst (v := (nI 0)) hx hb dX7_finds_23 ic_0 ?_
  obtain ⟨hi, hf⟩ := gd_some hf
  refine va_iast hx hb hK.1 hP hD hS 7 0 rfl rfl hi dX7_finds_24 (fun H locs hP hD hS => ?_)
  have hP : va_P D vwCl [(k0, .inr (7, [.ref k1, .int k_un, .ref k2, .ref k3, .int k_len, .int k_fi, .int k_be, .int k_to, .int k_cl, .int k_do, .ref k4, .ref k5, .ref k6, .ref k7])), (k1, .inl (cI, 583, .inl k_ro)), (k2, .inl (cZ, 2, .inl k_ke)), (k3, .inl (cI, 200, .inl k_te)), (k4, .inl (cI, 10, .inl k_nu)), (k5, .inl (cI, 48, .inl k_na)), (k6, .inl (cI, 1024, .inl (upd k_no (((nI 1) <<< ((k_ro (nI 0).toNatClampNeg) &&& 31)) - (nI 1)).toNatClampNeg (nI 0)))), (k7, .inl (cI, 1024, .inl (upd k_tu (((nI 1) <<< ((k_ro (nI 0).toNatClampNeg) &&& 31)) - (nI 1)).toNatClampNeg (nI 0))))] H := hP
  have hD : va_D A [(k0, .inr (7, [.ref k1, .int k_un, .ref k2, .ref k3, .int k_len, .int k_fi, .int k_be, .int k_to, .int k_cl, .int k_do, .ref k4, .ref k5, .ref k6, .ref k7])), (k1, .inl (cI, 583, .inl k_ro)), (k2, .inl (cZ, 2, .inl k_ke)), (k3, .inl (cI, 200, .inl k_te)), (k4, .inl (cI, 10, .inl k_nu)), (k5, .inl (cI, 48, .inl k_na)), (k6, .inl (cI, 1024, .inl (upd k_no (((nI 1) <<< ((k_ro (nI 0).toNatClampNeg) &&& 31)) - (nI 1)).toNatClampNeg (nI 0)))), (k7, .inl (cI, 1024, .inl (upd k_tu (((nI 1) <<< ((k_ro (nI 0).toNatClampNeg) &&& 31)) - (nI 1)).toNatClampNeg (nI 0))))] := hD
  refine lv_iload_n hx hb dX7_finds_25 rfl (lv_at hl 0 rfl) ?_
  refine lv_iconst (v := (nI 1)) hx hb dX7_finds_26 ic_1 ?_
  refine lv_isub hx hb dX7_finds_27 ?_
  refine lv_istore_n (lv' := [(2, .int ((((nI 1) <<< ((k_ro (nI 0).toNatClampNeg) &&& 31)) - (nI 1)) - (nI 1))), (1, .int (((nI 1) <<< ((k_ro (nI 0).toNatClampNeg) &&& 31)) - (nI 1))), (0, .ref k0)]) hx hb dX7_finds_28 rfl hl (by decide) rfl (fun ls hl => ?_)
  exact hB_29 fu ((((nI 1) <<< ((k_ro (nI 0).toNatClampNeg) &&& 31)) - (nI 1)) - (nI 1)) (upd k_no (((nI 1) <<< ((k_ro (nI 0).toNatClampNeg) &&& 31)) - (nI 1)).toNatClampNeg (nI 0)) (upd k_tu (((nI 1) <<< ((k_ro (nI 0).toNatClampNeg) &&& 31)) - (nI 1)).toNatClampNeg (nI 0)) hf _ _ hP hD hS ls (lv_sub hl [2, 0] rfl)
theorem hdc_X7_isNext : yX7_isNext.cls ≠ "java/lang/invoke/MethodHandle" ∧ yX7_isNext.cls ≠ "java/lang/invoke/VarHandle" ∧ (parseMethodDescriptor yX7_isNext.desc).map (fun d => d.parameters.length) = some 2 := by decide +kernel
set_option maxHeartbeats 4000000 in
set_option maxRecDepth 100000 in
theorem c_X7_isNext (l : Launch) (D : va_G) (cI cZ cM : ClassId) (k0 k1 k2 k3 k4 k5 k6 k7 : Nat) (k_un : Int32) (k_len : Int32) (k_fi : Int32) (k_be : Int32) (k_to : Int32) (k_cl : Int32) (k_do : Int32) (k_ro : Nat → Int32) (k_ke : Nat → Int32) (k_te : Nat → Int32) (k_nu : Nat → Int32) (k_na : Nat → Int32) (k_no : Nat → Int32) (k_tu : Nat → Int32) (x1 : Int32) (x2 : Int32) (fu : Nat) (r : Int32) (hf : m_X7_isNext fu k_ro k_no k_tu x1 x2 = some r) : Met l yX7_isNext wsX7_isNext ({ frames := 3, cells := 0, slots := 0, locals := 68 }) (pR D cI cZ cM [(k0, .inr (7, [.ref k1, .int k_un, .ref k2, .ref k3, .int k_len, .int k_fi, .int k_be, .int k_to, .int k_cl, .int k_do, .ref k4, .ref k5, .ref k6, .ref k7])), (k1, .inl (cI, 583, .inl k_ro)), (k2, .inl (cZ, 2, .inl k_ke)), (k3, .inl (cI, 200, .inl k_te)), (k4, .inl (cI, 10, .inl k_nu)), (k5, .inl (cI, 48, .inl k_na)), (k6, .inl (cI, 1024, .inl k_no)), (k7, .inl (cI, 1024, .inl k_tu))] [.ref k0, .int x1, .int x2]) (qR r) 0 0 (fun _ => False) := by
  refine Met.ofW (cc := cX7_isNext) (maxL := 3) (ret := (some .boolean)) (by decide) rfl ?_
  intro p e s m args below meth c s₁ B hml hv
  obtain ⟨rfl, hP, hK⟩ := hv
  have hx := B.exec
  have hb := B.bytes
  have hr := B.returns
  have hts := atoms_spec (ws := wsX7_isNext) B.pre
  have hown : s.vm.findClass RX7 = some m.cls := findClass_of_methodNamed B.named
  have hlocks := B.notSynchronized
  have hfl_26 := hts (.fieldLink RX7 26 "TermsFirstModel" "notes" "[I") (List.mem_cons_of_mem _ (List.mem_append_left _ (List.mem_append_left _ (List.mem_of_getElem? (i := 0) rfl))))
  have hfl_29 := hts (.fieldLink RX7 29 "TermsFirstModel" "turns" "[I") (List.mem_cons_of_mem _ (List.mem_append_left _ (List.mem_append_left _ (List.mem_of_getElem? (i := 1) rfl))))
  have hiX7 : ∀ w ∈ u_ws RX7 TX7 14, w ∈ wsX7_isNext := fun _ h => (List.mem_cons_of_mem _ (List.mem_append_right _ h))
  have hl := lv_entry ([.ref k0, .int x1, .int x2]) (n := 3) (Nat.le_of_ble_eq_true rfl)
  rw [lg_entry_eq]
  generalize (lg_sl ([.ref k0, .int x1, .int x2]) ++ List.replicate (3 - (lg_sl ([.ref k0, .int x1, .int x2])).length) Slot.unset).toArray = ls at hl ⊢
  have hl : lv_has ls 3 [(0, .ref k0), (1, .int x1), (2, .int x2)] := hl
  unfold m_X7_isNext at hf
  refine lv_aload_n hx hb dX7_isNext_0 rfl (lv_at hl 0 rfl) ?_
  refine lv_iload_n hx hb dX7_isNext_1 rfl (lv_at hl 1 rfl) ?_
  refine lv_iload_n hx hb dX7_isNext_2 rfl (lv_at hl 2 rfl) ?_
  obtain ⟨rv1, hrv1, hf⟩ := bd hf
  refine roI (va_runV (As := [.int x1, .int x2]) (rest := []) ⟨hx, hb, hml, hown, hts⟩ (c_X7_canStand l D cI cZ cM k0 k1 k2 k3 k4 k5 k6 k7 k_un k_len k_fi k_be k_to k_cl k_do k_ro k_ke k_te k_nu k_na k_no k_tu x1 x2 rv1 hrv1) (cwV 2 hts gX7_isNext_X7_canStand rfl rfl rfl ⟨rfl, hdc_X7_canStand⟩ ⟨Nat.le_of_ble_eq_true rfl, Nat.le_of_ble_eq_true rfl⟩) (prV hK hP [0, 1, 2, 3, 4, 5, 6, 7] rfl (ci := 7) (q0 := 0) rfl rfl) rfl rfl hl.1 rfl (lv_room (Nat.le_of_ble_eq_true rfl)) dX7_isNext_3 ⟨Nat.zero_le _, Nat.zero_le _⟩) ?_
  refine lv_if_eq (tgt := 68) hx hb dX7_isNext_6 (by decide) (fun hc => ?_) (fun hc => ?_)
  · have hf := ifp hc hf
    refine lv_iconst (v := (nI 0)) hx hb dX7_isNext_68 ic_0 ?_
    cases hf
    exact W.zret hx hb hr zbl_0.1 (fun t ht _ => ⟨rfl, ht⟩) (fun _ h => nomatch h) dX7_isNext_69
  · have hf := ifn hc hf
    refine lv_aload_n hx hb dX7_isNext_9 rfl (lv_at hl 0 rfl) ?_
    refine lv_iload_n hx hb dX7_isNext_10 rfl (lv_at hl 1 rfl) ?_
    refine lv_iload_n hx hb dX7_isNext_11 rfl (lv_at hl 2 rfl) ?_
    obtain ⟨rv2, hrv2, hf⟩ := bd hf
    refine roI (va_runV (As := [.int x1, .int x2]) (rest := []) ⟨hx, hb, hml, hown, hts⟩ (c_X7_noted l D cI cZ cM k0 k1 k2 k3 k4 k5 k6 k7 k_un k_len k_fi k_be k_to k_cl k_do k_ro k_ke k_te k_nu k_na k_no k_tu x1 x2 fu rv2 hrv2) (cwV 2 hts gX7_isNext_X7_noted rfl rfl rfl ⟨rfl, hdc_X7_noted⟩ ⟨Nat.le_of_ble_eq_true rfl, Nat.le_of_ble_eq_true rfl⟩) (prV hK hP [0, 1, 2, 3, 4, 5, 6, 7] rfl (ci := 7) (q0 := 0) rfl rfl) rfl rfl hl.1 rfl (lv_room (Nat.le_of_ble_eq_true rfl)) dX7_isNext_12 ⟨Nat.zero_le _, Nat.zero_le _⟩) ?_
    obtain ⟨rv3, hrv3, hf⟩ := bd hf
    refine roI (va_runS (As := [.int rv2]) (rest := []) ⟨hx, hb, hml, hown, hts⟩ (c_X7_ones l D cI cZ cM rv2 fu rv3 hrv3) (va_cwS 1 hts gX7_isNext_X7_ones rfl rfl rfl hdc_X7_ones ⟨Nat.le_of_ble_eq_true rfl, Nat.le_of_ble_eq_true rfl⟩) (prS hK hP [] rfl) rfl rfl hl.1 rfl (lv_room (Nat.le_of_ble_eq_true rfl)) dX7_isNext_15 ⟨Nat.zero_le _, Nat.zero_le _⟩) ?_
    refine lv_aload_n hx hb dX7_isNext_18 rfl (lv_at hl 0 rfl) ?_
    refine va_get (D := D) (ci := 7) (v := .ref k6) (C := RX7) (T := TX7) (N := 14) hx hb hts hiX7 hown hK.1 hP 0 rfl rfl 12 (by decide) hfl_26 (fun _ h9 => h9) rfl dX7_isNext_19 ?_
    refine lv_iload_n hx hb dX7_isNext_22 rfl (lv_at hl 2 rfl) ?_
    refine lv_iconst (v := (nI 1)) hx hb dX7_isNext_23 ic_1 ?_
    refine lv_iload_n hx hb dX7_isNext_24 rfl (lv_at hl 1 rfl) ?_
    refine lv_ishl hx hb dX7_isNext_25 ?_
    refine lv_ior hx hb dX7_isNext_26 ?_
    obtain ⟨hi, hf⟩ := gd_some hf
    refine va_iald hx hb hK.1 hP 6 0 rfl rfl hi dX7_isNext_27 ?_
    refine lv_iadd hx hb dX7_isNext_28 ?_
    refine lv_aload_n hx hb dX7_isNext_29 rfl (lv_at hl 0 rfl) ?_
    refine va_get (D := D) (ci := 7) (v := .ref k6) (C := RX7) (T := TX7) (N := 14) hx hb hts hiX7 hown hK.1 hP 0 rfl rfl 12 (by decide) hfl_26 (fun _ h9 => h9) rfl dX7_isNext_30 ?_
    refine lv_iload_n hx hb dX7_isNext_33 rfl (lv_at hl 2 rfl) ?_
    obtain ⟨hi, hf⟩ := gd_some hf
    refine va_iald hx hb hK.1 hP 6 0 rfl rfl hi dX7_isNext_34 ?_
    refine lv_icmp_ne (tgt := 68) hx hb dX7_isNext_35 (by decide) (fun hc => ?_) (fun hc => ?_)
    · have hf := ifn hc hf
      refine lv_iconst (v := (nI 0)) hx hb dX7_isNext_68 ic_0 ?_
      cases hf
      exact W.zret hx hb hr zbl_0.1 (fun t ht _ => ⟨rfl, ht⟩) (fun _ h => nomatch h) dX7_isNext_69
    · have hf := ifp hc hf
      refine lv_aload_n hx hb dX7_isNext_38 rfl (lv_at hl 0 rfl) ?_
      refine lv_iload_n hx hb dX7_isNext_39 rfl (lv_at hl 1 rfl) ?_
      refine lv_iload_n hx hb dX7_isNext_40 rfl (lv_at hl 2 rfl) ?_
      obtain ⟨rv4, hrv4, hf⟩ := bd hf
      refine roI (va_runV (As := [.int x1, .int x2]) (rest := []) ⟨hx, hb, hml, hown, hts⟩ (c_X7_turned l D cI cZ cM k0 k1 k2 k3 k4 k5 k6 k7 k_un k_len k_fi k_be k_to k_cl k_do k_ro k_ke k_te k_nu k_na k_no k_tu x1 x2 fu rv4 hrv4) (cwV 2 hts gX7_isNext_X7_turned rfl rfl rfl ⟨rfl, hdc_X7_turned⟩ ⟨Nat.le_of_ble_eq_true rfl, Nat.le_of_ble_eq_true rfl⟩) (prV hK hP [0, 1, 2, 3, 4, 5, 6, 7] rfl (ci := 7) (q0 := 0) rfl rfl) rfl rfl hl.1 rfl (lv_room (Nat.le_of_ble_eq_true rfl)) dX7_isNext_41 ⟨Nat.zero_le _, Nat.zero_le _⟩) ?_
      refine lv_aload_n hx hb dX7_isNext_44 rfl (lv_at hl 0 rfl) ?_
      refine va_get (D := D) (ci := 7) (v := .ref k7) (C := RX7) (T := TX7) (N := 14) hx hb hts hiX7 hown hK.1 hP 0 rfl rfl 13 (by decide) hfl_29 (fun _ h9 => h9) rfl dX7_isNext_45 ?_
      refine lv_iload_n hx hb dX7_isNext_48 rfl (lv_at hl 2 rfl) ?_
      refine lv_iconst (v := (nI 1)) hx hb dX7_isNext_49 ic_1 ?_
      refine lv_iload_n hx hb dX7_isNext_50 rfl (lv_at hl 1 rfl) ?_
      refine lv_ishl hx hb dX7_isNext_51 ?_
      refine lv_ior hx hb dX7_isNext_52 ?_
      obtain ⟨hi, hf⟩ := gd_some hf
      refine va_iald hx hb hK.1 hP 7 0 rfl rfl hi dX7_isNext_53 ?_
      refine lv_iadd hx hb dX7_isNext_54 ?_
      refine lv_aload_n hx hb dX7_isNext_55 rfl (lv_at hl 0 rfl) ?_
      refine va_get (D := D) (ci := 7) (v := .ref k7) (C := RX7) (T := TX7) (N := 14) hx hb hts hiX7 hown hK.1 hP 0 rfl rfl 13 (by decide) hfl_29 (fun _ h9 => h9) rfl dX7_isNext_56 ?_
      refine lv_iload_n hx hb dX7_isNext_59 rfl (lv_at hl 2 rfl) ?_
      obtain ⟨hi, hf⟩ := gd_some hf
      refine va_iald hx hb hK.1 hP 7 0 rfl rfl hi dX7_isNext_60 ?_
      refine lv_icmp_ne (tgt := 68) hx hb dX7_isNext_61 (by decide) (fun hc => ?_) (fun hc => ?_)
      · have hf := ifn hc hf
        refine lv_iconst (v := (nI 0)) hx hb dX7_isNext_68 ic_0 ?_
        cases hf
        exact W.zret hx hb hr zbl_0.1 (fun t ht _ => ⟨rfl, ht⟩) (fun _ h => nomatch h) dX7_isNext_69
      · have hf := ifp hc hf
        refine lv_iconst (v := (nI 1)) hx hb dX7_isNext_64 ic_1 ?_
        refine lv_goto (tgt := 69) hx hb dX7_isNext_65 (by decide) ?_
        cases hf
        exact W.zret hx hb hr zbl_1.1 (fun t ht _ => ⟨rfl, ht⟩) (fun _ h => nomatch h) dX7_isNext_69
theorem hdc_X7_lays : yX7_lays.cls ≠ "java/lang/invoke/MethodHandle" ∧ yX7_lays.cls ≠ "java/lang/invoke/VarHandle" ∧ (parseMethodDescriptor yX7_lays.desc).map (fun d => d.parameters.length) = some 0 := by decide +kernel
set_option maxHeartbeats 4000000 in
set_option maxRecDepth 100000 in
theorem c_X7_lays (l : Launch) (D : va_G) (cI cZ cM : ClassId) (k0 k1 k2 k3 k4 k5 k6 k7 : Nat) (sz : Nat) (k_un : Int32) (k_len : Int32) (k_fi : Int32) (k_be : Int32) (k_to : Int32) (k_cl : Int32) (k_do : Int32) (k_ro : Nat → Int32) (k_ke : Nat → Int32) (k_te : Nat → Int32) (k_nu : Nat → Int32) (k_na : Nat → Int32) (k_no : Nat → Int32) (k_tu : Nat → Int32) (fu : Nat) (k_nu' : Nat → Int32) (k_no' : Nat → Int32) (k_tu' : Nat → Int32) (hf : m_X7_lays fu k_ro k_nu k_no k_tu = some (k_nu', k_no', k_tu')) : Met l yX7_lays wsX7_lays ({ frames := 4, cells := 0, slots := 0, locals := 94 }) (pM D cI cZ cM sz [(k0, .inr (7, [.ref k1, .int k_un, .ref k2, .ref k3, .int k_len, .int k_fi, .int k_be, .int k_to, .int k_cl, .int k_do, .ref k4, .ref k5, .ref k6, .ref k7])), (k1, .inl (cI, 583, .inl k_ro)), (k2, .inl (cZ, 2, .inl k_ke)), (k3, .inl (cI, 200, .inl k_te)), (k4, .inl (cI, 10, .inl k_nu)), (k5, .inl (cI, 48, .inl k_na)), (k6, .inl (cI, 1024, .inl k_no)), (k7, .inl (cI, 1024, .inl k_tu))] [.ref k0]) (qV D [(k0, .inr (7, [.ref k1, .int k_un, .ref k2, .ref k3, .int k_len, .int k_fi, .int k_be, .int k_to, .int k_cl, .int k_do, .ref k4, .ref k5, .ref k6, .ref k7])), (k1, .inl (cI, 583, .inl k_ro)), (k2, .inl (cZ, 2, .inl k_ke)), (k3, .inl (cI, 200, .inl k_te)), (k4, .inl (cI, 10, .inl k_nu')), (k5, .inl (cI, 48, .inl k_na)), (k6, .inl (cI, 1024, .inl k_no')), (k7, .inl (cI, 1024, .inl k_tu'))] (va_A [(k0, .inr (7, [.ref k1, .int k_un, .ref k2, .ref k3, .int k_len, .int k_fi, .int k_be, .int k_to, .int k_cl, .int k_do, .ref k4, .ref k5, .ref k6, .ref k7])), (k1, .inl (cI, 583, .inl k_ro)), (k2, .inl (cZ, 2, .inl k_ke)), (k3, .inl (cI, 200, .inl k_te)), (k4, .inl (cI, 10, .inl k_nu)), (k5, .inl (cI, 48, .inl k_na)), (k6, .inl (cI, 1024, .inl k_no)), (k7, .inl (cI, 1024, .inl k_tu))] sz)) 0 0 (va_A [(k0, .inr (7, [.ref k1, .int k_un, .ref k2, .ref k3, .int k_len, .int k_fi, .int k_be, .int k_to, .int k_cl, .int k_do, .ref k4, .ref k5, .ref k6, .ref k7])), (k1, .inl (cI, 583, .inl k_ro)), (k2, .inl (cZ, 2, .inl k_ke)), (k3, .inl (cI, 200, .inl k_te)), (k4, .inl (cI, 10, .inl k_nu)), (k5, .inl (cI, 48, .inl k_na)), (k6, .inl (cI, 1024, .inl k_no)), (k7, .inl (cI, 1024, .inl k_tu))] sz) := by
  refine Met.ofW (cc := cX7_lays) (maxL := 4) (ret := none) (by decide) rfl ?_
  intro p e s m args below meth c s₁ B hml hv
  obtain ⟨rfl, hsz, hP, hK, hD0⟩ := hv
  have hx := B.exec
  have hb := B.bytes
  have hr := B.returns
  have hts := atoms_spec (ws := wsX7_lays) B.pre
  have hown : s.vm.findClass RX7 = some m.cls := findClass_of_methodNamed B.named
  have hlocks := B.notSynchronized
  subst hsz
  have hD := hD0.self (sz := s.heap.size)
  generalize hAe : va_A [(k0, .inr (7, [.ref k1, .int k_un, .ref k2, .ref k3, .int k_len, .int k_fi, .int k_be, .int k_to, .int k_cl, .int k_do, .ref k4, .ref k5, .ref k6, .ref k7])), (k1, .inl (cI, 583, .inl k_ro)), (k2, .inl (cZ, 2, .inl k_ke)), (k3, .inl (cI, 200, .inl k_te)), (k4, .inl (cI, 10, .inl k_nu)), (k5, .inl (cI, 48, .inl k_na)), (k6, .inl (cI, 1024, .inl k_no)), (k7, .inl (cI, 1024, .inl k_tu))] s.heap.size = A at hD ⊢
  have hA : ∀ q : Nat, s.heap.size ≤ q → A q := fun q h => by rw [← hAe]; exact Or.inr h
  clear hAe hD0
  have hfl_7 := hts (.fieldLink RX7 7 "TermsFirstModel" "rows" "[I") (List.mem_cons_of_mem _ (List.mem_append_left _ (List.mem_append_left _ (List.mem_of_getElem? (i := 0) rfl))))
  have hfl_20 := hts (.fieldLink RX7 20 "TermsFirstModel" "numbers" "[I") (List.mem_cons_of_mem _ (List.mem_append_left _ (List.mem_append_left _ (List.mem_of_getElem? (i := 1) rfl))))
  have hiX7 : ∀ w ∈ u_ws RX7 TX7 14, w ∈ wsX7_lays := fun _ h => (List.mem_cons_of_mem _ (List.mem_append_right _ h))
  have hB_20 : ∀ (x1 : Int32) (x2 : Int32) (k_nu : Nat → Int32) (k_no : Nat → Int32) (k_tu : Nat → Int32) (kt8 : (Nat → Int32) → Int32 → Int32 → Option ((Nat → Int32) × (Nat → Int32) × (Nat → Int32))) (hkt8 : ∀ (x1 : Int32) (x2 : Int32) (k_nu : Nat → Int32), kt8 k_nu x1 x2 = some (k_nu', k_no', k_tu') → ∀ (H : Heap) (locs : List Loc), va_P D vwCl [(k0, .inr (7, [.ref k1, .int k_un, .ref k2, .ref k3, .int k_len, .int k_fi, .int k_be, .int k_to, .int k_cl, .int k_do, .ref k4, .ref k5, .ref k6, .ref k7])), (k1, .inl (cI, 583, .inl k_ro)), (k2, .inl (cZ, 2, .inl k_ke)), (k3, .inl (cI, 200, .inl k_te)), (k4, .inl (cI, 10, .inl k_nu)), (k5, .inl (cI, 48, .inl k_na)), (k6, .inl (cI, 1024, .inl k_no)), (k7, .inl (cI, 1024, .inl k_tu))] H → va_D A [(k0, .inr (7, [.ref k1, .int k_un, .ref k2, .ref k3, .int k_len, .int k_fi, .int k_be, .int k_to, .int k_cl, .int k_do, .ref k4, .ref k5, .ref k6, .ref k7])), (k1, .inl (cI, 583, .inl k_ro)), (k2, .inl (cZ, 2, .inl k_ke)), (k3, .inl (cI, 200, .inl k_te)), (k4, .inl (cI, 10, .inl k_nu)), (k5, .inl (cI, 48, .inl k_na)), (k6, .inl (cI, 1024, .inl k_no)), (k7, .inl (cI, 1024, .inl k_tu))] → va_S A s.heap H locs → ∀ ls : Array Slot, lv_has ls 4 [(0, .ref k0), (1, .int x1), (2, .int x2)] → W p l e (headSpec wsX7_lays { frames := 4, cells := 0, slots := 0, locals := 94 }).room s m ([.ref k0] : List Value).toArray below meth c H locs 0 0 (MQ below (qV D [(k0, .inr (7, [.ref k1, .int k_un, .ref k2, .ref k3, .int k_len, .int k_fi, .int k_be, .int k_to, .int k_cl, .int k_do, .ref k4, .ref k5, .ref k6, .ref k7])), (k1, .inl (cI, 583, .inl k_ro)), (k2, .inl (cZ, 2, .inl k_ke)), (k3, .inl (cI, 200, .inl k_te)), (k4, .inl (cI, 10, .inl k_nu')), (k5, .inl (cI, 48, .inl k_na)), (k6, .inl (cI, 1024, .inl k_no')), (k7, .inl (cI, 1024, .inl k_tu'))] A) ([.ref k0] : List Value).toArray s 0 0 A) (F0 m 8 ls [])) (fn : Nat) (x3 : Int32), m_X7_lays_20 fu k_ro k_nu k_no k_tu x1 x2 kt8 fn x3 = some (k_nu', k_no', k_tu') → ∀ (H : Heap) (locs : List Loc), va_P D vwCl [(k0, .inr (7, [.ref k1, .int k_un, .ref k2, .ref k3, .int k_len, .int k_fi, .int k_be, .int k_to, .int k_cl, .int k_do, .ref k4, .ref k5, .ref k6, .ref k7])), (k1, .inl (cI, 583, .inl k_ro)), (k2, .inl (cZ, 2, .inl k_ke)), (k3, .inl (cI, 200, .inl k_te)), (k4, .inl (cI, 10, .inl k_nu)), (k5, .inl (cI, 48, .inl k_na)), (k6, .inl (cI, 1024, .inl k_no)), (k7, .inl (cI, 1024, .inl k_tu))] H → va_D A [(k0, .inr (7, [.ref k1, .int k_un, .ref k2, .ref k3, .int k_len, .int k_fi, .int k_be, .int k_to, .int k_cl, .int k_do, .ref k4, .ref k5, .ref k6, .ref k7])), (k1, .inl (cI, 583, .inl k_ro)), (k2, .inl (cZ, 2, .inl k_ke)), (k3, .inl (cI, 200, .inl k_te)), (k4, .inl (cI, 10, .inl k_nu)), (k5, .inl (cI, 48, .inl k_na)), (k6, .inl (cI, 1024, .inl k_no)), (k7, .inl (cI, 1024, .inl k_tu))] → va_S A s.heap H locs → ∀ ls : Array Slot, lv_has ls 4 [(0, .ref k0), (1, .int x1), (2, .int x2), (3, .int x3)] → W p l e (headSpec wsX7_lays { frames := 4, cells := 0, slots := 0, locals := 94 }).room s m ([.ref k0] : List Value).toArray below meth c H locs 0 0 (MQ below (qV D [(k0, .inr (7, [.ref k1, .int k_un, .ref k2, .ref k3, .int k_len, .int k_fi, .int k_be, .int k_to, .int k_cl, .int k_do, .ref k4, .ref k5, .ref k6, .ref k7])), (k1, .inl (cI, 583, .inl k_ro)), (k2, .inl (cZ, 2, .inl k_ke)), (k3, .inl (cI, 200, .inl k_te)), (k4, .inl (cI, 10, .inl k_nu')), (k5, .inl (cI, 48, .inl k_na)), (k6, .inl (cI, 1024, .inl k_no')), (k7, .inl (cI, 1024, .inl k_tu'))] A) ([.ref k0] : List Value).toArray s 0 0 A) (F0 m 20 ls []) := by
    intro x1 x2 k_nu k_no k_tu kt8 hkt8 fn
    induction fn with
    | zero => intro x3 hf; rw [m_X7_lays_20] at hf; cases hf
    | succ fn ih =>
      intro x3 hf H locs hP hD hS ls hl
      rw [m_X7_lays_20] at hf
      refine lv_aload_n hx hb dX7_lays_20 rfl (lv_at hl 0 rfl) ?_
      refine lv_aload_n hx hb dX7_lays_21 rfl (lv_at hl 0 rfl) ?_
      refine va_get (D := D) (ci := 7) (v := .ref k1) (C := RX7) (T := TX7) (N := 14) hx hb hts hiX7 hown hK.1 hP 0 rfl rfl 0 (by decide) hfl_7 (fun _ h9 => h9) rfl dX7_lays_22 ?_
      refine lv_bipush (v := (nI 33)) hx hb dX7_lays_25 bp_33 ?_
      refine lv_iload_n hx hb dX7_lays_27 rfl (lv_at hl 3 rfl) ?_
      refine lv_iadd hx hb dX7_lays_28 ?_
      obtain ⟨hi, hf⟩ := gd_some hf
      refine va_iald hx hb hK.1 hP 1 0 rfl rfl hi dX7_lays_29 ?_
      refine lv_iload_n hx hb dX7_lays_30 rfl (lv_at hl 1 rfl) ?_
      obtain ⟨rv2, hrv2, hf⟩ := bd hf
      refine roI (va_runV (As := [.int (k_ro ((nI 33) + x3).toNatClampNeg), .int x1]) (rest := []) ⟨hx, hb, hml, hown, hts⟩ (c_X7_isNext l D cI cZ cM k0 k1 k2 k3 k4 k5 k6 k7 k_un k_len k_fi k_be k_to k_cl k_do k_ro k_ke k_te k_nu k_na k_no k_tu (k_ro ((nI 33) + x3).toNatClampNeg) x1 fu rv2 hrv2) (cwV 2 hts gX7_lays_X7_isNext rfl rfl rfl ⟨rfl, hdc_X7_isNext⟩ ⟨Nat.le_of_ble_eq_true rfl, Nat.le_of_ble_eq_true rfl⟩) (prV hK hP [0, 1, 2, 3, 4, 5, 6, 7] rfl (ci := 7) (q0 := 0) rfl rfl) rfl rfl hl.1 rfl (lv_room (Nat.le_of_ble_eq_true rfl)) dX7_lays_31 ⟨Nat.zero_le _, Nat.zero_le _⟩) ?_
      refine lv_if_ne (tgt := 43) hx hb dX7_lays_34 (by decide) (fun hc => ?_) (fun hc => ?_)
      · have hf := ifn hc hf
        refine lv_aload_n hx hb dX7_lays_43 rfl (lv_at hl 0 rfl) ?_
        refine va_get (D := D) (ci := 7) (v := .ref k4) (C := RX7) (T := TX7) (N := 14) hx hb hts hiX7 hown hK.1 hP 0 rfl rfl 10 (by decide) hfl_20 (fun _ h9 => h9) rfl dX7_lays_44 ?_
        refine lv_iload_n hx hb dX7_lays_47 rfl (lv_at hl 2 rfl) ?_
        refine lv_aload_n hx hb dX7_lays_48 rfl (lv_at hl 0 rfl) ?_
        refine va_get (D := D) (ci := 7) (v := .ref k1) (C := RX7) (T := TX7) (N := 14) hx hb hts hiX7 hown hK.1 hP 0 rfl rfl 0 (by decide) hfl_7 (fun _ h9 => h9) rfl dX7_lays_49 ?_
        refine lv_bipush (v := (nI 33)) hx hb dX7_lays_52 bp_33 ?_
        refine lv_iload_n hx hb dX7_lays_54 rfl (lv_at hl 3 rfl) ?_
        refine lv_iadd hx hb dX7_lays_55 ?_
        obtain ⟨hi, hf⟩ := gd_some hf
        refine va_iald hx hb hK.1 hP 1 0 rfl rfl hi dX7_lays_56 ?_
        obtain ⟨hi, hf⟩ := gd_some hf
        refine va_iast hx hb hK.1 hP hD hS 4 0 rfl rfl hi dX7_lays_57 (fun H locs hP hD hS => ?_)
        have hP : va_P D vwCl [(k0, .inr (7, [.ref k1, .int k_un, .ref k2, .ref k3, .int k_len, .int k_fi, .int k_be, .int k_to, .int k_cl, .int k_do, .ref k4, .ref k5, .ref k6, .ref k7])), (k1, .inl (cI, 583, .inl k_ro)), (k2, .inl (cZ, 2, .inl k_ke)), (k3, .inl (cI, 200, .inl k_te)), (k4, .inl (cI, 10, .inl (upd k_nu x2.toNatClampNeg (k_ro ((nI 33) + x3).toNatClampNeg)))), (k5, .inl (cI, 48, .inl k_na)), (k6, .inl (cI, 1024, .inl k_no)), (k7, .inl (cI, 1024, .inl k_tu))] H := hP
        have hD : va_D A [(k0, .inr (7, [.ref k1, .int k_un, .ref k2, .ref k3, .int k_len, .int k_fi, .int k_be, .int k_to, .int k_cl, .int k_do, .ref k4, .ref k5, .ref k6, .ref k7])), (k1, .inl (cI, 583, .inl k_ro)), (k2, .inl (cZ, 2, .inl k_ke)), (k3, .inl (cI, 200, .inl k_te)), (k4, .inl (cI, 10, .inl (upd k_nu x2.toNatClampNeg (k_ro ((nI 33) + x3).toNatClampNeg)))), (k5, .inl (cI, 48, .inl k_na)), (k6, .inl (cI, 1024, .inl k_no)), (k7, .inl (cI, 1024, .inl k_tu))] := hD
        refine lv_iload_n hx hb dX7_lays_58 rfl (lv_at hl 1 rfl) ?_
        refine lv_iconst (v := (nI 1)) hx hb dX7_lays_59 ic_1 ?_
        refine lv_aload_n hx hb dX7_lays_60 rfl (lv_at hl 0 rfl) ?_
        refine va_get (D := D) (ci := 7) (v := .ref k4) (C := RX7) (T := TX7) (N := 14) hx hb hts hiX7 hown hK.1 hP 0 rfl rfl 10 (by decide) hfl_20 (fun _ h9 => h9) rfl dX7_lays_61 ?_
        refine lv_iload_n hx hb dX7_lays_64 rfl (lv_at hl 2 rfl) ?_
        obtain ⟨hi, hf⟩ := gd_some hf
        refine va_iald hx hb hK.1 hP 4 0 rfl rfl hi dX7_lays_65 ?_
        refine lv_ishl hx hb dX7_lays_66 ?_
        refine lv_ior hx hb dX7_lays_67 ?_
        refine lv_topi (fun nv3 env3 => ?_)
        have hf := nmE env3 hf
        refine lv_istore_n (lv' := [(1, .int nv3), (0, .ref k0), (2, .int x2), (3, .int x3)]) hx hb dX7_lays_68 rfl hl (by decide) rfl (fun ls hl => ?_)
        refine lv_iinc (v := (x2 + (nI 1))) (lv' := [(2, .int (x2 + (nI 1))), (1, .int nv3), (0, .ref k0), (3, .int x3)]) hx hb dX7_lays_69 hl (k := 2) rfl (ii_1 _) (by decide) rfl (fun ls hl => ?_)
        refine lv_goto (tgt := 8) hx hb dX7_lays_72 (by decide) ?_
        exact hkt8 nv3 (x2 + (nI 1)) (upd k_nu x2.toNatClampNeg (k_ro ((nI 33) + x3).toNatClampNeg)) hf _ _ hP hD hS ls (lv_sub hl [2, 1, 0] rfl)
      · have hf := ifp hc hf
        refine lv_iinc (v := (x3 + (nI 1))) (lv' := [(3, .int (x3 + (nI 1))), (0, .ref k0), (1, .int x1), (2, .int x2)]) hx hb dX7_lays_37 hl (k := 3) rfl (ii_1 _) (by decide) rfl (fun ls hl => ?_)
        refine lv_goto (tgt := 20) hx hb dX7_lays_40 (by decide) ?_
        exact ih (x3 + (nI 1)) hf _ _ hP hD hS ls (lv_sub hl [1, 2, 3, 0] rfl)
  have hB_8 : ∀ (k_no : Nat → Int32) (k_tu : Nat → Int32) (fn : Nat) (x1 : Int32) (x2 : Int32) (k_nu : Nat → Int32), m_X7_lays_8 fu k_ro k_no k_tu fn k_nu x1 x2 = some (k_nu', k_no', k_tu') → ∀ (H : Heap) (locs : List Loc), va_P D vwCl [(k0, .inr (7, [.ref k1, .int k_un, .ref k2, .ref k3, .int k_len, .int k_fi, .int k_be, .int k_to, .int k_cl, .int k_do, .ref k4, .ref k5, .ref k6, .ref k7])), (k1, .inl (cI, 583, .inl k_ro)), (k2, .inl (cZ, 2, .inl k_ke)), (k3, .inl (cI, 200, .inl k_te)), (k4, .inl (cI, 10, .inl k_nu)), (k5, .inl (cI, 48, .inl k_na)), (k6, .inl (cI, 1024, .inl k_no)), (k7, .inl (cI, 1024, .inl k_tu))] H → va_D A [(k0, .inr (7, [.ref k1, .int k_un, .ref k2, .ref k3, .int k_len, .int k_fi, .int k_be, .int k_to, .int k_cl, .int k_do, .ref k4, .ref k5, .ref k6, .ref k7])), (k1, .inl (cI, 583, .inl k_ro)), (k2, .inl (cZ, 2, .inl k_ke)), (k3, .inl (cI, 200, .inl k_te)), (k4, .inl (cI, 10, .inl k_nu)), (k5, .inl (cI, 48, .inl k_na)), (k6, .inl (cI, 1024, .inl k_no)), (k7, .inl (cI, 1024, .inl k_tu))] → va_S A s.heap H locs → ∀ ls : Array Slot, lv_has ls 4 [(0, .ref k0), (1, .int x1), (2, .int x2)] → W p l e (headSpec wsX7_lays { frames := 4, cells := 0, slots := 0, locals := 94 }).room s m ([.ref k0] : List Value).toArray below meth c H locs 0 0 (MQ below (qV D [(k0, .inr (7, [.ref k1, .int k_un, .ref k2, .ref k3, .int k_len, .int k_fi, .int k_be, .int k_to, .int k_cl, .int k_do, .ref k4, .ref k5, .ref k6, .ref k7])), (k1, .inl (cI, 583, .inl k_ro)), (k2, .inl (cZ, 2, .inl k_ke)), (k3, .inl (cI, 200, .inl k_te)), (k4, .inl (cI, 10, .inl k_nu')), (k5, .inl (cI, 48, .inl k_na)), (k6, .inl (cI, 1024, .inl k_no')), (k7, .inl (cI, 1024, .inl k_tu'))] A) ([.ref k0] : List Value).toArray s 0 0 A) (F0 m 8 ls []) := by
    intro k_no k_tu fn
    induction fn with
    | zero => intro x1 x2 k_nu hf; rw [m_X7_lays_8] at hf; cases hf
    | succ fn ih =>
      intro x1 x2 k_nu hf H locs hP hD hS ls hl
      rw [m_X7_lays_8] at hf
      refine lv_iload_n hx hb dX7_lays_8 rfl (lv_at hl 2 rfl) ?_
      refine lv_aload_n hx hb dX7_lays_9 rfl (lv_at hl 0 rfl) ?_
      refine va_get (D := D) (ci := 7) (v := .ref k1) (C := RX7) (T := TX7) (N := 14) hx hb hts hiX7 hown hK.1 hP 0 rfl rfl 0 (by decide) hfl_7 (fun _ h9 => h9) rfl dX7_lays_10 ?_
      refine lv_iconst (v := (nI 0)) hx hb dX7_lays_13 ic_0 ?_
      obtain ⟨hi, hf⟩ := gd_some hf
      refine va_iald hx hb hK.1 hP 1 0 rfl rfl hi dX7_lays_14 ?_
      refine lv_icmp_ge (tgt := 75) hx hb dX7_lays_15 (by decide) (fun hc => ?_) (fun hc => ?_)
      · have hf := ifp hc hf
        cases hf
        exact W.vret hx hb hr (fun t ht _ => ⟨⟨rfl, by rw [ht]; exact hP, hD⟩, hS.F ht⟩) hS.2.2 dX7_lays_75
      · have hf := ifn hc hf
        refine lv_iconst (v := (nI 0)) hx hb dX7_lays_18 ic_0 ?_
        refine lv_istore_n (lv' := [(3, .int (nI 0)), (0, .ref k0), (1, .int x1), (2, .int x2)]) hx hb dX7_lays_19 rfl hl (by decide) rfl (fun ls hl => ?_)
        exact hB_20 x1 x2 k_nu k_no k_tu _ ih fu (nI 0) hf _ _ hP hD hS ls (lv_sub hl [1, 2, 3, 0] rfl)
  have hl := lv_entry ([.ref k0]) (n := 4) (Nat.le_of_ble_eq_true rfl)
  rw [lg_entry_eq]
  generalize (lg_sl ([.ref k0]) ++ List.replicate (4 - (lg_sl ([.ref k0])).length) Slot.unset).toArray = ls at hl ⊢
  have hl : lv_has ls 4 [(0, .ref k0)] := hl
  have hS : va_S A s.heap s.heap [] := va_S.rf
  unfold m_X7_lays at hf
  refine lv_aload_n hx hb dX7_lays_0 rfl (lv_at hl 0 rfl) ?_
  obtain ⟨rv1, hrv1, hf⟩ := bd hf
  refine muV0 (wr := []) (va_runV (As := []) (rest := []) ⟨hx, hb, hml, hown, hts⟩ (c_X7_finds l D cI cZ cM k0 k1 k2 k3 k4 k5 k6 k7 _ k_un k_len k_fi k_be k_to k_cl k_do k_ro k_ke k_te k_nu k_na k_no k_tu fu rv1.1 rv1.2 hrv1) (cwV 0 hts gX7_lays_X7_finds rfl rfl rfl ⟨rfl, hdc_X7_finds⟩ ⟨Nat.le_of_ble_eq_true rfl, Nat.le_of_ble_eq_true rfl⟩) (pmV hK hP hD [0, 1, 2, 3, 4, 5, 6, 7] (by decide) rfl rfl (ci := 7) (q0 := 0) rfl rfl) rfl rfl hl.1 rfl (lv_room (Nat.le_of_ble_eq_true rfl)) dX7_lays_1 ⟨Nat.zero_le _, Nat.zero_le _⟩) hP hD hS hA [0, 1, 2, 3, 4, 5, 6, 7] [] rfl rfl (by decide) (by decide) (fun H locs hP hD hS => ?_)
  have hP : va_P D vwCl [(k0, .inr (7, [.ref k1, .int k_un, .ref k2, .ref k3, .int k_len, .int k_fi, .int k_be, .int k_to, .int k_cl, .int k_do, .ref k4, .ref k5, .ref k6, .ref k7])), (k1, .inl (cI, 583, .inl k_ro)), (k2, .inl (cZ, 2, .inl k_ke)), (k3, .inl (cI, 200, .inl k_te)), (k4, .inl (cI, 10, .inl k_nu)), (k5, .inl (cI, 48, .inl k_na)), (k6, .inl (cI, 1024, .inl rv1.1)), (k7, .inl (cI, 1024, .inl rv1.2))] H := hP
  have hD : va_D A [(k0, .inr (7, [.ref k1, .int k_un, .ref k2, .ref k3, .int k_len, .int k_fi, .int k_be, .int k_to, .int k_cl, .int k_do, .ref k4, .ref k5, .ref k6, .ref k7])), (k1, .inl (cI, 583, .inl k_ro)), (k2, .inl (cZ, 2, .inl k_ke)), (k3, .inl (cI, 200, .inl k_te)), (k4, .inl (cI, 10, .inl k_nu)), (k5, .inl (cI, 48, .inl k_na)), (k6, .inl (cI, 1024, .inl rv1.1)), (k7, .inl (cI, 1024, .inl rv1.2))] := hD
  refine lv_iconst (v := (nI 0)) hx hb dX7_lays_4 ic_0 ?_
  refine lv_istore_n (lv' := [(1, .int (nI 0)), (0, .ref k0)]) hx hb dX7_lays_5 rfl hl (by decide) rfl (fun ls hl => ?_)
  refine lv_iconst (v := (nI 0)) hx hb dX7_lays_6 ic_0 ?_
  refine lv_istore_n (lv' := [(2, .int (nI 0)), (1, .int (nI 0)), (0, .ref k0)]) hx hb dX7_lays_7 rfl hl (by decide) rfl (fun ls hl => ?_)
  exact hB_8 rv1.1 rv1.2 fu (nI 0) (nI 0) k_nu hf _ _ hP hD hS ls (lv_sub hl [2, 1, 0] rfl)
theorem hdc_X7_best : yX7_best.cls ≠ "java/lang/invoke/MethodHandle" ∧ yX7_best.cls ≠ "java/lang/invoke/VarHandle" ∧ (parseMethodDescriptor yX7_best.desc).map (fun d => d.parameters.length) = some 1 := by decide +kernel
set_option maxHeartbeats 4000000 in
set_option maxRecDepth 100000 in
theorem c_X7_best (l : Launch) (D : va_G) (cI cZ cM : ClassId) (k0 k1 k2 k3 k4 k5 k6 k7 : Nat) (sz : Nat) (k_un : Int32) (k_len : Int32) (k_fi : Int32) (k_be : Int32) (k_to : Int32) (k_cl : Int32) (k_do : Int32) (k_ro : Nat → Int32) (k_ke : Nat → Int32) (k_te : Nat → Int32) (k_nu : Nat → Int32) (k_na : Nat → Int32) (k_no : Nat → Int32) (k_tu : Nat → Int32) (x1 : Int32) (fu : Nat) (r : Int32) (k_nu' : Nat → Int32) (k_no' : Nat → Int32) (k_tu' : Nat → Int32) (hf : m_X7_best fu k_ro k_nu k_no k_tu x1 = some (r, k_nu', k_no', k_tu')) : Met l yX7_best wsX7_best ({ frames := 5, cells := 0, slots := 0, locals := 117 }) (pM D cI cZ cM sz [(k0, .inr (7, [.ref k1, .int k_un, .ref k2, .ref k3, .int k_len, .int k_fi, .int k_be, .int k_to, .int k_cl, .int k_do, .ref k4, .ref k5, .ref k6, .ref k7])), (k1, .inl (cI, 583, .inl k_ro)), (k2, .inl (cZ, 2, .inl k_ke)), (k3, .inl (cI, 200, .inl k_te)), (k4, .inl (cI, 10, .inl k_nu)), (k5, .inl (cI, 48, .inl k_na)), (k6, .inl (cI, 1024, .inl k_no)), (k7, .inl (cI, 1024, .inl k_tu))] [.ref k0, .int x1]) (qI D r [(k0, .inr (7, [.ref k1, .int k_un, .ref k2, .ref k3, .int k_len, .int k_fi, .int k_be, .int k_to, .int k_cl, .int k_do, .ref k4, .ref k5, .ref k6, .ref k7])), (k1, .inl (cI, 583, .inl k_ro)), (k2, .inl (cZ, 2, .inl k_ke)), (k3, .inl (cI, 200, .inl k_te)), (k4, .inl (cI, 10, .inl k_nu')), (k5, .inl (cI, 48, .inl k_na)), (k6, .inl (cI, 1024, .inl k_no')), (k7, .inl (cI, 1024, .inl k_tu'))] (va_A [(k0, .inr (7, [.ref k1, .int k_un, .ref k2, .ref k3, .int k_len, .int k_fi, .int k_be, .int k_to, .int k_cl, .int k_do, .ref k4, .ref k5, .ref k6, .ref k7])), (k1, .inl (cI, 583, .inl k_ro)), (k2, .inl (cZ, 2, .inl k_ke)), (k3, .inl (cI, 200, .inl k_te)), (k4, .inl (cI, 10, .inl k_nu)), (k5, .inl (cI, 48, .inl k_na)), (k6, .inl (cI, 1024, .inl k_no)), (k7, .inl (cI, 1024, .inl k_tu))] sz)) 0 0 (va_A [(k0, .inr (7, [.ref k1, .int k_un, .ref k2, .ref k3, .int k_len, .int k_fi, .int k_be, .int k_to, .int k_cl, .int k_do, .ref k4, .ref k5, .ref k6, .ref k7])), (k1, .inl (cI, 583, .inl k_ro)), (k2, .inl (cZ, 2, .inl k_ke)), (k3, .inl (cI, 200, .inl k_te)), (k4, .inl (cI, 10, .inl k_nu)), (k5, .inl (cI, 48, .inl k_na)), (k6, .inl (cI, 1024, .inl k_no)), (k7, .inl (cI, 1024, .inl k_tu))] sz) := by
  refine Met.ofW (cc := cX7_best) (maxL := 2) (ret := (some .int)) (by decide) rfl ?_
  intro p e s m args below meth c s₁ B hml hv
  obtain ⟨rfl, hsz, hP, hK, hD0⟩ := hv
  have hx := B.exec
  have hb := B.bytes
  have hr := B.returns
  have hts := atoms_spec (ws := wsX7_best) B.pre
  have hown : s.vm.findClass RX7 = some m.cls := findClass_of_methodNamed B.named
  have hlocks := B.notSynchronized
  subst hsz
  have hD := hD0.self (sz := s.heap.size)
  generalize hAe : va_A [(k0, .inr (7, [.ref k1, .int k_un, .ref k2, .ref k3, .int k_len, .int k_fi, .int k_be, .int k_to, .int k_cl, .int k_do, .ref k4, .ref k5, .ref k6, .ref k7])), (k1, .inl (cI, 583, .inl k_ro)), (k2, .inl (cZ, 2, .inl k_ke)), (k3, .inl (cI, 200, .inl k_te)), (k4, .inl (cI, 10, .inl k_nu)), (k5, .inl (cI, 48, .inl k_na)), (k6, .inl (cI, 1024, .inl k_no)), (k7, .inl (cI, 1024, .inl k_tu))] s.heap.size = A at hD ⊢
  have hA : ∀ q : Nat, s.heap.size ≤ q → A q := fun q h => by rw [← hAe]; exact Or.inr h
  clear hAe hD0
  have hfl_20 := hts (.fieldLink RX7 20 "TermsFirstModel" "numbers" "[I") (List.mem_cons_of_mem _ (List.mem_append_left _ (List.mem_append_left _ (List.mem_of_getElem? (i := 0) rfl))))
  have hiX7 : ∀ w ∈ u_ws RX7 TX7 14, w ∈ wsX7_best := fun _ h => (List.mem_cons_of_mem _ (List.mem_append_right _ h))
  have hl := lv_entry ([.ref k0, .int x1]) (n := 2) (Nat.le_of_ble_eq_true rfl)
  rw [lg_entry_eq]
  generalize (lg_sl ([.ref k0, .int x1]) ++ List.replicate (2 - (lg_sl ([.ref k0, .int x1])).length) Slot.unset).toArray = ls at hl ⊢
  have hl : lv_has ls 2 [(0, .ref k0), (1, .int x1)] := hl
  have hS : va_S A s.heap s.heap [] := va_S.rf
  unfold m_X7_best at hf
  refine lv_aload_n hx hb dX7_best_0 rfl (lv_at hl 0 rfl) ?_
  refine lv_iload_n hx hb dX7_best_1 rfl (lv_at hl 1 rfl) ?_
  obtain ⟨rv1, hrv1, hf⟩ := bd hf
  refine roI (va_runV (As := [.int x1]) (rest := []) ⟨hx, hb, hml, hown, hts⟩ (c_X7_isSection l D cI cZ cM k0 k1 k2 k3 k4 k5 k6 k7 k_un k_len k_fi k_be k_to k_cl k_do k_ro k_ke k_te k_nu k_na k_no k_tu x1 rv1 hrv1) (cwV 1 hts gX7_best_X7_isSection rfl rfl rfl ⟨rfl, hdc_X7_isSection⟩ ⟨Nat.le_of_ble_eq_true rfl, Nat.le_of_ble_eq_true rfl⟩) (prV hK hP [0, 1, 2, 3, 4, 5, 6, 7] rfl (ci := 7) (q0 := 0) rfl rfl) rfl rfl hl.1 rfl (lv_room (Nat.le_of_ble_eq_true rfl)) dX7_best_2 ⟨Nat.zero_le _, Nat.zero_le _⟩) ?_
  refine lv_if_ne (tgt := 11) hx hb dX7_best_5 (by decide) (fun hc => ?_) (fun hc => ?_)
  · have hf := ifn hc hf
    refine lv_aload_n hx hb dX7_best_11 rfl (lv_at hl 0 rfl) ?_
    obtain ⟨rv2, hrv2, hf⟩ := bd hf
    refine muV0 (wr := []) (va_runV (As := []) (rest := []) ⟨hx, hb, hml, hown, hts⟩ (c_X7_lays l D cI cZ cM k0 k1 k2 k3 k4 k5 k6 k7 _ k_un k_len k_fi k_be k_to k_cl k_do k_ro k_ke k_te k_nu k_na k_no k_tu fu rv2.1 rv2.2.1 rv2.2.2 hrv2) (cwV 0 hts gX7_best_X7_lays rfl rfl rfl ⟨rfl, hdc_X7_lays⟩ ⟨Nat.le_of_ble_eq_true rfl, Nat.le_of_ble_eq_true rfl⟩) (pmV hK hP hD [0, 1, 2, 3, 4, 5, 6, 7] (by decide) rfl rfl (ci := 7) (q0 := 0) rfl rfl) rfl rfl hl.1 rfl (lv_room (Nat.le_of_ble_eq_true rfl)) dX7_best_12 ⟨Nat.zero_le _, Nat.zero_le _⟩) hP hD hS hA [0, 1, 2, 3, 4, 5, 6, 7] [] rfl rfl (by decide) (by decide) (fun H locs hP hD hS => ?_)
    have hP : va_P D vwCl [(k0, .inr (7, [.ref k1, .int k_un, .ref k2, .ref k3, .int k_len, .int k_fi, .int k_be, .int k_to, .int k_cl, .int k_do, .ref k4, .ref k5, .ref k6, .ref k7])), (k1, .inl (cI, 583, .inl k_ro)), (k2, .inl (cZ, 2, .inl k_ke)), (k3, .inl (cI, 200, .inl k_te)), (k4, .inl (cI, 10, .inl rv2.1)), (k5, .inl (cI, 48, .inl k_na)), (k6, .inl (cI, 1024, .inl rv2.2.1)), (k7, .inl (cI, 1024, .inl rv2.2.2))] H := hP
    have hD : va_D A [(k0, .inr (7, [.ref k1, .int k_un, .ref k2, .ref k3, .int k_len, .int k_fi, .int k_be, .int k_to, .int k_cl, .int k_do, .ref k4, .ref k5, .ref k6, .ref k7])), (k1, .inl (cI, 583, .inl k_ro)), (k2, .inl (cZ, 2, .inl k_ke)), (k3, .inl (cI, 200, .inl k_te)), (k4, .inl (cI, 10, .inl rv2.1)), (k5, .inl (cI, 48, .inl k_na)), (k6, .inl (cI, 1024, .inl rv2.2.1)), (k7, .inl (cI, 1024, .inl rv2.2.2))] := hD
    refine lv_aload_n hx hb dX7_best_15 rfl (lv_at hl 0 rfl) ?_
    refine va_get (D := D) (ci := 7) (v := .ref k4) (C := RX7) (T := TX7) (N := 14) hx hb hts hiX7 hown hK.1 hP 0 rfl rfl 10 (by decide) hfl_20 (fun _ h9 => h9) rfl dX7_best_16 ?_
    refine lv_iload_n hx hb dX7_best_19 rfl (lv_at hl 1 rfl) ?_
    obtain ⟨hi, hf⟩ := gd_some hf
    refine va_iald hx hb hK.1 hP 4 0 rfl rfl hi dX7_best_20 ?_
    cases hf
    exact W.iret hx hb hr (fun t ht _ => ⟨⟨rfl, by rw [ht]; exact hP, hD⟩, hS.F ht⟩) hS.2.2 dX7_best_21
  · have hf := ifp hc hf
    refine lv_bipush (v := (-2 : Int32)) hx hb dX7_best_8 bp_m2 ?_
    cases hf
    exact W.iret hx hb hr (fun t ht _ => ⟨⟨rfl, by rw [ht]; exact hP, hD⟩, hS.F ht⟩) hS.2.2 dX7_best_10
theorem hdc_X7_leastNotes : yX7_leastNotes.cls ≠ "java/lang/invoke/MethodHandle" ∧ yX7_leastNotes.cls ≠ "java/lang/invoke/VarHandle" ∧ (parseMethodDescriptor yX7_leastNotes.desc).map (fun d => d.parameters.length) = some 0 := by decide +kernel
set_option maxHeartbeats 4000000 in
set_option maxRecDepth 100000 in
theorem c_X7_leastNotes (l : Launch) (D : va_G) (cI cZ cM : ClassId) (k0 k1 k2 k3 k4 k5 k6 k7 : Nat) (k_un : Int32) (k_len : Int32) (k_fi : Int32) (k_be : Int32) (k_to : Int32) (k_cl : Int32) (k_do : Int32) (k_ro : Nat → Int32) (k_ke : Nat → Int32) (k_te : Nat → Int32) (k_nu : Nat → Int32) (k_na : Nat → Int32) (k_no : Nat → Int32) (k_tu : Nat → Int32) (fu : Nat) (r : Int32) (hf : m_X7_leastNotes fu k_ro k_nu = some r) : Met l yX7_leastNotes wsX7_leastNotes ({ frames := 3, cells := 0, slots := 0, locals := 68 }) (pR D cI cZ cM [(k0, .inr (7, [.ref k1, .int k_un, .ref k2, .ref k3, .int k_len, .int k_fi, .int k_be, .int k_to, .int k_cl, .int k_do, .ref k4, .ref k5, .ref k6, .ref k7])), (k1, .inl (cI, 583, .inl k_ro)), (k2, .inl (cZ, 2, .inl k_ke)), (k3, .inl (cI, 200, .inl k_te)), (k4, .inl (cI, 10, .inl k_nu)), (k5, .inl (cI, 48, .inl k_na)), (k6, .inl (cI, 1024, .inl k_no)), (k7, .inl (cI, 1024, .inl k_tu))] [.ref k0]) (qR r) 0 0 (fun _ => False) := by
  refine Met.ofW (cc := cX7_leastNotes) (maxL := 4) (ret := (some .int)) (by decide) rfl ?_
  intro p e s m args below meth c s₁ B hml hv
  obtain ⟨rfl, hP, hK⟩ := hv
  have hx := B.exec
  have hb := B.bytes
  have hr := B.returns
  have hts := atoms_spec (ws := wsX7_leastNotes) B.pre
  have hown : s.vm.findClass RX7 = some m.cls := findClass_of_methodNamed B.named
  have hlocks := B.notSynchronized
  have hfl_7 := hts (.fieldLink RX7 7 "TermsFirstModel" "rows" "[I") (List.mem_cons_of_mem _ (List.mem_append_left _ (List.mem_of_getElem? (i := 0) rfl)))
  have hfl_20 := hts (.fieldLink RX7 20 "TermsFirstModel" "numbers" "[I") (List.mem_cons_of_mem _ (List.mem_append_left _ (List.mem_of_getElem? (i := 1) rfl)))
  have hiX7 : ∀ w ∈ u_ws RX7 TX7 14, w ∈ wsX7_leastNotes := fun _ h => (List.mem_cons_of_mem _ (List.mem_append_right _ h))
  have hB_6 : ∀ (fn : Nat) (x1 : Int32) (x2 : Int32) (x3 : Int32), m_X7_leastNotes_6 fu k_ro k_nu fn x1 x2 x3 = some r → ∀ ls : Array Slot, lv_has ls 4 [(0, .ref k0), (1, .int x1), (2, .int x2), (3, .int x3)] → W p l e (headSpec wsX7_leastNotes { frames := 3, cells := 0, slots := 0, locals := 68 }).room s m ([.ref k0] : List Value).toArray below meth c s.heap [] 0 0 (MQ below (qR r) ([.ref k0] : List Value).toArray s 0 0 (fun _ => False)) (F0 m 6 ls []) := by
    intro fn
    induction fn with
    | zero => intro x1 x2 x3 hf; rw [m_X7_leastNotes_6] at hf; cases hf
    | succ fn ih =>
      intro x1 x2 x3 hf ls hl
      rw [m_X7_leastNotes_6] at hf
      refine lv_iload_n hx hb dX7_leastNotes_6 rfl (lv_at hl 3 rfl) ?_
      refine lv_aload_n hx hb dX7_leastNotes_7 rfl (lv_at hl 0 rfl) ?_
      refine va_get (D := D) (ci := 7) (v := .ref k1) (C := RX7) (T := TX7) (N := 14) hx hb hts hiX7 hown hK.1 hP 0 rfl rfl 0 (by decide) hfl_7 (fun _ h9 => h9) rfl dX7_leastNotes_8 ?_
      refine lv_iconst (v := (nI 0)) hx hb dX7_leastNotes_11 ic_0 ?_
      obtain ⟨hi, hf⟩ := gd_some hf
      refine va_iald hx hb hK.1 hP 1 0 rfl rfl hi dX7_leastNotes_12 ?_
      refine lv_icmp_ge (tgt := 47) hx hb dX7_leastNotes_13 (by decide) (fun hc => ?_) (fun hc => ?_)
      · have hf := ifp hc hf
        refine lv_iload_n hx hb dX7_leastNotes_47 rfl (lv_at hl 2 rfl) ?_
        cases hf
        exact W.iret hx hb hr (fun t ht _ => ⟨rfl, ht⟩) (fun _ h => nomatch h) dX7_leastNotes_48
      · have hf := ifn hc hf
        refine lv_iload_n hx hb dX7_leastNotes_16 rfl (lv_at hl 2 rfl) ?_
        refine lv_aload_n hx hb dX7_leastNotes_17 rfl (lv_at hl 0 rfl) ?_
        refine lv_aload_n hx hb dX7_leastNotes_18 rfl (lv_at hl 0 rfl) ?_
        refine va_get (D := D) (ci := 7) (v := .ref k4) (C := RX7) (T := TX7) (N := 14) hx hb hts hiX7 hown hK.1 hP 0 rfl rfl 10 (by decide) hfl_20 (fun _ h9 => h9) rfl dX7_leastNotes_19 ?_
        refine lv_iload_n hx hb dX7_leastNotes_22 rfl (lv_at hl 3 rfl) ?_
        obtain ⟨hi, hf⟩ := gd_some hf
        refine va_iald hx hb hK.1 hP 4 0 rfl rfl hi dX7_leastNotes_23 ?_
        refine lv_iload_n hx hb dX7_leastNotes_24 rfl (lv_at hl 1 rfl) ?_
        obtain ⟨rv1, hrv1, hf⟩ := bd hf
        refine roI (va_runV (As := [.int (k_nu x3.toNatClampNeg), .int x1]) (rest := [.int x2]) ⟨hx, hb, hml, hown, hts⟩ (c_X7_noted l D cI cZ cM k0 k1 k2 k3 k4 k5 k6 k7 k_un k_len k_fi k_be k_to k_cl k_do k_ro k_ke k_te k_nu k_na k_no k_tu (k_nu x3.toNatClampNeg) x1 fu rv1 hrv1) (cwV 2 hts gX7_leastNotes_X7_noted rfl rfl rfl ⟨rfl, hdc_X7_noted⟩ ⟨Nat.le_of_ble_eq_true rfl, Nat.le_of_ble_eq_true rfl⟩) (prV hK hP [0, 1, 2, 3, 4, 5, 6, 7] rfl (ci := 7) (q0 := 0) rfl rfl) rfl rfl hl.1 rfl (lv_room (Nat.le_of_ble_eq_true rfl)) dX7_leastNotes_25 ⟨Nat.zero_le _, Nat.zero_le _⟩) ?_
        refine lv_ior hx hb dX7_leastNotes_28 ?_
        refine lv_istore_n (lv' := [(2, .int (x2 ||| rv1)), (0, .ref k0), (1, .int x1), (3, .int x3)]) hx hb dX7_leastNotes_29 rfl hl (by decide) rfl (fun ls hl => ?_)
        refine lv_iload_n hx hb dX7_leastNotes_30 rfl (lv_at hl 2 rfl) ?_
        refine lv_iconst (v := (nI 1)) hx hb dX7_leastNotes_31 ic_1 ?_
        refine lv_aload_n hx hb dX7_leastNotes_32 rfl (lv_at hl 1 rfl) ?_
        refine va_get (D := D) (ci := 7) (v := .ref k4) (C := RX7) (T := TX7) (N := 14) hx hb hts hiX7 hown hK.1 hP 0 rfl rfl 10 (by decide) hfl_20 (fun _ h9 => h9) rfl dX7_leastNotes_33 ?_
        refine lv_iload_n hx hb dX7_leastNotes_36 rfl (lv_at hl 3 rfl) ?_
        obtain ⟨hi, hf⟩ := gd_some hf
        refine va_iald hx hb hK.1 hP 4 0 rfl rfl hi dX7_leastNotes_37 ?_
        refine lv_ishl hx hb dX7_leastNotes_38 ?_
        refine lv_ior hx hb dX7_leastNotes_39 ?_
        refine lv_istore_n (lv' := [(1, .int (x1 ||| ((nI 1) <<< ((k_nu x3.toNatClampNeg) &&& 31)))), (2, .int (x2 ||| rv1)), (0, .ref k0), (3, .int x3)]) hx hb dX7_leastNotes_40 rfl hl (by decide) rfl (fun ls hl => ?_)
        refine lv_iinc (v := (x3 + (nI 1))) (lv' := [(3, .int (x3 + (nI 1))), (1, .int (x1 ||| ((nI 1) <<< ((k_nu x3.toNatClampNeg) &&& 31)))), (2, .int (x2 ||| rv1)), (0, .ref k0)]) hx hb dX7_leastNotes_41 hl (k := 3) rfl (ii_1 _) (by decide) rfl (fun ls hl => ?_)
        refine lv_goto (tgt := 6) hx hb dX7_leastNotes_44 (by decide) ?_
        exact ih (x1 ||| ((nI 1) <<< ((k_nu x3.toNatClampNeg) &&& 31))) (x2 ||| rv1) (x3 + (nI 1)) hf  ls (lv_sub hl [3, 1, 2, 0] rfl)
  have hl := lv_entry ([.ref k0]) (n := 4) (Nat.le_of_ble_eq_true rfl)
  rw [lg_entry_eq]
  generalize (lg_sl ([.ref k0]) ++ List.replicate (4 - (lg_sl ([.ref k0])).length) Slot.unset).toArray = ls at hl ⊢
  have hl : lv_has ls 4 [(0, .ref k0)] := hl
  unfold m_X7_leastNotes at hf
  refine lv_iconst (v := (nI 0)) hx hb dX7_leastNotes_0 ic_0 ?_
  refine lv_istore_n (lv' := [(1, .int (nI 0)), (0, .ref k0)]) hx hb dX7_leastNotes_1 rfl hl (by decide) rfl (fun ls hl => ?_)
  refine lv_iconst (v := (nI 0)) hx hb dX7_leastNotes_2 ic_0 ?_
  refine lv_istore_n (lv' := [(2, .int (nI 0)), (1, .int (nI 0)), (0, .ref k0)]) hx hb dX7_leastNotes_3 rfl hl (by decide) rfl (fun ls hl => ?_)
  refine lv_iconst (v := (nI 0)) hx hb dX7_leastNotes_4 ic_0 ?_
  refine lv_istore_n (lv' := [(3, .int (nI 0)), (2, .int (nI 0)), (1, .int (nI 0)), (0, .ref k0)]) hx hb dX7_leastNotes_5 rfl hl (by decide) rfl (fun ls hl => ?_)
  exact hB_6 fu (nI 0) (nI 0) (nI 0) hf  ls (lv_sub hl [3, 2, 1, 0] rfl)
theorem hdc_X7_swapOrder : yX7_swapOrder.cls ≠ "java/lang/invoke/MethodHandle" ∧ yX7_swapOrder.cls ≠ "java/lang/invoke/VarHandle" ∧ (parseMethodDescriptor yX7_swapOrder.desc).map (fun d => d.parameters.length) = some 0 := by decide +kernel
set_option maxHeartbeats 4000000 in
set_option maxRecDepth 100000 in
theorem c_X7_swapOrder (l : Launch) (D : va_G) (cI cZ cM : ClassId) (k0 k1 k2 k3 k4 k5 k6 k7 : Nat) (sz : Nat) (k_un : Int32) (k_len : Int32) (k_fi : Int32) (k_be : Int32) (k_to : Int32) (k_cl : Int32) (k_do : Int32) (k_ro : Nat → Int32) (k_ke : Nat → Int32) (k_te : Nat → Int32) (k_nu : Nat → Int32) (k_na : Nat → Int32) (k_no : Nat → Int32) (k_tu : Nat → Int32) (fu : Nat) (k_ro' : Nat → Int32) (k_nu' : Nat → Int32) (hf : m_X7_swapOrder fu k_ro k_nu = some (k_ro', k_nu')) : Met l yX7_swapOrder wsX7_swapOrder ({ frames := 0, cells := 0, slots := 0, locals := 0 }) (pM D cI cZ cM sz [(k0, .inr (7, [.ref k1, .int k_un, .ref k2, .ref k3, .int k_len, .int k_fi, .int k_be, .int k_to, .int k_cl, .int k_do, .ref k4, .ref k5, .ref k6, .ref k7])), (k1, .inl (cI, 583, .inl k_ro)), (k2, .inl (cZ, 2, .inl k_ke)), (k3, .inl (cI, 200, .inl k_te)), (k4, .inl (cI, 10, .inl k_nu)), (k5, .inl (cI, 48, .inl k_na)), (k6, .inl (cI, 1024, .inl k_no)), (k7, .inl (cI, 1024, .inl k_tu))] [.ref k0]) (qV D [(k0, .inr (7, [.ref k1, .int k_un, .ref k2, .ref k3, .int k_len, .int k_fi, .int k_be, .int k_to, .int k_cl, .int k_do, .ref k4, .ref k5, .ref k6, .ref k7])), (k1, .inl (cI, 583, .inl k_ro')), (k2, .inl (cZ, 2, .inl k_ke)), (k3, .inl (cI, 200, .inl k_te)), (k4, .inl (cI, 10, .inl k_nu')), (k5, .inl (cI, 48, .inl k_na)), (k6, .inl (cI, 1024, .inl k_no)), (k7, .inl (cI, 1024, .inl k_tu))] (va_A [(k0, .inr (7, [.ref k1, .int k_un, .ref k2, .ref k3, .int k_len, .int k_fi, .int k_be, .int k_to, .int k_cl, .int k_do, .ref k4, .ref k5, .ref k6, .ref k7])), (k1, .inl (cI, 583, .inl k_ro)), (k2, .inl (cZ, 2, .inl k_ke)), (k3, .inl (cI, 200, .inl k_te)), (k4, .inl (cI, 10, .inl k_nu)), (k5, .inl (cI, 48, .inl k_na)), (k6, .inl (cI, 1024, .inl k_no)), (k7, .inl (cI, 1024, .inl k_tu))] sz)) 0 0 (va_A [(k0, .inr (7, [.ref k1, .int k_un, .ref k2, .ref k3, .int k_len, .int k_fi, .int k_be, .int k_to, .int k_cl, .int k_do, .ref k4, .ref k5, .ref k6, .ref k7])), (k1, .inl (cI, 583, .inl k_ro)), (k2, .inl (cZ, 2, .inl k_ke)), (k3, .inl (cI, 200, .inl k_te)), (k4, .inl (cI, 10, .inl k_nu)), (k5, .inl (cI, 48, .inl k_na)), (k6, .inl (cI, 1024, .inl k_no)), (k7, .inl (cI, 1024, .inl k_tu))] sz) := by
  refine Met.ofW (cc := cX7_swapOrder) (maxL := 3) (ret := none) (by decide) rfl ?_
  intro p e s m args below meth c s₁ B hml hv
  obtain ⟨rfl, hsz, hP, hK, hD0⟩ := hv
  have hx := B.exec
  have hb := B.bytes
  have hr := B.returns
  have hts := atoms_spec (ws := wsX7_swapOrder) B.pre
  have hown : s.vm.findClass RX7 = some m.cls := findClass_of_methodNamed B.named
  have hlocks := B.notSynchronized
  subst hsz
  have hD := hD0.self (sz := s.heap.size)
  generalize hAe : va_A [(k0, .inr (7, [.ref k1, .int k_un, .ref k2, .ref k3, .int k_len, .int k_fi, .int k_be, .int k_to, .int k_cl, .int k_do, .ref k4, .ref k5, .ref k6, .ref k7])), (k1, .inl (cI, 583, .inl k_ro)), (k2, .inl (cZ, 2, .inl k_ke)), (k3, .inl (cI, 200, .inl k_te)), (k4, .inl (cI, 10, .inl k_nu)), (k5, .inl (cI, 48, .inl k_na)), (k6, .inl (cI, 1024, .inl k_no)), (k7, .inl (cI, 1024, .inl k_tu))] s.heap.size = A at hD ⊢
  have hA : ∀ q : Nat, s.heap.size ≤ q → A q := fun q h => by rw [← hAe]; exact Or.inr h
  clear hAe hD0
  have hfl_7 := hts (.fieldLink RX7 7 "TermsFirstModel" "rows" "[I") (List.mem_cons_of_mem _ (List.mem_append_left _ (List.mem_of_getElem? (i := 0) rfl)))
  have hfl_20 := hts (.fieldLink RX7 20 "TermsFirstModel" "numbers" "[I") (List.mem_cons_of_mem _ (List.mem_append_left _ (List.mem_of_getElem? (i := 1) rfl)))
  have hiX7 : ∀ w ∈ u_ws RX7 TX7 14, w ∈ wsX7_swapOrder := fun _ h => (List.mem_cons_of_mem _ (List.mem_append_right _ h))
  have hB_2 : ∀ (fn : Nat) (x1 : Int32) (k_ro : Nat → Int32) (k_nu : Nat → Int32), m_X7_swapOrder_2 fn k_ro k_nu x1 = some (k_ro', k_nu') → ∀ (H : Heap) (locs : List Loc), va_P D vwCl [(k0, .inr (7, [.ref k1, .int k_un, .ref k2, .ref k3, .int k_len, .int k_fi, .int k_be, .int k_to, .int k_cl, .int k_do, .ref k4, .ref k5, .ref k6, .ref k7])), (k1, .inl (cI, 583, .inl k_ro)), (k2, .inl (cZ, 2, .inl k_ke)), (k3, .inl (cI, 200, .inl k_te)), (k4, .inl (cI, 10, .inl k_nu)), (k5, .inl (cI, 48, .inl k_na)), (k6, .inl (cI, 1024, .inl k_no)), (k7, .inl (cI, 1024, .inl k_tu))] H → va_D A [(k0, .inr (7, [.ref k1, .int k_un, .ref k2, .ref k3, .int k_len, .int k_fi, .int k_be, .int k_to, .int k_cl, .int k_do, .ref k4, .ref k5, .ref k6, .ref k7])), (k1, .inl (cI, 583, .inl k_ro)), (k2, .inl (cZ, 2, .inl k_ke)), (k3, .inl (cI, 200, .inl k_te)), (k4, .inl (cI, 10, .inl k_nu)), (k5, .inl (cI, 48, .inl k_na)), (k6, .inl (cI, 1024, .inl k_no)), (k7, .inl (cI, 1024, .inl k_tu))] → va_S A s.heap H locs → ∀ ls : Array Slot, lv_has ls 3 [(0, .ref k0), (1, .int x1)] → W p l e (headSpec wsX7_swapOrder { frames := 0, cells := 0, slots := 0, locals := 0 }).room s m ([.ref k0] : List Value).toArray below meth c H locs 0 0 (MQ below (qV D [(k0, .inr (7, [.ref k1, .int k_un, .ref k2, .ref k3, .int k_len, .int k_fi, .int k_be, .int k_to, .int k_cl, .int k_do, .ref k4, .ref k5, .ref k6, .ref k7])), (k1, .inl (cI, 583, .inl k_ro')), (k2, .inl (cZ, 2, .inl k_ke)), (k3, .inl (cI, 200, .inl k_te)), (k4, .inl (cI, 10, .inl k_nu')), (k5, .inl (cI, 48, .inl k_na)), (k6, .inl (cI, 1024, .inl k_no)), (k7, .inl (cI, 1024, .inl k_tu))] A) ([.ref k0] : List Value).toArray s 0 0 A) (F0 m 2 ls []) := by
    intro fn
    induction fn with
    | zero => intro x1 k_ro k_nu hf; rw [m_X7_swapOrder_2] at hf; cases hf
    | succ fn ih =>
      intro x1 k_ro k_nu hf H locs hP hD hS ls hl
      rw [m_X7_swapOrder_2] at hf
      refine lv_iload_n hx hb dX7_swapOrder_2 rfl (lv_at hl 1 rfl) ?_
      refine lv_aload_n hx hb dX7_swapOrder_3 rfl (lv_at hl 0 rfl) ?_
      refine va_get (D := D) (ci := 7) (v := .ref k1) (C := RX7) (T := TX7) (N := 14) hx hb hts hiX7 hown hK.1 hP 0 rfl rfl 0 (by decide) hfl_7 (fun _ h9 => h9) rfl dX7_swapOrder_4 ?_
      refine lv_iconst (v := (nI 0)) hx hb dX7_swapOrder_7 ic_0 ?_
      obtain ⟨hi, hf⟩ := gd_some hf
      refine va_iald hx hb hK.1 hP 1 0 rfl rfl hi dX7_swapOrder_8 ?_
      refine lv_icmp_ge (tgt := 50) hx hb dX7_swapOrder_9 (by decide) (fun hc => ?_) (fun hc => ?_)
      · have hf := ifp hc hf
        cases hf
        exact W.vret hx hb hr (fun t ht _ => ⟨⟨rfl, by rw [ht]; exact hP, hD⟩, hS.F ht⟩) hS.2.2 dX7_swapOrder_50
      · have hf := ifn hc hf
        refine lv_aload_n hx hb dX7_swapOrder_12 rfl (lv_at hl 0 rfl) ?_
        refine va_get (D := D) (ci := 7) (v := .ref k1) (C := RX7) (T := TX7) (N := 14) hx hb hts hiX7 hown hK.1 hP 0 rfl rfl 0 (by decide) hfl_7 (fun _ h9 => h9) rfl dX7_swapOrder_13 ?_
        refine lv_bipush (v := (nI 33)) hx hb dX7_swapOrder_16 bp_33 ?_
        refine lv_iload_n hx hb dX7_swapOrder_18 rfl (lv_at hl 1 rfl) ?_
        refine lv_iadd hx hb dX7_swapOrder_19 ?_
        obtain ⟨hi, hf⟩ := gd_some hf
        refine va_iald hx hb hK.1 hP 1 0 rfl rfl hi dX7_swapOrder_20 ?_
        refine lv_istore_n (lv' := [(2, .int (k_ro ((nI 33) + x1).toNatClampNeg)), (0, .ref k0), (1, .int x1)]) hx hb dX7_swapOrder_21 rfl hl (by decide) rfl (fun ls hl => ?_)
        refine lv_aload_n hx hb dX7_swapOrder_22 rfl (lv_at hl 1 rfl) ?_
        refine va_get (D := D) (ci := 7) (v := .ref k1) (C := RX7) (T := TX7) (N := 14) hx hb hts hiX7 hown hK.1 hP 0 rfl rfl 0 (by decide) hfl_7 (fun _ h9 => h9) rfl dX7_swapOrder_23 ?_
        refine lv_bipush (v := (nI 33)) hx hb dX7_swapOrder_26 bp_33 ?_
        refine lv_iload_n hx hb dX7_swapOrder_28 rfl (lv_at hl 2 rfl) ?_
        refine lv_iadd hx hb dX7_swapOrder_29 ?_
        refine lv_aload_n hx hb dX7_swapOrder_30 rfl (lv_at hl 1 rfl) ?_
        refine va_get (D := D) (ci := 7) (v := .ref k4) (C := RX7) (T := TX7) (N := 14) hx hb hts hiX7 hown hK.1 hP 0 rfl rfl 10 (by decide) hfl_20 (fun _ h9 => h9) rfl dX7_swapOrder_31 ?_
        refine lv_iload_n hx hb dX7_swapOrder_34 rfl (lv_at hl 2 rfl) ?_
        obtain ⟨hi, hf⟩ := gd_some hf
        refine va_iald hx hb hK.1 hP 4 0 rfl rfl hi dX7_swapOrder_35 ?_
        obtain ⟨hi, hf⟩ := gd_some hf
        refine va_iast hx hb hK.1 hP hD hS 1 0 rfl rfl hi dX7_swapOrder_36 (fun H locs hP hD hS => ?_)
        have hP : va_P D vwCl [(k0, .inr (7, [.ref k1, .int k_un, .ref k2, .ref k3, .int k_len, .int k_fi, .int k_be, .int k_to, .int k_cl, .int k_do, .ref k4, .ref k5, .ref k6, .ref k7])), (k1, .inl (cI, 583, .inl (upd k_ro ((nI 33) + x1).toNatClampNeg (k_nu x1.toNatClampNeg)))), (k2, .inl (cZ, 2, .inl k_ke)), (k3, .inl (cI, 200, .inl k_te)), (k4, .inl (cI, 10, .inl k_nu)), (k5, .inl (cI, 48, .inl k_na)), (k6, .inl (cI, 1024, .inl k_no)), (k7, .inl (cI, 1024, .inl k_tu))] H := hP
        have hD : va_D A [(k0, .inr (7, [.ref k1, .int k_un, .ref k2, .ref k3, .int k_len, .int k_fi, .int k_be, .int k_to, .int k_cl, .int k_do, .ref k4, .ref k5, .ref k6, .ref k7])), (k1, .inl (cI, 583, .inl (upd k_ro ((nI 33) + x1).toNatClampNeg (k_nu x1.toNatClampNeg)))), (k2, .inl (cZ, 2, .inl k_ke)), (k3, .inl (cI, 200, .inl k_te)), (k4, .inl (cI, 10, .inl k_nu)), (k5, .inl (cI, 48, .inl k_na)), (k6, .inl (cI, 1024, .inl k_no)), (k7, .inl (cI, 1024, .inl k_tu))] := hD
        refine lv_aload_n hx hb dX7_swapOrder_37 rfl (lv_at hl 1 rfl) ?_
        refine va_get (D := D) (ci := 7) (v := .ref k4) (C := RX7) (T := TX7) (N := 14) hx hb hts hiX7 hown hK.1 hP 0 rfl rfl 10 (by decide) hfl_20 (fun _ h9 => h9) rfl dX7_swapOrder_38 ?_
        refine lv_iload_n hx hb dX7_swapOrder_41 rfl (lv_at hl 2 rfl) ?_
        refine lv_iload_n hx hb dX7_swapOrder_42 rfl (lv_at hl 0 rfl) ?_
        obtain ⟨hi, hf⟩ := gd_some hf
        refine va_iast hx hb hK.1 hP hD hS 4 0 rfl rfl hi dX7_swapOrder_43 (fun H locs hP hD hS => ?_)
        have hP : va_P D vwCl [(k0, .inr (7, [.ref k1, .int k_un, .ref k2, .ref k3, .int k_len, .int k_fi, .int k_be, .int k_to, .int k_cl, .int k_do, .ref k4, .ref k5, .ref k6, .ref k7])), (k1, .inl (cI, 583, .inl (upd k_ro ((nI 33) + x1).toNatClampNeg (k_nu x1.toNatClampNeg)))), (k2, .inl (cZ, 2, .inl k_ke)), (k3, .inl (cI, 200, .inl k_te)), (k4, .inl (cI, 10, .inl (upd k_nu x1.toNatClampNeg (k_ro ((nI 33) + x1).toNatClampNeg)))), (k5, .inl (cI, 48, .inl k_na)), (k6, .inl (cI, 1024, .inl k_no)), (k7, .inl (cI, 1024, .inl k_tu))] H := hP
        have hD : va_D A [(k0, .inr (7, [.ref k1, .int k_un, .ref k2, .ref k3, .int k_len, .int k_fi, .int k_be, .int k_to, .int k_cl, .int k_do, .ref k4, .ref k5, .ref k6, .ref k7])), (k1, .inl (cI, 583, .inl (upd k_ro ((nI 33) + x1).toNatClampNeg (k_nu x1.toNatClampNeg)))), (k2, .inl (cZ, 2, .inl k_ke)), (k3, .inl (cI, 200, .inl k_te)), (k4, .inl (cI, 10, .inl (upd k_nu x1.toNatClampNeg (k_ro ((nI 33) + x1).toNatClampNeg)))), (k5, .inl (cI, 48, .inl k_na)), (k6, .inl (cI, 1024, .inl k_no)), (k7, .inl (cI, 1024, .inl k_tu))] := hD
        refine lv_iinc (v := (x1 + (nI 1))) (lv' := [(1, .int (x1 + (nI 1))), (2, .int (k_ro ((nI 33) + x1).toNatClampNeg)), (0, .ref k0)]) hx hb dX7_swapOrder_44 hl (k := 2) rfl (ii_1 _) (by decide) rfl (fun ls hl => ?_)
        refine lv_goto (tgt := 2) hx hb dX7_swapOrder_47 (by decide) ?_
        exact ih (x1 + (nI 1)) (upd k_ro ((nI 33) + x1).toNatClampNeg (k_nu x1.toNatClampNeg)) (upd k_nu x1.toNatClampNeg (k_ro ((nI 33) + x1).toNatClampNeg)) hf _ _ hP hD hS ls (lv_sub hl [2, 0] rfl)
  have hl := lv_entry ([.ref k0]) (n := 3) (Nat.le_of_ble_eq_true rfl)
  rw [lg_entry_eq]
  generalize (lg_sl ([.ref k0]) ++ List.replicate (3 - (lg_sl ([.ref k0])).length) Slot.unset).toArray = ls at hl ⊢
  have hl : lv_has ls 3 [(0, .ref k0)] := hl
  have hS : va_S A s.heap s.heap [] := va_S.rf
  unfold m_X7_swapOrder at hf
  refine lv_iconst (v := (nI 0)) hx hb dX7_swapOrder_0 ic_0 ?_
  refine lv_istore_n (lv' := [(1, .int (nI 0)), (0, .ref k0)]) hx hb dX7_swapOrder_1 rfl hl (by decide) rfl (fun ls hl => ?_)
  exact hB_2 fu (nI 0) k_ro k_nu hf _ _ hP hD hS ls (lv_sub hl [1, 0] rfl)
theorem hdc_X7_least : yX7_least.cls ≠ "java/lang/invoke/MethodHandle" ∧ yX7_least.cls ≠ "java/lang/invoke/VarHandle" ∧ (parseMethodDescriptor yX7_least.desc).map (fun d => d.parameters.length) = some 1 := by decide +kernel
set_option maxHeartbeats 4000000 in
set_option maxRecDepth 100000 in
theorem c_X7_least (l : Launch) (D : va_G) (cI cZ cM : ClassId) (k0 k1 k2 k3 k4 k5 k6 k7 : Nat) (sz : Nat) (k_un : Int32) (k_len : Int32) (k_fi : Int32) (k_be : Int32) (k_to : Int32) (k_cl : Int32) (k_do : Int32) (k_ro : Nat → Int32) (k_ke : Nat → Int32) (k_te : Nat → Int32) (k_nu : Nat → Int32) (k_na : Nat → Int32) (k_no : Nat → Int32) (k_tu : Nat → Int32) (x1 : Int32) (fu : Nat) (r : Int32) (k_ro' : Nat → Int32) (k_nu' : Nat → Int32) (k_no' : Nat → Int32) (k_tu' : Nat → Int32) (hf : m_X7_least fu k_ro k_nu k_no k_tu x1 = some (r, k_ro', k_nu', k_no', k_tu')) : Met l yX7_least wsX7_least ({ frames := 5, cells := 0, slots := 0, locals := 117 }) (pM D cI cZ cM sz [(k0, .inr (7, [.ref k1, .int k_un, .ref k2, .ref k3, .int k_len, .int k_fi, .int k_be, .int k_to, .int k_cl, .int k_do, .ref k4, .ref k5, .ref k6, .ref k7])), (k1, .inl (cI, 583, .inl k_ro)), (k2, .inl (cZ, 2, .inl k_ke)), (k3, .inl (cI, 200, .inl k_te)), (k4, .inl (cI, 10, .inl k_nu)), (k5, .inl (cI, 48, .inl k_na)), (k6, .inl (cI, 1024, .inl k_no)), (k7, .inl (cI, 1024, .inl k_tu))] [.ref k0, .int x1]) (qI D r [(k0, .inr (7, [.ref k1, .int k_un, .ref k2, .ref k3, .int k_len, .int k_fi, .int k_be, .int k_to, .int k_cl, .int k_do, .ref k4, .ref k5, .ref k6, .ref k7])), (k1, .inl (cI, 583, .inl k_ro')), (k2, .inl (cZ, 2, .inl k_ke)), (k3, .inl (cI, 200, .inl k_te)), (k4, .inl (cI, 10, .inl k_nu')), (k5, .inl (cI, 48, .inl k_na)), (k6, .inl (cI, 1024, .inl k_no')), (k7, .inl (cI, 1024, .inl k_tu'))] (va_A [(k0, .inr (7, [.ref k1, .int k_un, .ref k2, .ref k3, .int k_len, .int k_fi, .int k_be, .int k_to, .int k_cl, .int k_do, .ref k4, .ref k5, .ref k6, .ref k7])), (k1, .inl (cI, 583, .inl k_ro)), (k2, .inl (cZ, 2, .inl k_ke)), (k3, .inl (cI, 200, .inl k_te)), (k4, .inl (cI, 10, .inl k_nu)), (k5, .inl (cI, 48, .inl k_na)), (k6, .inl (cI, 1024, .inl k_no)), (k7, .inl (cI, 1024, .inl k_tu))] sz)) 0 0 (va_A [(k0, .inr (7, [.ref k1, .int k_un, .ref k2, .ref k3, .int k_len, .int k_fi, .int k_be, .int k_to, .int k_cl, .int k_do, .ref k4, .ref k5, .ref k6, .ref k7])), (k1, .inl (cI, 583, .inl k_ro)), (k2, .inl (cZ, 2, .inl k_ke)), (k3, .inl (cI, 200, .inl k_te)), (k4, .inl (cI, 10, .inl k_nu)), (k5, .inl (cI, 48, .inl k_na)), (k6, .inl (cI, 1024, .inl k_no)), (k7, .inl (cI, 1024, .inl k_tu))] sz) := by
  refine Met.ofW (cc := cX7_least) (maxL := 3) (ret := (some .int)) (by decide) rfl ?_
  intro p e s m args below meth c s₁ B hml hv
  obtain ⟨rfl, hsz, hP, hK, hD0⟩ := hv
  have hx := B.exec
  have hb := B.bytes
  have hr := B.returns
  have hts := atoms_spec (ws := wsX7_least) B.pre
  have hown : s.vm.findClass RX7 = some m.cls := findClass_of_methodNamed B.named
  have hlocks := B.notSynchronized
  subst hsz
  have hD := hD0.self (sz := s.heap.size)
  generalize hAe : va_A [(k0, .inr (7, [.ref k1, .int k_un, .ref k2, .ref k3, .int k_len, .int k_fi, .int k_be, .int k_to, .int k_cl, .int k_do, .ref k4, .ref k5, .ref k6, .ref k7])), (k1, .inl (cI, 583, .inl k_ro)), (k2, .inl (cZ, 2, .inl k_ke)), (k3, .inl (cI, 200, .inl k_te)), (k4, .inl (cI, 10, .inl k_nu)), (k5, .inl (cI, 48, .inl k_na)), (k6, .inl (cI, 1024, .inl k_no)), (k7, .inl (cI, 1024, .inl k_tu))] s.heap.size = A at hD ⊢
  have hA : ∀ q : Nat, s.heap.size ≤ q → A q := fun q h => by rw [← hAe]; exact Or.inr h
  clear hAe hD0
  have hfl_26 := hts (.fieldLink RX7 26 "TermsFirstModel" "notes" "[I") (List.mem_cons_of_mem _ (List.mem_append_left _ (List.mem_append_left _ (List.mem_of_getElem? (i := 1) rfl))))
  have hfl_29 := hts (.fieldLink RX7 29 "TermsFirstModel" "turns" "[I") (List.mem_cons_of_mem _ (List.mem_append_left _ (List.mem_append_left _ (List.mem_of_getElem? (i := 2) rfl))))
  have hkl_190 := hts (.constantLong RX7 190 (3)) (List.mem_cons_of_mem _ (List.mem_append_left _ (List.mem_append_left _ (List.mem_of_getElem? (i := 0) rfl))))
  have hiX7 : ∀ w ∈ u_ws RX7 TX7 14, w ∈ wsX7_least := fun _ h => (List.mem_cons_of_mem _ (List.mem_append_right _ h))
  have hl := lv_entry ([.ref k0, .int x1]) (n := 3) (Nat.le_of_ble_eq_true rfl)
  rw [lg_entry_eq]
  generalize (lg_sl ([.ref k0, .int x1]) ++ List.replicate (3 - (lg_sl ([.ref k0, .int x1])).length) Slot.unset).toArray = ls at hl ⊢
  have hl : lv_has ls 3 [(0, .ref k0), (1, .int x1)] := hl
  have hS : va_S A s.heap s.heap [] := va_S.rf
  unfold m_X7_least at hf
  refine lv_iload_n hx hb dX7_least_0 rfl (lv_at hl 1 rfl) ?_
  refine lv_i2l (v := x1.toInt64) hx hb dX7_least_1 rfl ?_
  refine lv_lconst (v := (lN 0)) hx hb dX7_least_2 rfl ?_
  refine lv_ldc2 (v := (lN 3)) hx hb hown hkl_190 dX7_least_3 ?_
  obtain ⟨rv1, hrv1, hf⟩ := bd hf
  refine roI (va_runS (As := [.long x1.toInt64, .long (lN 0), .long (lN 3)]) (rest := []) ⟨hx, hb, hml, hown, hts⟩ (c_X7_in l D cI cZ cM x1.toInt64 (lN 0) (lN 3) rv1 hrv1) (va_cwS 3 hts gX7_least_X7_in rfl rfl rfl hdc_X7_in ⟨Nat.le_of_ble_eq_true rfl, Nat.le_of_ble_eq_true rfl⟩) (prS hK hP [] rfl) rfl rfl hl.1 rfl (lv_room (Nat.le_of_ble_eq_true rfl)) dX7_least_6 ⟨Nat.zero_le _, Nat.zero_le _⟩) ?_
  refine lv_if_ne (tgt := 15) hx hb dX7_least_9 (by decide) (fun hc => ?_) (fun hc => ?_)
  · have hf := ifn hc hf
    refine lv_aload_n hx hb dX7_least_15 rfl (lv_at hl 0 rfl) ?_
    obtain ⟨rv2, hrv2, hf⟩ := bd hf
    refine muV0 (wr := []) (va_runV (As := []) (rest := []) ⟨hx, hb, hml, hown, hts⟩ (c_X7_lays l D cI cZ cM k0 k1 k2 k3 k4 k5 k6 k7 _ k_un k_len k_fi k_be k_to k_cl k_do k_ro k_ke k_te k_nu k_na k_no k_tu fu rv2.1 rv2.2.1 rv2.2.2 hrv2) (cwV 0 hts gX7_least_X7_lays rfl rfl rfl ⟨rfl, hdc_X7_lays⟩ ⟨Nat.le_of_ble_eq_true rfl, Nat.le_of_ble_eq_true rfl⟩) (pmV hK hP hD [0, 1, 2, 3, 4, 5, 6, 7] (by decide) rfl rfl (ci := 7) (q0 := 0) rfl rfl) rfl rfl hl.1 rfl (lv_room (Nat.le_of_ble_eq_true rfl)) dX7_least_16 ⟨Nat.zero_le _, Nat.zero_le _⟩) hP hD hS hA [0, 1, 2, 3, 4, 5, 6, 7] [] rfl rfl (by decide) (by decide) (fun H locs hP hD hS => ?_)
    have hP : va_P D vwCl [(k0, .inr (7, [.ref k1, .int k_un, .ref k2, .ref k3, .int k_len, .int k_fi, .int k_be, .int k_to, .int k_cl, .int k_do, .ref k4, .ref k5, .ref k6, .ref k7])), (k1, .inl (cI, 583, .inl k_ro)), (k2, .inl (cZ, 2, .inl k_ke)), (k3, .inl (cI, 200, .inl k_te)), (k4, .inl (cI, 10, .inl rv2.1)), (k5, .inl (cI, 48, .inl k_na)), (k6, .inl (cI, 1024, .inl rv2.2.1)), (k7, .inl (cI, 1024, .inl rv2.2.2))] H := hP
    have hD : va_D A [(k0, .inr (7, [.ref k1, .int k_un, .ref k2, .ref k3, .int k_len, .int k_fi, .int k_be, .int k_to, .int k_cl, .int k_do, .ref k4, .ref k5, .ref k6, .ref k7])), (k1, .inl (cI, 583, .inl k_ro)), (k2, .inl (cZ, 2, .inl k_ke)), (k3, .inl (cI, 200, .inl k_te)), (k4, .inl (cI, 10, .inl rv2.1)), (k5, .inl (cI, 48, .inl k_na)), (k6, .inl (cI, 1024, .inl rv2.2.1)), (k7, .inl (cI, 1024, .inl rv2.2.2))] := hD
    refine lv_iload_n hx hb dX7_least_19 rfl (lv_at hl 1 rfl) ?_
    refine lv_iconst (v := (nI 3)) hx hb dX7_least_20 ic_3 ?_
    refine lv_icmp_ge (tgt := 56) hx hb dX7_least_21 (by decide) (fun hc => ?_) (fun hc => ?_)
    · have hf := ifp hc hf
      refine lv_aload_n hx hb dX7_least_56 rfl (lv_at hl 0 rfl) ?_
      obtain ⟨rv3, hrv3, hf⟩ := bd hf
      refine muV0 (wr := []) (va_runV (As := []) (rest := []) ⟨hx, hb, hml, hown, hts⟩ (c_X7_swapOrder l D cI cZ cM k0 k1 k2 k3 k4 k5 k6 k7 _ k_un k_len k_fi k_be k_to k_cl k_do k_ro k_ke k_te rv2.1 k_na rv2.2.1 rv2.2.2 fu rv3.1 rv3.2 hrv3) (cwV 0 hts gX7_least_X7_swapOrder rfl rfl rfl ⟨rfl, hdc_X7_swapOrder⟩ ⟨Nat.le_of_ble_eq_true rfl, Nat.le_of_ble_eq_true rfl⟩) (pmV hK hP hD [0, 1, 2, 3, 4, 5, 6, 7] (by decide) rfl rfl (ci := 7) (q0 := 0) rfl rfl) rfl rfl hl.1 rfl (lv_room (Nat.le_of_ble_eq_true rfl)) dX7_least_57 ⟨Nat.zero_le _, Nat.zero_le _⟩) hP hD hS hA [0, 1, 2, 3, 4, 5, 6, 7] [] rfl rfl (by decide) (by decide) (fun H locs hP hD hS => ?_)
      have hP : va_P D vwCl [(k0, .inr (7, [.ref k1, .int k_un, .ref k2, .ref k3, .int k_len, .int k_fi, .int k_be, .int k_to, .int k_cl, .int k_do, .ref k4, .ref k5, .ref k6, .ref k7])), (k1, .inl (cI, 583, .inl rv3.1)), (k2, .inl (cZ, 2, .inl k_ke)), (k3, .inl (cI, 200, .inl k_te)), (k4, .inl (cI, 10, .inl rv3.2)), (k5, .inl (cI, 48, .inl k_na)), (k6, .inl (cI, 1024, .inl rv2.2.1)), (k7, .inl (cI, 1024, .inl rv2.2.2))] H := hP
      have hD : va_D A [(k0, .inr (7, [.ref k1, .int k_un, .ref k2, .ref k3, .int k_len, .int k_fi, .int k_be, .int k_to, .int k_cl, .int k_do, .ref k4, .ref k5, .ref k6, .ref k7])), (k1, .inl (cI, 583, .inl rv3.1)), (k2, .inl (cZ, 2, .inl k_ke)), (k3, .inl (cI, 200, .inl k_te)), (k4, .inl (cI, 10, .inl rv3.2)), (k5, .inl (cI, 48, .inl k_na)), (k6, .inl (cI, 1024, .inl rv2.2.1)), (k7, .inl (cI, 1024, .inl rv2.2.2))] := hD
      refine lv_aload_n hx hb dX7_least_60 rfl (lv_at hl 0 rfl) ?_
      obtain ⟨rv4, hrv4, hf⟩ := bd hf
      refine roI (va_runV (As := []) (rest := []) ⟨hx, hb, hml, hown, hts⟩ (c_X7_lastsAll l D cI cZ cM k0 k1 k2 k3 k4 k5 k6 k7 k_un k_len k_fi k_be k_to k_cl k_do rv3.1 k_ke k_te rv3.2 k_na rv2.2.1 rv2.2.2 fu rv4 hrv4) (cwV 0 hts gX7_least_X7_lastsAll rfl rfl rfl ⟨rfl, hdc_X7_lastsAll⟩ ⟨Nat.le_of_ble_eq_true rfl, Nat.le_of_ble_eq_true rfl⟩) (prV hK hP [0, 1, 2, 3, 4, 5, 6, 7] rfl (ci := 7) (q0 := 0) rfl rfl) rfl rfl hl.1 rfl (lv_room (Nat.le_of_ble_eq_true rfl)) dX7_least_61 ⟨Nat.zero_le _, Nat.zero_le _⟩) ?_
      refine lv_istore_n (lv' := [(2, .int rv4), (0, .ref k0), (1, .int x1)]) hx hb dX7_least_64 rfl hl (by decide) rfl (fun ls hl => ?_)
      refine lv_aload_n hx hb dX7_least_65 rfl (lv_at hl 1 rfl) ?_
      obtain ⟨rv5, hrv5, hf⟩ := bd hf
      refine muV0 (wr := []) (va_runV (As := []) (rest := []) ⟨hx, hb, hml, hown, hts⟩ (c_X7_swapOrder l D cI cZ cM k0 k1 k2 k3 k4 k5 k6 k7 _ k_un k_len k_fi k_be k_to k_cl k_do rv3.1 k_ke k_te rv3.2 k_na rv2.2.1 rv2.2.2 fu rv5.1 rv5.2 hrv5) (cwV 0 hts gX7_least_X7_swapOrder rfl rfl rfl ⟨rfl, hdc_X7_swapOrder⟩ ⟨Nat.le_of_ble_eq_true rfl, Nat.le_of_ble_eq_true rfl⟩) (pmV hK hP hD [0, 1, 2, 3, 4, 5, 6, 7] (by decide) rfl rfl (ci := 7) (q0 := 0) rfl rfl) rfl rfl hl.1 rfl (lv_room (Nat.le_of_ble_eq_true rfl)) dX7_least_66 ⟨Nat.zero_le _, Nat.zero_le _⟩) hP hD hS hA [0, 1, 2, 3, 4, 5, 6, 7] [] rfl rfl (by decide) (by decide) (fun H locs hP hD hS => ?_)
      have hP : va_P D vwCl [(k0, .inr (7, [.ref k1, .int k_un, .ref k2, .ref k3, .int k_len, .int k_fi, .int k_be, .int k_to, .int k_cl, .int k_do, .ref k4, .ref k5, .ref k6, .ref k7])), (k1, .inl (cI, 583, .inl rv5.1)), (k2, .inl (cZ, 2, .inl k_ke)), (k3, .inl (cI, 200, .inl k_te)), (k4, .inl (cI, 10, .inl rv5.2)), (k5, .inl (cI, 48, .inl k_na)), (k6, .inl (cI, 1024, .inl rv2.2.1)), (k7, .inl (cI, 1024, .inl rv2.2.2))] H := hP
      have hD : va_D A [(k0, .inr (7, [.ref k1, .int k_un, .ref k2, .ref k3, .int k_len, .int k_fi, .int k_be, .int k_to, .int k_cl, .int k_do, .ref k4, .ref k5, .ref k6, .ref k7])), (k1, .inl (cI, 583, .inl rv5.1)), (k2, .inl (cZ, 2, .inl k_ke)), (k3, .inl (cI, 200, .inl k_te)), (k4, .inl (cI, 10, .inl rv5.2)), (k5, .inl (cI, 48, .inl k_na)), (k6, .inl (cI, 1024, .inl rv2.2.1)), (k7, .inl (cI, 1024, .inl rv2.2.2))] := hD
      refine lv_iload_n hx hb dX7_least_69 rfl (lv_at hl 0 rfl) ?_
      cases hf
      exact W.iret hx hb hr (fun t ht _ => ⟨⟨rfl, by rw [ht]; exact hP, hD⟩, hS.F ht⟩) hS.2.2 dX7_least_70
    · have hf := ifn hc hf
      refine lv_iload_n hx hb dX7_least_24 rfl (lv_at hl 1 rfl) ?_
      refine lv_if_ne (tgt := 35) hx hb dX7_least_25 (by decide) (fun hc => ?_) (fun hc => ?_)
      · have hf := ifn hc hf
        refine lv_iload_n hx hb dX7_least_35 rfl (lv_at hl 1 rfl) ?_
        refine lv_iconst (v := (nI 1)) hx hb dX7_least_36 ic_1 ?_
        refine lv_icmp_ne (tgt := 49) hx hb dX7_least_37 (by decide) (fun hc => ?_) (fun hc => ?_)
        · have hf := ifn hc hf
          refine lv_aload_n hx hb dX7_least_49 rfl (lv_at hl 0 rfl) ?_
          refine va_get (D := D) (ci := 7) (v := .ref k7) (C := RX7) (T := TX7) (N := 14) hx hb hts hiX7 hown hK.1 hP 0 rfl rfl 13 (by decide) hfl_29 (fun _ h9 => h9) rfl dX7_least_50 ?_
          refine lv_iconst (v := (nI 0)) hx hb dX7_least_53 ic_0 ?_
          obtain ⟨hi, hf⟩ := gd_some hf
          refine va_iald hx hb hK.1 hP 7 0 rfl rfl hi dX7_least_54 ?_
          cases hf
          exact W.iret hx hb hr (fun t ht _ => ⟨⟨rfl, by rw [ht]; exact hP, hD⟩, hS.F ht⟩) hS.2.2 dX7_least_55
        · have hf := ifp hc hf
          refine lv_aload_n hx hb dX7_least_40 rfl (lv_at hl 0 rfl) ?_
          refine va_get (D := D) (ci := 7) (v := .ref k6) (C := RX7) (T := TX7) (N := 14) hx hb hts hiX7 hown hK.1 hP 0 rfl rfl 12 (by decide) hfl_26 (fun _ h9 => h9) rfl dX7_least_41 ?_
          refine lv_iconst (v := (nI 0)) hx hb dX7_least_44 ic_0 ?_
          obtain ⟨hi, hf⟩ := gd_some hf
          refine va_iald hx hb hK.1 hP 6 0 rfl rfl hi dX7_least_45 ?_
          refine lv_goto (tgt := 55) hx hb dX7_least_46 (by decide) ?_
          cases hf
          exact W.iret hx hb hr (fun t ht _ => ⟨⟨rfl, by rw [ht]; exact hP, hD⟩, hS.F ht⟩) hS.2.2 dX7_least_55
      · have hf := ifp hc hf
        refine lv_aload_n hx hb dX7_least_28 rfl (lv_at hl 0 rfl) ?_
        obtain ⟨rv6, hrv6, hf⟩ := bd hf
        refine roI (va_runV (As := []) (rest := []) ⟨hx, hb, hml, hown, hts⟩ (c_X7_leastNotes l D cI cZ cM k0 k1 k2 k3 k4 k5 k6 k7 k_un k_len k_fi k_be k_to k_cl k_do k_ro k_ke k_te rv2.1 k_na rv2.2.1 rv2.2.2 fu rv6 hrv6) (cwV 0 hts gX7_least_X7_leastNotes rfl rfl rfl ⟨rfl, hdc_X7_leastNotes⟩ ⟨Nat.le_of_ble_eq_true rfl, Nat.le_of_ble_eq_true rfl⟩) (prV hK hP [0, 1, 2, 3, 4, 5, 6, 7] rfl (ci := 7) (q0 := 0) rfl rfl) rfl rfl hl.1 rfl (lv_room (Nat.le_of_ble_eq_true rfl)) dX7_least_29 ⟨Nat.zero_le _, Nat.zero_le _⟩) ?_
        refine lv_goto (tgt := 55) hx hb dX7_least_32 (by decide) ?_
        cases hf
        exact W.iret hx hb hr (fun t ht _ => ⟨⟨rfl, by rw [ht]; exact hP, hD⟩, hS.F ht⟩) hS.2.2 dX7_least_55
  · have hf := ifp hc hf
    refine lv_bipush (v := (-3 : Int32)) hx hb dX7_least_12 bp_m3 ?_
    cases hf
    exact W.iret hx hb hr (fun t ht _ => ⟨⟨rfl, by rw [ht]; exact hP, hD⟩, hS.F ht⟩) hS.2.2 dX7_least_14
