/-! THE BASE OF THE MACHINE: the words of the nest, pre- and postconditions, calls -/
def nsL : List (String × Nat × MethodName) := [(RX6, 25, yX5_init), (RX6, 56, yX4_init), (RX6, 63, yX0_init), (RX0, 70, yX6_with), (RX0, 79, yX6_has), (RX1, 122, yX6_with), (RX1, 125, yX6_has), (RX3, 39, yX6_has), (RX3, 43, yX6_with), (RX4, 35, yX6_with), (RX4, 39, yX6_has), (RX5, 41, yX6_isTerm), (RX5, 45, yX6_with)]
theorem ns_0 : (RX6, 25, yX5_init) ∈ nsL := List.mem_of_getElem? (i := 0) rfl
theorem ns_1 : (RX6, 56, yX4_init) ∈ nsL := List.mem_of_getElem? (i := 1) rfl
theorem ns_2 : (RX6, 63, yX0_init) ∈ nsL := List.mem_of_getElem? (i := 2) rfl
theorem ns_3 : (RX0, 70, yX6_with) ∈ nsL := List.mem_of_getElem? (i := 3) rfl
theorem ns_4 : (RX0, 79, yX6_has) ∈ nsL := List.mem_of_getElem? (i := 4) rfl
theorem ns_5 : (RX1, 122, yX6_with) ∈ nsL := List.mem_of_getElem? (i := 5) rfl
theorem ns_6 : (RX1, 125, yX6_has) ∈ nsL := List.mem_of_getElem? (i := 6) rfl
theorem ns_7 : (RX3, 39, yX6_has) ∈ nsL := List.mem_of_getElem? (i := 7) rfl
theorem ns_8 : (RX3, 43, yX6_with) ∈ nsL := List.mem_of_getElem? (i := 8) rfl
theorem ns_9 : (RX4, 35, yX6_with) ∈ nsL := List.mem_of_getElem? (i := 9) rfl
theorem ns_10 : (RX4, 39, yX6_has) ∈ nsL := List.mem_of_getElem? (i := 10) rfl
theorem ns_11 : (RX5, 41, yX6_isTerm) ∈ nsL := List.mem_of_getElem? (i := 11) rfl
theorem ns_12 : (RX5, 45, yX6_with) ∈ nsL := List.mem_of_getElem? (i := 12) rfl
def KK (D : va_G) (cI cZ cM : ClassId) (U : State) : Prop := va_K D vwCl [(cI, .int), (cZ, .boolean), (cM, .object RX3)] U ∧ (∀ q ∈ nsL, va_Nw (.methodLinkNest q.1 q.2.1 q.2.2 RX6) U) ∧ va_AO RX3 U
theorem nw_0 {D : va_G} {cI cZ cM : ClassId} {U : State} (h : KK D cI cZ cM U) : va_Nw (.methodLinkNest RX6 25 yX5_init RX6) U := h.2.1 (RX6, 25, yX5_init) ns_0
theorem nw_1 {D : va_G} {cI cZ cM : ClassId} {U : State} (h : KK D cI cZ cM U) : va_Nw (.methodLinkNest RX6 56 yX4_init RX6) U := h.2.1 (RX6, 56, yX4_init) ns_1
theorem nw_2 {D : va_G} {cI cZ cM : ClassId} {U : State} (h : KK D cI cZ cM U) : va_Nw (.methodLinkNest RX6 63 yX0_init RX6) U := h.2.1 (RX6, 63, yX0_init) ns_2
theorem nw_3 {D : va_G} {cI cZ cM : ClassId} {U : State} (h : KK D cI cZ cM U) : va_Nw (.methodLinkNest RX0 70 yX6_with RX6) U := h.2.1 (RX0, 70, yX6_with) ns_3
theorem nw_4 {D : va_G} {cI cZ cM : ClassId} {U : State} (h : KK D cI cZ cM U) : va_Nw (.methodLinkNest RX0 79 yX6_has RX6) U := h.2.1 (RX0, 79, yX6_has) ns_4
theorem nw_5 {D : va_G} {cI cZ cM : ClassId} {U : State} (h : KK D cI cZ cM U) : va_Nw (.methodLinkNest RX1 122 yX6_with RX6) U := h.2.1 (RX1, 122, yX6_with) ns_5
theorem nw_6 {D : va_G} {cI cZ cM : ClassId} {U : State} (h : KK D cI cZ cM U) : va_Nw (.methodLinkNest RX1 125 yX6_has RX6) U := h.2.1 (RX1, 125, yX6_has) ns_6
theorem nw_7 {D : va_G} {cI cZ cM : ClassId} {U : State} (h : KK D cI cZ cM U) : va_Nw (.methodLinkNest RX3 39 yX6_has RX6) U := h.2.1 (RX3, 39, yX6_has) ns_7
theorem nw_8 {D : va_G} {cI cZ cM : ClassId} {U : State} (h : KK D cI cZ cM U) : va_Nw (.methodLinkNest RX3 43 yX6_with RX6) U := h.2.1 (RX3, 43, yX6_with) ns_8
theorem nw_9 {D : va_G} {cI cZ cM : ClassId} {U : State} (h : KK D cI cZ cM U) : va_Nw (.methodLinkNest RX4 35 yX6_with RX6) U := h.2.1 (RX4, 35, yX6_with) ns_9
theorem nw_10 {D : va_G} {cI cZ cM : ClassId} {U : State} (h : KK D cI cZ cM U) : va_Nw (.methodLinkNest RX4 39 yX6_has RX6) U := h.2.1 (RX4, 39, yX6_has) ns_10
theorem nw_11 {D : va_G} {cI cZ cM : ClassId} {U : State} (h : KK D cI cZ cM U) : va_Nw (.methodLinkNest RX5 41 yX6_isTerm RX6) U := h.2.1 (RX5, 41, yX6_isTerm) ns_11
theorem nw_12 {D : va_G} {cI cZ cM : ClassId} {U : State} (h : KK D cI cZ cM U) : va_Nw (.methodLinkNest RX5 45 yX6_with RX6) U := h.2.1 (RX5, 45, yX6_with) ns_12
theorem KK.warm {D : va_G} {cI cZ cM : ClassId} {s U : State} (hW : s.WarmedH U.vm) (h : KK D cI cZ cM s) : KK D cI cZ cM U := ⟨va_K.moved hW.alike h.1, fun q hq => va_Nw.warmM hW (h.2.1 q hq), h.2.2.moved hW.alike⟩
theorem KK.calling {D : va_G} {cI cZ cM : ClassId} {U : State} (g : JFrame) (mk : MethodId) (a : Array Value) (h : KK D cI cZ cM U) : KK D cI cZ cM (U.calling g mk a) := ⟨va_K.moved (u := U) (U := U.calling g mk a) (Vm.Alike.refl U.vm) h.1, fun q hq => va_Nw.same rfl (u := U) (U := U.calling g mk a) rfl (h.2.1 q hq), h.2.2.moved (u := U) (U := U.calling g mk a) (Vm.Alike.refl U.vm)⟩
def pR (D : va_G) (cI cZ cM : ClassId) (ws : va_W) (as : List Value) : Array Value → State → Prop := va_Pc as (fun U => va_P D vwCl ws U.heap ∧ KK D cI cZ cM U)
def pM (D : va_G) (cI cZ cM : ClassId) (sz : Nat) (ws : va_W) (as : List Value) : Array Value → State → Prop := va_Pc as (fun U => U.heap.size = sz ∧ va_P D vwCl ws U.heap ∧ KK D cI cZ cM U ∧ va_D (fun _ => True) ws)
def qR (r : Int32) : Array Value → State → Outcome → State → Prop := fun _ st oc t => oc = .returned (some (.int r)) ∧ t.heap = st.heap
def qI (D : va_G) (r : Int32) (w1 : va_W) (A : Nat → Prop) : Array Value → State → Outcome → State → Prop := fun _ st oc t => (oc = .returned (some (.int r)) ∧ va_P D vwCl w1 t.heap ∧ va_D A w1) ∧ va_F A st t
def qV (D : va_G) (w1 : va_W) (A : Nat → Prop) : Array Value → State → Outcome → State → Prop := fun _ st oc t => (oc = .returned none ∧ va_P D vwCl w1 t.heap ∧ va_D A w1) ∧ va_F A st t
def qN (D : va_G) (w1 : (Nat → Nat) → va_W) (A : Nat → Prop) : Array Value → State → Outcome → State → Prop := fun _ st oc t => (oc = .returned none ∧ ∃ f : Nat → Nat, va_P D vwCl (w1 f) t.heap ∧ va_D A (w1 f)) ∧ va_F A st t
theorem va_RA.name {U : State} {cA : ClassId} {ty : FieldType} (h : va_RA U cA ty) : U.vm.findClass ("[" ++ ty.toString) = some cA := by
  cases ty with
  | object C => obtain ⟨kA, comp, h1, h2, h3, h4⟩ := h; exact h4
  | _ => exact h
theorem pR_blind {D : va_G} {cI cZ cM : ClassId} {ws : va_W} {as : List Value} : FrameBlind (pR D cI cZ cM ws as) := fun a U g mk q => by obtain ⟨q0, qP, qK⟩ := q; exact ⟨q0, qP, qK.calling g mk a⟩
theorem pM_blind {D : va_G} {cI cZ cM : ClassId} {sz : Nat} {ws : va_W} {as : List Value} : FrameBlind (pM D cI cZ cM sz ws as) := fun a U g mk q => by obtain ⟨q0, q1, qP, qK, qD⟩ := q; exact ⟨q0, q1, qP, qK.calling g mk a, qD⟩
theorem prS {D : va_G} {cI cZ cM : ClassId} {ws wc : va_W} {s : State} {H : Heap} (hK : KK D cI cZ cM s) (hP : va_P D vwCl ws H) (is : List Nat) (hs : is.filterMap (fun i => ws[i]?) = wc) {As : List Value} : PreS s H (pR D cI cZ cM wc As) As := ⟨pR_blind, fun U hU hW => ⟨rfl, by rw [hU]; exact hP.sub is hs, hK.warm hW⟩⟩
theorem prV {D : va_G} {cI cZ cM : ClassId} {ws wc : va_W} {s : State} {H : Heap} (hK : KK D cI cZ cM s) (hP : va_P D vwCl ws H) (is : List Nat) (hs : is.filterMap (fun i => ws[i]?) = wc) {b q0 ci : Nat} {fs : List Value} {q : vw_C} (hc : vwCl[ci]? = some q) (he : ws[q0]? = some (b, .inr (ci, fs))) {As : List Value} : PreV s H q.1 b (pR D cI cZ cM wc (.ref b :: As)) As := ⟨pR_blind, va_recv hK.1 hP hc he, fun U hU hW => ⟨rfl, by rw [hU]; exact hP.sub is hs, hK.warm hW⟩⟩
theorem pmS {D : va_G} {cI cZ cM : ClassId} {ws wc : va_W} {s : State} {H : Heap} {A : Nat → Prop} (hK : KK D cI cZ cM s) (hP : va_P D vwCl ws H) (hD : va_D A ws) (is : List Nat) (hn : va_nd is = true) (hs : is.filterMap (fun i => ws[i]?) = wc) (hs2 : is.map (fun i => ws[i]?) = wc.map some) {As : List Value} : PreS s H (pM D cI cZ cM H.size wc As) As := ⟨pM_blind, fun U hU hW => ⟨rfl, by rw [hU], by rw [hU]; exact hP.sub is hs, hK.warm hW, (hD.sub is hn hs2).weaken (fun _ _ _ _ => trivial)⟩⟩
theorem pmV {D : va_G} {cI cZ cM : ClassId} {ws wc : va_W} {s : State} {H : Heap} {A : Nat → Prop} (hK : KK D cI cZ cM s) (hP : va_P D vwCl ws H) (hD : va_D A ws) (is : List Nat) (hn : va_nd is = true) (hs : is.filterMap (fun i => ws[i]?) = wc) (hs2 : is.map (fun i => ws[i]?) = wc.map some) {b q0 ci : Nat} {fs : List Value} {q : vw_C} (hc : vwCl[ci]? = some q) (he : ws[q0]? = some (b, .inr (ci, fs))) {As : List Value} : PreV s H q.1 b (pM D cI cZ cM H.size wc (.ref b :: As)) As := ⟨pM_blind, va_recv hK.1 hP hc he, fun U hU hW => ⟨rfl, by rw [hU], by rw [hU]; exact hP.sub is hs, hK.warm hW, (hD.sub is hn hs2).weaken (fun _ _ _ _ => trivial)⟩⟩
section CALLS
variable {p : Program} {l : Launch} {e : Env} {R : Room} {s : State} {m : MethodId} {args : Array Value} {below : List Frame} {meth : Method} {c : Code} {H : Heap} {locs : List Loc} {cells slots : Nat} {Q : State → Prop}
variable {pc : Nat} {ls : Array Slot} {rest st0 : List Value} {a : Array Value} {A0 : Nat → Prop} {H0 : Heap} {mc ms : Nat} {D : va_G} {w wc wr w1 : va_W} {r : Int32}
theorem roI (hr : va_Run p l e R s m args below meth c H locs cells slots 0 0 (F0 m pc ls st0) rest (qR r a) (fun _ => False)) (kk : W p l e R s m args below meth c H locs cells slots Q (F0 m (pc + 3) ls (.int r :: rest))) : W p l e R s m args below meth c H locs cells slots Q (F0 m pc ls st0) := by
  intro T hT X
  obtain ⟨v, st₀, t, T', L, h0, X', hL, e1, e2, ⟨hv, hh⟩, st⟩ := hr T hT X
  cases hv
  have hL0 : L = [] := List.eq_nil_iff_forall_not_mem.mpr (fun q hq => hL q hq)
  subst hL0
  rw [List.append_nil] at X'
  obtain ⟨t2, a1, b1⟩ := kk T' (by rw [e1, hh, h0]) X'
  exact ⟨t2, st t2 a1, b1⟩
theorem muX {v0 : Option Value} {Qa : State → Outcome → State → Prop} (hq : ∀ st oc t, Qa st oc t → (oc = .returned v0 ∧ va_P D vwCl w1 t.heap ∧ va_D (va_A wc H.size) w1) ∧ va_F (va_A wc H.size) st t) (hr : va_Run p l e R s m args below meth c H locs cells slots mc ms (F0 m pc ls st0) rest Qa (va_A wc H.size)) (hP : va_P D vwCl w H) (hD : va_D A0 w) (hS : va_S A0 H0 H locs) (hA : ∀ q, H0.size ≤ q → A0 q) (isC isR : List Nat) (hC : isC.map (fun i => w[i]?) = wc.map some) (hR : isR.map (fun i => w[i]?) = wr.map some) (hn : va_nd isR = true) (hdis : ∀ i ∈ isR, i ∉ isC)
    (kk : ∀ (H1 : Heap) (locs1 : List Loc), va_P D vwCl (wr ++ w1) H1 → va_D A0 (wr ++ w1) → va_S A0 H0 H1 locs1 → W p l e R s m args below meth c H1 locs1 (cells + mc) (slots + ms) Q (F0 m (pc + 3) ls (v0.toList ++ rest))) : W p l e R s m args below meth c H locs cells slots Q (F0 m pc ls st0) := by
  intro T hT X
  have hF := va_free (wc := wc) hD hS hA isC hC
  obtain ⟨v, st₀, t, T', L, h0, X', hL, e1, e2, hqa, st⟩ := hr T hT X
  obtain ⟨⟨hv, hP1, hD1⟩, hz, hk⟩ := hq _ _ _ hqa
  cases hv
  rw [h0] at hz hk
  obtain ⟨j1, j2⟩ := va_join (wr := wr) (w1 := w1) hP hD isC isR hC hR hn hdis hk hF hP1 hD1
  obtain ⟨t2, a1, b1⟩ := kk T'.heap (locs ++ L) (by rw [e1]; exact j1) j2
    ⟨Nat.le_trans hS.1 (by rw [e1]; exact hz), fun q h1 h2 => by rw [e1, hk q (Nat.lt_of_lt_of_le h1 hS.1) (fun z => h2 (hF q z))]; exact hS.2.1 q h1 h2, fun q hq => by
      rcases List.mem_append.mp hq with h | h
      · exact hS.2.2 q h
      · exact hF _ (hL q h)⟩ T' rfl X'
  exact ⟨t2, st t2 a1, b1⟩
theorem muI (hr : va_Run p l e R s m args below meth c H locs cells slots mc ms (F0 m pc ls st0) rest (qI D r w1 (va_A wc H.size) a) (va_A wc H.size)) (hP : va_P D vwCl w H) (hD : va_D A0 w) (hS : va_S A0 H0 H locs) (hA : ∀ q, H0.size ≤ q → A0 q) (isC isR : List Nat) (hC : isC.map (fun i => w[i]?) = wc.map some) (hR : isR.map (fun i => w[i]?) = wr.map some) (hn : va_nd isR = true) (hdis : ∀ i ∈ isR, i ∉ isC)
    (kk : ∀ (H1 : Heap) (locs1 : List Loc), va_P D vwCl (wr ++ w1) H1 → va_D A0 (wr ++ w1) → va_S A0 H0 H1 locs1 → W p l e R s m args below meth c H1 locs1 (cells + mc) (slots + ms) Q (F0 m (pc + 3) ls (.int r :: rest))) : W p l e R s m args below meth c H locs cells slots Q (F0 m pc ls st0) :=
  muX (v0 := some (.int r)) (fun _ _ _ h => h) hr hP hD hS hA isC isR hC hR hn hdis kk
theorem muV (hr : va_Run p l e R s m args below meth c H locs cells slots mc ms (F0 m pc ls st0) rest (qV D w1 (va_A wc H.size) a) (va_A wc H.size)) (hP : va_P D vwCl w H) (hD : va_D A0 w) (hS : va_S A0 H0 H locs) (hA : ∀ q, H0.size ≤ q → A0 q) (isC isR : List Nat) (hC : isC.map (fun i => w[i]?) = wc.map some) (hR : isR.map (fun i => w[i]?) = wr.map some) (hn : va_nd isR = true) (hdis : ∀ i ∈ isR, i ∉ isC)
    (kk : ∀ (H1 : Heap) (locs1 : List Loc), va_P D vwCl (wr ++ w1) H1 → va_D A0 (wr ++ w1) → va_S A0 H0 H1 locs1 → W p l e R s m args below meth c H1 locs1 (cells + mc) (slots + ms) Q (F0 m (pc + 3) ls rest)) : W p l e R s m args below meth c H locs cells slots Q (F0 m pc ls st0) :=
  muX (v0 := none) (fun _ _ _ h => h) hr hP hD hS hA isC isR hC hR hn hdis kk
theorem muI0 (hr : va_Run p l e R s m args below meth c H locs cells slots 0 0 (F0 m pc ls st0) rest (qI D r w1 (va_A wc H.size) a) (va_A wc H.size)) (hP : va_P D vwCl w H) (hD : va_D A0 w) (hS : va_S A0 H0 H locs) (hA : ∀ q, H0.size ≤ q → A0 q) (isC isR : List Nat) (hC : isC.map (fun i => w[i]?) = wc.map some) (hR : isR.map (fun i => w[i]?) = wr.map some) (hn : va_nd isR = true) (hdis : ∀ i ∈ isR, i ∉ isC)
    (kk : ∀ (H1 : Heap) (locs1 : List Loc), va_P D vwCl (wr ++ w1) H1 → va_D A0 (wr ++ w1) → va_S A0 H0 H1 locs1 → W p l e R s m args below meth c H1 locs1 cells slots Q (F0 m (pc + 3) ls (.int r :: rest))) : W p l e R s m args below meth c H locs cells slots Q (F0 m pc ls st0) :=
  muX (v0 := some (.int r)) (fun _ _ _ h => h) hr hP hD hS hA isC isR hC hR hn hdis kk
theorem muV0 (hr : va_Run p l e R s m args below meth c H locs cells slots 0 0 (F0 m pc ls st0) rest (qV D w1 (va_A wc H.size) a) (va_A wc H.size)) (hP : va_P D vwCl w H) (hD : va_D A0 w) (hS : va_S A0 H0 H locs) (hA : ∀ q, H0.size ≤ q → A0 q) (isC isR : List Nat) (hC : isC.map (fun i => w[i]?) = wc.map some) (hR : isR.map (fun i => w[i]?) = wr.map some) (hn : va_nd isR = true) (hdis : ∀ i ∈ isR, i ∉ isC)
    (kk : ∀ (H1 : Heap) (locs1 : List Loc), va_P D vwCl (wr ++ w1) H1 → va_D A0 (wr ++ w1) → va_S A0 H0 H1 locs1 → W p l e R s m args below meth c H1 locs1 cells slots Q (F0 m (pc + 3) ls rest)) : W p l e R s m args below meth c H locs cells slots Q (F0 m pc ls st0) :=
  muX (v0 := none) (fun _ _ _ h => h) hr hP hD hS hA isC isR hC hR hn hdis kk
theorem muN {w1 : (Nat → Nat) → va_W} (hr : va_Run p l e R s m args below meth c H locs cells slots mc ms (F0 m pc ls st0) rest (qN D w1 (va_A wc H.size) a) (va_A wc H.size)) (hP : va_P D vwCl w H) (hD : va_D A0 w) (hS : va_S A0 H0 H locs) (hA : ∀ q, H0.size ≤ q → A0 q) (isC isR : List Nat) (hC : isC.map (fun i => w[i]?) = wc.map some) (hR : isR.map (fun i => w[i]?) = wr.map some) (hn : va_nd isR = true) (hdis : ∀ i ∈ isR, i ∉ isC)
    (kk : ∀ (f : Nat → Nat) (H1 : Heap) (locs1 : List Loc), va_P D vwCl (wr ++ w1 f) H1 → va_D A0 (wr ++ w1 f) → va_S A0 H0 H1 locs1 → W p l e R s m args below meth c H1 locs1 (cells + mc) (slots + ms) Q (F0 m (pc + 3) ls rest)) : W p l e R s m args below meth c H locs cells slots Q (F0 m pc ls st0) := by
  intro T hT X
  have hF := va_free (wc := wc) hD hS hA isC hC
  obtain ⟨v, st₀, t, T', L, h0, X', hL, e1, e2, ⟨⟨hv, f, hP1, hD1⟩, hz, hk⟩, st⟩ := hr T hT X
  cases hv
  rw [h0] at hz hk
  obtain ⟨j1, j2⟩ := va_join (wr := wr) (w1 := w1 f) hP hD isC isR hC hR hn hdis hk hF hP1 hD1
  obtain ⟨t2, a1, b1⟩ := kk f T'.heap (locs ++ L) (by rw [e1]; exact j1) j2
    ⟨Nat.le_trans hS.1 (by rw [e1]; exact hz), fun q h1 h2 => by rw [e1, hk q (Nat.lt_of_lt_of_le h1 hS.1) (fun z => h2 (hF q z))]; exact hS.2.1 q h1 h2, fun q hq => by
      rcases List.mem_append.mp hq with h | h
      · exact hS.2.2 q h
      · exact hF _ (hL q h)⟩ T' rfl X'
  exact ⟨t2, st t2 a1, b1⟩
theorem newA {cc : ByteArray} {tys : List (ClassId × FieldType)} (hexec : p.tables.exec = Jvm.exec) (hb : c.code = cc) {atype : ArrayType} {ty : FieldType} {cA0 : ClassId} (harr : (Cond.arrayClass (newarray.typeOf atype)).before args s = true) (hty : newarray.typeOf atype = ty) (hK : va_K D vwCl tys s) (t0 : Nat) (ht : tys[t0]? = some (cA0, ty)) (hP : va_P D vwCl w H) (hD : va_D A0 w) (hS : va_S A0 H0 H locs) (hA : ∀ q, H0.size ≤ q → A0 q)
    {n : Int32} {N' : Nat} {a0 : vp_A} (ha : ∀ cA : ClassId, vp_cell cA a0 = arrV cA N' (fun _ => defaultValue ty)) (hn : ¬ n < 0) (hN : n.toNatClampNeg = N') (hbytes : N' * componentBytes ty ≤ 536870912) (hcells : cells + 1 ≤ R.cells) (hslots : slots + N' ≤ R.slots) (hdg : decode cc pc = .ok (.newarray atype, 2))
    (kk : ∀ (q : Nat) (H1 : Heap), va_P D vwCl (w ++ [(q, .inl (cA0, a0))]) H1 → va_D A0 (w ++ [(q, .inl (cA0, a0))]) → va_S A0 H0 H1 locs → W p l e R s m args below meth c H1 locs (cells + 1) (slots + N') Q (F0 m (pc + 2) ls (.ref q :: rest))) : W p l e R s m args below meth c H locs cells slots Q (F0 m pc ls (.int n :: rest)) := by
  refine va_newa hexec hb harr hty hK hP hD hS hA ha hn hN hbytes hcells hslots hdg (fun q cA H1 hK1 hP1 hD1 hS1 => ?_)
  have h1 := (hK1.2 tys.length (cA, ty) (by simp)).2.name
  have h2 := (hK.2 t0 _ ht).2.name
  rw [h1] at h2
  cases h2
  exact kk q H1 hP1 hD1 hS1
theorem newM {cc : ByteArray} {tys : List (ClassId × FieldType)} (hexec : p.tables.exec = Jvm.exec) (hb : c.code = cc) {own C : String} {index : Nat} {cA0 : ClassId} (hown : s.vm.findClass own = some m.cls) (hclink : (Cond.classLink own index C).before args s = true) (hover : va_AO C s) (hK : va_K D vwCl tys s) (t0 : Nat) (ht : tys[t0]? = some (cA0, .object C)) (hP : va_P D vwCl w H) (hD : va_D A0 w) (hS : va_S A0 H0 H locs) (hA : ∀ q, H0.size ≤ q → A0 q)
    {n : Int32} {N' : Nat} (hn : ¬ n < 0) (hN : n.toNatClampNeg = N') (hbytes : N' * 4 ≤ 536870912) (hcells : cells + 1 ≤ R.cells) (hslots : slots + N' ≤ R.slots) (hdg : decode cc pc = .ok (.anewarray index, 3))
    (kk : ∀ (q : Nat) (H1 : Heap), va_P D vwCl (w ++ [(q, .inl (cA0, N', .inr (.inr (.inr (.inr (fun _ => none))))))]) H1 → va_D A0 (w ++ [(q, .inl (cA0, N', .inr (.inr (.inr (.inr (fun _ => none))))))]) → va_S A0 H0 H1 locs → W p l e R s m args below meth c H1 locs (cells + 1) (slots + N') Q (F0 m (pc + 3) ls (.ref q :: rest))) : W p l e R s m args below meth c H locs cells slots Q (F0 m pc ls (.int n :: rest)) := by
  refine va_newq hexec hb hown hclink hover hK hP hD hS hA hn hN hbytes hcells hslots hdg (fun q cA H1 hK1 hP1 hD1 hS1 => ?_)
  have h1 := (hK1.2 tys.length (cA, .object C) (by simp)).2.name
  have h2 := (hK.2 t0 _ ht).2.name
  rw [h1] at h2
  cases h2
  exact kk q H1 hP1 hD1 hS1
theorem aldq {cc : ByteArray} {a : Nat} {tys : List (ClassId × FieldType)} (hexec : p.tables.exec = Jvm.exec) (hb : c.code = cc) (hK : va_K D vwCl tys s) (hP : va_P D vwCl w H) (q0 t0 : Nat) {cA : ClassId} {C : String} {n y : Nat} {f : Nat → Option Nat} (ha : w[q0]? = some (a, .inl (cA, n, .inr (.inr (.inr (.inr f)))))) (ht : tys[t0]? = some (cA, .object C)) {i : Int32} (hin : vp_in i n) (hg : f i.toNatClampNeg = some y) (hdg : decode cc pc = .ok (.aaload, 1))
    (kk : W p l e R s m args below meth c H locs cells slots Q (F0 m (pc + 1) ls (.ref y :: rest))) : W p l e R s m args below meth c H locs cells slots Q (F0 m pc ls (.int i :: .ref a :: rest)) :=
  va_aldq hexec hb hK hP q0 t0 ha ht hin hdg (by rw [hg]; exact kk)
end CALLS
theorem bp_m5 : (Int8.ofInt (-5)).toInt32 = (-5 : Int32) := by decide +kernel
theorem bp_m4 : (Int8.ofInt (-4)).toInt32 = (-4 : Int32) := by decide +kernel
theorem bp_m3 : (Int8.ofInt (-3)).toInt32 = (-3 : Int32) := by decide +kernel
theorem bp_m2 : (Int8.ofInt (-2)).toInt32 = (-2 : Int32) := by decide +kernel
theorem bp_6 : (Int8.ofInt (6)).toInt32 = (nI 6) := by decide +kernel
theorem bp_7 : (Int8.ofInt (7)).toInt32 = (nI 7) := by decide +kernel
theorem bp_8 : (Int8.ofInt (8)).toInt32 = (nI 8) := by decide +kernel
theorem bp_9 : (Int8.ofInt (9)).toInt32 = (nI 9) := by decide +kernel
theorem bp_10 : (Int8.ofInt (10)).toInt32 = (nI 10) := by decide +kernel
theorem bp_11 : (Int8.ofInt (11)).toInt32 = (nI 11) := by decide +kernel
theorem bp_12 : (Int8.ofInt (12)).toInt32 = (nI 12) := by decide +kernel
theorem bp_13 : (Int8.ofInt (13)).toInt32 = (nI 13) := by decide +kernel
theorem bp_14 : (Int8.ofInt (14)).toInt32 = (nI 14) := by decide +kernel
theorem bp_15 : (Int8.ofInt (15)).toInt32 = (nI 15) := by decide +kernel
theorem bp_16 : (Int8.ofInt (16)).toInt32 = (nI 16) := by decide +kernel
theorem bp_17 : (Int8.ofInt (17)).toInt32 = (nI 17) := by decide +kernel
theorem bp_18 : (Int8.ofInt (18)).toInt32 = (nI 18) := by decide +kernel
theorem bp_19 : (Int8.ofInt (19)).toInt32 = (nI 19) := by decide +kernel
theorem bp_20 : (Int8.ofInt (20)).toInt32 = (nI 20) := by decide +kernel
theorem bp_21 : (Int8.ofInt (21)).toInt32 = (nI 21) := by decide +kernel
theorem bp_22 : (Int8.ofInt (22)).toInt32 = (nI 22) := by decide +kernel
theorem bp_23 : (Int8.ofInt (23)).toInt32 = (nI 23) := by decide +kernel
theorem bp_24 : (Int8.ofInt (24)).toInt32 = (nI 24) := by decide +kernel
theorem bp_25 : (Int8.ofInt (25)).toInt32 = (nI 25) := by decide +kernel
theorem bp_26 : (Int8.ofInt (26)).toInt32 = (nI 26) := by decide +kernel
theorem bp_27 : (Int8.ofInt (27)).toInt32 = (nI 27) := by decide +kernel
theorem bp_28 : (Int8.ofInt (28)).toInt32 = (nI 28) := by decide +kernel
theorem bp_29 : (Int8.ofInt (29)).toInt32 = (nI 29) := by decide +kernel
theorem bp_30 : (Int8.ofInt (30)).toInt32 = (nI 30) := by decide +kernel
theorem bp_31 : (Int8.ofInt (31)).toInt32 = (nI 31) := by decide +kernel
theorem bp_32 : (Int8.ofInt (32)).toInt32 = (nI 32) := by decide +kernel
theorem bp_33 : (Int8.ofInt (33)).toInt32 = (nI 33) := by decide +kernel
theorem bp_34 : (Int8.ofInt (34)).toInt32 = (nI 34) := by decide +kernel
theorem bp_35 : (Int8.ofInt (35)).toInt32 = (nI 35) := by decide +kernel
theorem bp_36 : (Int8.ofInt (36)).toInt32 = (nI 36) := by decide +kernel
theorem bp_37 : (Int8.ofInt (37)).toInt32 = (nI 37) := by decide +kernel
theorem bp_38 : (Int8.ofInt (38)).toInt32 = (nI 38) := by decide +kernel
theorem bp_39 : (Int8.ofInt (39)).toInt32 = (nI 39) := by decide +kernel
theorem bp_40 : (Int8.ofInt (40)).toInt32 = (nI 40) := by decide +kernel
theorem bp_41 : (Int8.ofInt (41)).toInt32 = (nI 41) := by decide +kernel
theorem bp_42 : (Int8.ofInt (42)).toInt32 = (nI 42) := by decide +kernel
theorem bp_43 : (Int8.ofInt (43)).toInt32 = (nI 43) := by decide +kernel
theorem bp_44 : (Int8.ofInt (44)).toInt32 = (nI 44) := by decide +kernel
theorem bp_45 : (Int8.ofInt (45)).toInt32 = (nI 45) := by decide +kernel
theorem bp_46 : (Int8.ofInt (46)).toInt32 = (nI 46) := by decide +kernel
theorem bp_47 : (Int8.ofInt (47)).toInt32 = (nI 47) := by decide +kernel
theorem bp_48 : (Int8.ofInt (48)).toInt32 = (nI 48) := by decide +kernel
theorem bp_53 : (Int8.ofInt (53)).toInt32 = (nI 53) := by decide +kernel
theorem bp_57 : (Int8.ofInt (57)).toInt32 = (nI 57) := by decide +kernel
theorem bp_59 : (Int8.ofInt (59)).toInt32 = (nI 59) := by decide +kernel
theorem bp_63 : (Int8.ofInt (63)).toInt32 = (nI 63) := by decide +kernel
theorem bp_64 : (Int8.ofInt (64)).toInt32 = (nI 64) := by decide +kernel
theorem bp_97 : (Int8.ofInt (97)).toInt32 = (nI 97) := by decide +kernel
theorem bp_99 : (Int8.ofInt (99)).toInt32 = (nI 99) := by decide +kernel
theorem bp_100 : (Int8.ofInt (100)).toInt32 = (nI 100) := by decide +kernel
theorem bp_101 : (Int8.ofInt (101)).toInt32 = (nI 101) := by decide +kernel
theorem bp_103 : (Int8.ofInt (103)).toInt32 = (nI 103) := by decide +kernel
theorem bp_104 : (Int8.ofInt (104)).toInt32 = (nI 104) := by decide +kernel
theorem bp_105 : (Int8.ofInt (105)).toInt32 = (nI 105) := by decide +kernel
theorem bp_106 : (Int8.ofInt (106)).toInt32 = (nI 106) := by decide +kernel
theorem bp_109 : (Int8.ofInt (109)).toInt32 = (nI 109) := by decide +kernel
theorem bp_110 : (Int8.ofInt (110)).toInt32 = (nI 110) := by decide +kernel
theorem bp_111 : (Int8.ofInt (111)).toInt32 = (nI 111) := by decide +kernel
theorem bp_112 : (Int8.ofInt (112)).toInt32 = (nI 112) := by decide +kernel
theorem bp_114 : (Int8.ofInt (114)).toInt32 = (nI 114) := by decide +kernel
theorem bp_115 : (Int8.ofInt (115)).toInt32 = (nI 115) := by decide +kernel
theorem bp_116 : (Int8.ofInt (116)).toInt32 = (nI 116) := by decide +kernel
theorem bp_117 : (Int8.ofInt (117)).toInt32 = (nI 117) := by decide +kernel
theorem bp_122 : (Int8.ofInt (122)).toInt32 = (nI 122) := by decide +kernel
theorem ic_m1 : Int32.ofInt (-1) = (-1 : Int32) := by decide +kernel
theorem ic_0 : Int32.ofInt (0) = (nI 0) := by decide +kernel
theorem ic_1 : Int32.ofInt (1) = (nI 1) := by decide +kernel
theorem ic_2 : Int32.ofInt (2) = (nI 2) := by decide +kernel
theorem ic_3 : Int32.ofInt (3) = (nI 3) := by decide +kernel
theorem ic_4 : Int32.ofInt (4) = (nI 4) := by decide +kernel
theorem ic_5 : Int32.ofInt (5) = (nI 5) := by decide +kernel
theorem ii_m1 (x : Int32) : x + Int32.ofInt (-1) = x + (-1 : Int32) := congrArg (fun z => x + z) (by decide +kernel)
theorem ii_1 (x : Int32) : x + Int32.ofInt (1) = x + (nI 1) := congrArg (fun z => x + z) (by decide +kernel)
theorem sp_200 : (Int16.ofInt (200)).toInt32 = (nI 200) := by decide +kernel
theorem sp_255 : (Int16.ofInt (255)).toInt32 = (nI 255) := by decide +kernel
theorem sp_371 : (Int16.ofInt (371)).toInt32 = (nI 371) := by decide +kernel
theorem sp_477 : (Int16.ofInt (477)).toInt32 = (nI 477) := by decide +kernel
theorem sp_583 : (Int16.ofInt (583)).toInt32 = (nI 583) := by decide +kernel
theorem sp_1000 : (Int16.ofInt (1000)).toInt32 = (nI 1000) := by decide +kernel
theorem sp_1024 : (Int16.ofInt (1024)).toInt32 = (nI 1024) := by decide +kernel
/-! STRINGS: what the class asks of its own constants: length() and charAt(k) -/
def FF : Nat → Prop := fun _ => False
/-- a String constant at sa, its bytes at sv -/
def STR (A : Nat → Prop) (sa sv wl : Nat) (wc : Nat → Int32) (U : State) (H : Heap) : Prop :=
  va_O "java/lang/String" sa A U H ∧ va_OF "java/lang/String" "coder" "B" (.int 0) sa A U H ∧ va_OF "java/lang/String" "value" "[B" (.ref sv) sa A U H ∧ va_T .byte sv wl (fun j => .int (wc j)) A U H ∧ va_Z "java/lang/String" "COMPACT_STRINGS" "Z" (.int 1) A U H ∧ va_Zq "jdk/internal/util/Preconditions" "SIOOBE_FORMATTER" "Ljava/util/function/BiFunction;" A U H
theorem STR.moved {A : Nat → Prop} {sa sv wl : Nat} {wc : Nat → Int32} {u U : State} {H : Heap} (hvm : u.vm.Alike U.vm) (h : STR A sa sv wl wc u H) : STR A sa sv wl wc U H := ⟨h.1.moved hvm, h.2.1.moved hvm, h.2.2.1.moved hvm, h.2.2.2.1.moved hvm, h.2.2.2.2.1.moved hvm, h.2.2.2.2.2.moved hvm⟩
theorem STR.kept {A : Nat → Prop} {sa sv wl : Nat} {wc : Nat → Int32} {U : State} {H H1 : Heap} (h : STR A sa sv wl wc U H) (hq : ∀ a : Nat, a < H.size → ¬ A a → H1[a]? = H[a]?) : STR A sa sv wl wc U H1 := ⟨h.1.kept hq, h.2.1.kept hq, h.2.2.1.kept hq, h.2.2.2.1.kept hq, h.2.2.2.2.1.kept hq, h.2.2.2.2.2.kept hq⟩
theorem STR.narrow {A B : Nat → Prop} {sa sv wl : Nat} {wc : Nat → Int32} {U : State} {H : Heap} (h : STR A sa sv wl wc U H) (hAB : ∀ q, B q → A q) : STR B sa sv wl wc U H := ⟨h.1.narrow hAB, h.2.1.narrow hAB, h.2.2.1.narrow hAB, h.2.2.2.1.narrow hAB, h.2.2.2.2.1.narrow hAB, h.2.2.2.2.2.narrow hAB⟩
def pS (sa sv wl : Nat) (wc : Nat → Int32) (as : List Value) : Array Value → State → Prop := va_Pc as (fun U => STR FF sa sv wl wc U U.heap)
theorem pS_blind {sa sv wl : Nat} {wc : Nat → Int32} {as : List Value} : FrameBlind (pS sa sv wl wc as) := fun a U g mk q => by obtain ⟨q0, q1⟩ := q; exact ⟨q0, q1.moved (u := U) (U := U.calling g mk a) (Vm.Alike.refl U.vm)⟩
theorem psS {sa sv wl : Nat} {wc : Nat → Int32} {s : State} {H : Heap} (hE : STR FF sa sv wl wc s H) {As : List Value} : PreS s H (pS sa sv wl wc As) As := ⟨pS_blind, fun U hU hW => ⟨rfl, by subst hU; exact hE.moved hW.alike⟩⟩
theorem psV {sa sv wl : Nat} {wc : Nat → Int32} {s : State} {H : Heap} (hE : STR FF sa sv wl wc s H) {As : List Value} : PreV s H "java/lang/String" sa (pS sa sv wl wc (.ref sa :: As)) As := by
  refine ⟨pS_blind, ?_, fun U hU hW => ⟨rfl, by subst hU; exact hE.moved hW.alike⟩⟩
  obtain ⟨cell, h1, h2, h3, -⟩ := hE.1
  exact ⟨cell, h1, h2, h3⟩
theorem hdc_J0_coder : yJ0_coder_7d493.cls ≠ "java/lang/invoke/MethodHandle" ∧ yJ0_coder_7d493.cls ≠ "java/lang/invoke/VarHandle" ∧ (parseMethodDescriptor yJ0_coder_7d493.desc).map (fun d => d.parameters.length) = some 0 := by decide +kernel
theorem hdc_J0_length : yJ0_length_8abf5.cls ≠ "java/lang/invoke/MethodHandle" ∧ yJ0_length_8abf5.cls ≠ "java/lang/invoke/VarHandle" ∧ (parseMethodDescriptor yJ0_length_8abf5.desc).map (fun d => d.parameters.length) = some 0 := by decide +kernel
theorem hdc_J0_isLatin1 : yJ0_isLatin1_aae02.cls ≠ "java/lang/invoke/MethodHandle" ∧ yJ0_isLatin1_aae02.cls ≠ "java/lang/invoke/VarHandle" ∧ (parseMethodDescriptor yJ0_isLatin1_aae02.desc).map (fun d => d.parameters.length) = some 0 := by decide +kernel
theorem hdc_J0_charAt : yJ0_charAt_5068e.cls ≠ "java/lang/invoke/MethodHandle" ∧ yJ0_charAt_5068e.cls ≠ "java/lang/invoke/VarHandle" ∧ (parseMethodDescriptor yJ0_charAt_5068e.desc).map (fun d => d.parameters.length) = some 1 := by decide +kernel
theorem hdc_J1_charAt : yJ1_charAt_3b067.cls ≠ "java/lang/invoke/MethodHandle" ∧ yJ1_charAt_3b067.cls ≠ "java/lang/invoke/VarHandle" ∧ (parseMethodDescriptor yJ1_charAt_3b067.desc).map (fun d => d.parameters.length) = some 2 := by decide +kernel
theorem hdc_J0_checkIndex : yJ0_checkIndex_df160.cls ≠ "java/lang/invoke/MethodHandle" ∧ yJ0_checkIndex_df160.cls ≠ "java/lang/invoke/VarHandle" ∧ (parseMethodDescriptor yJ0_checkIndex_df160.desc).map (fun d => d.parameters.length) = some 2 := by decide +kernel
theorem hdc_J3_checkIndex : yJ3_checkIndex_8e157.cls ≠ "java/lang/invoke/MethodHandle" ∧ yJ3_checkIndex_8e157.cls ≠ "java/lang/invoke/VarHandle" ∧ (parseMethodDescriptor yJ3_checkIndex_8e157.desc).map (fun d => d.parameters.length) = some 3 := by decide +kernel
theorem nar_byte0 : narrow .byte (.int (0 : Int32)) = .int 0 := by decide +kernel
set_option maxHeartbeats 4000000 in
set_option maxRecDepth 100000 in
theorem c_J0_coder (l : Launch) (sa sv wl : Nat) (wc : Nat → Int32) : Met l yJ0_coder_7d493 wsJ0_coder_7d493 ({ frames := 0, cells := 0, slots := 0, locals := 0 }) (pS sa sv wl wc [.ref sa]) (qR 0) 0 0 (fun _ => False) := by
  refine Met.ofW (cc := cJ0_coder_7d493) (maxL := 1) (ret := (some .byte)) (by decide) rfl ?_
  intro p e s m args below meth c s₁ B hml hv
  obtain ⟨rfl, hE⟩ := hv
  have hx := B.exec
  have hb := B.bytes
  have hr := B.returns
  have hts := atoms_spec (ws := wsJ0_coder_7d493) B.pre
  have hown : s.vm.findClass RJ0 = some m.cls := findClass_of_methodNamed B.named
  have hlocks := B.notSynchronized
  have hS : va_S FF s.heap s.heap [] := va_S.rf
  have hl := lv_entry ([.ref sa]) (n := 1) (Nat.le_of_ble_eq_true rfl)
  rw [lg_entry_eq]
  generalize (lg_sl ([.ref sa]) ++ List.replicate (1 - (lg_sl ([.ref sa])).length) Slot.unset).toArray = ls at hl ⊢
  have hl : lv_has ls 1 [(0, .ref sa)] := hl
  refine va_gets hx hb hE.2.2.2.2.1 hS hown (hts (.fieldLink RJ0 38 "java/lang/String" "COMPACT_STRINGS" "Z") (by decide +kernel)) (fun _ h9 => h9) dJ0_coder_7d493_0 ?_
  refine lv_if_eq (tgt := 13) hx hb dJ0_coder_7d493_3 (by decide) (fun hc => absurd hc (by decide)) (fun hc => ?_)
  refine lv_aload_n hx hb dJ0_coder_7d493_6 rfl (lv_at hl 0 rfl) ?_
  refine vk_getf hx hb hE.2.1 hS hown (hts (.fieldLink RJ0 15 "java/lang/String" "coder" "B") (by decide +kernel)) (fun _ h9 => h9) dJ0_coder_7d493_7 ?_
  refine lv_goto (tgt := 14) hx hb dJ0_coder_7d493_10 (by decide) ?_
  exact W.zret hx hb hr nar_byte0 (fun t ht _ => ⟨rfl, ht⟩) (fun _ h => nomatch h) dJ0_coder_7d493_14
set_option maxHeartbeats 4000000 in
set_option maxRecDepth 100000 in
theorem c_J0_isLatin1 (l : Launch) (sa sv wl : Nat) (wc : Nat → Int32) : Met l yJ0_isLatin1_aae02 wsJ0_isLatin1_aae02 ({ frames := 0, cells := 0, slots := 0, locals := 0 }) (pS sa sv wl wc [.ref sa]) (qR (nI 1)) 0 0 (fun _ => False) := by
  refine Met.ofW (cc := cJ0_isLatin1_aae02) (maxL := 1) (ret := (some .boolean)) (by decide) rfl ?_
  intro p e s m args below meth c s₁ B hml hv
  obtain ⟨rfl, hE⟩ := hv
  have hx := B.exec
  have hb := B.bytes
  have hr := B.returns
  have hts := atoms_spec (ws := wsJ0_isLatin1_aae02) B.pre
  have hown : s.vm.findClass RJ0 = some m.cls := findClass_of_methodNamed B.named
  have hlocks := B.notSynchronized
  have hS : va_S FF s.heap s.heap [] := va_S.rf
  have hl := lv_entry ([.ref sa]) (n := 1) (Nat.le_of_ble_eq_true rfl)
  rw [lg_entry_eq]
  generalize (lg_sl ([.ref sa]) ++ List.replicate (1 - (lg_sl ([.ref sa])).length) Slot.unset).toArray = ls at hl ⊢
  have hl : lv_has ls 1 [(0, .ref sa)] := hl
  refine va_gets hx hb hE.2.2.2.2.1 hS hown (hts (.fieldLink RJ0 38 "java/lang/String" "COMPACT_STRINGS" "Z") (by decide +kernel)) (fun _ h9 => h9) dJ0_isLatin1_aae02_0 ?_
  refine lv_if_eq (tgt := 17) hx hb dJ0_isLatin1_aae02_3 (by decide) (fun hc => absurd hc (by decide)) (fun hc => ?_)
  refine lv_aload_n hx hb dJ0_isLatin1_aae02_6 rfl (lv_at hl 0 rfl) ?_
  refine vk_getf hx hb hE.2.1 hS hown (hts (.fieldLink RJ0 15 "java/lang/String" "coder" "B") (by decide +kernel)) (fun _ h9 => h9) dJ0_isLatin1_aae02_7 ?_
  refine lv_if_ne (tgt := 17) hx hb dJ0_isLatin1_aae02_10 (by decide) (fun hc => absurd rfl hc) (fun hc => ?_)
  refine lv_iconst (v := (nI 1)) hx hb dJ0_isLatin1_aae02_13 (by decide +kernel) ?_
  refine lv_goto (tgt := 18) hx hb dJ0_isLatin1_aae02_14 (by decide) ?_
  exact W.zret hx hb hr zbl_1.1 (fun t ht _ => ⟨rfl, ht⟩) (fun _ h => nomatch h) dJ0_isLatin1_aae02_18
set_option maxHeartbeats 4000000 in
set_option maxRecDepth 100000 in
theorem c_J0_length (l : Launch) (sa sv wl : Nat) (wc : Nat → Int32) : Met l yJ0_length_8abf5 wsJ0_length_8abf5 ({ frames := 1, cells := 0, slots := 0, locals := 20 }) (pS sa sv wl wc [.ref sa]) (qR (nI wl)) 0 0 (fun _ => False) := by
  refine Met.ofW (cc := cJ0_length_8abf5) (maxL := 1) (ret := (some .int)) (by decide) rfl ?_
  intro p e s m args below meth c s₁ B hml hv
  obtain ⟨rfl, hE⟩ := hv
  have hx := B.exec
  have hb := B.bytes
  have hr := B.returns
  have hts := atoms_spec (ws := wsJ0_length_8abf5) B.pre
  have hown : s.vm.findClass RJ0 = some m.cls := findClass_of_methodNamed B.named
  have hlocks := B.notSynchronized
  have hS : va_S FF s.heap s.heap [] := va_S.rf
  have hl := lv_entry ([.ref sa]) (n := 1) (Nat.le_of_ble_eq_true rfl)
  rw [lg_entry_eq]
  generalize (lg_sl ([.ref sa]) ++ List.replicate (1 - (lg_sl ([.ref sa])).length) Slot.unset).toArray = ls at hl ⊢
  have hl : lv_has ls 1 [(0, .ref sa)] := hl
  refine lv_aload_n hx hb dJ0_length_8abf5_0 rfl (lv_at hl 0 rfl) ?_
  refine vk_getf hx hb hE.2.2.1 hS hown (hts (.fieldLink RJ0 9 "java/lang/String" "value" "[B") (by decide +kernel)) (fun _ h9 => h9) dJ0_length_8abf5_1 ?_
  refine va_tlen (v := nI wl) hx hb hE.2.2.2.1 hS rfl dJ0_length_8abf5_4 ?_
  refine lv_aload_n hx hb dJ0_length_8abf5_5 rfl (lv_at hl 0 rfl) ?_
  refine roI (va_runV (As := []) (rest := [.int (nI wl)]) ⟨hx, hb, hml, hown, hts⟩ (c_J0_coder l sa sv wl wc) (cwV 0 hts gJ0_length_8abf5_J0_coder_7d493 rfl rfl rfl ⟨rfl, hdc_J0_coder⟩ ⟨Nat.le_of_ble_eq_true rfl, Nat.le_of_ble_eq_true rfl⟩) (psV hE) rfl rfl hl.1 rfl (lv_room (Nat.le_of_ble_eq_true rfl)) dJ0_length_8abf5_6 ⟨Nat.zero_le _, Nat.zero_le _⟩) ?_
  refine lv_ishr hx hb dJ0_length_8abf5_9 ?_
  rw [sb_shr0]
  exact W.iret hx hb hr (fun t ht _ => ⟨rfl, ht⟩) (fun _ h => nomatch h) dJ0_length_8abf5_10
set_option maxHeartbeats 4000000 in
set_option maxRecDepth 100000 in
theorem c_J3_checkIndex (l : Launch) (sa sv wl : Nat) (wc : Nat → Int32) (i n : Int32) (v : Option Nat) (h0 : ¬ i < 0) (h1 : i < n) : Met l yJ3_checkIndex_8e157 wsJ3_checkIndex_8e157 ({ frames := 0, cells := 0, slots := 0, locals := 0 }) (pS sa sv wl wc [.int i, .int n, va_rf v]) (qR i) 0 0 (fun _ => False) := by
  refine Met.ofW (cc := cJ3_checkIndex_8e157) (maxL := 3) (ret := (some .int)) (by decide) rfl ?_
  intro p e s m args below meth c s₁ B hml hv
  obtain ⟨rfl, hE⟩ := hv
  have hx := B.exec
  have hb := B.bytes
  have hr := B.returns
  have hlocks := B.notSynchronized
  have hl : ∃ ls : Array Slot, lv_has ls 3 [(0, .int i), (1, .int n)] ∧ entryFrame m ([.int i, .int n, va_rf v] : List Value).toArray 3 = F0 m 0 ls [] := by
    cases v with
    | none =>
      have hl := lv_entry ([.int i, .int n, .null]) (n := 3) (Nat.le_of_ble_eq_true rfl)
      exact ⟨_, lv_sub hl [0, 1] rfl, by rw [show va_rf none = Value.null from rfl, lg_entry_eq]⟩
    | some a =>
      have hl := lv_entry ([.int i, .int n, .ref a]) (n := 3) (Nat.le_of_ble_eq_true rfl)
      exact ⟨_, lv_sub hl [0, 1] rfl, by rw [show va_rf (some a) = Value.ref a from rfl, lg_entry_eq]⟩
  obtain ⟨ls, hl, he⟩ := hl
  rw [he]
  refine lv_iload_n hx hb dJ3_checkIndex_8e157_0 rfl (lv_at hl 0 rfl) ?_
  refine lv_if_lt (tgt := 9) hx hb dJ3_checkIndex_8e157_1 (by decide) (fun hc => absurd hc h0) (fun hc => ?_)
  refine lv_iload_n hx hb dJ3_checkIndex_8e157_4 rfl (lv_at hl 0 rfl) ?_
  refine lv_iload_n hx hb dJ3_checkIndex_8e157_5 rfl (lv_at hl 1 rfl) ?_
  refine lv_icmp_lt (tgt := 16) hx hb dJ3_checkIndex_8e157_6 (by decide) (fun hc => ?_) (fun hc => absurd h1 hc)
  refine lv_iload_n hx hb dJ3_checkIndex_8e157_16 rfl (lv_at hl 0 rfl) ?_
  exact W.iret hx hb hr (fun t ht _ => ⟨rfl, ht⟩) (fun _ h => nomatch h) dJ3_checkIndex_8e157_17
def qU : Array Value → State → Outcome → State → Prop := fun _ st oc t => oc = .returned none ∧ t.heap = st.heap
section CU
variable {p : Program} {l : Launch} {e : Env} {R : Room} {s : State} {m : MethodId} {args : Array Value} {below : List Frame} {meth : Method} {c : Code} {H : Heap} {locs : List Loc} {cells slots : Nat} {Q : State → Prop} {pc : Nat} {ls : Array Slot} {rest st0 : List Value} {a : Array Value}
theorem roU (hr : va_Run p l e R s m args below meth c H locs cells slots 0 0 (F0 m pc ls st0) rest (qU a) (fun _ => False)) (kk : W p l e R s m args below meth c H locs cells slots Q (F0 m (pc + 3) ls rest)) : W p l e R s m args below meth c H locs cells slots Q (F0 m pc ls st0) := by
  intro T hT X
  obtain ⟨v, st₀, t, T', L, h0, X', hL, e1, e2, ⟨hv, hh⟩, st⟩ := hr T hT X
  cases hv
  have hL0 : L = [] := List.eq_nil_iff_forall_not_mem.mpr (fun q hq => hL q hq)
  subst hL0
  rw [List.append_nil] at X'
  obtain ⟨t2, a1, b1⟩ := kk T' (by rw [e1, hh, h0]) X'
  exact ⟨t2, st t2 a1, b1⟩
end CU
set_option maxHeartbeats 4000000 in
set_option maxRecDepth 100000 in
theorem c_J0_checkIndex (l : Launch) (sa sv wl : Nat) (wc : Nat → Int32) (i n : Int32) (h0 : ¬ i < 0) (h1 : i < n) : Met l yJ0_checkIndex_df160 wsJ0_checkIndex_df160 ({ frames := 1, cells := 0, slots := 0, locals := 22 }) (pS sa sv wl wc [.int i, .int n]) qU 0 0 (fun _ => False) := by
  refine Met.ofW (cc := cJ0_checkIndex_df160) (maxL := 2) (ret := none) (by decide) rfl ?_
  intro p e s m args below meth c s₁ B hml hv
  obtain ⟨rfl, hE⟩ := hv
  have hx := B.exec
  have hb := B.bytes
  have hr := B.returns
  have hts := atoms_spec (ws := wsJ0_checkIndex_df160) B.pre
  have hown : s.vm.findClass RJ0 = some m.cls := findClass_of_methodNamed B.named
  have hlocks := B.notSynchronized
  have hS : va_S FF s.heap s.heap [] := va_S.rf
  have hl := lv_entry ([.int i, .int n]) (n := 2) (Nat.le_of_ble_eq_true rfl)
  rw [lg_entry_eq]
  generalize (lg_sl ([.int i, .int n]) ++ List.replicate (2 - (lg_sl ([.int i, .int n])).length) Slot.unset).toArray = ls at hl ⊢
  have hl : lv_has ls 2 [(0, .int i), (1, .int n)] := hl
  refine lv_iload_n hx hb dJ0_checkIndex_df160_0 rfl (lv_at hl 0 rfl) ?_
  refine lv_iload_n hx hb dJ0_checkIndex_df160_1 rfl (lv_at hl 1 rfl) ?_
  have hz : ∃ v : Option Nat, va_Z "jdk/internal/util/Preconditions" "SIOOBE_FORMATTER" "Ljava/util/function/BiFunction;" (va_rf v) FF s s.heap := by
    rcases hE.2.2.2.2.2 with h | ⟨t, h⟩
    · exact ⟨none, h⟩
    · exact ⟨some t, h⟩
  obtain ⟨v, hz⟩ := hz
  refine va_gets hx hb hz hS hown (hts (.fieldLink RJ0 1053 "jdk/internal/util/Preconditions" "SIOOBE_FORMATTER" "Ljava/util/function/BiFunction;") (by decide +kernel)) (fun _ h9 => h9) dJ0_checkIndex_df160_2 ?_
  refine roI (va_runS (As := [.int i, .int n, va_rf v]) (rest := []) ⟨hx, hb, hml, hown, hts⟩ (c_J3_checkIndex l sa sv wl wc i n v h0 h1) (va_cwS 3 hts gJ0_checkIndex_df160_J3_checkIndex_8e157 rfl rfl rfl hdc_J3_checkIndex ⟨Nat.le_of_ble_eq_true rfl, Nat.le_of_ble_eq_true rfl⟩) (psS hE) rfl rfl hl.1 rfl (lv_room (Nat.le_of_ble_eq_true rfl)) dJ0_checkIndex_df160_5 ⟨Nat.zero_le _, Nat.zero_le _⟩) ?_
  refine lv_pop hx hb dJ0_checkIndex_df160_8 rfl ?_
  exact W.vret hx hb hr (fun t ht _ => ⟨rfl, ht⟩) (fun _ h => nomatch h) dJ0_checkIndex_df160_9
set_option maxHeartbeats 4000000 in
set_option maxRecDepth 100000 in
theorem c_J1_charAt (l : Launch) (sa sv wl : Nat) (wc : Nat → Int32) (i r : Int32) (h0 : vp_in i wl) (hw : wl < 2 ^ 31) (hv : (((wc i.toNatClampNeg) &&& 255).toUInt32 % 65536).toInt32 = r) (hn : narrow .char (.int r) = .int r) : Met l yJ1_charAt_3b067 wsJ1_charAt_3b067 ({ frames := 2, cells := 0, slots := 0, locals := 43 }) (pS sa sv wl wc [.ref sv, .int i]) (qR r) 0 0 (fun _ => False) := by
  refine Met.ofW (cc := cJ1_charAt_3b067) (maxL := 2) (ret := (some .char)) (by decide) rfl ?_
  intro p e s m args below meth c s₁ B hml hv0
  obtain ⟨rfl, hE⟩ := hv0
  have hx := B.exec
  have hb := B.bytes
  have hr := B.returns
  have hts := atoms_spec (ws := wsJ1_charAt_3b067) B.pre
  have hown : s.vm.findClass RJ1 = some m.cls := findClass_of_methodNamed B.named
  have hlocks := B.notSynchronized
  have hS : va_S FF s.heap s.heap [] := va_S.rf
  have hl := lv_entry ([.ref sv, .int i]) (n := 2) (Nat.le_of_ble_eq_true rfl)
  rw [lg_entry_eq]
  generalize (lg_sl ([.ref sv, .int i]) ++ List.replicate (2 - (lg_sl ([.ref sv, .int i])).length) Slot.unset).toArray = ls at hl ⊢
  have hl : lv_has ls 2 [(0, .ref sv), (1, .int i)] := hl
  obtain ⟨j, hj, rfl⟩ := vp_in_of h0 hw
  refine lv_iload_n hx hb dJ1_charAt_3b067_0 rfl (lv_at hl 1 rfl) ?_
  refine lv_aload_n hx hb dJ1_charAt_3b067_1 rfl (lv_at hl 0 rfl) ?_
  refine va_tlen (v := nI wl) hx hb hE.2.2.2.1 hS rfl dJ1_charAt_3b067_2 ?_
  refine roU (va_runS (As := [.int (nI j), .int (nI wl)]) (rest := []) ⟨hx, hb, hml, hown, hts⟩ (c_J0_checkIndex l sa sv wl wc (nI j) (nI wl) (nI_pos (by omega)) (nI_lt hj hw)) (va_cwS 2 hts gJ1_charAt_3b067_J0_checkIndex_df160 rfl rfl rfl hdc_J0_checkIndex ⟨Nat.le_of_ble_eq_true rfl, Nat.le_of_ble_eq_true rfl⟩) (psS hE) rfl rfl hl.1 rfl (lv_room (Nat.le_of_ble_eq_true rfl)) dJ1_charAt_3b067_3 ⟨Nat.zero_le _, Nat.zero_le _⟩) ?_
  refine lv_aload_n hx hb dJ1_charAt_3b067_6 rfl (lv_at hl 0 rfl) ?_
  refine lv_iload_n hx hb dJ1_charAt_3b067_7 rfl (lv_at hl 1 rfl) ?_
  refine va_tb hx hb hE.2.2.2.1 hS h0 (v := .int (wc (nI j).toNatClampNeg)) rfl dJ1_charAt_3b067_8 ?_
  refine lv_sipush (v := (255 : Int32)) hx hb dJ1_charAt_3b067_9 (by decide +kernel) ?_
  refine lv_iand hx hb dJ1_charAt_3b067_12 ?_
  refine lv_i2c hx hb dJ1_charAt_3b067_13 hv ?_
  exact W.zret hx hb hr hn (fun t ht _ => ⟨rfl, ht⟩) (fun _ h => nomatch h) dJ1_charAt_3b067_14
set_option maxHeartbeats 4000000 in
set_option maxRecDepth 100000 in
theorem c_J0_charAt (l : Launch) (sa sv wl : Nat) (wc : Nat → Int32) (i r : Int32) (h0 : vp_in i wl) (hw : wl < 2 ^ 31) (hv : (((wc i.toNatClampNeg) &&& 255).toUInt32 % 65536).toInt32 = r) (hn : narrow .char (.int r) = .int r) : Met l yJ0_charAt_5068e wsJ0_charAt_5068e ({ frames := 3, cells := 0, slots := 0, locals := 64 }) (pS sa sv wl wc [.ref sa, .int i]) (qR r) 0 0 (fun _ => False) := by
  refine Met.ofW (cc := cJ0_charAt_5068e) (maxL := 2) (ret := (some .char)) (by decide) rfl ?_
  intro p e s m args below meth c s₁ B hml hv0
  obtain ⟨rfl, hE⟩ := hv0
  have hx := B.exec
  have hb := B.bytes
  have hr := B.returns
  have hts := atoms_spec (ws := wsJ0_charAt_5068e) B.pre
  have hown : s.vm.findClass RJ0 = some m.cls := findClass_of_methodNamed B.named
  have hlocks := B.notSynchronized
  have hS : va_S FF s.heap s.heap [] := va_S.rf
  have hl := lv_entry ([.ref sa, .int i]) (n := 2) (Nat.le_of_ble_eq_true rfl)
  rw [lg_entry_eq]
  generalize (lg_sl ([.ref sa, .int i]) ++ List.replicate (2 - (lg_sl ([.ref sa, .int i])).length) Slot.unset).toArray = ls at hl ⊢
  have hl : lv_has ls 2 [(0, .ref sa), (1, .int i)] := hl
  refine lv_aload_n hx hb dJ0_charAt_5068e_0 rfl (lv_at hl 0 rfl) ?_
  refine roI (va_runV (As := []) (rest := []) ⟨hx, hb, hml, hown, hts⟩ (c_J0_isLatin1 l sa sv wl wc) (cwV 0 hts gJ0_charAt_5068e_J0_isLatin1_aae02 rfl rfl rfl ⟨rfl, hdc_J0_isLatin1⟩ ⟨Nat.le_of_ble_eq_true rfl, Nat.le_of_ble_eq_true rfl⟩) (psV hE) rfl rfl hl.1 rfl (lv_room (Nat.le_of_ble_eq_true rfl)) dJ0_charAt_5068e_1 ⟨Nat.zero_le _, Nat.zero_le _⟩) ?_
  refine lv_if_eq (tgt := 16) hx hb dJ0_charAt_5068e_4 (by decide) (fun hc => absurd hc (by decide +kernel)) (fun hc => ?_)
  refine lv_aload_n hx hb dJ0_charAt_5068e_7 rfl (lv_at hl 0 rfl) ?_
  refine vk_getf hx hb hE.2.2.1 hS hown (hts (.fieldLink RJ0 9 "java/lang/String" "value" "[B") (by decide +kernel)) (fun _ h9 => h9) dJ0_charAt_5068e_8 ?_
  refine lv_iload_n hx hb dJ0_charAt_5068e_11 rfl (lv_at hl 1 rfl) ?_
  refine roI (va_runS (As := [.ref sv, .int i]) (rest := []) ⟨hx, hb, hml, hown, hts⟩ (c_J1_charAt l sa sv wl wc i r h0 hw hv hn) (va_cwS 2 hts gJ0_charAt_5068e_J1_charAt_3b067 rfl rfl rfl hdc_J1_charAt ⟨Nat.le_of_ble_eq_true rfl, Nat.le_of_ble_eq_true rfl⟩) (psS hE) rfl rfl hl.1 rfl (lv_room (Nat.le_of_ble_eq_true rfl)) dJ0_charAt_5068e_12 ⟨Nat.zero_le _, Nat.zero_le _⟩) ?_
  exact W.zret hx hb hr hn (fun t ht _ => ⟨rfl, ht⟩) (fun _ h => nomatch h) dJ0_charAt_5068e_15
/-! the six words of the texts -/
def wbyt : List (List Int32) := [[115, 101, 99, 116, 105, 111, 110, 115], [112, 97, 103, 101, 115], [104, 111, 109, 101], [117, 115, 101, 115], [97, 104, 101, 97, 100], [111, 114, 100, 101, 114]]
def wlen (i : Nat) : Nat := [8, 5, 4, 4, 5, 5].getD i 0
def wch (i j : Nat) : Int32 := (wbyt.getD i []).getD j 0
def wix (i : Nat) : Nat := [45, 54, 59, 64, 69, 74].getD i 0
def wtx (i : Nat) : String := ["sections", "pages", "home", "uses", "ahead", "order"].getD i ""
theorem wlen_lt : ∀ i, i < 6 → wlen i < 2 ^ 31 := by decide +kernel
theorem wch_ok : ∀ i, i < 6 → ∀ j, j < wlen i → (((wch i j) &&& 255).toUInt32 % 65536).toInt32 = wch i j ∧ narrow .char (.int (wch i j)) = .int (wch i j) := by decide +kernel
def ENV (A : Nat → Prop) (adK adV : Nat → Nat) (U : State) (H : Heap) : Prop := ∀ i : Nat, i < 6 → STR A (adK i) (adV i) (wlen i) (wch i) U H ∧ vk_R RX1 (wix i) (wtx i) (adK i) U
theorem ENV.warm {A : Nat → Prop} {adK adV : Nat → Nat} {s U : State} {H : Heap} (hW : s.WarmedH U.vm) (h : ENV A adK adV s H) : ENV A adK adV U H := fun i hi => ⟨(h i hi).1.moved hW.alike, (h i hi).2.warm hW⟩
theorem ENV.kept {A : Nat → Prop} {adK adV : Nat → Nat} {U : State} {H H1 : Heap} (h : ENV A adK adV U H) (hq : ∀ a : Nat, a < H.size → ¬ A a → H1[a]? = H[a]?) : ENV A adK adV U H1 := fun i hi => ⟨(h i hi).1.kept hq, (h i hi).2⟩
theorem ENV.narrow {A B : Nat → Prop} {adK adV : Nat → Nat} {U : State} {H : Heap} (h : ENV A adK adV U H) (hAB : ∀ q, B q → A q) : ENV B adK adV U H := fun i hi => ⟨(h i hi).1.narrow hAB, (h i hi).2⟩
def pRs (D : va_G) (cI cZ cM : ClassId) (ws : va_W) (sa sv wl : Nat) (wc : Nat → Int32) (as : List Value) : Array Value → State → Prop := va_Pc as (fun U => va_P D vwCl ws U.heap ∧ KK D cI cZ cM U ∧ STR FF sa sv wl wc U U.heap)
theorem pRs_blind {D : va_G} {cI cZ cM : ClassId} {ws : va_W} {sa sv wl : Nat} {wc : Nat → Int32} {as : List Value} : FrameBlind (pRs D cI cZ cM ws sa sv wl wc as) := fun a U g mk q => by obtain ⟨q0, qP, qK, qE⟩ := q; exact ⟨q0, qP, qK.calling g mk a, qE.moved (u := U) (U := U.calling g mk a) (Vm.Alike.refl U.vm)⟩
theorem prVs {D : va_G} {cI cZ cM : ClassId} {ws wc : va_W} {s : State} {H : Heap} (hK : KK D cI cZ cM s) (hP : va_P D vwCl ws H) (is : List Nat) (hs : is.filterMap (fun i => ws[i]?) = wc) {b q0 ci : Nat} {fs : List Value} {q : vw_C} (hc : vwCl[ci]? = some q) (he : ws[q0]? = some (b, .inr (ci, fs))) {sa sv wl : Nat} {wx : Nat → Int32} (hE : STR FF sa sv wl wx s H) {As : List Value} : PreV s H q.1 b (pRs D cI cZ cM wc sa sv wl wx (.ref b :: As)) As := ⟨pRs_blind, va_recv hK.1 hP hc he, fun U hU hW => ⟨rfl, by rw [hU]; exact hP.sub is hs, hK.warm hW, by rw [hU]; exact hE.moved hW.alike⟩⟩
def pMs (D : va_G) (cI cZ cM : ClassId) (sz eb : Nat) (adK adV : Nat → Nat) (ws : va_W) (as : List Value) : Array Value → State → Prop := va_Pc as (fun U => U.heap.size = sz ∧ va_P D vwCl ws U.heap ∧ KK D cI cZ cM U ∧ va_D (fun q => eb ≤ q) ws ∧ eb ≤ sz ∧ ENV (fun q => eb ≤ q) adK adV U U.heap)
theorem pMs_blind {D : va_G} {cI cZ cM : ClassId} {sz eb : Nat} {adK adV : Nat → Nat} {ws : va_W} {as : List Value} : FrameBlind (pMs D cI cZ cM sz eb adK adV ws as) := fun a U g mk q => by obtain ⟨q0, q1, qP, qK, qD, qb, qE⟩ := q; exact ⟨q0, q1, qP, qK.calling g mk a, qD, qb, fun i hi => ⟨(qE i hi).1.moved (u := U) (U := U.calling g mk a) (Vm.Alike.refl U.vm), (qE i hi).2.same rfl⟩⟩
theorem pmVs {D : va_G} {cI cZ cM : ClassId} {ws wc : va_W} {s : State} {H H0 : Heap} {A : Nat → Prop} {eb : Nat} {adK adV : Nat → Nat} {locs : List Loc} (hK : KK D cI cZ cM s) (hP : va_P D vwCl ws H) (hD : va_D A ws) (hAb : ∀ q, A q → eb ≤ q) (hS : va_S A H0 H locs) (hb : eb ≤ H0.size) (hE : ENV (fun q => eb ≤ q) adK adV s H0) (is : List Nat) (hn : va_nd is = true) (hs : is.filterMap (fun i => ws[i]?) = wc) (hs2 : is.map (fun i => ws[i]?) = wc.map some) {b q0 ci : Nat} {fs : List Value} {q : vw_C} (hc : vwCl[ci]? = some q) (he : ws[q0]? = some (b, .inr (ci, fs))) {As : List Value} : PreV s H q.1 b (pMs D cI cZ cM H.size eb adK adV wc (.ref b :: As)) As := ⟨pMs_blind, va_recv hK.1 hP hc he, fun U hU hW => ⟨rfl, by rw [hU], by rw [hU]; exact hP.sub is hs, hK.warm hW, (hD.sub is hn hs2).weaken (fun _ _ _ h => hAb _ h), Nat.le_trans hb hS.1, by rw [hU]; exact (hE.kept (fun a h1 h2 => hS.2.1 a h1 (fun z => h2 (hAb a z)))).warm hW⟩⟩
/-- a word at the heap that stands now -/
theorem ENV.at {A : Nat → Prop} {adK adV : Nat → Nat} {s : State} {H H0 : Heap} {eb : Nat} {locs : List Loc} (hE : ENV (fun q => eb ≤ q) adK adV s H0) (hAb : ∀ q, A q → eb ≤ q) (hS : va_S A H0 H locs) (i : Nat) (hi : i < 6) : STR FF (adK i) (adV i) (wlen i) (wch i) s H := ((hE i hi).1.kept (fun a h1 h2 => hS.2.1 a h1 (fun z => h2 (hAb a z)))).narrow (fun _ z => z.elim)
