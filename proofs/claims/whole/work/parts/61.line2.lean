section SX1_nextThrough
/-! CardLoops$Line.nextThrough()I -/
abbrev wsX1_nextThrough : List Cond := Cond.code yX1_nextThrough cX1_nextThrough 3 (some .int) :: wsL_law0
abbrev rmX1_nextThrough : Room := { frames := 1, cells := 0, slots := 0, locals := 21 }
variable {p : Program} {l : Launch} {e : Env} {s : State} {m : MethodId} {args : Array Value} {below : List Frame} {meth : Method} {c : Code} {D : va_G} {K : Nat → ClassId} {A : Nat → Prop} {N : Nat} {aP : Nat → Nat} {aL : Nat → Nat} {z : Int32}
def IX1_nextThrough_5 (p : Program) (l : Launch) (e : Env) (s : State) (m : MethodId) (args : Array Value) (below : List Frame) (meth : Method) (c : Code) (D : va_G) (K : Nat → ClassId) (aP : Nat → Nat) (aL : Nat → Nat) (z : Int32) (k : Rc → Rc → Int32 → Int32 → Option (Int32)) : Prop := ∀ (P : Rc) (L : Rc) (x1 : Int32) (x2 : Int32) (ls : Array Slot), k P L x1 x2 = some z → va_P D vwCl (fl [wPlan K aP P, wLine K aL (aP 0) L]) s.heap → lv_has ls 3 [(0, .ref (aL 0)), (1, .int x1), (2, .int x2)] → W p l e rmX1_nextThrough s m args below meth c s.heap [] 0 0 (MQ below (vp_Si (fun r => r = z)) args s 0 0 (fun _ => False)) (F0 m 5 ls [])
set_option maxHeartbeats 1000000 in
set_option maxRecDepth 10000 in
theorem wX1_nextThrough_41 (C0 : cx p s m args meth c cX1_nextThrough 3 RX1 wsX1_nextThrough (some .int) D K) {k5 : Rc → Rc → Int32 → Int32 → Option (Int32)} (hk5 : IX1_nextThrough_5 p l e s m args below meth c D K aP aL z k5) (P : Rc) (L : Rc) (x1 : Int32) (x2 : Int32) (h : fX1_nextThrough_41 N k5 P L x1 x2 = some z) (hP : va_P D vwCl (fl [wPlan K aP P, wLine K aL (aP 0) L]) s.heap) (ls : Array Slot) (hl : lv_has ls 3 [(0, .ref (aL 0)), (1, .int x1), (2, .int x2)]) : W p l e rmX1_nextThrough s m args below meth c s.heap [] 0 0 (MQ below (vp_Si (fun r => r = z)) args s 0 0 (fun _ => False)) (F0 m 41 ls []) := by
  unfold fX1_nextThrough_41 at h
  refine r_iinc h C0 2 (fun v1 => [(2, .int v1), (0, .ref (aL 0)), (1, .int x1)]) dX1_nextThrough_41 hl rfl rfl (by decide) (fun _ => rfl) (fun v1 ls h hl => ?_)
  refine r_goto C0 5 dX1_nextThrough_44 (by decide) ?_
  exact hk5 P L x1 v1 _ h hP (lv_sub hl [1, 2, 0] rfl)
set_option maxHeartbeats 1000000 in
set_option maxRecDepth 10000 in
theorem wX1_nextThrough_5 (C0 : cx p s m args meth c cX1_nextThrough 3 RX1 wsX1_nextThrough (some .int) D K) {k5 : Rc → Rc → Int32 → Int32 → Option (Int32)} (hk5 : IX1_nextThrough_5 p l e s m args below meth c D K aP aL z k5) (P : Rc) (L : Rc) (x1 : Int32) (x2 : Int32) (h : fX1_nextThrough_5b N k5 P L x1 x2 = some z) (hP : va_P D vwCl (fl [wPlan K aP P, wLine K aL (aP 0) L]) s.heap) (ls : Array Slot) (hl : lv_has ls 3 [(0, .ref (aL 0)), (1, .int x1), (2, .int x2)]) : W p l e rmX1_nextThrough s m args below meth c s.heap [] 0 0 (MQ below (vp_Si (fun r => r = z)) args s 0 0 (fun _ => False)) (F0 m 5 ls []) := by
  unfold fX1_nextThrough_5b at h
  refine r_iload_n C0 dX1_nextThrough_5 hl 2 rfl ?_
  refine r_aload_n C0 dX1_nextThrough_6 hl 0 rfl ?_
  refine r_get C0 1 inx1 hP 7 rfl rfl 0 (by decide) (mc wd3_19) (.ref (aP 0)) rfl dX1_nextThrough_7 ?_
  refine r_get C0 3 inx3 hP 0 rfl rfl 6 (by decide) (mc wd13_6) (.int (P 6 0)) rfl dX1_nextThrough_10 ?_
  refine r_icmp_ge h C0 47 dX1_nextThrough_13 (by decide) (fun h => ?_) (fun h => ?_)
  · refine r_iload_n C0 dX1_nextThrough_47 hl 1 rfl ?_
    exact r_iretR C0 h dX1_nextThrough_48
  · refine r_aload_n C0 dX1_nextThrough_16 hl 0 rfl ?_
    refine r_iload_n C0 dX1_nextThrough_17 hl 2 rfl ?_
    obtain ⟨z1, hz1, h⟩ := bnd_some h
    have hPc := vaP_sel (Wc := [wLine K aL (aP 0) L]) hP [1] rfl
    refine r_cI (va_runV (As := [.int x2]) (rest := []) C0.1 (ctX1_isIdle l D K aL (aP 0) L x2 z1 hz1) (cwV 1 C0.1.2.2.2.2 (gdV wd13_7 wd13_8 wd13_9 wd1_23 wd13_10) rfl rfl rfl (by decide +kernel) ⟨Nat.le_of_ble_eq_true rfl, Nat.le_of_ble_eq_true rfl⟩) ⟨pcR_blind, va_recv C0.2.2.2.1 hPc (ci := 1) (q0 := 0) rfl rfl, pcR_of hPc C0.2.2.2⟩ rfl rfl hl.1 rfl (lv_room (Nat.le_of_ble_eq_true rfl)) dX1_nextThrough_18 ⟨Nat.zero_le _, Nat.zero_le _⟩).run ?_
    refine r_if_ne h C0 41 dX1_nextThrough_21 (by decide) (fun h => ?_) (fun h => ?_)
    · exact wX1_nextThrough_41 C0 hk5 P L x1 x2 h hP _ (lv_sub hl [0, 1, 2] rfl)
    · refine r_aload_n C0 dX1_nextThrough_24 hl 0 rfl ?_
      refine r_get C0 1 inx1 hP 7 rfl rfl 3 (by decide) (mc wd3_11) (.ref (aL 4)) rfl dX1_nextThrough_25 ?_
      refine r_iload_n C0 dX1_nextThrough_28 hl 2 rfl ?_
      refine r_iald h C0 hP 10 rfl dX1_nextThrough_29 (fun h => ?_)
      refine r_iload_n C0 dX1_nextThrough_30 hl 1 rfl ?_
      refine r_icmp_ge h C0 41 dX1_nextThrough_31 (by decide) (fun h => ?_) (fun h => ?_)
      · exact wX1_nextThrough_41 C0 hk5 P L x1 x2 h hP _ (lv_sub hl [0, 1, 2] rfl)
      · refine r_aload_n C0 dX1_nextThrough_34 hl 0 rfl ?_
        refine r_get C0 1 inx1 hP 7 rfl rfl 3 (by decide) (mc wd3_11) (.ref (aL 4)) rfl dX1_nextThrough_35 ?_
        refine r_iload_n C0 dX1_nextThrough_38 hl 2 rfl ?_
        refine r_iald h C0 hP 10 rfl dX1_nextThrough_39 (fun h => ?_)
        refine r_istore_n h C0 (fun v2 => [(1, .int v2), (0, .ref (aL 0)), (2, .int x2)]) dX1_nextThrough_40 hl (by decide) (fun _ => rfl) (fun v2 ls h hl => ?_)
        exact wX1_nextThrough_41 C0 hk5 P L v2 x2 h hP _ (lv_sub hl [1, 0, 2] rfl)
theorem wX1_nextThrough_5L (C0 : cx p s m args meth c cX1_nextThrough 3 RX1 wsX1_nextThrough (some .int) D K) : IX1_nextThrough_5 p l e s m args below meth c D K aP aL z (fX1_nextThrough_5 N) := by
  refine itn_ind (IX1_nextThrough_5 p l e s m args below meth c D K aP aL z) ?_ ?_ N
  · intro _ _ _ _ _ h; cases h
  · intro k5 hk5 P L x1 x2 ls h hP hl
    exact wX1_nextThrough_5 C0 hk5 P L x1 x2 h hP ls hl
set_option maxHeartbeats 1000000 in
set_option maxRecDepth 10000 in
theorem wX1_nextThrough_0 (C0 : cx p s m args meth c cX1_nextThrough 3 RX1 wsX1_nextThrough (some .int) D K) (P : Rc) (L : Rc) (h : fX1_nextThrough N P L = some z) (hP : va_P D vwCl (fl [wPlan K aP P, wLine K aL (aP 0) L]) s.heap) (ls : Array Slot) (hl : lv_has ls 3 [(0, .ref (aL 0))]) : W p l e rmX1_nextThrough s m args below meth c s.heap [] 0 0 (MQ below (vp_Si (fun r => r = z)) args s 0 0 (fun _ => False)) (F0 m 0 ls []) := by
  unfold fX1_nextThrough at h
  refine r_ldc (v := (nI 2147483647)) C0 dX1_nextThrough_0 (mc wd25_23) ?_
  refine r_istore_n h C0 (fun v1 => [(1, .int v1), (0, .ref (aL 0))]) dX1_nextThrough_2 hl (by decide) (fun _ => rfl) (fun v1 ls h hl => ?_)
  refine r_iconst C0 (nI 0) dX1_nextThrough_3 (by decide) ?_
  refine r_istore_n h C0 (fun v2 => [(2, .int v2), (1, .int v1), (0, .ref (aL 0))]) dX1_nextThrough_4 hl (by decide) (fun _ => rfl) (fun v2 ls h hl => ?_)
  exact wX1_nextThrough_5L C0 P L v1 v2 _ h hP (lv_sub hl [2, 1, 0] rfl)
set_option maxHeartbeats 1000000 in
set_option maxRecDepth 10000 in
theorem ctX1_nextThrough (l : Launch) (D : va_G) (K : Nat → ClassId) (N : Nat) (aP : Nat → Nat) (aL : Nat → Nat) (P : Rc) (L : Rc) (z : Int32) (hz : fX1_nextThrough N P L = some z) : Met l yX1_nextThrough wsX1_nextThrough rmX1_nextThrough (pcR D K [.ref (aL 0)] (fl [wPlan K aP P, wLine K aL (aP 0) L])) (vp_Si (fun r => r = z)) 0 0 (fun _ => False) := by
  refine Met.ofW (cc := cX1_nextThrough) (maxL := 3) (ret := (some .int)) (by decide) rfl ?_
  intro p e s m args below meth c s₁ B hml hv
  obtain ⟨rfl, hP, hK⟩ := hv
  have C0 : cx p s m _ meth c cX1_nextThrough 3 RX1 wsX1_nextThrough (some .int) D K := ⟨⟨B.exec, B.bytes, hml, findClass_of_methodNamed B.named, atoms_spec (ws := wsX1_nextThrough) B.pre⟩, B.returns, B.notSynchronized, hK⟩
  have hl := lv_entry ([.ref (aL 0)]) (n := 3) (Nat.le_of_ble_eq_true rfl)
  rw [lg_entry_eq]
  generalize (lg_sl ([.ref (aL 0)]) ++ List.replicate (3 - (lg_sl ([.ref (aL 0)])).length) Slot.unset).toArray = ls at hl ⊢
  have hl : lv_has ls 3 [(0, .ref (aL 0))] := hl
  exact wX1_nextThrough_0 C0 P L hz hP ls (lv_sub hl [0] rfl)
end SX1_nextThrough

section SX1_leapTillOut
/-! CardLoops$Line.leapTillOut()V -/
abbrev wsX1_leapTillOut : List Cond := Cond.code yX1_leapTillOut cX1_leapTillOut 3 none :: wsL_law0
abbrev rmX1_leapTillOut : Room := { frames := 3, cells := 0, slots := 0, locals := 65 }
variable {p : Program} {l : Launch} {e : Env} {s : State} {m : MethodId} {args : Array Value} {below : List Frame} {meth : Method} {c : Code} {D : va_G} {K : Nat → ClassId} {A : Nat → Prop} {N : Nat} {aP : Nat → Nat} {aL : Nat → Nat} {z : Rc}
def IX1_leapTillOut_7 (p : Program) (l : Launch) (e : Env) (s : State) (m : MethodId) (args : Array Value) (below : List Frame) (meth : Method) (c : Code) (D : va_G) (K : Nat → ClassId) (aP : Nat → Nat) (aL : Nat → Nat) (A : Nat → Prop) (z : Rc) (k : Rc → Rc → Int32 → Int32 → Option (Rc)) : Prop := ∀ (P : Rc) (L : Rc) (x1 : Int32) (x2 : Int32) (H : Heap) (locs : List Loc) (ls : Array Slot), k P L x1 x2 = some z → va_P D vwCl (fl [wPlan K aP P, wLine K aL (aP 0) L]) H → va_D A (fl [wPlan K aP P, wLine K aL (aP 0) L]) → va_S A s.heap H locs → lv_has ls 3 [(0, .ref (aL 0)), (1, .int x1), (2, .int x2)] → W p l e rmX1_leapTillOut s m args below meth c H locs 0 0 (MQ below (qcV D z (fun (u : Rc) => (fl [wPlan K aP P, wLine K aL (aP 0) u])) A) args s 0 0 A) (F0 m 7 ls [])
set_option maxHeartbeats 1000000 in
set_option maxRecDepth 10000 in
theorem wX1_leapTillOut_7 (C0 : cx p s m args meth c cX1_leapTillOut 3 RX1 wsX1_leapTillOut none D K) (hA : ∀ q, s.heap.size ≤ q → A q) {k7 : Rc → Rc → Int32 → Int32 → Option (Rc)} (hk7 : IX1_leapTillOut_7 p l e s m args below meth c D K aP aL A z k7) (P : Rc) (L : Rc) (x1 : Int32) (x2 : Int32) (h : fX1_leapTillOut_7b N k7 P L x1 x2 = some z) (H : Heap) (locs : List Loc) (hP : va_P D vwCl (fl [wPlan K aP P, wLine K aL (aP 0) L]) H) (hD : va_D A (fl [wPlan K aP P, wLine K aL (aP 0) L])) (hS : va_S A s.heap H locs) (ls : Array Slot) (hl : lv_has ls 3 [(0, .ref (aL 0)), (1, .int x1), (2, .int x2)]) : W p l e rmX1_leapTillOut s m args below meth c H locs 0 0 (MQ below (qcV D z (fun (u : Rc) => (fl [wPlan K aP P, wLine K aL (aP 0) u])) A) args s 0 0 A) (F0 m 7 ls []) := by
  unfold fX1_leapTillOut_7b at h
  refine r_iload_n C0 dX1_leapTillOut_7 hl 2 rfl ?_
  refine r_ldc (v := (nI 1000000)) C0 dX1_leapTillOut_8 (mc wd25_18) ?_
  refine r_icmp_ge h C0 39 dX1_leapTillOut_10 (by decide) (fun h => ?_) (fun h => ?_)
  · exact r_vret h C0 (fun (u : Rc) => (fl [wPlan K aP P, wLine K aL (aP 0) u])) hP hD hS dX1_leapTillOut_39
  · refine r_aload_n C0 dX1_leapTillOut_13 hl 0 rfl ?_
    obtain ⟨z1, hz1, h⟩ := bnd_some h
    have hPc := vaP_sel (Wc := [wPlan K aP P, wLine K aL (aP 0) L]) hP [0, 1] rfl
    refine r_cI (va_runV (As := []) (rest := []) C0.1 (ctX1_out l D K aP aL P L z1 hz1) (cwV 0 C0.1.2.2.2.2 (gdV wd21_7 wd21_0 wd21_1 wd1_23 wd21_2) rfl rfl rfl (by decide +kernel) ⟨Nat.le_of_ble_eq_true rfl, Nat.le_of_ble_eq_true rfl⟩) ⟨pcR_blind, va_recv C0.2.2.2.1 hPc (ci := 1) (q0 := 7) rfl rfl, pcR_of hPc C0.2.2.2⟩ rfl rfl hl.1 rfl (lv_room (Nat.le_of_ble_eq_true rfl)) dX1_leapTillOut_14 ⟨Nat.zero_le _, Nat.zero_le _⟩).run ?_
    refine r_iload_n C0 dX1_leapTillOut_17 hl 1 rfl ?_
    refine r_icmp_ne h C0 39 dX1_leapTillOut_18 (by decide) (fun h => ?_) (fun h => ?_)
    · exact r_vret h C0 (fun (u : Rc) => (fl [wPlan K aP P, wLine K aL (aP 0) u])) hP hD hS dX1_leapTillOut_39
    · refine r_aload_n C0 dX1_leapTillOut_21 hl 0 rfl ?_
      refine r_aload_n C0 dX1_leapTillOut_22 hl 0 rfl ?_
      obtain ⟨z2, hz2, h⟩ := bnd_some h
      have hPc := vaP_sel (Wc := [wPlan K aP P, wLine K aL (aP 0) L]) hP [0, 1] rfl
      refine r_cI (va_runV (As := []) (rest := [.ref (aL 0)]) C0.1 (ctX1_nextThrough l D K N aP aL P L z2 hz2) (cwV 0 C0.1.2.2.2.2 (gdV wd25_19 wd25_20 wd25_21 wd1_23 wd25_22) rfl rfl rfl (by decide +kernel) ⟨Nat.le_of_ble_eq_true rfl, Nat.le_of_ble_eq_true rfl⟩) ⟨pcR_blind, va_recv C0.2.2.2.1 hPc (ci := 1) (q0 := 7) rfl rfl, pcR_of hPc C0.2.2.2⟩ rfl rfl hl.1 rfl (lv_room (Nat.le_of_ble_eq_true rfl)) dX1_leapTillOut_23 ⟨Nat.zero_le _, Nat.zero_le _⟩).run ?_
      refine r_put (ty := .int) h C0 1 inx1 tyX1 tyX1_ok nmX1 hP hD hS 7 (fun uu => (fl [wPlan K aP P, wLine K aL (aP 0) uu])) rfl rfl 8 (by decide) (mc wd3_16) rfl (by decide +kernel) rfl rfl (by simp) rfl dX1_leapTillOut_26 (fun L3 H locs h hP hD hS => ?_)
      refine r_aload_n C0 dX1_leapTillOut_29 hl 0 rfl ?_
      obtain ⟨z4, hz4, h⟩ := bnd_some h
      refine r_callVC (Wc := [wPlan K aP P, wLine K aL (aP 0) L3]) (wf := fun (u : Rc) => [wPlan K aP P, wLine K aL (aP 0) u]) (Wn := [wPlan K aP P, wLine K aL (aP 0) z4]) hP hD hS hA [0, 1] [] [0, 1] 2 rfl rfl (by decide) rfl rfl (by decide) (fun hPc hDc hFc => va_runV (As := []) (rest := []) C0.1 (ctX1_round l D K N aP aL P L3 H.size z4 hz4) (cwV 0 C0.1.2.2.2.2 (gdV wd13_2 wd13_3 wd13_4 wd1_23 wd13_5) rfl rfl rfl (by decide +kernel) ⟨Nat.le_of_ble_eq_true rfl, Nat.le_of_ble_eq_true rfl⟩) ⟨pcW_blind, va_recv C0.2.2.2.1 hPc (ci := 1) (q0 := 7) rfl rfl, pcW_of hPc hDc C0.2.2.2⟩ rfl rfl hl.1 rfl (lv_room (Nat.le_of_ble_eq_true rfl)) dX1_leapTillOut_30 ⟨Nat.zero_le _, Nat.zero_le _⟩) (fun H locs hP hD hS => ?_)
      refine r_iinc h C0 2 (fun v5 => [(2, .int v5), (0, .ref (aL 0)), (1, .int x1)]) dX1_leapTillOut_33 hl rfl rfl (by decide) (fun _ => rfl) (fun v5 ls h hl => ?_)
      refine r_goto C0 7 dX1_leapTillOut_36 (by decide) ?_
      exact hk7 P z4 x1 v5 _ _ _ h hP hD hS (lv_sub hl [1, 2, 0] rfl)
theorem wX1_leapTillOut_7L (C0 : cx p s m args meth c cX1_leapTillOut 3 RX1 wsX1_leapTillOut none D K) (hA : ∀ q, s.heap.size ≤ q → A q) : IX1_leapTillOut_7 p l e s m args below meth c D K aP aL A z (fX1_leapTillOut_7 N) := by
  refine itn_ind (IX1_leapTillOut_7 p l e s m args below meth c D K aP aL A z) ?_ ?_ N
  · intro _ _ _ _ _ _ _ h; cases h
  · intro k7 hk7 P L x1 x2 H locs ls h hP hD hS hl
    exact wX1_leapTillOut_7 C0 hA hk7 P L x1 x2 h H locs hP hD hS ls hl
set_option maxHeartbeats 1000000 in
set_option maxRecDepth 10000 in
theorem wX1_leapTillOut_0 (C0 : cx p s m args meth c cX1_leapTillOut 3 RX1 wsX1_leapTillOut none D K) (hA : ∀ q, s.heap.size ≤ q → A q) (P : Rc) (L : Rc) (h : fX1_leapTillOut N P L = some z) (H : Heap) (locs : List Loc) (hP : va_P D vwCl (fl [wPlan K aP P, wLine K aL (aP 0) L]) H) (hD : va_D A (fl [wPlan K aP P, wLine K aL (aP 0) L])) (hS : va_S A s.heap H locs) (ls : Array Slot) (hl : lv_has ls 3 [(0, .ref (aL 0))]) : W p l e rmX1_leapTillOut s m args below meth c H locs 0 0 (MQ below (qcV D z (fun (u : Rc) => (fl [wPlan K aP P, wLine K aL (aP 0) u])) A) args s 0 0 A) (F0 m 0 ls []) := by
  unfold fX1_leapTillOut at h
  refine r_aload_n C0 dX1_leapTillOut_0 hl 0 rfl ?_
  obtain ⟨z1, hz1, h⟩ := bnd_some h
  have hPc := vaP_sel (Wc := [wPlan K aP P, wLine K aL (aP 0) L]) hP [0, 1] rfl
  refine r_cI (va_runV (As := []) (rest := []) C0.1 (ctX1_out l D K aP aL P L z1 hz1) (cwV 0 C0.1.2.2.2.2 (gdV wd21_7 wd21_0 wd21_1 wd1_23 wd21_2) rfl rfl rfl (by decide +kernel) ⟨Nat.le_of_ble_eq_true rfl, Nat.le_of_ble_eq_true rfl⟩) ⟨pcR_blind, va_recv C0.2.2.2.1 hPc (ci := 1) (q0 := 7) rfl rfl, pcR_of hPc C0.2.2.2⟩ rfl rfl hl.1 rfl (lv_room (Nat.le_of_ble_eq_true rfl)) dX1_leapTillOut_1 ⟨Nat.zero_le _, Nat.zero_le _⟩).run ?_
  refine r_istore_n h C0 (fun v2 => [(1, .int v2), (0, .ref (aL 0))]) dX1_leapTillOut_4 hl (by decide) (fun _ => rfl) (fun v2 ls h hl => ?_)
  refine r_iconst C0 (nI 0) dX1_leapTillOut_5 (by decide) ?_
  refine r_istore_n h C0 (fun v3 => [(2, .int v3), (1, .int v2), (0, .ref (aL 0))]) dX1_leapTillOut_6 hl (by decide) (fun _ => rfl) (fun v3 ls h hl => ?_)
  exact wX1_leapTillOut_7L C0 hA P L v2 v3 _ _ _ h hP hD hS (lv_sub hl [2, 1, 0] rfl)
set_option maxHeartbeats 1000000 in
set_option maxRecDepth 10000 in
theorem ctX1_leapTillOut (l : Launch) (D : va_G) (K : Nat → ClassId) (N : Nat) (aP : Nat → Nat) (aL : Nat → Nat) (P : Rc) (L : Rc) (sz : Nat) (z : Rc) (hz : fX1_leapTillOut N P L = some z) : Met l yX1_leapTillOut wsX1_leapTillOut rmX1_leapTillOut (pcW D K [.ref (aL 0)] (fl [wPlan K aP P, wLine K aL (aP 0) L]) sz) (qcV D z (fun (u : Rc) => (fl [wPlan K aP P, wLine K aL (aP 0) u])) (va_A (fl [wPlan K aP P, wLine K aL (aP 0) L]) sz)) 0 0 (va_A (fl [wPlan K aP P, wLine K aL (aP 0) L]) sz) := by
  refine Met.ofW (cc := cX1_leapTillOut) (maxL := 3) (ret := none) (by decide) rfl ?_
  intro p e s m args below meth c s₁ B hml hv
  obtain ⟨rfl, hsz, hP, hK, hD0⟩ := hv
  subst hsz
  have C0 : cx p s m _ meth c cX1_leapTillOut 3 RX1 wsX1_leapTillOut none D K := ⟨⟨B.exec, B.bytes, hml, findClass_of_methodNamed B.named, atoms_spec (ws := wsX1_leapTillOut) B.pre⟩, B.returns, B.notSynchronized, hK⟩
  have hD := hD0.self (sz := s.heap.size)
  generalize hAe : va_A (fl [wPlan K aP P, wLine K aL (aP 0) L]) s.heap.size = A at hD ⊢
  have hA : ∀ q : Nat, s.heap.size ≤ q → A q := fun q h => by rw [← hAe]; exact Or.inr h
  have hl := lv_entry ([.ref (aL 0)]) (n := 3) (Nat.le_of_ble_eq_true rfl)
  rw [lg_entry_eq]
  generalize (lg_sl ([.ref (aL 0)]) ++ List.replicate (3 - (lg_sl ([.ref (aL 0)])).length) Slot.unset).toArray = ls at hl ⊢
  have hl : lv_has ls 3 [(0, .ref (aL 0))] := hl
  exact wX1_leapTillOut_0 C0 hA P L hz s.heap [] hP hD va_S.rf ls (lv_sub hl [0] rfl)
end SX1_leapTillOut

section SX1_countMinutes
/-! CardLoops$Line.countMinutes(I)V -/
abbrev wsX1_countMinutes : List Cond := Cond.code yX1_countMinutes cX1_countMinutes 6 none :: wsL_law0
abbrev rmX1_countMinutes : Room := { frames := 2, cells := 0, slots := 0, locals := 42 }
variable {p : Program} {l : Launch} {e : Env} {s : State} {m : MethodId} {args : Array Value} {below : List Frame} {meth : Method} {c : Code} {D : va_G} {K : Nat → ClassId} {A : Nat → Prop} {N : Nat} {aP : Nat → Nat} {aL : Nat → Nat} {z : Rc}
def IX1_countMinutes_2 (p : Program) (l : Launch) (e : Env) (s : State) (m : MethodId) (args : Array Value) (below : List Frame) (meth : Method) (c : Code) (D : va_G) (K : Nat → ClassId) (aP : Nat → Nat) (aL : Nat → Nat) (A : Nat → Prop) (z : Rc) (k : Rc → Rc → Int32 → Int32 → Option (Rc)) : Prop := ∀ (P : Rc) (L : Rc) (x1 : Int32) (x2 : Int32) (H : Heap) (locs : List Loc) (ls : Array Slot), k P L x1 x2 = some z → va_P D vwCl (fl [wPlan K aP P, wLine K aL (aP 0) L]) H → va_D A (fl [wPlan K aP P, wLine K aL (aP 0) L]) → va_S A s.heap H locs → lv_has ls 6 [(0, .ref (aL 0)), (1, .int x1), (2, .int x2)] → W p l e rmX1_countMinutes s m args below meth c H locs 0 0 (MQ below (qcV D z (fun (u : Rc) => (fl [wPlan K aP P, wLine K aL (aP 0) u])) A) args s 0 0 A) (F0 m 2 ls [])
set_option maxHeartbeats 1000000 in
set_option maxRecDepth 10000 in
theorem wX1_countMinutes_103 (C0 : cx p s m args meth c cX1_countMinutes 6 RX1 wsX1_countMinutes none D K) (hA : ∀ q, s.heap.size ≤ q → A q) {k2 : Rc → Rc → Int32 → Int32 → Option (Rc)} (hk2 : IX1_countMinutes_2 p l e s m args below meth c D K aP aL A z k2) (P : Rc) (L : Rc) (x1 : Int32) (x2 : Int32) (h : fX1_countMinutes_103 N k2 P L x1 x2 = some z) (H : Heap) (locs : List Loc) (hP : va_P D vwCl (fl [wPlan K aP P, wLine K aL (aP 0) L]) H) (hD : va_D A (fl [wPlan K aP P, wLine K aL (aP 0) L])) (hS : va_S A s.heap H locs) (ls : Array Slot) (hl : lv_has ls 6 [(0, .ref (aL 0)), (1, .int x1), (2, .int x2)]) : W p l e rmX1_countMinutes s m args below meth c H locs 0 0 (MQ below (qcV D z (fun (u : Rc) => (fl [wPlan K aP P, wLine K aL (aP 0) u])) A) args s 0 0 A) (F0 m 103 ls []) := by
  unfold fX1_countMinutes_103 at h
  refine r_iinc h C0 2 (fun v1 => [(2, .int v1), (0, .ref (aL 0)), (1, .int x1)]) dX1_countMinutes_103 hl rfl rfl (by decide) (fun _ => rfl) (fun v1 ls h hl => ?_)
  refine r_goto C0 2 dX1_countMinutes_106 (by decide) ?_
  exact hk2 P L x1 v1 _ _ _ h hP hD hS (lv_sub hl [1, 2, 0] rfl)
set_option maxHeartbeats 1000000 in
set_option maxRecDepth 10000 in
theorem wX1_countMinutes_2 (C0 : cx p s m args meth c cX1_countMinutes 6 RX1 wsX1_countMinutes none D K) (hA : ∀ q, s.heap.size ≤ q → A q) {k2 : Rc → Rc → Int32 → Int32 → Option (Rc)} (hk2 : IX1_countMinutes_2 p l e s m args below meth c D K aP aL A z k2) (P : Rc) (L : Rc) (x1 : Int32) (x2 : Int32) (h : fX1_countMinutes_2b N k2 P L x1 x2 = some z) (H : Heap) (locs : List Loc) (hP : va_P D vwCl (fl [wPlan K aP P, wLine K aL (aP 0) L]) H) (hD : va_D A (fl [wPlan K aP P, wLine K aL (aP 0) L])) (hS : va_S A s.heap H locs) (ls : Array Slot) (hl : lv_has ls 6 [(0, .ref (aL 0)), (1, .int x1), (2, .int x2)]) : W p l e rmX1_countMinutes s m args below meth c H locs 0 0 (MQ below (qcV D z (fun (u : Rc) => (fl [wPlan K aP P, wLine K aL (aP 0) u])) A) args s 0 0 A) (F0 m 2 ls []) := by
  unfold fX1_countMinutes_2b at h
  refine r_iload_n C0 dX1_countMinutes_2 hl 2 rfl ?_
  refine r_aload_n C0 dX1_countMinutes_3 hl 0 rfl ?_
  refine r_get C0 1 inx1 hP 7 rfl rfl 0 (by decide) (mc wd3_19) (.ref (aP 0)) rfl dX1_countMinutes_4 ?_
  refine r_get C0 3 inx3 hP 0 rfl rfl 6 (by decide) (mc wd13_6) (.int (P 6 0)) rfl dX1_countMinutes_7 ?_
  refine r_icmp_ge h C0 109 dX1_countMinutes_10 (by decide) (fun h => ?_) (fun h => ?_)
  · exact r_vret h C0 (fun (u : Rc) => (fl [wPlan K aP P, wLine K aL (aP 0) u])) hP hD hS dX1_countMinutes_109
  · refine r_iload_n C0 dX1_countMinutes_13 hl 1 rfl ?_
    refine r_aload_n C0 dX1_countMinutes_14 hl 0 rfl ?_
    refine r_get C0 1 inx1 hP 7 rfl rfl 8 (by decide) (mc wd3_16) (.int (L 8 0)) rfl dX1_countMinutes_15 ?_
    refine r_isub C0 dX1_countMinutes_18 ?_
    refine r_istore_n h C0 (fun v1 => [(3, .int v1), (0, .ref (aL 0)), (1, .int x1), (2, .int x2)]) dX1_countMinutes_19 hl (by decide) (fun _ => rfl) (fun v1 ls h hl => ?_)
    refine r_iload_n C0 dX1_countMinutes_20 hl 3 rfl ?_
    refine r_iconst C0 (nI 4) dX1_countMinutes_21 (by decide) ?_
    refine r_imul C0 dX1_countMinutes_22 ?_
    refine r_istore h C0 (fun v2 => [(4, .int v2), (3, .int v1), (0, .ref (aL 0)), (1, .int x1), (2, .int x2)]) dX1_countMinutes_23 hl (by decide) (fun _ => rfl) (fun v2 ls h hl => ?_)
    refine r_aload_n C0 dX1_countMinutes_25 hl 2 rfl ?_
    refine r_iload_n C0 dX1_countMinutes_26 hl 4 rfl ?_
    obtain ⟨z3, hz3, h⟩ := bnd_some h
    have hPc := vaP_sel (Wc := [wLine K aL (aP 0) L]) hP [1] rfl
    refine r_cI (va_runV (As := [.int x2]) (rest := []) C0.1 (ctX1_isIdle l D K aL (aP 0) L x2 z3 hz3) (cwV 1 C0.1.2.2.2.2 (gdV wd13_7 wd13_8 wd13_9 wd1_23 wd13_10) rfl rfl rfl (by decide +kernel) ⟨Nat.le_of_ble_eq_true rfl, Nat.le_of_ble_eq_true rfl⟩) ⟨pcR_blind, va_recv C0.2.2.2.1 hPc (ci := 1) (q0 := 0) rfl rfl, pcR_of hPc C0.2.2.2⟩ rfl rfl hl.1 rfl (lv_room (Nat.le_of_ble_eq_true rfl)) dX1_countMinutes_27 ⟨Nat.zero_le _, Nat.zero_le _⟩).run ?_
    refine r_if_eq h C0 53 dX1_countMinutes_30 (by decide) (fun h => ?_) (fun h => ?_)
    · refine r_iconst C0 (nI 0) dX1_countMinutes_53 (by decide) ?_
      refine r_iload_n C0 dX1_countMinutes_54 hl 3 rfl ?_
      refine r_aload_n C0 dX1_countMinutes_55 hl 2 rfl ?_
      refine r_iload_n C0 dX1_countMinutes_56 hl 4 rfl ?_
      obtain ⟨z4, hz4, h⟩ := bnd_some h
      have hPc := vaP_sel (Wc := [wPlan K aP P, wLine K aL (aP 0) L]) hP [0, 1] rfl
      refine r_cI (va_runV (As := [.int x2]) (rest := [.int x1, .int (nI 0)]) C0.1 (ctX1_setUpAt l D K aP aL P L x2 z4 hz4) (cwV 1 C0.1.2.2.2.2 (gdV wd22_7 wd22_8 wd22_9 wd1_23 wd22_10) rfl rfl rfl (by decide +kernel) ⟨Nat.le_of_ble_eq_true rfl, Nat.le_of_ble_eq_true rfl⟩) ⟨pcR_blind, va_recv C0.2.2.2.1 hPc (ci := 1) (q0 := 7) rfl rfl, pcR_of hPc C0.2.2.2⟩ rfl rfl hl.1 rfl (lv_room (Nat.le_of_ble_eq_true rfl)) dX1_countMinutes_57 ⟨Nat.zero_le _, Nat.zero_le _⟩).run ?_
      refine r_mmin C0 ⟨(mc wd33_9), (mc wd7_11), (mc wd7_12), (mc wd7_13)⟩ hl ⟨Nat.le_of_ble_eq_true rfl, Nat.le_of_ble_eq_true rfl⟩ ⟨Nat.zero_le _, Nat.zero_le _⟩ dX1_countMinutes_60 ?_
      refine r_aload_n C0 dX1_countMinutes_63 hl 2 rfl ?_
      refine r_get C0 1 inx1 hP 7 rfl rfl 8 (by decide) (mc wd3_16) (.int (L 8 0)) rfl dX1_countMinutes_64 ?_
      refine r_isub C0 dX1_countMinutes_67 ?_
      refine r_mmax C0 ⟨(mc wd13_15), (mc wd13_16), (mc wd7_12), (mc wd13_17)⟩ hl ⟨Nat.le_of_ble_eq_true rfl, Nat.le_of_ble_eq_true rfl⟩ ⟨Nat.zero_le _, Nat.zero_le _⟩ dX1_countMinutes_68 ?_
      refine r_istore h C0 (fun v5 => [(5, .int v5), (4, .int v2), (3, .int v1), (0, .ref (aL 0)), (1, .int x1), (2, .int x2)]) dX1_countMinutes_71 hl (by decide) (fun _ => rfl) (fun v5 ls h hl => ?_)
      refine r_aload_n C0 dX1_countMinutes_73 hl 3 rfl ?_
      refine r_get C0 1 inx1 hP 7 rfl rfl 6 (by decide) (mc wd3_14) (.ref (aL 7)) rfl dX1_countMinutes_74 ?_
      refine r_iload C0 dX1_countMinutes_77 hl 1 rfl ?_
      refine r_iconst C0 (nI 2) dX1_countMinutes_79 (by decide) ?_
      refine r_iadd C0 dX1_countMinutes_80 ?_
      refine r_dup2 C0 dX1_countMinutes_81 rfl rfl ?_
      refine r_iald h C0 hP 13 rfl dX1_countMinutes_82 (fun h => ?_)
      refine r_iload C0 dX1_countMinutes_83 hl 0 rfl ?_
      refine r_iadd C0 dX1_countMinutes_85 ?_
      refine r_iast h C0 hP hD hS 13 (fun uu => (fl [wPlan K aP P, wLine K aL (aP 0) uu])) rfl rfl dX1_countMinutes_86 (fun L6 H locs h hP hD hS => ?_)
      refine r_aload_n C0 dX1_countMinutes_87 hl 3 rfl ?_
      refine r_get C0 1 inx1 hP 7 rfl rfl 6 (by decide) (mc wd3_14) (.ref (aL 7)) rfl dX1_countMinutes_88 ?_
      refine r_iload C0 dX1_countMinutes_91 hl 1 rfl ?_
      refine r_iconst C0 (nI 3) dX1_countMinutes_93 (by decide) ?_
      refine r_iadd C0 dX1_countMinutes_94 ?_
      refine r_dup2 C0 dX1_countMinutes_95 rfl rfl ?_
      refine r_iald h C0 hP 13 rfl dX1_countMinutes_96 (fun h => ?_)
      refine r_iload_n C0 dX1_countMinutes_97 hl 2 rfl ?_
      refine r_iload C0 dX1_countMinutes_98 hl 0 rfl ?_
      refine r_isub C0 dX1_countMinutes_100 ?_
      refine r_iadd C0 dX1_countMinutes_101 ?_
      refine r_iast h C0 hP hD hS 13 (fun uu => (fl [wPlan K aP P, wLine K aL (aP 0) uu])) rfl rfl dX1_countMinutes_102 (fun L7 H locs h hP hD hS => ?_)
      exact wX1_countMinutes_103 C0 hA hk2 P L7 x1 x2 h _ _ hP hD hS _ (lv_sub hl [3, 4, 5] rfl)
    · refine r_aload_n C0 dX1_countMinutes_33 hl 2 rfl ?_
      refine r_get C0 1 inx1 hP 7 rfl rfl 6 (by decide) (mc wd3_14) (.ref (aL 7)) rfl dX1_countMinutes_34 ?_
      refine r_iload C0 dX1_countMinutes_37 hl 0 rfl ?_
      refine r_aload_n C0 dX1_countMinutes_39 hl 2 rfl ?_
      refine r_iload_n C0 dX1_countMinutes_40 hl 4 rfl ?_
      obtain ⟨z8, hz8, h⟩ := bnd_some h
      have hPc := vaP_sel (Wc := [wPlan K aP P, wLine K aL (aP 0) L]) hP [0, 1] rfl
      refine r_cI (va_runV (As := [.int x2]) (rest := [.int v2, .ref (aL 7)]) C0.1 (ctX1_stateOf l D K aP aL P L x2 z8 hz8) (cwV 1 C0.1.2.2.2.2 (gdV wd33_14 wd22_4 wd22_5 wd1_23 wd22_6) rfl rfl rfl (by decide +kernel) ⟨Nat.le_of_ble_eq_true rfl, Nat.le_of_ble_eq_true rfl⟩) ⟨pcR_blind, va_recv C0.2.2.2.1 hPc (ci := 1) (q0 := 7) rfl rfl, pcR_of hPc C0.2.2.2⟩ rfl rfl hl.1 rfl (lv_room (Nat.le_of_ble_eq_true rfl)) dX1_countMinutes_41 ⟨Nat.zero_le _, Nat.zero_le _⟩).run ?_
      refine r_iadd C0 dX1_countMinutes_44 ?_
      refine r_dup2 C0 dX1_countMinutes_45 rfl rfl ?_
      refine r_iald h C0 hP 13 rfl dX1_countMinutes_46 (fun h => ?_)
      refine r_iload_n C0 dX1_countMinutes_47 hl 1 rfl ?_
      refine r_iadd C0 dX1_countMinutes_48 ?_
      refine r_iast h C0 hP hD hS 13 (fun uu => (fl [wPlan K aP P, wLine K aL (aP 0) uu])) rfl rfl dX1_countMinutes_49 (fun L9 H locs h hP hD hS => ?_)
      refine r_goto C0 103 dX1_countMinutes_50 (by decide) ?_
      exact wX1_countMinutes_103 C0 hA hk2 P L9 x1 x2 h _ _ hP hD hS _ (lv_sub hl [2, 3, 4] rfl)
theorem wX1_countMinutes_2L (C0 : cx p s m args meth c cX1_countMinutes 6 RX1 wsX1_countMinutes none D K) (hA : ∀ q, s.heap.size ≤ q → A q) : IX1_countMinutes_2 p l e s m args below meth c D K aP aL A z (fX1_countMinutes_2 N) := by
  refine itn_ind (IX1_countMinutes_2 p l e s m args below meth c D K aP aL A z) ?_ ?_ N
  · intro _ _ _ _ _ _ _ h; cases h
  · intro k2 hk2 P L x1 x2 H locs ls h hP hD hS hl
    exact wX1_countMinutes_2 C0 hA hk2 P L x1 x2 h H locs hP hD hS ls hl
set_option maxHeartbeats 1000000 in
set_option maxRecDepth 10000 in
theorem wX1_countMinutes_0 (C0 : cx p s m args meth c cX1_countMinutes 6 RX1 wsX1_countMinutes none D K) (hA : ∀ q, s.heap.size ≤ q → A q) (P : Rc) (L : Rc) (x1 : Int32) (h : fX1_countMinutes N P L x1 = some z) (H : Heap) (locs : List Loc) (hP : va_P D vwCl (fl [wPlan K aP P, wLine K aL (aP 0) L]) H) (hD : va_D A (fl [wPlan K aP P, wLine K aL (aP 0) L])) (hS : va_S A s.heap H locs) (ls : Array Slot) (hl : lv_has ls 6 [(0, .ref (aL 0)), (1, .int x1)]) : W p l e rmX1_countMinutes s m args below meth c H locs 0 0 (MQ below (qcV D z (fun (u : Rc) => (fl [wPlan K aP P, wLine K aL (aP 0) u])) A) args s 0 0 A) (F0 m 0 ls []) := by
  unfold fX1_countMinutes at h
  refine r_iconst C0 (nI 0) dX1_countMinutes_0 (by decide) ?_
  refine r_istore_n h C0 (fun v1 => [(2, .int v1), (0, .ref (aL 0)), (1, .int x1)]) dX1_countMinutes_1 hl (by decide) (fun _ => rfl) (fun v1 ls h hl => ?_)
  exact wX1_countMinutes_2L C0 hA P L x1 v1 _ _ _ h hP hD hS (lv_sub hl [1, 2, 0] rfl)
set_option maxHeartbeats 1000000 in
set_option maxRecDepth 10000 in
theorem ctX1_countMinutes (l : Launch) (D : va_G) (K : Nat → ClassId) (N : Nat) (aP : Nat → Nat) (aL : Nat → Nat) (P : Rc) (L : Rc) (p1 : Int32) (sz : Nat) (z : Rc) (hz : fX1_countMinutes N P L p1 = some z) : Met l yX1_countMinutes wsX1_countMinutes rmX1_countMinutes (pcW D K [.ref (aL 0), .int p1] (fl [wPlan K aP P, wLine K aL (aP 0) L]) sz) (qcV D z (fun (u : Rc) => (fl [wPlan K aP P, wLine K aL (aP 0) u])) (va_A (fl [wPlan K aP P, wLine K aL (aP 0) L]) sz)) 0 0 (va_A (fl [wPlan K aP P, wLine K aL (aP 0) L]) sz) := by
  refine Met.ofW (cc := cX1_countMinutes) (maxL := 6) (ret := none) (by decide) rfl ?_
  intro p e s m args below meth c s₁ B hml hv
  obtain ⟨rfl, hsz, hP, hK, hD0⟩ := hv
  subst hsz
  have C0 : cx p s m _ meth c cX1_countMinutes 6 RX1 wsX1_countMinutes none D K := ⟨⟨B.exec, B.bytes, hml, findClass_of_methodNamed B.named, atoms_spec (ws := wsX1_countMinutes) B.pre⟩, B.returns, B.notSynchronized, hK⟩
  have hD := hD0.self (sz := s.heap.size)
  generalize hAe : va_A (fl [wPlan K aP P, wLine K aL (aP 0) L]) s.heap.size = A at hD ⊢
  have hA : ∀ q : Nat, s.heap.size ≤ q → A q := fun q h => by rw [← hAe]; exact Or.inr h
  have hl := lv_entry ([.ref (aL 0), .int p1]) (n := 6) (Nat.le_of_ble_eq_true rfl)
  rw [lg_entry_eq]
  generalize (lg_sl ([.ref (aL 0), .int p1]) ++ List.replicate (6 - (lg_sl ([.ref (aL 0), .int p1])).length) Slot.unset).toArray = ls at hl ⊢
  have hl : lv_has ls 6 [(0, .ref (aL 0)), (1, .int p1)] := hl
  exact wX1_countMinutes_0 C0 hA P L p1 hz s.heap [] hP hD va_S.rf ls (lv_sub hl [0, 1] rfl)
end SX1_countMinutes

section SX1_moveTo
/-! CardLoops$Line.moveTo(I)V -/
abbrev wsX1_moveTo : List Cond := Cond.code yX1_moveTo cX1_moveTo 4 none :: wsL_law0
abbrev rmX1_moveTo : Room := { frames := 3, cells := 0, slots := 0, locals := 67 }
variable {p : Program} {l : Launch} {e : Env} {s : State} {m : MethodId} {args : Array Value} {below : List Frame} {meth : Method} {c : Code} {D : va_G} {K : Nat → ClassId} {A : Nat → Prop} {N : Nat} {aP : Nat → Nat} {aL : Nat → Nat} {z : Rc}
def IX1_moveTo_2 (p : Program) (l : Launch) (e : Env) (s : State) (m : MethodId) (args : Array Value) (below : List Frame) (meth : Method) (c : Code) (D : va_G) (K : Nat → ClassId) (aP : Nat → Nat) (aL : Nat → Nat) (A : Nat → Prop) (z : Rc) (k : Rc → Rc → Int32 → Int32 → Option (Rc)) : Prop := ∀ (P : Rc) (L : Rc) (x1 : Int32) (x2 : Int32) (H : Heap) (locs : List Loc) (ls : Array Slot), k P L x1 x2 = some z → va_P D vwCl (fl [wPlan K aP P, wLine K aL (aP 0) L]) H → va_D A (fl [wPlan K aP P, wLine K aL (aP 0) L]) → va_S A s.heap H locs → lv_has ls 4 [(0, .ref (aL 0)), (1, .int x1), (2, .int x2)] → W p l e rmX1_moveTo s m args below meth c H locs 0 0 (MQ below (qcV D z (fun (u : Rc) => (fl [wPlan K aP P, wLine K aL (aP 0) u])) A) args s 0 0 A) (F0 m 2 ls [])
set_option maxHeartbeats 1000000 in
set_option maxRecDepth 10000 in
theorem wX1_moveTo_2 (C0 : cx p s m args meth c cX1_moveTo 4 RX1 wsX1_moveTo none D K) (hA : ∀ q, s.heap.size ≤ q → A q) {k2 : Rc → Rc → Int32 → Int32 → Option (Rc)} (hk2 : IX1_moveTo_2 p l e s m args below meth c D K aP aL A z k2) (P : Rc) (L : Rc) (x1 : Int32) (x2 : Int32) (h : fX1_moveTo_2b N k2 P L x1 x2 = some z) (H : Heap) (locs : List Loc) (hP : va_P D vwCl (fl [wPlan K aP P, wLine K aL (aP 0) L]) H) (hD : va_D A (fl [wPlan K aP P, wLine K aL (aP 0) L])) (hS : va_S A s.heap H locs) (ls : Array Slot) (hl : lv_has ls 4 [(0, .ref (aL 0)), (1, .int x1), (2, .int x2)]) : W p l e rmX1_moveTo s m args below meth c H locs 0 0 (MQ below (qcV D z (fun (u : Rc) => (fl [wPlan K aP P, wLine K aL (aP 0) u])) A) args s 0 0 A) (F0 m 2 ls []) := by
  unfold fX1_moveTo_2b at h
  refine r_iload_n C0 dX1_moveTo_2 hl 2 rfl ?_
  refine r_ldc (v := (nI 1000000)) C0 dX1_moveTo_3 (mc wd25_18) ?_
  refine r_icmp_ge h C0 45 dX1_moveTo_5 (by decide) (fun h => ?_) (fun h => ?_)
  · exact r_vret h C0 (fun (u : Rc) => (fl [wPlan K aP P, wLine K aL (aP 0) u])) hP hD hS dX1_moveTo_45
  · refine r_aload_n C0 dX1_moveTo_8 hl 0 rfl ?_
    refine r_get C0 1 inx1 hP 7 rfl rfl 8 (by decide) (mc wd3_16) (.int (L 8 0)) rfl dX1_moveTo_9 ?_
    refine r_iload_n C0 dX1_moveTo_12 hl 1 rfl ?_
    refine r_icmp_ge h C0 45 dX1_moveTo_13 (by decide) (fun h => ?_) (fun h => ?_)
    · exact r_vret h C0 (fun (u : Rc) => (fl [wPlan K aP P, wLine K aL (aP 0) u])) hP hD hS dX1_moveTo_45
    · refine r_iload_n C0 dX1_moveTo_16 hl 1 rfl ?_
      refine r_aload_n C0 dX1_moveTo_17 hl 0 rfl ?_
      obtain ⟨z1, hz1, h⟩ := bnd_some h
      have hPc := vaP_sel (Wc := [wPlan K aP P, wLine K aL (aP 0) L]) hP [0, 1] rfl
      refine r_cI (va_runV (As := []) (rest := [.int x1]) C0.1 (ctX1_nextThrough l D K N aP aL P L z1 hz1) (cwV 0 C0.1.2.2.2.2 (gdV wd25_19 wd25_20 wd25_21 wd1_23 wd25_22) rfl rfl rfl (by decide +kernel) ⟨Nat.le_of_ble_eq_true rfl, Nat.le_of_ble_eq_true rfl⟩) ⟨pcR_blind, va_recv C0.2.2.2.1 hPc (ci := 1) (q0 := 7) rfl rfl, pcR_of hPc C0.2.2.2⟩ rfl rfl hl.1 rfl (lv_room (Nat.le_of_ble_eq_true rfl)) dX1_moveTo_18 ⟨Nat.zero_le _, Nat.zero_le _⟩).run ?_
      refine r_mmin C0 ⟨(mc wd33_9), (mc wd7_11), (mc wd7_12), (mc wd7_13)⟩ hl ⟨Nat.le_of_ble_eq_true rfl, Nat.le_of_ble_eq_true rfl⟩ ⟨Nat.zero_le _, Nat.zero_le _⟩ dX1_moveTo_21 ?_
      refine r_istore_n h C0 (fun v2 => [(3, .int v2), (0, .ref (aL 0)), (1, .int x1), (2, .int x2)]) dX1_moveTo_24 hl (by decide) (fun _ => rfl) (fun v2 ls h hl => ?_)
      refine r_aload_n C0 dX1_moveTo_25 hl 1 rfl ?_
      refine r_iload_n C0 dX1_moveTo_26 hl 0 rfl ?_
      obtain ⟨z3, hz3, h⟩ := bnd_some h
      refine r_callVC (Wc := [wPlan K aP P, wLine K aL (aP 0) L]) (wf := fun (u : Rc) => [wPlan K aP P, wLine K aL (aP 0) u]) (Wn := [wPlan K aP P, wLine K aL (aP 0) z3]) hP hD hS hA [0, 1] [] [0, 1] 2 rfl rfl (by decide) rfl rfl (by decide) (fun hPc hDc hFc => va_runV (As := [.int v2]) (rest := []) C0.1 (ctX1_countMinutes l D K N aP aL P L v2 H.size z3 hz3) (cwV 1 C0.1.2.2.2.2 (gdV wd33_10 wd33_11 wd33_12 wd1_23 wd33_13) rfl rfl rfl (by decide +kernel) ⟨Nat.le_of_ble_eq_true rfl, Nat.le_of_ble_eq_true rfl⟩) ⟨pcW_blind, va_recv C0.2.2.2.1 hPc (ci := 1) (q0 := 7) rfl rfl, pcW_of hPc hDc C0.2.2.2⟩ rfl rfl hl.1 rfl (lv_room (Nat.le_of_ble_eq_true rfl)) dX1_moveTo_27 ⟨Nat.zero_le _, Nat.zero_le _⟩) (fun H locs hP hD hS => ?_)
      refine r_aload_n C0 dX1_moveTo_30 hl 1 rfl ?_
      refine r_iload_n C0 dX1_moveTo_31 hl 0 rfl ?_
      refine r_put (ty := .int) h C0 1 inx1 tyX1 tyX1_ok nmX1 hP hD hS 7 (fun uu => (fl [wPlan K aP P, wLine K aL (aP 0) uu])) rfl rfl 8 (by decide) (mc wd3_16) rfl (by decide +kernel) rfl rfl (by simp) rfl dX1_moveTo_32 (fun L4 H locs h hP hD hS => ?_)
      refine r_aload_n C0 dX1_moveTo_35 hl 1 rfl ?_
      obtain ⟨z5, hz5, h⟩ := bnd_some h
      refine r_callVC (Wc := [wPlan K aP P, wLine K aL (aP 0) L4]) (wf := fun (u : Rc) => [wPlan K aP P, wLine K aL (aP 0) u]) (Wn := [wPlan K aP P, wLine K aL (aP 0) z5]) hP hD hS hA [0, 1] [] [0, 1] 2 rfl rfl (by decide) rfl rfl (by decide) (fun hPc hDc hFc => va_runV (As := []) (rest := []) C0.1 (ctX1_round l D K N aP aL P L4 H.size z5 hz5) (cwV 0 C0.1.2.2.2.2 (gdV wd13_2 wd13_3 wd13_4 wd1_23 wd13_5) rfl rfl rfl (by decide +kernel) ⟨Nat.le_of_ble_eq_true rfl, Nat.le_of_ble_eq_true rfl⟩) ⟨pcW_blind, va_recv C0.2.2.2.1 hPc (ci := 1) (q0 := 7) rfl rfl, pcW_of hPc hDc C0.2.2.2⟩ rfl rfl hl.1 rfl (lv_room (Nat.le_of_ble_eq_true rfl)) dX1_moveTo_36 ⟨Nat.zero_le _, Nat.zero_le _⟩) (fun H locs hP hD hS => ?_)
      refine r_iinc h C0 3 (fun v6 => [(2, .int v6), (3, .int v2), (0, .ref (aL 0)), (1, .int x1)]) dX1_moveTo_39 hl rfl rfl (by decide) (fun _ => rfl) (fun v6 ls h hl => ?_)
      refine r_goto C0 2 dX1_moveTo_42 (by decide) ?_
      exact hk2 P z5 x1 v6 _ _ _ h hP hD hS (lv_sub hl [2, 3, 0] rfl)
theorem wX1_moveTo_2L (C0 : cx p s m args meth c cX1_moveTo 4 RX1 wsX1_moveTo none D K) (hA : ∀ q, s.heap.size ≤ q → A q) : IX1_moveTo_2 p l e s m args below meth c D K aP aL A z (fX1_moveTo_2 N) := by
  refine itn_ind (IX1_moveTo_2 p l e s m args below meth c D K aP aL A z) ?_ ?_ N
  · intro _ _ _ _ _ _ _ h; cases h
  · intro k2 hk2 P L x1 x2 H locs ls h hP hD hS hl
    exact wX1_moveTo_2 C0 hA hk2 P L x1 x2 h H locs hP hD hS ls hl
set_option maxHeartbeats 1000000 in
set_option maxRecDepth 10000 in
theorem wX1_moveTo_0 (C0 : cx p s m args meth c cX1_moveTo 4 RX1 wsX1_moveTo none D K) (hA : ∀ q, s.heap.size ≤ q → A q) (P : Rc) (L : Rc) (x1 : Int32) (h : fX1_moveTo N P L x1 = some z) (H : Heap) (locs : List Loc) (hP : va_P D vwCl (fl [wPlan K aP P, wLine K aL (aP 0) L]) H) (hD : va_D A (fl [wPlan K aP P, wLine K aL (aP 0) L])) (hS : va_S A s.heap H locs) (ls : Array Slot) (hl : lv_has ls 4 [(0, .ref (aL 0)), (1, .int x1)]) : W p l e rmX1_moveTo s m args below meth c H locs 0 0 (MQ below (qcV D z (fun (u : Rc) => (fl [wPlan K aP P, wLine K aL (aP 0) u])) A) args s 0 0 A) (F0 m 0 ls []) := by
  unfold fX1_moveTo at h
  refine r_iconst C0 (nI 0) dX1_moveTo_0 (by decide) ?_
  refine r_istore_n h C0 (fun v1 => [(2, .int v1), (0, .ref (aL 0)), (1, .int x1)]) dX1_moveTo_1 hl (by decide) (fun _ => rfl) (fun v1 ls h hl => ?_)
  exact wX1_moveTo_2L C0 hA P L x1 v1 _ _ _ h hP hD hS (lv_sub hl [1, 2, 0] rfl)
set_option maxHeartbeats 1000000 in
set_option maxRecDepth 10000 in
theorem ctX1_moveTo (l : Launch) (D : va_G) (K : Nat → ClassId) (N : Nat) (aP : Nat → Nat) (aL : Nat → Nat) (P : Rc) (L : Rc) (p1 : Int32) (sz : Nat) (z : Rc) (hz : fX1_moveTo N P L p1 = some z) : Met l yX1_moveTo wsX1_moveTo rmX1_moveTo (pcW D K [.ref (aL 0), .int p1] (fl [wPlan K aP P, wLine K aL (aP 0) L]) sz) (qcV D z (fun (u : Rc) => (fl [wPlan K aP P, wLine K aL (aP 0) u])) (va_A (fl [wPlan K aP P, wLine K aL (aP 0) L]) sz)) 0 0 (va_A (fl [wPlan K aP P, wLine K aL (aP 0) L]) sz) := by
  refine Met.ofW (cc := cX1_moveTo) (maxL := 4) (ret := none) (by decide) rfl ?_
  intro p e s m args below meth c s₁ B hml hv
  obtain ⟨rfl, hsz, hP, hK, hD0⟩ := hv
  subst hsz
  have C0 : cx p s m _ meth c cX1_moveTo 4 RX1 wsX1_moveTo none D K := ⟨⟨B.exec, B.bytes, hml, findClass_of_methodNamed B.named, atoms_spec (ws := wsX1_moveTo) B.pre⟩, B.returns, B.notSynchronized, hK⟩
  have hD := hD0.self (sz := s.heap.size)
  generalize hAe : va_A (fl [wPlan K aP P, wLine K aL (aP 0) L]) s.heap.size = A at hD ⊢
  have hA : ∀ q : Nat, s.heap.size ≤ q → A q := fun q h => by rw [← hAe]; exact Or.inr h
  have hl := lv_entry ([.ref (aL 0), .int p1]) (n := 4) (Nat.le_of_ble_eq_true rfl)
  rw [lg_entry_eq]
  generalize (lg_sl ([.ref (aL 0), .int p1]) ++ List.replicate (4 - (lg_sl ([.ref (aL 0), .int p1])).length) Slot.unset).toArray = ls at hl ⊢
  have hl : lv_has ls 4 [(0, .ref (aL 0)), (1, .int p1)] := hl
  exact wX1_moveTo_0 C0 hA P L p1 hz s.heap [] hP hD va_S.rf ls (lv_sub hl [0, 1] rfl)
end SX1_moveTo

section SX1_copyFrom
/-! CardLoops$Line.copyFrom(LCardLoops$Line;)V -/
abbrev wsX1_copyFrom : List Cond := Cond.code yX1_copyFrom cX1_copyFrom 2 none :: wsL_law0
abbrev rmX1_copyFrom : Room := { frames := 1, cells := 0, slots := 0, locals := 40 }
variable {p : Program} {l : Launch} {e : Env} {s : State} {m : MethodId} {args : Array Value} {below : List Frame} {meth : Method} {c : Code} {D : va_G} {K : Nat → ClassId} {A : Nat → Prop} {aL : Nat → Nat} {aO : Nat → Nat} {rL0 : Nat} {rO0 : Nat} {z : Rc}
set_option maxHeartbeats 1000000 in
set_option maxRecDepth 10000 in
theorem wX1_copyFrom_0 (C0 : cx p s m args meth c cX1_copyFrom 2 RX1 wsX1_copyFrom none D K) (hA : ∀ q, s.heap.size ≤ q → A q) (L : Rc) (O : Rc) (h : fX1_copyFrom L O = some z) (H : Heap) (locs : List Loc) (hP : va_P D vwCl (fl [wLine K aL rL0 L, wLine K aO rO0 O]) H) (hD : va_D A (fl [wLine K aL rL0 L, wLine K aO rO0 O])) (hS : va_S A s.heap H locs) (ls : Array Slot) (hl : lv_has ls 2 [(0, .ref (aL 0)), (1, .ref (aO 0))]) : W p l e rmX1_copyFrom s m args below meth c H locs 0 0 (MQ below (qcV D z (fun (u : Rc) => (fl [wLine K aL rL0 u, wLine K aO rO0 O])) A) args s 0 0 A) (F0 m 0 ls []) := by
  unfold fX1_copyFrom at h
  refine r_aload_n C0 dX1_copyFrom_0 hl 1 rfl ?_
  refine r_get C0 1 inx1 hP 7 rfl rfl 1 (by decide) (mc wd3_9) (.ref (aO 2)) rfl dX1_copyFrom_1 ?_
  refine r_iconst C0 (nI 0) dX1_copyFrom_4 (by decide) ?_
  refine r_aload_n C0 dX1_copyFrom_5 hl 0 rfl ?_
  refine r_get C0 1 inx1 hP 0 rfl rfl 1 (by decide) (mc wd3_9) (.ref (aL 2)) rfl dX1_copyFrom_6 ?_
  refine r_iconst C0 (nI 0) dX1_copyFrom_9 (by decide) ?_
  refine r_bipush C0 (nI 6) dX1_copyFrom_10 (by decide) ?_
  refine r_copy h C0 6 ⟨(mc wd12_21), (mc wd12_14), (mc wd12_15), (mc wd12_16)⟩ hP hD hS 8 1 (fun uu => (fl [wLine K aL rL0 uu, wLine K aO rO0 O])) rfl rfl (by decide) hl ⟨Nat.le_of_ble_eq_true rfl, Nat.le_of_ble_eq_true rfl⟩ rfl dX1_copyFrom_12 (fun L1 H locs h hP hD hS => ?_)
  refine r_aload_n C0 dX1_copyFrom_15 hl 1 rfl ?_
  refine r_get C0 1 inx1 hP 7 rfl rfl 2 (by decide) (mc wd3_10) (.ref (aO 3)) rfl dX1_copyFrom_16 ?_
  refine r_iconst C0 (nI 0) dX1_copyFrom_19 (by decide) ?_
  refine r_aload_n C0 dX1_copyFrom_20 hl 0 rfl ?_
  refine r_get C0 1 inx1 hP 0 rfl rfl 2 (by decide) (mc wd3_10) (.ref (aL 3)) rfl dX1_copyFrom_21 ?_
  refine r_iconst C0 (nI 0) dX1_copyFrom_24 (by decide) ?_
  refine r_bipush C0 (nI 6) dX1_copyFrom_25 (by decide) ?_
  refine r_copy h C0 6 ⟨(mc wd12_21), (mc wd12_14), (mc wd12_15), (mc wd12_16)⟩ hP hD hS 9 2 (fun uu => (fl [wLine K aL rL0 uu, wLine K aO rO0 O])) rfl rfl (by decide) hl ⟨Nat.le_of_ble_eq_true rfl, Nat.le_of_ble_eq_true rfl⟩ rfl dX1_copyFrom_27 (fun L2 H locs h hP hD hS => ?_)
  refine r_aload_n C0 dX1_copyFrom_30 hl 1 rfl ?_
  refine r_get C0 1 inx1 hP 7 rfl rfl 3 (by decide) (mc wd3_11) (.ref (aO 4)) rfl dX1_copyFrom_31 ?_
  refine r_iconst C0 (nI 0) dX1_copyFrom_34 (by decide) ?_
  refine r_aload_n C0 dX1_copyFrom_35 hl 0 rfl ?_
  refine r_get C0 1 inx1 hP 0 rfl rfl 3 (by decide) (mc wd3_11) (.ref (aL 4)) rfl dX1_copyFrom_36 ?_
  refine r_iconst C0 (nI 0) dX1_copyFrom_39 (by decide) ?_
  refine r_bipush C0 (nI 6) dX1_copyFrom_40 (by decide) ?_
  refine r_copy h C0 6 ⟨(mc wd12_21), (mc wd12_14), (mc wd12_15), (mc wd12_16)⟩ hP hD hS 10 3 (fun uu => (fl [wLine K aL rL0 uu, wLine K aO rO0 O])) rfl rfl (by decide) hl ⟨Nat.le_of_ble_eq_true rfl, Nat.le_of_ble_eq_true rfl⟩ rfl dX1_copyFrom_42 (fun L3 H locs h hP hD hS => ?_)
  refine r_aload_n C0 dX1_copyFrom_45 hl 1 rfl ?_
  refine r_get C0 1 inx1 hP 7 rfl rfl 4 (by decide) (mc wd3_12) (.ref (aO 5)) rfl dX1_copyFrom_46 ?_
  refine r_iconst C0 (nI 0) dX1_copyFrom_49 (by decide) ?_
  refine r_aload_n C0 dX1_copyFrom_50 hl 0 rfl ?_
  refine r_get C0 1 inx1 hP 0 rfl rfl 4 (by decide) (mc wd3_12) (.ref (aL 5)) rfl dX1_copyFrom_51 ?_
  refine r_iconst C0 (nI 0) dX1_copyFrom_54 (by decide) ?_
  refine r_iconst C0 (nI 5) dX1_copyFrom_55 (by decide) ?_
  refine r_copy h C0 5 ⟨(mc wd12_21), (mc wd12_14), (mc wd12_15), (mc wd12_16)⟩ hP hD hS 11 4 (fun uu => (fl [wLine K aL rL0 uu, wLine K aO rO0 O])) rfl rfl (by decide) hl ⟨Nat.le_of_ble_eq_true rfl, Nat.le_of_ble_eq_true rfl⟩ rfl dX1_copyFrom_56 (fun L4 H locs h hP hD hS => ?_)
  refine r_aload_n C0 dX1_copyFrom_59 hl 1 rfl ?_
  refine r_get C0 1 inx1 hP 7 rfl rfl 5 (by decide) (mc wd3_13) (.ref (aO 6)) rfl dX1_copyFrom_60 ?_
  refine r_iconst C0 (nI 0) dX1_copyFrom_63 (by decide) ?_
  refine r_aload_n C0 dX1_copyFrom_64 hl 0 rfl ?_
  refine r_get C0 1 inx1 hP 0 rfl rfl 5 (by decide) (mc wd3_13) (.ref (aL 6)) rfl dX1_copyFrom_65 ?_
  refine r_iconst C0 (nI 0) dX1_copyFrom_68 (by decide) ?_
  refine r_bipush C0 (nI 20) dX1_copyFrom_69 (by decide) ?_
  refine r_copy h C0 20 ⟨(mc wd12_21), (mc wd12_14), (mc wd12_15), (mc wd12_16)⟩ hP hD hS 12 5 (fun uu => (fl [wLine K aL rL0 uu, wLine K aO rO0 O])) rfl rfl (by decide) hl ⟨Nat.le_of_ble_eq_true rfl, Nat.le_of_ble_eq_true rfl⟩ rfl dX1_copyFrom_71 (fun L5 H locs h hP hD hS => ?_)
  refine r_aload_n C0 dX1_copyFrom_74 hl 1 rfl ?_
  refine r_get C0 1 inx1 hP 7 rfl rfl 6 (by decide) (mc wd3_14) (.ref (aO 7)) rfl dX1_copyFrom_75 ?_
  refine r_iconst C0 (nI 0) dX1_copyFrom_78 (by decide) ?_
  refine r_aload_n C0 dX1_copyFrom_79 hl 0 rfl ?_
  refine r_get C0 1 inx1 hP 0 rfl rfl 6 (by decide) (mc wd3_14) (.ref (aL 7)) rfl dX1_copyFrom_80 ?_
  refine r_iconst C0 (nI 0) dX1_copyFrom_83 (by decide) ?_
  refine r_bipush C0 (nI 24) dX1_copyFrom_84 (by decide) ?_
  refine r_copy h C0 24 ⟨(mc wd12_21), (mc wd12_14), (mc wd12_15), (mc wd12_16)⟩ hP hD hS 13 6 (fun uu => (fl [wLine K aL rL0 uu, wLine K aO rO0 O])) rfl rfl (by decide) hl ⟨Nat.le_of_ble_eq_true rfl, Nat.le_of_ble_eq_true rfl⟩ rfl dX1_copyFrom_86 (fun L6 H locs h hP hD hS => ?_)
  refine r_aload_n C0 dX1_copyFrom_89 hl 0 rfl ?_
  refine r_aload_n C0 dX1_copyFrom_90 hl 1 rfl ?_
  refine r_get C0 1 inx1 hP 7 rfl rfl 7 (by decide) (mc wd3_15) (.int (O 7 0)) rfl dX1_copyFrom_91 ?_
  refine r_put (ty := .int) h C0 1 inx1 tyX1 tyX1_ok nmX1 hP hD hS 0 (fun uu => (fl [wLine K aL rL0 uu, wLine K aO rO0 O])) rfl rfl 7 (by decide) (mc wd3_15) rfl (by decide +kernel) rfl rfl (by simp) rfl dX1_copyFrom_94 (fun L7 H locs h hP hD hS => ?_)
  refine r_aload_n C0 dX1_copyFrom_97 hl 0 rfl ?_
  refine r_aload_n C0 dX1_copyFrom_98 hl 1 rfl ?_
  refine r_get C0 1 inx1 hP 7 rfl rfl 8 (by decide) (mc wd3_16) (.int (O 8 0)) rfl dX1_copyFrom_99 ?_
  refine r_put (ty := .int) h C0 1 inx1 tyX1 tyX1_ok nmX1 hP hD hS 0 (fun uu => (fl [wLine K aL rL0 uu, wLine K aO rO0 O])) rfl rfl 8 (by decide) (mc wd3_16) rfl (by decide +kernel) rfl rfl (by simp) rfl dX1_copyFrom_102 (fun L8 H locs h hP hD hS => ?_)
  refine r_aload_n C0 dX1_copyFrom_105 hl 0 rfl ?_
  refine r_aload_n C0 dX1_copyFrom_106 hl 1 rfl ?_
  refine r_get C0 1 inx1 hP 7 rfl rfl 9 (by decide) (mc wd3_17) (.int (O 9 0)) rfl dX1_copyFrom_107 ?_
  refine r_put (ty := .int) h C0 1 inx1 tyX1 tyX1_ok nmX1 hP hD hS 0 (fun uu => (fl [wLine K aL rL0 uu, wLine K aO rO0 O])) rfl rfl 9 (by decide) (mc wd3_17) rfl (by decide +kernel) rfl rfl (by simp) rfl dX1_copyFrom_110 (fun L9 H locs h hP hD hS => ?_)
  refine r_aload_n C0 dX1_copyFrom_113 hl 0 rfl ?_
  refine r_aload_n C0 dX1_copyFrom_114 hl 1 rfl ?_
  refine r_get C0 1 inx1 hP 7 rfl rfl 10 (by decide) (mc wd3_18) (.int (O 10 0)) rfl dX1_copyFrom_115 ?_
  refine r_put (ty := .int) h C0 1 inx1 tyX1 tyX1_ok nmX1 hP hD hS 0 (fun uu => (fl [wLine K aL rL0 uu, wLine K aO rO0 O])) rfl rfl 10 (by decide) (mc wd3_18) rfl (by decide +kernel) rfl rfl (by simp) rfl dX1_copyFrom_118 (fun L10 H locs h hP hD hS => ?_)
  exact r_vret h C0 (fun (u : Rc) => (fl [wLine K aL rL0 u, wLine K aO rO0 O])) hP hD hS dX1_copyFrom_121
set_option maxHeartbeats 1000000 in
set_option maxRecDepth 10000 in
theorem ctX1_copyFrom (l : Launch) (D : va_G) (K : Nat → ClassId) (aL : Nat → Nat) (aO : Nat → Nat) (rL0 : Nat) (rO0 : Nat) (L : Rc) (O : Rc) (sz : Nat) (z : Rc) (hz : fX1_copyFrom L O = some z) : Met l yX1_copyFrom wsX1_copyFrom rmX1_copyFrom (pcW D K [.ref (aL 0), .ref (aO 0)] (fl [wLine K aL rL0 L, wLine K aO rO0 O]) sz) (qcV D z (fun (u : Rc) => (fl [wLine K aL rL0 u, wLine K aO rO0 O])) (va_A (fl [wLine K aL rL0 L, wLine K aO rO0 O]) sz)) 0 0 (va_A (fl [wLine K aL rL0 L, wLine K aO rO0 O]) sz) := by
  refine Met.ofW (cc := cX1_copyFrom) (maxL := 2) (ret := none) (by decide) rfl ?_
  intro p e s m args below meth c s₁ B hml hv
  obtain ⟨rfl, hsz, hP, hK, hD0⟩ := hv
  subst hsz
  have C0 : cx p s m _ meth c cX1_copyFrom 2 RX1 wsX1_copyFrom none D K := ⟨⟨B.exec, B.bytes, hml, findClass_of_methodNamed B.named, atoms_spec (ws := wsX1_copyFrom) B.pre⟩, B.returns, B.notSynchronized, hK⟩
  have hD := hD0.self (sz := s.heap.size)
  generalize hAe : va_A (fl [wLine K aL rL0 L, wLine K aO rO0 O]) s.heap.size = A at hD ⊢
  have hA : ∀ q : Nat, s.heap.size ≤ q → A q := fun q h => by rw [← hAe]; exact Or.inr h
  have hl := lv_entry ([.ref (aL 0), .ref (aO 0)]) (n := 2) (Nat.le_of_ble_eq_true rfl)
  rw [lg_entry_eq]
  generalize (lg_sl ([.ref (aL 0), .ref (aO 0)]) ++ List.replicate (2 - (lg_sl ([.ref (aL 0), .ref (aO 0)])).length) Slot.unset).toArray = ls at hl ⊢
  have hl : lv_has ls 2 [(0, .ref (aL 0)), (1, .ref (aO 0))] := hl
  exact wX1_copyFrom_0 C0 hA L O hz s.heap [] hP hD va_S.rf ls (lv_sub hl [0, 1] rfl)
end SX1_copyFrom

section SX1_startAnew
/-! CardLoops$Line.startAnew([II)V -/
abbrev wsX1_startAnew : List Cond := Cond.code yX1_startAnew cX1_startAnew 3 none :: wsL_law0
abbrev rmX1_startAnew : Room := { frames := 3, cells := 0, slots := 0, locals := 65 }
variable {p : Program} {l : Launch} {e : Env} {s : State} {m : MethodId} {args : Array Value} {below : List Frame} {meth : Method} {c : Code} {D : va_G} {K : Nat → ClassId} {A : Nat → Prop} {N : Nat} {aP : Nat → Nat} {aL : Nat → Nat} {aC : Nat} {z : Rc}
set_option maxHeartbeats 1000000 in
set_option maxRecDepth 10000 in
theorem wX1_startAnew_0 (C0 : cx p s m args meth c cX1_startAnew 3 RX1 wsX1_startAnew none D K) (hA : ∀ q, s.heap.size ≤ q → A q) (P : Rc) (L : Rc) (C : Nat → Int32) (x2 : Int32) (h : fX1_startAnew N P L C x2 = some z) (H : Heap) (locs : List Loc) (hP : va_P D vwCl (fl [wPlan K aP P, wLine K aL (aP 0) L, wArr K aC 5 C]) H) (hD : va_D A (fl [wPlan K aP P, wLine K aL (aP 0) L, wArr K aC 5 C])) (hS : va_S A s.heap H locs) (ls : Array Slot) (hl : lv_has ls 3 [(0, .ref (aL 0)), (1, .ref aC), (2, .int x2)]) : W p l e rmX1_startAnew s m args below meth c H locs 0 0 (MQ below (qcV D z (fun (u : Rc) => (fl [wPlan K aP P, wLine K aL (aP 0) u, wArr K aC 5 C])) A) args s 0 0 A) (F0 m 0 ls []) := by
  unfold fX1_startAnew at h
  refine r_aload_n C0 dX1_startAnew_0 hl 1 rfl ?_
  refine r_iconst C0 (nI 0) dX1_startAnew_1 (by decide) ?_
  refine r_aload_n C0 dX1_startAnew_2 hl 0 rfl ?_
  refine r_get C0 1 inx1 hP 7 rfl rfl 4 (by decide) (mc wd3_12) (.ref (aL 5)) rfl dX1_startAnew_3 ?_
  refine r_iconst C0 (nI 0) dX1_startAnew_6 (by decide) ?_
  refine r_iconst C0 (nI 5) dX1_startAnew_7 (by decide) ?_
  refine r_copy h C0 5 ⟨(mc wd12_21), (mc wd12_14), (mc wd12_15), (mc wd12_16)⟩ hP hD hS 14 11 (fun uu => (fl [wPlan K aP P, wLine K aL (aP 0) uu, wArr K aC 5 C])) rfl rfl (by decide) hl ⟨Nat.le_of_ble_eq_true rfl, Nat.le_of_ble_eq_true rfl⟩ rfl dX1_startAnew_8 (fun L1 H locs h hP hD hS => ?_)
  refine r_aload_n C0 dX1_startAnew_11 hl 0 rfl ?_
  refine r_get C0 1 inx1 hP 7 rfl rfl 1 (by decide) (mc wd3_9) (.ref (aL 2)) rfl dX1_startAnew_12 ?_
  refine r_iconst C0 (nI 0) dX1_startAnew_15 (by decide) ?_
  obtain ⟨z2, hz2, h⟩ := bnd_some h
  refine r_callV (wc := (fl [wArr K (aL 2) 6 (L1 1)])) (wf := fun (u : (Nat → Int32)) => (fl [wArr K (aL 2) 6 u])) (wn := (fl [wPlan K aP P, wLine K aL (aP 0) (va_up L1 1 z2), wArr K aC 5 C])) hP hD hS hA [8] [0, 1, 2, 3, 4, 5, 6, 7, 9, 10, 11, 12, 13, 14] [0, 1, 2, 3, 4, 5, 6, 7, 14, 8, 9, 10, 11, 12, 13] rfl (by decide) rfl (by decide) (by decide) rfl (by decide) (fun hPc hDc => va_runS (As := [.ref (aL 2), .int (nI 0)]) (rest := []) C0.1 (ctJ7_fill_53178 l D K 6 N (aL 2) (L1 1) (nI 0) H.size z2 hz2) (va_cwS 2 C0.1.2.2.2.2 (gdS wd12_22 wd12_23 wd13_0 wd13_1) rfl rfl rfl (by decide +kernel) ⟨Nat.le_of_ble_eq_true rfl, Nat.le_of_ble_eq_true rfl⟩) ⟨pcW_blind, pcW_of hPc hDc C0.2.2.2⟩ rfl rfl hl.1 rfl (lv_room (Nat.le_of_ble_eq_true rfl)) dX1_startAnew_16 ⟨Nat.zero_le _, Nat.zero_le _⟩) (fun H locs hP hD hS => ?_)
  refine nm_w h (fun uu => (fl [wPlan K aP P, wLine K aL (aP 0) uu, wArr K aC 5 C])) hP hD (fun L3 h hP hD => ?_)
  refine r_aload_n C0 dX1_startAnew_19 hl 0 rfl ?_
  refine r_get C0 1 inx1 hP 7 rfl rfl 2 (by decide) (mc wd3_10) (.ref (aL 3)) rfl dX1_startAnew_20 ?_
  refine r_iconst C0 (nI 0) dX1_startAnew_23 (by decide) ?_
  obtain ⟨z4, hz4, h⟩ := bnd_some h
  refine r_callV (wc := (fl [wArr K (aL 3) 6 (L3 2)])) (wf := fun (u : (Nat → Int32)) => (fl [wArr K (aL 3) 6 u])) (wn := (fl [wPlan K aP P, wLine K aL (aP 0) (va_up L3 2 z4), wArr K aC 5 C])) hP hD hS hA [9] [0, 1, 2, 3, 4, 5, 6, 7, 8, 10, 11, 12, 13, 14] [0, 1, 2, 3, 4, 5, 6, 7, 8, 14, 9, 10, 11, 12, 13] rfl (by decide) rfl (by decide) (by decide) rfl (by decide) (fun hPc hDc => va_runS (As := [.ref (aL 3), .int (nI 0)]) (rest := []) C0.1 (ctJ7_fill_53178 l D K 6 N (aL 3) (L3 2) (nI 0) H.size z4 hz4) (va_cwS 2 C0.1.2.2.2.2 (gdS wd12_22 wd12_23 wd13_0 wd13_1) rfl rfl rfl (by decide +kernel) ⟨Nat.le_of_ble_eq_true rfl, Nat.le_of_ble_eq_true rfl⟩) ⟨pcW_blind, pcW_of hPc hDc C0.2.2.2⟩ rfl rfl hl.1 rfl (lv_room (Nat.le_of_ble_eq_true rfl)) dX1_startAnew_24 ⟨Nat.zero_le _, Nat.zero_le _⟩) (fun H locs hP hD hS => ?_)
  refine nm_w h (fun uu => (fl [wPlan K aP P, wLine K aL (aP 0) uu, wArr K aC 5 C])) hP hD (fun L5 h hP hD => ?_)
  refine r_aload_n C0 dX1_startAnew_27 hl 0 rfl ?_
  refine r_get C0 1 inx1 hP 7 rfl rfl 6 (by decide) (mc wd3_14) (.ref (aL 7)) rfl dX1_startAnew_28 ?_
  refine r_iconst C0 (nI 0) dX1_startAnew_31 (by decide) ?_
  obtain ⟨z6, hz6, h⟩ := bnd_some h
  refine r_callV (wc := (fl [wArr K (aL 7) 24 (L5 6)])) (wf := fun (u : (Nat → Int32)) => (fl [wArr K (aL 7) 24 u])) (wn := (fl [wPlan K aP P, wLine K aL (aP 0) (va_up L5 6 z6), wArr K aC 5 C])) hP hD hS hA [13] [0, 1, 2, 3, 4, 5, 6, 7, 8, 9, 10, 11, 12, 14] [0, 1, 2, 3, 4, 5, 6, 7, 8, 9, 10, 11, 12, 14, 13] rfl (by decide) rfl (by decide) (by decide) rfl (by decide) (fun hPc hDc => va_runS (As := [.ref (aL 7), .int (nI 0)]) (rest := []) C0.1 (ctJ7_fill_53178 l D K 24 N (aL 7) (L5 6) (nI 0) H.size z6 hz6) (va_cwS 2 C0.1.2.2.2.2 (gdS wd12_22 wd12_23 wd13_0 wd13_1) rfl rfl rfl (by decide +kernel) ⟨Nat.le_of_ble_eq_true rfl, Nat.le_of_ble_eq_true rfl⟩) ⟨pcW_blind, pcW_of hPc hDc C0.2.2.2⟩ rfl rfl hl.1 rfl (lv_room (Nat.le_of_ble_eq_true rfl)) dX1_startAnew_32 ⟨Nat.zero_le _, Nat.zero_le _⟩) (fun H locs hP hD hS => ?_)
  refine nm_w h (fun uu => (fl [wPlan K aP P, wLine K aL (aP 0) uu, wArr K aC 5 C])) hP hD (fun L7 h hP hD => ?_)
  refine r_aload_n C0 dX1_startAnew_35 hl 0 rfl ?_
  refine r_iload_n C0 dX1_startAnew_36 hl 2 rfl ?_
  refine r_put (ty := .int) h C0 1 inx1 tyX1 tyX1_ok nmX1 hP hD hS 7 (fun uu => (fl [wPlan K aP P, wLine K aL (aP 0) uu, wArr K aC 5 C])) rfl rfl 7 (by decide) (mc wd3_15) rfl (by decide +kernel) rfl rfl (by simp) rfl dX1_startAnew_37 (fun L8 H locs h hP hD hS => ?_)
  refine r_aload_n C0 dX1_startAnew_40 hl 0 rfl ?_
  refine r_iconst C0 (nI 0) dX1_startAnew_41 (by decide) ?_
  refine r_put (ty := .int) h C0 1 inx1 tyX1 tyX1_ok nmX1 hP hD hS 7 (fun uu => (fl [wPlan K aP P, wLine K aL (aP 0) uu, wArr K aC 5 C])) rfl rfl 8 (by decide) (mc wd3_16) rfl (by decide +kernel) rfl rfl (by simp) rfl dX1_startAnew_42 (fun L9 H locs h hP hD hS => ?_)
  refine r_aload_n C0 dX1_startAnew_45 hl 0 rfl ?_
  refine r_iconst C0 (-1 : Int32) dX1_startAnew_46 (by decide) ?_
  refine r_put (ty := .int) h C0 1 inx1 tyX1 tyX1_ok nmX1 hP hD hS 7 (fun uu => (fl [wPlan K aP P, wLine K aL (aP 0) uu, wArr K aC 5 C])) rfl rfl 9 (by decide) (mc wd3_17) rfl (by decide +kernel) rfl rfl (by simp) rfl dX1_startAnew_47 (fun L10 H locs h hP hD hS => ?_)
  refine r_aload_n C0 dX1_startAnew_50 hl 0 rfl ?_
  refine r_iconst C0 (-1 : Int32) dX1_startAnew_51 (by decide) ?_
  refine r_put (ty := .int) h C0 1 inx1 tyX1 tyX1_ok nmX1 hP hD hS 7 (fun uu => (fl [wPlan K aP P, wLine K aL (aP 0) uu, wArr K aC 5 C])) rfl rfl 10 (by decide) (mc wd3_18) rfl (by decide +kernel) rfl rfl (by simp) rfl dX1_startAnew_52 (fun L11 H locs h hP hD hS => ?_)
  refine r_aload_n C0 dX1_startAnew_55 hl 0 rfl ?_
  obtain ⟨z12, hz12, h⟩ := bnd_some h
  refine r_callVC (Wc := [wPlan K aP P, wLine K aL (aP 0) L11]) (wf := fun (u : Rc) => [wPlan K aP P, wLine K aL (aP 0) u]) (Wn := [wPlan K aP P, wLine K aL (aP 0) z12, wArr K aC 5 C]) hP hD hS hA [0, 1] [2] [1, 2, 0] 3 rfl rfl (by decide) rfl rfl (by decide) (fun hPc hDc hFc => va_runV (As := []) (rest := []) C0.1 (ctX1_round l D K N aP aL P L11 H.size z12 hz12) (cwV 0 C0.1.2.2.2.2 (gdV wd13_2 wd13_3 wd13_4 wd1_23 wd13_5) rfl rfl rfl (by decide +kernel) ⟨Nat.le_of_ble_eq_true rfl, Nat.le_of_ble_eq_true rfl⟩) ⟨pcW_blind, va_recv C0.2.2.2.1 hPc (ci := 1) (q0 := 7) rfl rfl, pcW_of hPc hDc C0.2.2.2⟩ rfl rfl hl.1 rfl (lv_room (Nat.le_of_ble_eq_true rfl)) dX1_startAnew_56 ⟨Nat.zero_le _, Nat.zero_le _⟩) (fun H locs hP hD hS => ?_)
  exact r_vret h C0 (fun (u : Rc) => (fl [wPlan K aP P, wLine K aL (aP 0) u, wArr K aC 5 C])) hP hD hS dX1_startAnew_59
set_option maxHeartbeats 1000000 in
set_option maxRecDepth 10000 in
theorem ctX1_startAnew (l : Launch) (D : va_G) (K : Nat → ClassId) (N : Nat) (aP : Nat → Nat) (aL : Nat → Nat) (aC : Nat) (P : Rc) (L : Rc) (C : Nat → Int32) (p2 : Int32) (sz : Nat) (z : Rc) (hz : fX1_startAnew N P L C p2 = some z) : Met l yX1_startAnew wsX1_startAnew rmX1_startAnew (pcW D K [.ref (aL 0), .ref aC, .int p2] (fl [wPlan K aP P, wLine K aL (aP 0) L, wArr K aC 5 C]) sz) (qcV D z (fun (u : Rc) => (fl [wPlan K aP P, wLine K aL (aP 0) u, wArr K aC 5 C])) (va_A (fl [wPlan K aP P, wLine K aL (aP 0) L, wArr K aC 5 C]) sz)) 0 0 (va_A (fl [wPlan K aP P, wLine K aL (aP 0) L, wArr K aC 5 C]) sz) := by
  refine Met.ofW (cc := cX1_startAnew) (maxL := 3) (ret := none) (by decide) rfl ?_
  intro p e s m args below meth c s₁ B hml hv
  obtain ⟨rfl, hsz, hP, hK, hD0⟩ := hv
  subst hsz
  have C0 : cx p s m _ meth c cX1_startAnew 3 RX1 wsX1_startAnew none D K := ⟨⟨B.exec, B.bytes, hml, findClass_of_methodNamed B.named, atoms_spec (ws := wsX1_startAnew) B.pre⟩, B.returns, B.notSynchronized, hK⟩
  have hD := hD0.self (sz := s.heap.size)
  generalize hAe : va_A (fl [wPlan K aP P, wLine K aL (aP 0) L, wArr K aC 5 C]) s.heap.size = A at hD ⊢
  have hA : ∀ q : Nat, s.heap.size ≤ q → A q := fun q h => by rw [← hAe]; exact Or.inr h
  have hl := lv_entry ([.ref (aL 0), .ref aC, .int p2]) (n := 3) (Nat.le_of_ble_eq_true rfl)
  rw [lg_entry_eq]
  generalize (lg_sl ([.ref (aL 0), .ref aC, .int p2]) ++ List.replicate (3 - (lg_sl ([.ref (aL 0), .ref aC, .int p2])).length) Slot.unset).toArray = ls at hl ⊢
  have hl : lv_has ls 3 [(0, .ref (aL 0)), (1, .ref aC), (2, .int p2)] := hl
  exact wX1_startAnew_0 C0 hA P L C p2 hz s.heap [] hP hD va_S.rf ls (lv_sub hl [0, 1, 2] rfl)
end SX1_startAnew

section SX1_startAnewp
/-! CardLoops$Line.startAnew([II)V -/
abbrev rmX1_startAnewp : Room := { frames := 3, cells := 0, slots := 0, locals := 65 }
variable {p : Program} {l : Launch} {e : Env} {s : State} {m : MethodId} {args : Array Value} {below : List Frame} {meth : Method} {c : Code} {D : va_G} {K : Nat → ClassId} {A : Nat → Prop} {N : Nat} {aP : Nat → Nat} {aL : Nat → Nat} {z : Rc}
set_option maxHeartbeats 1000000 in
set_option maxRecDepth 10000 in
theorem wX1_startAnewp_0 (C0 : cx p s m args meth c cX1_startAnew 3 RX1 wsX1_startAnew none D K) (hA : ∀ q, s.heap.size ≤ q → A q) (P : Rc) (L : Rc) (x2 : Int32) (h : fX1_startAnewp N P L x2 = some z) (H : Heap) (locs : List Loc) (hP : va_P D vwCl (fl [wPlan K aP P, wLine K aL (aP 0) L]) H) (hD : va_D A (fl [wPlan K aP P, wLine K aL (aP 0) L])) (hS : va_S A s.heap H locs) (ls : Array Slot) (hl : lv_has ls 3 [(0, .ref (aL 0)), (1, .ref (aP 5)), (2, .int x2)]) : W p l e rmX1_startAnewp s m args below meth c H locs 0 0 (MQ below (qcV D z (fun (u : Rc) => (fl [wPlan K aP P, wLine K aL (aP 0) u])) A) args s 0 0 A) (F0 m 0 ls []) := by
  unfold fX1_startAnewp at h
  refine r_aload_n C0 dX1_startAnew_0 hl 1 rfl ?_
  refine r_iconst C0 (nI 0) dX1_startAnew_1 (by decide) ?_
  refine r_aload_n C0 dX1_startAnew_2 hl 0 rfl ?_
  refine r_get C0 1 inx1 hP 7 rfl rfl 4 (by decide) (mc wd3_12) (.ref (aL 5)) rfl dX1_startAnew_3 ?_
  refine r_iconst C0 (nI 0) dX1_startAnew_6 (by decide) ?_
  refine r_iconst C0 (nI 5) dX1_startAnew_7 (by decide) ?_
  refine r_copy h C0 5 ⟨(mc wd12_21), (mc wd12_14), (mc wd12_15), (mc wd12_16)⟩ hP hD hS 5 11 (fun uu => (fl [wPlan K aP P, wLine K aL (aP 0) uu])) rfl rfl (by decide) hl ⟨Nat.le_of_ble_eq_true rfl, Nat.le_of_ble_eq_true rfl⟩ rfl dX1_startAnew_8 (fun L1 H locs h hP hD hS => ?_)
  refine r_aload_n C0 dX1_startAnew_11 hl 0 rfl ?_
  refine r_get C0 1 inx1 hP 7 rfl rfl 1 (by decide) (mc wd3_9) (.ref (aL 2)) rfl dX1_startAnew_12 ?_
  refine r_iconst C0 (nI 0) dX1_startAnew_15 (by decide) ?_
  obtain ⟨z2, hz2, h⟩ := bnd_some h
  refine r_callV (wc := (fl [wArr K (aL 2) 6 (L1 1)])) (wf := fun (u : (Nat → Int32)) => (fl [wArr K (aL 2) 6 u])) (wn := (fl [wPlan K aP P, wLine K aL (aP 0) (va_up L1 1 z2)])) hP hD hS hA [8] [0, 1, 2, 3, 4, 5, 6, 7, 9, 10, 11, 12, 13] [0, 1, 2, 3, 4, 5, 6, 7, 13, 8, 9, 10, 11, 12] rfl (by decide) rfl (by decide) (by decide) rfl (by decide) (fun hPc hDc => va_runS (As := [.ref (aL 2), .int (nI 0)]) (rest := []) C0.1 (ctJ7_fill_53178 l D K 6 N (aL 2) (L1 1) (nI 0) H.size z2 hz2) (va_cwS 2 C0.1.2.2.2.2 (gdS wd12_22 wd12_23 wd13_0 wd13_1) rfl rfl rfl (by decide +kernel) ⟨Nat.le_of_ble_eq_true rfl, Nat.le_of_ble_eq_true rfl⟩) ⟨pcW_blind, pcW_of hPc hDc C0.2.2.2⟩ rfl rfl hl.1 rfl (lv_room (Nat.le_of_ble_eq_true rfl)) dX1_startAnew_16 ⟨Nat.zero_le _, Nat.zero_le _⟩) (fun H locs hP hD hS => ?_)
  refine nm_w h (fun uu => (fl [wPlan K aP P, wLine K aL (aP 0) uu])) hP hD (fun L3 h hP hD => ?_)
  refine r_aload_n C0 dX1_startAnew_19 hl 0 rfl ?_
  refine r_get C0 1 inx1 hP 7 rfl rfl 2 (by decide) (mc wd3_10) (.ref (aL 3)) rfl dX1_startAnew_20 ?_
  refine r_iconst C0 (nI 0) dX1_startAnew_23 (by decide) ?_
  obtain ⟨z4, hz4, h⟩ := bnd_some h
  refine r_callV (wc := (fl [wArr K (aL 3) 6 (L3 2)])) (wf := fun (u : (Nat → Int32)) => (fl [wArr K (aL 3) 6 u])) (wn := (fl [wPlan K aP P, wLine K aL (aP 0) (va_up L3 2 z4)])) hP hD hS hA [9] [0, 1, 2, 3, 4, 5, 6, 7, 8, 10, 11, 12, 13] [0, 1, 2, 3, 4, 5, 6, 7, 8, 13, 9, 10, 11, 12] rfl (by decide) rfl (by decide) (by decide) rfl (by decide) (fun hPc hDc => va_runS (As := [.ref (aL 3), .int (nI 0)]) (rest := []) C0.1 (ctJ7_fill_53178 l D K 6 N (aL 3) (L3 2) (nI 0) H.size z4 hz4) (va_cwS 2 C0.1.2.2.2.2 (gdS wd12_22 wd12_23 wd13_0 wd13_1) rfl rfl rfl (by decide +kernel) ⟨Nat.le_of_ble_eq_true rfl, Nat.le_of_ble_eq_true rfl⟩) ⟨pcW_blind, pcW_of hPc hDc C0.2.2.2⟩ rfl rfl hl.1 rfl (lv_room (Nat.le_of_ble_eq_true rfl)) dX1_startAnew_24 ⟨Nat.zero_le _, Nat.zero_le _⟩) (fun H locs hP hD hS => ?_)
  refine nm_w h (fun uu => (fl [wPlan K aP P, wLine K aL (aP 0) uu])) hP hD (fun L5 h hP hD => ?_)
  refine r_aload_n C0 dX1_startAnew_27 hl 0 rfl ?_
  refine r_get C0 1 inx1 hP 7 rfl rfl 6 (by decide) (mc wd3_14) (.ref (aL 7)) rfl dX1_startAnew_28 ?_
  refine r_iconst C0 (nI 0) dX1_startAnew_31 (by decide) ?_
  obtain ⟨z6, hz6, h⟩ := bnd_some h
  refine r_callV (wc := (fl [wArr K (aL 7) 24 (L5 6)])) (wf := fun (u : (Nat → Int32)) => (fl [wArr K (aL 7) 24 u])) (wn := (fl [wPlan K aP P, wLine K aL (aP 0) (va_up L5 6 z6)])) hP hD hS hA [13] [0, 1, 2, 3, 4, 5, 6, 7, 8, 9, 10, 11, 12] [0, 1, 2, 3, 4, 5, 6, 7, 8, 9, 10, 11, 12, 13] rfl (by decide) rfl (by decide) (by decide) rfl (by decide) (fun hPc hDc => va_runS (As := [.ref (aL 7), .int (nI 0)]) (rest := []) C0.1 (ctJ7_fill_53178 l D K 24 N (aL 7) (L5 6) (nI 0) H.size z6 hz6) (va_cwS 2 C0.1.2.2.2.2 (gdS wd12_22 wd12_23 wd13_0 wd13_1) rfl rfl rfl (by decide +kernel) ⟨Nat.le_of_ble_eq_true rfl, Nat.le_of_ble_eq_true rfl⟩) ⟨pcW_blind, pcW_of hPc hDc C0.2.2.2⟩ rfl rfl hl.1 rfl (lv_room (Nat.le_of_ble_eq_true rfl)) dX1_startAnew_32 ⟨Nat.zero_le _, Nat.zero_le _⟩) (fun H locs hP hD hS => ?_)
  refine nm_w h (fun uu => (fl [wPlan K aP P, wLine K aL (aP 0) uu])) hP hD (fun L7 h hP hD => ?_)
  refine r_aload_n C0 dX1_startAnew_35 hl 0 rfl ?_
  refine r_iload_n C0 dX1_startAnew_36 hl 2 rfl ?_
  refine r_put (ty := .int) h C0 1 inx1 tyX1 tyX1_ok nmX1 hP hD hS 7 (fun uu => (fl [wPlan K aP P, wLine K aL (aP 0) uu])) rfl rfl 7 (by decide) (mc wd3_15) rfl (by decide +kernel) rfl rfl (by simp) rfl dX1_startAnew_37 (fun L8 H locs h hP hD hS => ?_)
  refine r_aload_n C0 dX1_startAnew_40 hl 0 rfl ?_
  refine r_iconst C0 (nI 0) dX1_startAnew_41 (by decide) ?_
  refine r_put (ty := .int) h C0 1 inx1 tyX1 tyX1_ok nmX1 hP hD hS 7 (fun uu => (fl [wPlan K aP P, wLine K aL (aP 0) uu])) rfl rfl 8 (by decide) (mc wd3_16) rfl (by decide +kernel) rfl rfl (by simp) rfl dX1_startAnew_42 (fun L9 H locs h hP hD hS => ?_)
  refine r_aload_n C0 dX1_startAnew_45 hl 0 rfl ?_
  refine r_iconst C0 (-1 : Int32) dX1_startAnew_46 (by decide) ?_
  refine r_put (ty := .int) h C0 1 inx1 tyX1 tyX1_ok nmX1 hP hD hS 7 (fun uu => (fl [wPlan K aP P, wLine K aL (aP 0) uu])) rfl rfl 9 (by decide) (mc wd3_17) rfl (by decide +kernel) rfl rfl (by simp) rfl dX1_startAnew_47 (fun L10 H locs h hP hD hS => ?_)
  refine r_aload_n C0 dX1_startAnew_50 hl 0 rfl ?_
  refine r_iconst C0 (-1 : Int32) dX1_startAnew_51 (by decide) ?_
  refine r_put (ty := .int) h C0 1 inx1 tyX1 tyX1_ok nmX1 hP hD hS 7 (fun uu => (fl [wPlan K aP P, wLine K aL (aP 0) uu])) rfl rfl 10 (by decide) (mc wd3_18) rfl (by decide +kernel) rfl rfl (by simp) rfl dX1_startAnew_52 (fun L11 H locs h hP hD hS => ?_)
  refine r_aload_n C0 dX1_startAnew_55 hl 0 rfl ?_
  obtain ⟨z12, hz12, h⟩ := bnd_some h
  refine r_callVC (Wc := [wPlan K aP P, wLine K aL (aP 0) L11]) (wf := fun (u : Rc) => [wPlan K aP P, wLine K aL (aP 0) u]) (Wn := [wPlan K aP P, wLine K aL (aP 0) z12]) hP hD hS hA [0, 1] [] [0, 1] 2 rfl rfl (by decide) rfl rfl (by decide) (fun hPc hDc hFc => va_runV (As := []) (rest := []) C0.1 (ctX1_round l D K N aP aL P L11 H.size z12 hz12) (cwV 0 C0.1.2.2.2.2 (gdV wd13_2 wd13_3 wd13_4 wd1_23 wd13_5) rfl rfl rfl (by decide +kernel) ⟨Nat.le_of_ble_eq_true rfl, Nat.le_of_ble_eq_true rfl⟩) ⟨pcW_blind, va_recv C0.2.2.2.1 hPc (ci := 1) (q0 := 7) rfl rfl, pcW_of hPc hDc C0.2.2.2⟩ rfl rfl hl.1 rfl (lv_room (Nat.le_of_ble_eq_true rfl)) dX1_startAnew_56 ⟨Nat.zero_le _, Nat.zero_le _⟩) (fun H locs hP hD hS => ?_)
  exact r_vret h C0 (fun (u : Rc) => (fl [wPlan K aP P, wLine K aL (aP 0) u])) hP hD hS dX1_startAnew_59
set_option maxHeartbeats 1000000 in
set_option maxRecDepth 10000 in
theorem ctX1_startAnewp (l : Launch) (D : va_G) (K : Nat → ClassId) (N : Nat) (aP : Nat → Nat) (aL : Nat → Nat) (P : Rc) (L : Rc) (p2 : Int32) (sz : Nat) (z : Rc) (hz : fX1_startAnewp N P L p2 = some z) : Met l yX1_startAnew wsX1_startAnew rmX1_startAnewp (pcW D K [.ref (aL 0), .ref (aP 5), .int p2] (fl [wPlan K aP P, wLine K aL (aP 0) L]) sz) (qcV D z (fun (u : Rc) => (fl [wPlan K aP P, wLine K aL (aP 0) u])) (va_A (fl [wPlan K aP P, wLine K aL (aP 0) L]) sz)) 0 0 (va_A (fl [wPlan K aP P, wLine K aL (aP 0) L]) sz) := by
  refine Met.ofW (cc := cX1_startAnew) (maxL := 3) (ret := none) (by decide) rfl ?_
  intro p e s m args below meth c s₁ B hml hv
  obtain ⟨rfl, hsz, hP, hK, hD0⟩ := hv
  subst hsz
  have C0 : cx p s m _ meth c cX1_startAnew 3 RX1 wsX1_startAnew none D K := ⟨⟨B.exec, B.bytes, hml, findClass_of_methodNamed B.named, atoms_spec (ws := wsX1_startAnew) B.pre⟩, B.returns, B.notSynchronized, hK⟩
  have hD := hD0.self (sz := s.heap.size)
  generalize hAe : va_A (fl [wPlan K aP P, wLine K aL (aP 0) L]) s.heap.size = A at hD ⊢
  have hA : ∀ q : Nat, s.heap.size ≤ q → A q := fun q h => by rw [← hAe]; exact Or.inr h
  have hl := lv_entry ([.ref (aL 0), .ref (aP 5), .int p2]) (n := 3) (Nat.le_of_ble_eq_true rfl)
  rw [lg_entry_eq]
  generalize (lg_sl ([.ref (aL 0), .ref (aP 5), .int p2]) ++ List.replicate (3 - (lg_sl ([.ref (aL 0), .ref (aP 5), .int p2])).length) Slot.unset).toArray = ls at hl ⊢
  have hl : lv_has ls 3 [(0, .ref (aL 0)), (1, .ref (aP 5)), (2, .int p2)] := hl
  exact wX1_startAnewp_0 C0 hA P L p2 hz s.heap [] hP hD va_S.rf ls (lv_sub hl [0, 1, 2] rfl)
end SX1_startAnewp

section SX1_startAnewl
/-! CardLoops$Line.startAnew([II)V -/
abbrev rmX1_startAnewl : Room := { frames := 3, cells := 0, slots := 0, locals := 65 }
variable {p : Program} {l : Launch} {e : Env} {s : State} {m : MethodId} {args : Array Value} {below : List Frame} {meth : Method} {c : Code} {D : va_G} {K : Nat → ClassId} {A : Nat → Prop} {N : Nat} {aP : Nat → Nat} {aL : Nat → Nat} {z : Rc}
set_option maxHeartbeats 1000000 in
set_option maxRecDepth 10000 in
theorem wX1_startAnewl_0 (C0 : cx p s m args meth c cX1_startAnew 3 RX1 wsX1_startAnew none D K) (hA : ∀ q, s.heap.size ≤ q → A q) (P : Rc) (L : Rc) (x2 : Int32) (h : fX1_startAnewl N P L x2 = some z) (H : Heap) (locs : List Loc) (hP : va_P D vwCl (fl [wPlan K aP P, wLine K aL (aP 0) L]) H) (hD : va_D A (fl [wPlan K aP P, wLine K aL (aP 0) L])) (hS : va_S A s.heap H locs) (ls : Array Slot) (hl : lv_has ls 3 [(0, .ref (aL 0)), (1, .ref (aL 5)), (2, .int x2)]) : W p l e rmX1_startAnewl s m args below meth c H locs 0 0 (MQ below (qcV D z (fun (u : Rc) => (fl [wPlan K aP P, wLine K aL (aP 0) u])) A) args s 0 0 A) (F0 m 0 ls []) := by
  unfold fX1_startAnewl at h
  refine r_aload_n C0 dX1_startAnew_0 hl 1 rfl ?_
  refine r_iconst C0 (nI 0) dX1_startAnew_1 (by decide) ?_
  refine r_aload_n C0 dX1_startAnew_2 hl 0 rfl ?_
  refine r_get C0 1 inx1 hP 7 rfl rfl 4 (by decide) (mc wd3_12) (.ref (aL 5)) rfl dX1_startAnew_3 ?_
  refine r_iconst C0 (nI 0) dX1_startAnew_6 (by decide) ?_
  refine r_iconst C0 (nI 5) dX1_startAnew_7 (by decide) ?_
  refine r_copy h C0 5 ⟨(mc wd12_21), (mc wd12_14), (mc wd12_15), (mc wd12_16)⟩ hP hD hS 11 11 (fun uu => (fl [wPlan K aP P, wLine K aL (aP 0) uu])) rfl rfl (by decide) hl ⟨Nat.le_of_ble_eq_true rfl, Nat.le_of_ble_eq_true rfl⟩ rfl dX1_startAnew_8 (fun L1 H locs h hP hD hS => ?_)
  refine r_aload_n C0 dX1_startAnew_11 hl 0 rfl ?_
  refine r_get C0 1 inx1 hP 7 rfl rfl 1 (by decide) (mc wd3_9) (.ref (aL 2)) rfl dX1_startAnew_12 ?_
  refine r_iconst C0 (nI 0) dX1_startAnew_15 (by decide) ?_
  obtain ⟨z2, hz2, h⟩ := bnd_some h
  refine r_callV (wc := (fl [wArr K (aL 2) 6 (L1 1)])) (wf := fun (u : (Nat → Int32)) => (fl [wArr K (aL 2) 6 u])) (wn := (fl [wPlan K aP P, wLine K aL (aP 0) (va_up L1 1 z2)])) hP hD hS hA [8] [0, 1, 2, 3, 4, 5, 6, 7, 9, 10, 11, 12, 13] [0, 1, 2, 3, 4, 5, 6, 7, 13, 8, 9, 10, 11, 12] rfl (by decide) rfl (by decide) (by decide) rfl (by decide) (fun hPc hDc => va_runS (As := [.ref (aL 2), .int (nI 0)]) (rest := []) C0.1 (ctJ7_fill_53178 l D K 6 N (aL 2) (L1 1) (nI 0) H.size z2 hz2) (va_cwS 2 C0.1.2.2.2.2 (gdS wd12_22 wd12_23 wd13_0 wd13_1) rfl rfl rfl (by decide +kernel) ⟨Nat.le_of_ble_eq_true rfl, Nat.le_of_ble_eq_true rfl⟩) ⟨pcW_blind, pcW_of hPc hDc C0.2.2.2⟩ rfl rfl hl.1 rfl (lv_room (Nat.le_of_ble_eq_true rfl)) dX1_startAnew_16 ⟨Nat.zero_le _, Nat.zero_le _⟩) (fun H locs hP hD hS => ?_)
  refine nm_w h (fun uu => (fl [wPlan K aP P, wLine K aL (aP 0) uu])) hP hD (fun L3 h hP hD => ?_)
  refine r_aload_n C0 dX1_startAnew_19 hl 0 rfl ?_
  refine r_get C0 1 inx1 hP 7 rfl rfl 2 (by decide) (mc wd3_10) (.ref (aL 3)) rfl dX1_startAnew_20 ?_
  refine r_iconst C0 (nI 0) dX1_startAnew_23 (by decide) ?_
  obtain ⟨z4, hz4, h⟩ := bnd_some h
  refine r_callV (wc := (fl [wArr K (aL 3) 6 (L3 2)])) (wf := fun (u : (Nat → Int32)) => (fl [wArr K (aL 3) 6 u])) (wn := (fl [wPlan K aP P, wLine K aL (aP 0) (va_up L3 2 z4)])) hP hD hS hA [9] [0, 1, 2, 3, 4, 5, 6, 7, 8, 10, 11, 12, 13] [0, 1, 2, 3, 4, 5, 6, 7, 8, 13, 9, 10, 11, 12] rfl (by decide) rfl (by decide) (by decide) rfl (by decide) (fun hPc hDc => va_runS (As := [.ref (aL 3), .int (nI 0)]) (rest := []) C0.1 (ctJ7_fill_53178 l D K 6 N (aL 3) (L3 2) (nI 0) H.size z4 hz4) (va_cwS 2 C0.1.2.2.2.2 (gdS wd12_22 wd12_23 wd13_0 wd13_1) rfl rfl rfl (by decide +kernel) ⟨Nat.le_of_ble_eq_true rfl, Nat.le_of_ble_eq_true rfl⟩) ⟨pcW_blind, pcW_of hPc hDc C0.2.2.2⟩ rfl rfl hl.1 rfl (lv_room (Nat.le_of_ble_eq_true rfl)) dX1_startAnew_24 ⟨Nat.zero_le _, Nat.zero_le _⟩) (fun H locs hP hD hS => ?_)
  refine nm_w h (fun uu => (fl [wPlan K aP P, wLine K aL (aP 0) uu])) hP hD (fun L5 h hP hD => ?_)
  refine r_aload_n C0 dX1_startAnew_27 hl 0 rfl ?_
  refine r_get C0 1 inx1 hP 7 rfl rfl 6 (by decide) (mc wd3_14) (.ref (aL 7)) rfl dX1_startAnew_28 ?_
  refine r_iconst C0 (nI 0) dX1_startAnew_31 (by decide) ?_
  obtain ⟨z6, hz6, h⟩ := bnd_some h
  refine r_callV (wc := (fl [wArr K (aL 7) 24 (L5 6)])) (wf := fun (u : (Nat → Int32)) => (fl [wArr K (aL 7) 24 u])) (wn := (fl [wPlan K aP P, wLine K aL (aP 0) (va_up L5 6 z6)])) hP hD hS hA [13] [0, 1, 2, 3, 4, 5, 6, 7, 8, 9, 10, 11, 12] [0, 1, 2, 3, 4, 5, 6, 7, 8, 9, 10, 11, 12, 13] rfl (by decide) rfl (by decide) (by decide) rfl (by decide) (fun hPc hDc => va_runS (As := [.ref (aL 7), .int (nI 0)]) (rest := []) C0.1 (ctJ7_fill_53178 l D K 24 N (aL 7) (L5 6) (nI 0) H.size z6 hz6) (va_cwS 2 C0.1.2.2.2.2 (gdS wd12_22 wd12_23 wd13_0 wd13_1) rfl rfl rfl (by decide +kernel) ⟨Nat.le_of_ble_eq_true rfl, Nat.le_of_ble_eq_true rfl⟩) ⟨pcW_blind, pcW_of hPc hDc C0.2.2.2⟩ rfl rfl hl.1 rfl (lv_room (Nat.le_of_ble_eq_true rfl)) dX1_startAnew_32 ⟨Nat.zero_le _, Nat.zero_le _⟩) (fun H locs hP hD hS => ?_)
  refine nm_w h (fun uu => (fl [wPlan K aP P, wLine K aL (aP 0) uu])) hP hD (fun L7 h hP hD => ?_)
  refine r_aload_n C0 dX1_startAnew_35 hl 0 rfl ?_
  refine r_iload_n C0 dX1_startAnew_36 hl 2 rfl ?_
  refine r_put (ty := .int) h C0 1 inx1 tyX1 tyX1_ok nmX1 hP hD hS 7 (fun uu => (fl [wPlan K aP P, wLine K aL (aP 0) uu])) rfl rfl 7 (by decide) (mc wd3_15) rfl (by decide +kernel) rfl rfl (by simp) rfl dX1_startAnew_37 (fun L8 H locs h hP hD hS => ?_)
  refine r_aload_n C0 dX1_startAnew_40 hl 0 rfl ?_
  refine r_iconst C0 (nI 0) dX1_startAnew_41 (by decide) ?_
  refine r_put (ty := .int) h C0 1 inx1 tyX1 tyX1_ok nmX1 hP hD hS 7 (fun uu => (fl [wPlan K aP P, wLine K aL (aP 0) uu])) rfl rfl 8 (by decide) (mc wd3_16) rfl (by decide +kernel) rfl rfl (by simp) rfl dX1_startAnew_42 (fun L9 H locs h hP hD hS => ?_)
  refine r_aload_n C0 dX1_startAnew_45 hl 0 rfl ?_
  refine r_iconst C0 (-1 : Int32) dX1_startAnew_46 (by decide) ?_
  refine r_put (ty := .int) h C0 1 inx1 tyX1 tyX1_ok nmX1 hP hD hS 7 (fun uu => (fl [wPlan K aP P, wLine K aL (aP 0) uu])) rfl rfl 9 (by decide) (mc wd3_17) rfl (by decide +kernel) rfl rfl (by simp) rfl dX1_startAnew_47 (fun L10 H locs h hP hD hS => ?_)
  refine r_aload_n C0 dX1_startAnew_50 hl 0 rfl ?_
  refine r_iconst C0 (-1 : Int32) dX1_startAnew_51 (by decide) ?_
  refine r_put (ty := .int) h C0 1 inx1 tyX1 tyX1_ok nmX1 hP hD hS 7 (fun uu => (fl [wPlan K aP P, wLine K aL (aP 0) uu])) rfl rfl 10 (by decide) (mc wd3_18) rfl (by decide +kernel) rfl rfl (by simp) rfl dX1_startAnew_52 (fun L11 H locs h hP hD hS => ?_)
  refine r_aload_n C0 dX1_startAnew_55 hl 0 rfl ?_
  obtain ⟨z12, hz12, h⟩ := bnd_some h
  refine r_callVC (Wc := [wPlan K aP P, wLine K aL (aP 0) L11]) (wf := fun (u : Rc) => [wPlan K aP P, wLine K aL (aP 0) u]) (Wn := [wPlan K aP P, wLine K aL (aP 0) z12]) hP hD hS hA [0, 1] [] [0, 1] 2 rfl rfl (by decide) rfl rfl (by decide) (fun hPc hDc hFc => va_runV (As := []) (rest := []) C0.1 (ctX1_round l D K N aP aL P L11 H.size z12 hz12) (cwV 0 C0.1.2.2.2.2 (gdV wd13_2 wd13_3 wd13_4 wd1_23 wd13_5) rfl rfl rfl (by decide +kernel) ⟨Nat.le_of_ble_eq_true rfl, Nat.le_of_ble_eq_true rfl⟩) ⟨pcW_blind, va_recv C0.2.2.2.1 hPc (ci := 1) (q0 := 7) rfl rfl, pcW_of hPc hDc C0.2.2.2⟩ rfl rfl hl.1 rfl (lv_room (Nat.le_of_ble_eq_true rfl)) dX1_startAnew_56 ⟨Nat.zero_le _, Nat.zero_le _⟩) (fun H locs hP hD hS => ?_)
  exact r_vret h C0 (fun (u : Rc) => (fl [wPlan K aP P, wLine K aL (aP 0) u])) hP hD hS dX1_startAnew_59
set_option maxHeartbeats 1000000 in
set_option maxRecDepth 10000 in
theorem ctX1_startAnewl (l : Launch) (D : va_G) (K : Nat → ClassId) (N : Nat) (aP : Nat → Nat) (aL : Nat → Nat) (P : Rc) (L : Rc) (p2 : Int32) (sz : Nat) (z : Rc) (hz : fX1_startAnewl N P L p2 = some z) : Met l yX1_startAnew wsX1_startAnew rmX1_startAnewl (pcW D K [.ref (aL 0), .ref (aL 5), .int p2] (fl [wPlan K aP P, wLine K aL (aP 0) L]) sz) (qcV D z (fun (u : Rc) => (fl [wPlan K aP P, wLine K aL (aP 0) u])) (va_A (fl [wPlan K aP P, wLine K aL (aP 0) L]) sz)) 0 0 (va_A (fl [wPlan K aP P, wLine K aL (aP 0) L]) sz) := by
  refine Met.ofW (cc := cX1_startAnew) (maxL := 3) (ret := none) (by decide) rfl ?_
  intro p e s m args below meth c s₁ B hml hv
  obtain ⟨rfl, hsz, hP, hK, hD0⟩ := hv
  subst hsz
  have C0 : cx p s m _ meth c cX1_startAnew 3 RX1 wsX1_startAnew none D K := ⟨⟨B.exec, B.bytes, hml, findClass_of_methodNamed B.named, atoms_spec (ws := wsX1_startAnew) B.pre⟩, B.returns, B.notSynchronized, hK⟩
  have hD := hD0.self (sz := s.heap.size)
  generalize hAe : va_A (fl [wPlan K aP P, wLine K aL (aP 0) L]) s.heap.size = A at hD ⊢
  have hA : ∀ q : Nat, s.heap.size ≤ q → A q := fun q h => by rw [← hAe]; exact Or.inr h
  have hl := lv_entry ([.ref (aL 0), .ref (aL 5), .int p2]) (n := 3) (Nat.le_of_ble_eq_true rfl)
  rw [lg_entry_eq]
  generalize (lg_sl ([.ref (aL 0), .ref (aL 5), .int p2]) ++ List.replicate (3 - (lg_sl ([.ref (aL 0), .ref (aL 5), .int p2])).length) Slot.unset).toArray = ls at hl ⊢
  have hl : lv_has ls 3 [(0, .ref (aL 0)), (1, .ref (aL 5)), (2, .int p2)] := hl
  exact wX1_startAnewl_0 C0 hA P L p2 hz s.heap [] hP hD va_S.rf ls (lv_sub hl [0, 1, 2] rfl)
end SX1_startAnewl
