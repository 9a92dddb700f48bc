section SX3_clear
/-! CardLoops$Plan.clear()V -/
abbrev wsX3_clear : List Cond := Cond.code yX3_clear cX3_clear 1 none :: wsL_law0
abbrev rmX3_clear : Room := { frames := 0, cells := 0, slots := 0, locals := 0 }
variable {p : Program} {l : Launch} {e : Env} {s : State} {m : MethodId} {args : Array Value} {below : List Frame} {meth : Method} {c : Code} {D : va_G} {K : Nat → ClassId} {A : Nat → Prop} {aP : Nat → Nat} {z : Rc}
set_option maxHeartbeats 1000000 in
set_option maxRecDepth 10000 in
theorem wX3_clear_0 (C0 : cx p s m args meth c cX3_clear 1 RX3 wsX3_clear none D K) (hA : ∀ q, s.heap.size ≤ q → A q) (P : Rc) (h : fX3_clear P = some z) (H : Heap) (locs : List Loc) (hP : va_P D vwCl (fl [wPlan K aP P]) H) (hD : va_D A (fl [wPlan K aP P])) (hS : va_S A s.heap H locs) (ls : Array Slot) (hl : lv_has ls 1 [(0, .ref (aP 0))]) : W p l e rmX3_clear s m args below meth c H locs 0 0 (MQ below (qcV D z (fun (u : Rc) => (fl [wPlan K aP u])) A) args s 0 0 A) (F0 m 0 ls []) := by
  unfold fX3_clear at h
  refine r_aload_n C0 dX3_clear_0 hl 0 rfl ?_
  refine r_iconst C0 (nI 0) dX3_clear_1 (by decide) ?_
  refine r_put (ty := .int) h C0 3 inx3 tyX3 tyX3_ok nmX3 hP hD hS 0 (fun uu => (fl [wPlan K aP uu])) rfl rfl 6 (by decide) (mc wd3_1) rfl (by decide +kernel) rfl rfl (by simp) rfl dX3_clear_2 (fun P1 H locs h hP hD hS => ?_)
  refine r_aload_n C0 dX3_clear_5 hl 0 rfl ?_
  refine r_iconst C0 (nI 0) dX3_clear_6 (by decide) ?_
  refine r_put (ty := .int) h C0 3 inx3 tyX3 tyX3_ok nmX3 hP hD hS 0 (fun uu => (fl [wPlan K aP uu])) rfl rfl 7 (by decide) (mc wd3_2) rfl (by decide +kernel) rfl rfl (by simp) rfl dX3_clear_7 (fun P2 H locs h hP hD hS => ?_)
  refine r_aload_n C0 dX3_clear_10 hl 0 rfl ?_
  refine r_iconst C0 (nI 0) dX3_clear_11 (by decide) ?_
  refine r_put (ty := .int) h C0 3 inx3 tyX3 tyX3_ok nmX3 hP hD hS 0 (fun uu => (fl [wPlan K aP uu])) rfl rfl 8 (by decide) (mc wd3_3) rfl (by decide +kernel) rfl rfl (by simp) rfl dX3_clear_12 (fun P3 H locs h hP hD hS => ?_)
  refine r_aload_n C0 dX3_clear_15 hl 0 rfl ?_
  refine r_iconst C0 (nI 0) dX3_clear_16 (by decide) ?_
  refine r_put (ty := .int) h C0 3 inx3 tyX3 tyX3_ok nmX3 hP hD hS 0 (fun uu => (fl [wPlan K aP uu])) rfl rfl 9 (by decide) (mc wd3_4) rfl (by decide +kernel) rfl rfl (by simp) rfl dX3_clear_17 (fun P4 H locs h hP hD hS => ?_)
  exact r_vret h C0 (fun (u : Rc) => (fl [wPlan K aP u])) hP hD hS dX3_clear_20
set_option maxHeartbeats 1000000 in
set_option maxRecDepth 10000 in
theorem ctX3_clear (l : Launch) (D : va_G) (K : Nat → ClassId) (aP : Nat → Nat) (P : Rc) (sz : Nat) (z : Rc) (hz : fX3_clear P = some z) : Met l yX3_clear wsX3_clear rmX3_clear (pcW D K [.ref (aP 0)] (fl [wPlan K aP P]) sz) (qcV D z (fun (u : Rc) => (fl [wPlan K aP u])) (va_A (fl [wPlan K aP P]) sz)) 0 0 (va_A (fl [wPlan K aP P]) sz) := by
  refine Met.ofW (cc := cX3_clear) (maxL := 1) (ret := none) (by decide) rfl ?_
  intro p e s m args below meth c s₁ B hml hv
  obtain ⟨rfl, hsz, hP, hK, hD0⟩ := hv
  subst hsz
  have C0 : cx p s m _ meth c cX3_clear 1 RX3 wsX3_clear none D K := ⟨⟨B.exec, B.bytes, hml, findClass_of_methodNamed B.named, atoms_spec (ws := wsX3_clear) B.pre⟩, B.returns, B.notSynchronized, hK⟩
  have hD := hD0.self (sz := s.heap.size)
  generalize hAe : va_A (fl [wPlan K aP P]) s.heap.size = A at hD ⊢
  have hA : ∀ q : Nat, s.heap.size ≤ q → A q := fun q h => by rw [← hAe]; exact Or.inr h
  have hl := lv_entry ([.ref (aP 0)]) (n := 1) (Nat.le_of_ble_eq_true rfl)
  rw [lg_entry_eq]
  generalize (lg_sl ([.ref (aP 0)]) ++ List.replicate (1 - (lg_sl ([.ref (aP 0)])).length) Slot.unset).toArray = ls at hl ⊢
  have hl : lv_has ls 1 [(0, .ref (aP 0))] := hl
  exact wX3_clear_0 C0 hA P hz s.heap [] hP hD va_S.rf ls (lv_sub hl [0] rfl)
end SX3_clear

section SX3_addStation
/-! CardLoops$Plan.addStation(II)V -/
abbrev wsX3_addStation : List Cond := Cond.code yX3_addStation cX3_addStation 3 none :: wsL_law0
abbrev rmX3_addStation : Room := { frames := 0, cells := 0, slots := 0, locals := 0 }
variable {p : Program} {l : Launch} {e : Env} {s : State} {m : MethodId} {args : Array Value} {below : List Frame} {meth : Method} {c : Code} {D : va_G} {K : Nat → ClassId} {A : Nat → Prop} {aP : Nat → Nat} {z : Rc}
set_option maxHeartbeats 1000000 in
set_option maxRecDepth 10000 in
theorem wX3_addStation_0 (C0 : cx p s m args meth c cX3_addStation 3 RX3 wsX3_addStation none D K) (hA : ∀ q, s.heap.size ≤ q → A q) (P : Rc) (x1 : Int32) (x2 : Int32) (h : fX3_addStation P x1 x2 = some z) (H : Heap) (locs : List Loc) (hP : va_P D vwCl (fl [wPlan K aP P]) H) (hD : va_D A (fl [wPlan K aP P])) (hS : va_S A s.heap H locs) (ls : Array Slot) (hl : lv_has ls 3 [(0, .ref (aP 0)), (1, .int x1), (2, .int x2)]) : W p l e rmX3_addStation s m args below meth c H locs 0 0 (MQ below (qcV D z (fun (u : Rc) => (fl [wPlan K aP u])) A) args s 0 0 A) (F0 m 0 ls []) := by
  unfold fX3_addStation at h
  refine r_aload_n C0 dX3_addStation_0 hl 0 rfl ?_
  refine r_get C0 3 inx3 hP 0 rfl rfl 6 (by decide) (mc wd3_1) (.int (P 6 0)) rfl dX3_addStation_1 ?_
  refine r_bipush C0 (nI 6) dX3_addStation_4 (by decide) ?_
  refine r_icmp_lt h C0 10 dX3_addStation_6 (by decide) (fun h => ?_) (fun h => ?_)
  · refine r_aload_n C0 dX3_addStation_10 hl 0 rfl ?_
    refine r_get C0 3 inx3 hP 0 rfl rfl 0 (by decide) (mc wd2_19) (.ref (aP 1)) rfl dX3_addStation_11 ?_
    refine r_aload_n C0 dX3_addStation_14 hl 0 rfl ?_
    refine r_get C0 3 inx3 hP 0 rfl rfl 6 (by decide) (mc wd3_1) (.int (P 6 0)) rfl dX3_addStation_15 ?_
    refine r_iload_n C0 dX3_addStation_18 hl 1 rfl ?_
    refine r_iast h C0 hP hD hS 1 (fun uu => (fl [wPlan K aP uu])) rfl rfl dX3_addStation_19 (fun P1 H locs h hP hD hS => ?_)
    refine r_aload_n C0 dX3_addStation_20 hl 0 rfl ?_
    refine r_get C0 3 inx3 hP 0 rfl rfl 1 (by decide) (mc wd2_20) (.ref (aP 2)) rfl dX3_addStation_21 ?_
    refine r_aload_n C0 dX3_addStation_24 hl 0 rfl ?_
    refine r_get C0 3 inx3 hP 0 rfl rfl 6 (by decide) (mc wd3_1) (.int (P1 6 0)) rfl dX3_addStation_25 ?_
    refine r_iload_n C0 dX3_addStation_28 hl 2 rfl ?_
    refine r_iast h C0 hP hD hS 2 (fun uu => (fl [wPlan K aP uu])) rfl rfl dX3_addStation_29 (fun P2 H locs h hP hD hS => ?_)
    refine r_aload_n C0 dX3_addStation_30 hl 0 rfl ?_
    refine r_get C0 3 inx3 hP 0 rfl rfl 3 (by decide) (mc wd2_22) (.ref (aP 4)) rfl dX3_addStation_31 ?_
    refine r_iconst C0 (nI 0) dX3_addStation_34 (by decide) ?_
    refine r_aload_n C0 dX3_addStation_35 hl 0 rfl ?_
    refine r_get C0 3 inx3 hP 0 rfl rfl 6 (by decide) (mc wd3_1) (.int (P2 6 0)) rfl dX3_addStation_36 ?_
    refine r_iastC h C0 hP hD hS 4 (fun uu => (fl [wPlan K aP uu])) rfl 0 (by decide) rfl dX3_addStation_39 (fun P3 H locs h hP hD hS => ?_)
    refine r_aload_n C0 dX3_addStation_40 hl 0 rfl ?_
    refine r_dup C0 dX3_addStation_41 rfl ?_
    refine r_get C0 3 inx3 hP 0 rfl rfl 6 (by decide) (mc wd3_1) (.int (P3 6 0)) rfl dX3_addStation_42 ?_
    refine r_iconst C0 (nI 1) dX3_addStation_45 (by decide) ?_
    refine r_iadd C0 dX3_addStation_46 ?_
    refine r_put (ty := .int) h C0 3 inx3 tyX3 tyX3_ok nmX3 hP hD hS 0 (fun uu => (fl [wPlan K aP uu])) rfl rfl 6 (by decide) (mc wd3_1) rfl (by decide +kernel) rfl rfl (by simp) rfl dX3_addStation_47 (fun P4 H locs h hP hD hS => ?_)
    exact r_vret h C0 (fun (u : Rc) => (fl [wPlan K aP u])) hP hD hS dX3_addStation_50
  · exact r_vret h C0 (fun (u : Rc) => (fl [wPlan K aP u])) hP hD hS dX3_addStation_9
set_option maxHeartbeats 1000000 in
set_option maxRecDepth 10000 in
theorem ctX3_addStation (l : Launch) (D : va_G) (K : Nat → ClassId) (aP : Nat → Nat) (P : Rc) (p1 : Int32) (p2 : Int32) (sz : Nat) (z : Rc) (hz : fX3_addStation P p1 p2 = some z) : Met l yX3_addStation wsX3_addStation rmX3_addStation (pcW D K [.ref (aP 0), .int p1, .int p2] (fl [wPlan K aP P]) sz) (qcV D z (fun (u : Rc) => (fl [wPlan K aP u])) (va_A (fl [wPlan K aP P]) sz)) 0 0 (va_A (fl [wPlan K aP P]) sz) := by
  refine Met.ofW (cc := cX3_addStation) (maxL := 3) (ret := none) (by decide) rfl ?_
  intro p e s m args below meth c s₁ B hml hv
  obtain ⟨rfl, hsz, hP, hK, hD0⟩ := hv
  subst hsz
  have C0 : cx p s m _ meth c cX3_addStation 3 RX3 wsX3_addStation none D K := ⟨⟨B.exec, B.bytes, hml, findClass_of_methodNamed B.named, atoms_spec (ws := wsX3_addStation) B.pre⟩, B.returns, B.notSynchronized, hK⟩
  have hD := hD0.self (sz := s.heap.size)
  generalize hAe : va_A (fl [wPlan K aP P]) s.heap.size = A at hD ⊢
  have hA : ∀ q : Nat, s.heap.size ≤ q → A q := fun q h => by rw [← hAe]; exact Or.inr h
  have hl := lv_entry ([.ref (aP 0), .int p1, .int p2]) (n := 3) (Nat.le_of_ble_eq_true rfl)
  rw [lg_entry_eq]
  generalize (lg_sl ([.ref (aP 0), .int p1, .int p2]) ++ List.replicate (3 - (lg_sl ([.ref (aP 0), .int p1, .int p2])).length) Slot.unset).toArray = ls at hl ⊢
  have hl : lv_has ls 3 [(0, .ref (aP 0)), (1, .int p1), (2, .int p2)] := hl
  exact wX3_addStation_0 C0 hA P p1 p2 hz s.heap [] hP hD va_S.rf ls (lv_sub hl [0, 1, 2] rfl)
end SX3_addStation

section SX3_addLoop
/-! CardLoops$Plan.addLoop(III)V -/
abbrev wsX3_addLoop : List Cond := Cond.code yX3_addLoop cX3_addLoop 4 none :: wsL_law0
abbrev rmX3_addLoop : Room := { frames := 0, cells := 0, slots := 0, locals := 0 }
variable {p : Program} {l : Launch} {e : Env} {s : State} {m : MethodId} {args : Array Value} {below : List Frame} {meth : Method} {c : Code} {D : va_G} {K : Nat → ClassId} {A : Nat → Prop} {aP : Nat → Nat} {z : Rc}
set_option maxHeartbeats 1000000 in
set_option maxRecDepth 10000 in
theorem wX3_addLoop_0 (C0 : cx p s m args meth c cX3_addLoop 4 RX3 wsX3_addLoop none D K) (hA : ∀ q, s.heap.size ≤ q → A q) (P : Rc) (x1 : Int32) (x2 : Int32) (x3 : Int32) (h : fX3_addLoop P x1 x2 x3 = some z) (H : Heap) (locs : List Loc) (hP : va_P D vwCl (fl [wPlan K aP P]) H) (hD : va_D A (fl [wPlan K aP P])) (hS : va_S A s.heap H locs) (ls : Array Slot) (hl : lv_has ls 4 [(0, .ref (aP 0)), (1, .int x1), (2, .int x2), (3, .int x3)]) : W p l e rmX3_addLoop s m args below meth c H locs 0 0 (MQ below (qcV D z (fun (u : Rc) => (fl [wPlan K aP u])) A) args s 0 0 A) (F0 m 0 ls []) := by
  unfold fX3_addLoop at h
  refine r_aload_n C0 dX3_addLoop_0 hl 0 rfl ?_
  refine r_get C0 3 inx3 hP 0 rfl rfl 7 (by decide) (mc wd3_2) (.int (P 7 0)) rfl dX3_addLoop_1 ?_
  refine r_iconst C0 (nI 5) dX3_addLoop_4 (by decide) ?_
  refine r_icmp_lt h C0 9 dX3_addLoop_5 (by decide) (fun h => ?_) (fun h => ?_)
  · refine r_aload_n C0 dX3_addLoop_9 hl 0 rfl ?_
    refine r_get C0 3 inx3 hP 0 rfl rfl 2 (by decide) (mc wd2_21) (.ref (aP 3)) rfl dX3_addLoop_10 ?_
    refine r_aload_n C0 dX3_addLoop_13 hl 0 rfl ?_
    refine r_get C0 3 inx3 hP 0 rfl rfl 7 (by decide) (mc wd3_2) (.int (P 7 0)) rfl dX3_addLoop_14 ?_
    refine r_iload_n C0 dX3_addLoop_17 hl 1 rfl ?_
    refine r_iast h C0 hP hD hS 3 (fun uu => (fl [wPlan K aP uu])) rfl rfl dX3_addLoop_18 (fun P1 H locs h hP hD hS => ?_)
    refine r_aload_n C0 dX3_addLoop_19 hl 0 rfl ?_
    refine r_get C0 3 inx3 hP 0 rfl rfl 3 (by decide) (mc wd2_22) (.ref (aP 4)) rfl dX3_addLoop_20 ?_
    refine r_aload_n C0 dX3_addLoop_23 hl 0 rfl ?_
    refine r_get C0 3 inx3 hP 0 rfl rfl 7 (by decide) (mc wd3_2) (.int (P1 7 0)) rfl dX3_addLoop_24 ?_
    refine r_iload_n C0 dX3_addLoop_27 hl 2 rfl ?_
    refine r_iast h C0 hP hD hS 4 (fun uu => (fl [wPlan K aP uu])) rfl rfl dX3_addLoop_28 (fun P2 H locs h hP hD hS => ?_)
    refine r_aload_n C0 dX3_addLoop_29 hl 0 rfl ?_
    refine r_get C0 3 inx3 hP 0 rfl rfl 4 (by decide) (mc wd2_23) (.ref (aP 5)) rfl dX3_addLoop_30 ?_
    refine r_aload_n C0 dX3_addLoop_33 hl 0 rfl ?_
    refine r_get C0 3 inx3 hP 0 rfl rfl 7 (by decide) (mc wd3_2) (.int (P2 7 0)) rfl dX3_addLoop_34 ?_
    refine r_iload_n C0 dX3_addLoop_37 hl 3 rfl ?_
    refine r_iast h C0 hP hD hS 5 (fun uu => (fl [wPlan K aP uu])) rfl rfl dX3_addLoop_38 (fun P3 H locs h hP hD hS => ?_)
    refine r_aload_n C0 dX3_addLoop_39 hl 0 rfl ?_
    refine r_dup C0 dX3_addLoop_40 rfl ?_
    refine r_get C0 3 inx3 hP 0 rfl rfl 7 (by decide) (mc wd3_2) (.int (P3 7 0)) rfl dX3_addLoop_41 ?_
    refine r_iconst C0 (nI 1) dX3_addLoop_44 (by decide) ?_
    refine r_iadd C0 dX3_addLoop_45 ?_
    refine r_put (ty := .int) h C0 3 inx3 tyX3 tyX3_ok nmX3 hP hD hS 0 (fun uu => (fl [wPlan K aP uu])) rfl rfl 7 (by decide) (mc wd3_2) rfl (by decide +kernel) rfl rfl (by simp) rfl dX3_addLoop_46 (fun P4 H locs h hP hD hS => ?_)
    exact r_vret h C0 (fun (u : Rc) => (fl [wPlan K aP u])) hP hD hS dX3_addLoop_49
  · exact r_vret h C0 (fun (u : Rc) => (fl [wPlan K aP u])) hP hD hS dX3_addLoop_8
set_option maxHeartbeats 1000000 in
set_option maxRecDepth 10000 in
theorem ctX3_addLoop (l : Launch) (D : va_G) (K : Nat → ClassId) (aP : Nat → Nat) (P : Rc) (p1 : Int32) (p2 : Int32) (p3 : Int32) (sz : Nat) (z : Rc) (hz : fX3_addLoop P p1 p2 p3 = some z) : Met l yX3_addLoop wsX3_addLoop rmX3_addLoop (pcW D K [.ref (aP 0), .int p1, .int p2, .int p3] (fl [wPlan K aP P]) sz) (qcV D z (fun (u : Rc) => (fl [wPlan K aP u])) (va_A (fl [wPlan K aP P]) sz)) 0 0 (va_A (fl [wPlan K aP P]) sz) := by
  refine Met.ofW (cc := cX3_addLoop) (maxL := 4) (ret := none) (by decide) rfl ?_
  intro p e s m args below meth c s₁ B hml hv
  obtain ⟨rfl, hsz, hP, hK, hD0⟩ := hv
  subst hsz
  have C0 : cx p s m _ meth c cX3_addLoop 4 RX3 wsX3_addLoop none D K := ⟨⟨B.exec, B.bytes, hml, findClass_of_methodNamed B.named, atoms_spec (ws := wsX3_addLoop) B.pre⟩, B.returns, B.notSynchronized, hK⟩
  have hD := hD0.self (sz := s.heap.size)
  generalize hAe : va_A (fl [wPlan K aP P]) s.heap.size = A at hD ⊢
  have hA : ∀ q : Nat, s.heap.size ≤ q → A q := fun q h => by rw [← hAe]; exact Or.inr h
  have hl := lv_entry ([.ref (aP 0), .int p1, .int p2, .int p3]) (n := 4) (Nat.le_of_ble_eq_true rfl)
  rw [lg_entry_eq]
  generalize (lg_sl ([.ref (aP 0), .int p1, .int p2, .int p3]) ++ List.replicate (4 - (lg_sl ([.ref (aP 0), .int p1, .int p2, .int p3])).length) Slot.unset).toArray = ls at hl ⊢
  have hl : lv_has ls 4 [(0, .ref (aP 0)), (1, .int p1), (2, .int p2), (3, .int p3)] := hl
  exact wX3_addLoop_0 C0 hA P p1 p2 p3 hz s.heap [] hP hD va_S.rf ls (lv_sub hl [0, 1, 2, 3] rfl)
end SX3_addLoop

section SX3_addRun
/-! CardLoops$Plan.addRun(II)V -/
abbrev wsX3_addRun : List Cond := Cond.code yX3_addRun cX3_addRun 4 none :: wsL_law0
abbrev rmX3_addRun : Room := { frames := 0, cells := 0, slots := 0, locals := 0 }
variable {p : Program} {l : Launch} {e : Env} {s : State} {m : MethodId} {args : Array Value} {below : List Frame} {meth : Method} {c : Code} {D : va_G} {K : Nat → ClassId} {A : Nat → Prop} {N : Nat} {aP : Nat → Nat} {z : Rc}
def IX3_addRun_12 (p : Program) (l : Launch) (e : Env) (s : State) (m : MethodId) (args : Array Value) (below : List Frame) (meth : Method) (c : Code) (D : va_G) (K : Nat → ClassId) (aP : Nat → Nat) (A : Nat → Prop) (z : Rc) (k : Rc → Int32 → Int32 → Int32 → Option (Rc)) : Prop := ∀ (P : Rc) (x1 : Int32) (x2 : Int32) (x3 : Int32) (H : Heap) (locs : List Loc) (ls : Array Slot), k P x1 x2 x3 = some z → va_P D vwCl (fl [wPlan K aP P]) H → va_D A (fl [wPlan K aP P]) → va_S A s.heap H locs → lv_has ls 4 [(0, .ref (aP 0)), (1, .int x1), (2, .int x2), (3, .int x3)] → W p l e rmX3_addRun s m args below meth c H locs 0 0 (MQ below (qcV D z (fun (u : Rc) => (fl [wPlan K aP u])) A) args s 0 0 A) (F0 m 12 ls [])
set_option maxHeartbeats 1000000 in
set_option maxRecDepth 10000 in
theorem wX3_addRun_52 (C0 : cx p s m args meth c cX3_addRun 4 RX3 wsX3_addRun none D K) (hA : ∀ q, s.heap.size ≤ q → A q) (P : Rc) (h : fX3_addRun_52 N P = some z) (H : Heap) (locs : List Loc) (hP : va_P D vwCl (fl [wPlan K aP P]) H) (hD : va_D A (fl [wPlan K aP P])) (hS : va_S A s.heap H locs) (ls : Array Slot) (hl : lv_has ls 4 [(0, .ref (aP 0))]) : W p l e rmX3_addRun s m args below meth c H locs 0 0 (MQ below (qcV D z (fun (u : Rc) => (fl [wPlan K aP u])) A) args s 0 0 A) (F0 m 52 ls []) := by
  unfold fX3_addRun_52 at h
  refine r_aload_n C0 dX3_addRun_52 hl 0 rfl ?_
  refine r_dup C0 dX3_addRun_53 rfl ?_
  refine r_get C0 3 inx3 hP 0 rfl rfl 8 (by decide) (mc wd3_3) (.int (P 8 0)) rfl dX3_addRun_54 ?_
  refine r_iconst C0 (nI 1) dX3_addRun_57 (by decide) ?_
  refine r_iadd C0 dX3_addRun_58 ?_
  refine r_put (ty := .int) h C0 3 inx3 tyX3 tyX3_ok nmX3 hP hD hS 0 (fun uu => (fl [wPlan K aP uu])) rfl rfl 8 (by decide) (mc wd3_3) rfl (by decide +kernel) rfl rfl (by simp) rfl dX3_addRun_59 (fun P1 H locs h hP hD hS => ?_)
  exact r_vret h C0 (fun (u : Rc) => (fl [wPlan K aP u])) hP hD hS dX3_addRun_62
set_option maxHeartbeats 1000000 in
set_option maxRecDepth 10000 in
theorem wX3_addRun_12 (C0 : cx p s m args meth c cX3_addRun 4 RX3 wsX3_addRun none D K) (hA : ∀ q, s.heap.size ≤ q → A q) {k12 : Rc → Int32 → Int32 → Int32 → Option (Rc)} (hk12 : IX3_addRun_12 p l e s m args below meth c D K aP A z k12) (P : Rc) (x1 : Int32) (x2 : Int32) (x3 : Int32) (h : fX3_addRun_12b N k12 P x1 x2 x3 = some z) (H : Heap) (locs : List Loc) (hP : va_P D vwCl (fl [wPlan K aP P]) H) (hD : va_D A (fl [wPlan K aP P])) (hS : va_S A s.heap H locs) (ls : Array Slot) (hl : lv_has ls 4 [(0, .ref (aP 0)), (1, .int x1), (2, .int x2), (3, .int x3)]) : W p l e rmX3_addRun s m args below meth c H locs 0 0 (MQ below (qcV D z (fun (u : Rc) => (fl [wPlan K aP u])) A) args s 0 0 A) (F0 m 12 ls []) := by
  unfold fX3_addRun_12b at h
  refine r_iload_n C0 dX3_addRun_12 hl 3 rfl ?_
  refine r_iload_n C0 dX3_addRun_13 hl 2 rfl ?_
  refine r_icmp_ge h C0 52 dX3_addRun_14 (by decide) (fun h => ?_) (fun h => ?_)
  · exact wX3_addRun_52 C0 hA P h _ _ hP hD hS _ (lv_sub hl [0] rfl)
  · refine r_aload_n C0 dX3_addRun_17 hl 0 rfl ?_
    refine r_get C0 3 inx3 hP 0 rfl rfl 9 (by decide) (mc wd3_4) (.int (P 9 0)) rfl dX3_addRun_18 ?_
    refine r_bipush C0 (nI 120) dX3_addRun_21 (by decide) ?_
    refine r_icmp_ge h C0 52 dX3_addRun_23 (by decide) (fun h => ?_) (fun h => ?_)
    · exact wX3_addRun_52 C0 hA P h _ _ hP hD hS _ (lv_sub hl [0] rfl)
    · refine r_aload_n C0 dX3_addRun_26 hl 0 rfl ?_
      refine r_get C0 3 inx3 hP 0 rfl rfl 5 (by decide) (mc wd3_0) (.ref (aP 6)) rfl dX3_addRun_27 ?_
      refine r_aload_n C0 dX3_addRun_30 hl 0 rfl ?_
      refine r_get C0 3 inx3 hP 0 rfl rfl 9 (by decide) (mc wd3_4) (.int (P 9 0)) rfl dX3_addRun_31 ?_
      refine r_iload_n C0 dX3_addRun_34 hl 1 rfl ?_
      refine r_iast h C0 hP hD hS 6 (fun uu => (fl [wPlan K aP uu])) rfl rfl dX3_addRun_35 (fun P1 H locs h hP hD hS => ?_)
      refine r_aload_n C0 dX3_addRun_36 hl 0 rfl ?_
      refine r_dup C0 dX3_addRun_37 rfl ?_
      refine r_get C0 3 inx3 hP 0 rfl rfl 9 (by decide) (mc wd3_4) (.int (P1 9 0)) rfl dX3_addRun_38 ?_
      refine r_iconst C0 (nI 1) dX3_addRun_41 (by decide) ?_
      refine r_iadd C0 dX3_addRun_42 ?_
      refine r_put (ty := .int) h C0 3 inx3 tyX3 tyX3_ok nmX3 hP hD hS 0 (fun uu => (fl [wPlan K aP uu])) rfl rfl 9 (by decide) (mc wd3_4) rfl (by decide +kernel) rfl rfl (by simp) rfl dX3_addRun_43 (fun P2 H locs h hP hD hS => ?_)
      refine r_iinc h C0 3 (fun v3 => [(3, .int v3), (0, .ref (aP 0)), (1, .int x1), (2, .int x2)]) dX3_addRun_46 hl rfl rfl (by decide) (fun _ => rfl) (fun v3 ls h hl => ?_)
      refine r_goto C0 12 dX3_addRun_49 (by decide) ?_
      exact hk12 P2 x1 x2 v3 _ _ _ h hP hD hS (lv_sub hl [1, 2, 3, 0] rfl)
theorem wX3_addRun_12L (C0 : cx p s m args meth c cX3_addRun 4 RX3 wsX3_addRun none D K) (hA : ∀ q, s.heap.size ≤ q → A q) : IX3_addRun_12 p l e s m args below meth c D K aP A z (fX3_addRun_12 N) := by
  refine itn_ind (IX3_addRun_12 p l e s m args below meth c D K aP A z) ?_ ?_ N
  · intro _ _ _ _ _ _ _ h; cases h
  · intro k12 hk12 P x1 x2 x3 H locs ls h hP hD hS hl
    exact wX3_addRun_12 C0 hA hk12 P x1 x2 x3 h H locs hP hD hS ls hl
set_option maxHeartbeats 1000000 in
set_option maxRecDepth 10000 in
theorem wX3_addRun_0 (C0 : cx p s m args meth c cX3_addRun 4 RX3 wsX3_addRun none D K) (hA : ∀ q, s.heap.size ≤ q → A q) (P : Rc) (x1 : Int32) (x2 : Int32) (h : fX3_addRun N P x1 x2 = some z) (H : Heap) (locs : List Loc) (hP : va_P D vwCl (fl [wPlan K aP P]) H) (hD : va_D A (fl [wPlan K aP P])) (hS : va_S A s.heap H locs) (ls : Array Slot) (hl : lv_has ls 4 [(0, .ref (aP 0)), (1, .int x1), (2, .int x2)]) : W p l e rmX3_addRun s m args below meth c H locs 0 0 (MQ below (qcV D z (fun (u : Rc) => (fl [wPlan K aP u])) A) args s 0 0 A) (F0 m 0 ls []) := by
  unfold fX3_addRun at h
  refine r_aload_n C0 dX3_addRun_0 hl 0 rfl ?_
  refine r_get C0 3 inx3 hP 0 rfl rfl 8 (by decide) (mc wd3_3) (.int (P 8 0)) rfl dX3_addRun_1 ?_
  refine r_bipush C0 (nI 6) dX3_addRun_4 (by decide) ?_
  refine r_icmp_lt h C0 10 dX3_addRun_6 (by decide) (fun h => ?_) (fun h => ?_)
  · refine r_iconst C0 (nI 0) dX3_addRun_10 (by decide) ?_
    refine r_istore_n h C0 (fun v1 => [(3, .int v1), (0, .ref (aP 0)), (1, .int x1), (2, .int x2)]) dX3_addRun_11 hl (by decide) (fun _ => rfl) (fun v1 ls h hl => ?_)
    exact wX3_addRun_12L C0 hA P x1 x2 v1 _ _ _ h hP hD hS (lv_sub hl [1, 2, 3, 0] rfl)
  · exact r_vret h C0 (fun (u : Rc) => (fl [wPlan K aP u])) hP hD hS dX3_addRun_9
set_option maxHeartbeats 1000000 in
set_option maxRecDepth 10000 in
theorem ctX3_addRun (l : Launch) (D : va_G) (K : Nat → ClassId) (N : Nat) (aP : Nat → Nat) (P : Rc) (p1 : Int32) (p2 : Int32) (sz : Nat) (z : Rc) (hz : fX3_addRun N P p1 p2 = some z) : Met l yX3_addRun wsX3_addRun rmX3_addRun (pcW D K [.ref (aP 0), .int p1, .int p2] (fl [wPlan K aP P]) sz) (qcV D z (fun (u : Rc) => (fl [wPlan K aP u])) (va_A (fl [wPlan K aP P]) sz)) 0 0 (va_A (fl [wPlan K aP P]) sz) := by
  refine Met.ofW (cc := cX3_addRun) (maxL := 4) (ret := none) (by decide) rfl ?_
  intro p e s m args below meth c s₁ B hml hv
  obtain ⟨rfl, hsz, hP, hK, hD0⟩ := hv
  subst hsz
  have C0 : cx p s m _ meth c cX3_addRun 4 RX3 wsX3_addRun none D K := ⟨⟨B.exec, B.bytes, hml, findClass_of_methodNamed B.named, atoms_spec (ws := wsX3_addRun) B.pre⟩, B.returns, B.notSynchronized, hK⟩
  have hD := hD0.self (sz := s.heap.size)
  generalize hAe : va_A (fl [wPlan K aP P]) s.heap.size = A at hD ⊢
  have hA : ∀ q : Nat, s.heap.size ≤ q → A q := fun q h => by rw [← hAe]; exact Or.inr h
  have hl := lv_entry ([.ref (aP 0), .int p1, .int p2]) (n := 4) (Nat.le_of_ble_eq_true rfl)
  rw [lg_entry_eq]
  generalize (lg_sl ([.ref (aP 0), .int p1, .int p2]) ++ List.replicate (4 - (lg_sl ([.ref (aP 0), .int p1, .int p2])).length) Slot.unset).toArray = ls at hl ⊢
  have hl : lv_has ls 4 [(0, .ref (aP 0)), (1, .int p1), (2, .int p2)] := hl
  exact wX3_addRun_0 C0 hA P p1 p2 hz s.heap [] hP hD va_S.rf ls (lv_sub hl [0, 1, 2] rfl)
end SX3_addRun

section SX3_copyFrom
/-! CardLoops$Plan.copyFrom(LCardLoops$Plan;)V -/
abbrev wsX3_copyFrom : List Cond := Cond.code yX3_copyFrom cX3_copyFrom 2 none :: wsL_law0
abbrev rmX3_copyFrom : Room := { frames := 1, cells := 0, slots := 0, locals := 40 }
variable {p : Program} {l : Launch} {e : Env} {s : State} {m : MethodId} {args : Array Value} {below : List Frame} {meth : Method} {c : Code} {D : va_G} {K : Nat → ClassId} {A : Nat → Prop} {aP : Nat → Nat} {aQ : Nat → Nat} {z : Rc}
set_option maxHeartbeats 1000000 in
set_option maxRecDepth 10000 in
theorem wX3_copyFrom_0 (C0 : cx p s m args meth c cX3_copyFrom 2 RX3 wsX3_copyFrom none D K) (hA : ∀ q, s.heap.size ≤ q → A q) (P : Rc) (Q : Rc) (h : fX3_copyFrom P Q = some z) (H : Heap) (locs : List Loc) (hP : va_P D vwCl (fl [wPlan K aP P, wPlan K aQ Q]) H) (hD : va_D A (fl [wPlan K aP P, wPlan K aQ Q])) (hS : va_S A s.heap H locs) (ls : Array Slot) (hl : lv_has ls 2 [(0, .ref (aP 0)), (1, .ref (aQ 0))]) : W p l e rmX3_copyFrom s m args below meth c H locs 0 0 (MQ below (qcV D z (fun (u : Rc) => (fl [wPlan K aP u, wPlan K aQ Q])) A) args s 0 0 A) (F0 m 0 ls []) := by
  unfold fX3_copyFrom at h
  refine r_aload_n C0 dX3_copyFrom_0 hl 1 rfl ?_
  refine r_get C0 3 inx3 hP 7 rfl rfl 0 (by decide) (mc wd2_19) (.ref (aQ 1)) rfl dX3_copyFrom_1 ?_
  refine r_iconst C0 (nI 0) dX3_copyFrom_4 (by decide) ?_
  refine r_aload_n C0 dX3_copyFrom_5 hl 0 rfl ?_
  refine r_get C0 3 inx3 hP 0 rfl rfl 0 (by decide) (mc wd2_19) (.ref (aP 1)) rfl dX3_copyFrom_6 ?_
  refine r_iconst C0 (nI 0) dX3_copyFrom_9 (by decide) ?_
  refine r_bipush C0 (nI 6) dX3_copyFrom_10 (by decide) ?_
  refine r_copy h C0 6 ⟨(mc wd12_13), (mc wd12_14), (mc wd12_15), (mc wd12_16)⟩ hP hD hS 8 1 (fun uu => (fl [wPlan K aP uu, wPlan K aQ Q])) rfl rfl (by decide) hl ⟨Nat.le_of_ble_eq_true rfl, Nat.le_of_ble_eq_true rfl⟩ rfl dX3_copyFrom_12 (fun P1 H locs h hP hD hS => ?_)
  refine r_aload_n C0 dX3_copyFrom_15 hl 1 rfl ?_
  refine r_get C0 3 inx3 hP 7 rfl rfl 1 (by decide) (mc wd2_20) (.ref (aQ 2)) rfl dX3_copyFrom_16 ?_
  refine r_iconst C0 (nI 0) dX3_copyFrom_19 (by decide) ?_
  refine r_aload_n C0 dX3_copyFrom_20 hl 0 rfl ?_
  refine r_get C0 3 inx3 hP 0 rfl rfl 1 (by decide) (mc wd2_20) (.ref (aP 2)) rfl dX3_copyFrom_21 ?_
  refine r_iconst C0 (nI 0) dX3_copyFrom_24 (by decide) ?_
  refine r_bipush C0 (nI 6) dX3_copyFrom_25 (by decide) ?_
  refine r_copy h C0 6 ⟨(mc wd12_13), (mc wd12_14), (mc wd12_15), (mc wd12_16)⟩ hP hD hS 9 2 (fun uu => (fl [wPlan K aP uu, wPlan K aQ Q])) rfl rfl (by decide) hl ⟨Nat.le_of_ble_eq_true rfl, Nat.le_of_ble_eq_true rfl⟩ rfl dX3_copyFrom_27 (fun P2 H locs h hP hD hS => ?_)
  refine r_aload_n C0 dX3_copyFrom_30 hl 1 rfl ?_
  refine r_get C0 3 inx3 hP 7 rfl rfl 2 (by decide) (mc wd2_21) (.ref (aQ 3)) rfl dX3_copyFrom_31 ?_
  refine r_iconst C0 (nI 0) dX3_copyFrom_34 (by decide) ?_
  refine r_aload_n C0 dX3_copyFrom_35 hl 0 rfl ?_
  refine r_get C0 3 inx3 hP 0 rfl rfl 2 (by decide) (mc wd2_21) (.ref (aP 3)) rfl dX3_copyFrom_36 ?_
  refine r_iconst C0 (nI 0) dX3_copyFrom_39 (by decide) ?_
  refine r_iconst C0 (nI 5) dX3_copyFrom_40 (by decide) ?_
  refine r_copy h C0 5 ⟨(mc wd12_13), (mc wd12_14), (mc wd12_15), (mc wd12_16)⟩ hP hD hS 10 3 (fun uu => (fl [wPlan K aP uu, wPlan K aQ Q])) rfl rfl (by decide) hl ⟨Nat.le_of_ble_eq_true rfl, Nat.le_of_ble_eq_true rfl⟩ rfl dX3_copyFrom_41 (fun P3 H locs h hP hD hS => ?_)
  refine r_aload_n C0 dX3_copyFrom_44 hl 1 rfl ?_
  refine r_get C0 3 inx3 hP 7 rfl rfl 3 (by decide) (mc wd2_22) (.ref (aQ 4)) rfl dX3_copyFrom_45 ?_
  refine r_iconst C0 (nI 0) dX3_copyFrom_48 (by decide) ?_
  refine r_aload_n C0 dX3_copyFrom_49 hl 0 rfl ?_
  refine r_get C0 3 inx3 hP 0 rfl rfl 3 (by decide) (mc wd2_22) (.ref (aP 4)) rfl dX3_copyFrom_50 ?_
  refine r_iconst C0 (nI 0) dX3_copyFrom_53 (by decide) ?_
  refine r_iconst C0 (nI 5) dX3_copyFrom_54 (by decide) ?_
  refine r_copy h C0 5 ⟨(mc wd12_13), (mc wd12_14), (mc wd12_15), (mc wd12_16)⟩ hP hD hS 11 4 (fun uu => (fl [wPlan K aP uu, wPlan K aQ Q])) rfl rfl (by decide) hl ⟨Nat.le_of_ble_eq_true rfl, Nat.le_of_ble_eq_true rfl⟩ rfl dX3_copyFrom_55 (fun P4 H locs h hP hD hS => ?_)
  refine r_aload_n C0 dX3_copyFrom_58 hl 1 rfl ?_
  refine r_get C0 3 inx3 hP 7 rfl rfl 4 (by decide) (mc wd2_23) (.ref (aQ 5)) rfl dX3_copyFrom_59 ?_
  refine r_iconst C0 (nI 0) dX3_copyFrom_62 (by decide) ?_
  refine r_aload_n C0 dX3_copyFrom_63 hl 0 rfl ?_
  refine r_get C0 3 inx3 hP 0 rfl rfl 4 (by decide) (mc wd2_23) (.ref (aP 5)) rfl dX3_copyFrom_64 ?_
  refine r_iconst C0 (nI 0) dX3_copyFrom_67 (by decide) ?_
  refine r_iconst C0 (nI 5) dX3_copyFrom_68 (by decide) ?_
  refine r_copy h C0 5 ⟨(mc wd12_13), (mc wd12_14), (mc wd12_15), (mc wd12_16)⟩ hP hD hS 12 5 (fun uu => (fl [wPlan K aP uu, wPlan K aQ Q])) rfl rfl (by decide) hl ⟨Nat.le_of_ble_eq_true rfl, Nat.le_of_ble_eq_true rfl⟩ rfl dX3_copyFrom_69 (fun P5 H locs h hP hD hS => ?_)
  refine r_aload_n C0 dX3_copyFrom_72 hl 1 rfl ?_
  refine r_get C0 3 inx3 hP 7 rfl rfl 5 (by decide) (mc wd3_0) (.ref (aQ 6)) rfl dX3_copyFrom_73 ?_
  refine r_iconst C0 (nI 0) dX3_copyFrom_76 (by decide) ?_
  refine r_aload_n C0 dX3_copyFrom_77 hl 0 rfl ?_
  refine r_get C0 3 inx3 hP 0 rfl rfl 5 (by decide) (mc wd3_0) (.ref (aP 6)) rfl dX3_copyFrom_78 ?_
  refine r_iconst C0 (nI 0) dX3_copyFrom_81 (by decide) ?_
  refine r_bipush C0 (nI 120) dX3_copyFrom_82 (by decide) ?_
  refine r_copy h C0 120 ⟨(mc wd12_13), (mc wd12_14), (mc wd12_15), (mc wd12_16)⟩ hP hD hS 13 6 (fun uu => (fl [wPlan K aP uu, wPlan K aQ Q])) rfl rfl (by decide) hl ⟨Nat.le_of_ble_eq_true rfl, Nat.le_of_ble_eq_true rfl⟩ rfl dX3_copyFrom_84 (fun P6 H locs h hP hD hS => ?_)
  refine r_aload_n C0 dX3_copyFrom_87 hl 0 rfl ?_
  refine r_aload_n C0 dX3_copyFrom_88 hl 1 rfl ?_
  refine r_get C0 3 inx3 hP 7 rfl rfl 6 (by decide) (mc wd3_1) (.int (Q 6 0)) rfl dX3_copyFrom_89 ?_
  refine r_put (ty := .int) h C0 3 inx3 tyX3 tyX3_ok nmX3 hP hD hS 0 (fun uu => (fl [wPlan K aP uu, wPlan K aQ Q])) rfl rfl 6 (by decide) (mc wd3_1) rfl (by decide +kernel) rfl rfl (by simp) rfl dX3_copyFrom_92 (fun P7 H locs h hP hD hS => ?_)
  refine r_aload_n C0 dX3_copyFrom_95 hl 0 rfl ?_
  refine r_aload_n C0 dX3_copyFrom_96 hl 1 rfl ?_
  refine r_get C0 3 inx3 hP 7 rfl rfl 7 (by decide) (mc wd3_2) (.int (Q 7 0)) rfl dX3_copyFrom_97 ?_
  refine r_put (ty := .int) h C0 3 inx3 tyX3 tyX3_ok nmX3 hP hD hS 0 (fun uu => (fl [wPlan K aP uu, wPlan K aQ Q])) rfl rfl 7 (by decide) (mc wd3_2) rfl (by decide +kernel) rfl rfl (by simp) rfl dX3_copyFrom_100 (fun P8 H locs h hP hD hS => ?_)
  refine r_aload_n C0 dX3_copyFrom_103 hl 0 rfl ?_
  refine r_aload_n C0 dX3_copyFrom_104 hl 1 rfl ?_
  refine r_get C0 3 inx3 hP 7 rfl rfl 8 (by decide) (mc wd3_3) (.int (Q 8 0)) rfl dX3_copyFrom_105 ?_
  refine r_put (ty := .int) h C0 3 inx3 tyX3 tyX3_ok nmX3 hP hD hS 0 (fun uu => (fl [wPlan K aP uu, wPlan K aQ Q])) rfl rfl 8 (by decide) (mc wd3_3) rfl (by decide +kernel) rfl rfl (by simp) rfl dX3_copyFrom_108 (fun P9 H locs h hP hD hS => ?_)
  refine r_aload_n C0 dX3_copyFrom_111 hl 0 rfl ?_
  refine r_aload_n C0 dX3_copyFrom_112 hl 1 rfl ?_
  refine r_get C0 3 inx3 hP 7 rfl rfl 9 (by decide) (mc wd3_4) (.int (Q 9 0)) rfl dX3_copyFrom_113 ?_
  refine r_put (ty := .int) h C0 3 inx3 tyX3 tyX3_ok nmX3 hP hD hS 0 (fun uu => (fl [wPlan K aP uu, wPlan K aQ Q])) rfl rfl 9 (by decide) (mc wd3_4) rfl (by decide +kernel) rfl rfl (by simp) rfl dX3_copyFrom_116 (fun P10 H locs h hP hD hS => ?_)
  exact r_vret h C0 (fun (u : Rc) => (fl [wPlan K aP u, wPlan K aQ Q])) hP hD hS dX3_copyFrom_119
set_option maxHeartbeats 1000000 in
set_option maxRecDepth 10000 in
theorem ctX3_copyFrom (l : Launch) (D : va_G) (K : Nat → ClassId) (aP : Nat → Nat) (aQ : Nat → Nat) (P : Rc) (Q : Rc) (sz : Nat) (z : Rc) (hz : fX3_copyFrom P Q = some z) : Met l yX3_copyFrom wsX3_copyFrom rmX3_copyFrom (pcW D K [.ref (aP 0), .ref (aQ 0)] (fl [wPlan K aP P, wPlan K aQ Q]) sz) (qcV D z (fun (u : Rc) => (fl [wPlan K aP u, wPlan K aQ Q])) (va_A (fl [wPlan K aP P, wPlan K aQ Q]) sz)) 0 0 (va_A (fl [wPlan K aP P, wPlan K aQ Q]) sz) := by
  refine Met.ofW (cc := cX3_copyFrom) (maxL := 2) (ret := none) (by decide) rfl ?_
  intro p e s m args below meth c s₁ B hml hv
  obtain ⟨rfl, hsz, hP, hK, hD0⟩ := hv
  subst hsz
  have C0 : cx p s m _ meth c cX3_copyFrom 2 RX3 wsX3_copyFrom none D K := ⟨⟨B.exec, B.bytes, hml, findClass_of_methodNamed B.named, atoms_spec (ws := wsX3_copyFrom) B.pre⟩, B.returns, B.notSynchronized, hK⟩
  have hD := hD0.self (sz := s.heap.size)
  generalize hAe : va_A (fl [wPlan K aP P, wPlan K aQ Q]) s.heap.size = A at hD ⊢
  have hA : ∀ q : Nat, s.heap.size ≤ q → A q := fun q h => by rw [← hAe]; exact Or.inr h
  have hl := lv_entry ([.ref (aP 0), .ref (aQ 0)]) (n := 2) (Nat.le_of_ble_eq_true rfl)
  rw [lg_entry_eq]
  generalize (lg_sl ([.ref (aP 0), .ref (aQ 0)]) ++ List.replicate (2 - (lg_sl ([.ref (aP 0), .ref (aQ 0)])).length) Slot.unset).toArray = ls at hl ⊢
  have hl : lv_has ls 2 [(0, .ref (aP 0)), (1, .ref (aQ 0))] := hl
  exact wX3_copyFrom_0 C0 hA P Q hz s.heap [] hP hD va_S.rf ls (lv_sub hl [0, 1] rfl)
end SX3_copyFrom

section SX5_commonDivisor
/-! CardLoops.commonDivisor(II)I -/
abbrev wsX5_commonDivisor : List Cond := Cond.code yX5_commonDivisor cX5_commonDivisor 6 (some .int) :: wsL_law0
abbrev rmX5_commonDivisor : Room := { frames := 1, cells := 0, slots := 0, locals := 13 }
variable {p : Program} {l : Launch} {e : Env} {s : State} {m : MethodId} {args : Array Value} {below : List Frame} {meth : Method} {c : Code} {D : va_G} {K : Nat → ClassId} {A : Nat → Prop} {N : Nat} {z : Int32}
def IX5_commonDivisor_7 (p : Program) (l : Launch) (e : Env) (s : State) (m : MethodId) (args : Array Value) (below : List Frame) (meth : Method) (c : Code) (D : va_G) (K : Nat → ClassId) (z : Int32) (k : Int32 → Int32 → Int32 → Option (Int32)) : Prop := ∀ (x2 : Int32) (x3 : Int32) (x4 : Int32) (ls : Array Slot), k x2 x3 x4 = some z → lv_has ls 6 [(2, .int x2), (3, .int x3), (4, .int x4)] → W p l e rmX5_commonDivisor s m args below meth c s.heap [] 0 0 (MQ below (vp_Si (fun r => r = z)) args s 0 0 (fun _ => False)) (F0 m 7 ls [])
set_option maxHeartbeats 1000000 in
set_option maxRecDepth 10000 in
theorem wX5_commonDivisor_34 (C0 : cx p s m args meth c cX5_commonDivisor 6 RX5 wsX5_commonDivisor (some .int) D K) (x2 : Int32) (h : fX5_commonDivisor_34 N x2 = some z) (ls : Array Slot) (hl : lv_has ls 6 [(2, .int x2)]) : W p l e rmX5_commonDivisor s m args below meth c s.heap [] 0 0 (MQ below (vp_Si (fun r => r = z)) args s 0 0 (fun _ => False)) (F0 m 34 ls []) := by
  unfold fX5_commonDivisor_34 at h
  refine r_iload_n C0 dX5_commonDivisor_34 hl 0 rfl ?_
  refine r_iconst C0 (nI 1) dX5_commonDivisor_35 (by decide) ?_
  refine r_mmax C0 ⟨(mc wd28_8), (mc wd13_16), (mc wd7_12), (mc wd13_17)⟩ hl ⟨Nat.le_of_ble_eq_true rfl, Nat.le_of_ble_eq_true rfl⟩ ⟨Nat.zero_le _, Nat.zero_le _⟩ dX5_commonDivisor_36 ?_
  exact r_iretR C0 h dX5_commonDivisor_39
set_option maxHeartbeats 1000000 in
set_option maxRecDepth 10000 in
theorem wX5_commonDivisor_7 (C0 : cx p s m args meth c cX5_commonDivisor 6 RX5 wsX5_commonDivisor (some .int) D K) {k7 : Int32 → Int32 → Int32 → Option (Int32)} (hk7 : IX5_commonDivisor_7 p l e s m args below meth c D K z k7) (x2 : Int32) (x3 : Int32) (x4 : Int32) (h : fX5_commonDivisor_7b N k7 x2 x3 x4 = some z) (ls : Array Slot) (hl : lv_has ls 6 [(2, .int x2), (3, .int x3), (4, .int x4)]) : W p l e rmX5_commonDivisor s m args below meth c s.heap [] 0 0 (MQ below (vp_Si (fun r => r = z)) args s 0 0 (fun _ => False)) (F0 m 7 ls []) := by
  unfold fX5_commonDivisor_7b at h
  refine r_iload C0 dX5_commonDivisor_7 hl 2 rfl ?_
  refine r_bipush C0 (nI 64) dX5_commonDivisor_9 (by decide) ?_
  refine r_icmp_ge h C0 34 dX5_commonDivisor_11 (by decide) (fun h => ?_) (fun h => ?_)
  · exact wX5_commonDivisor_34 C0 x2 h _ (lv_sub hl [0] rfl)
  · refine r_iload_n C0 dX5_commonDivisor_14 hl 1 rfl ?_
    refine r_if_le h C0 34 dX5_commonDivisor_15 (by decide) (fun h => ?_) (fun h => ?_)
    · exact wX5_commonDivisor_34 C0 x2 h _ (lv_sub hl [0] rfl)
    · refine r_iload_n C0 dX5_commonDivisor_18 hl 0 rfl ?_
      refine r_iload_n C0 dX5_commonDivisor_19 hl 1 rfl ?_
      refine r_irem h C0 dX5_commonDivisor_20 (fun h => ?_)
      refine r_istore h C0 (fun v1 => [(5, .int v1), (2, .int x2), (3, .int x3), (4, .int x4)]) dX5_commonDivisor_21 hl (by decide) (fun _ => rfl) (fun v1 ls h hl => ?_)
      refine r_iload_n C0 dX5_commonDivisor_23 hl 2 rfl ?_
      refine r_istore_n h C0 (fun v2 => [(2, .int v2), (5, .int v1), (3, .int x3), (4, .int x4)]) dX5_commonDivisor_24 hl (by decide) (fun _ => rfl) (fun v2 ls h hl => ?_)
      refine r_iload C0 dX5_commonDivisor_25 hl 1 rfl ?_
      refine r_istore_n h C0 (fun v3 => [(3, .int v3), (2, .int v2), (5, .int v1), (4, .int x4)]) dX5_commonDivisor_27 hl (by decide) (fun _ => rfl) (fun v3 ls h hl => ?_)
      refine r_iinc h C0 3 (fun v4 => [(4, .int v4), (3, .int v3), (2, .int v2), (5, .int v1)]) dX5_commonDivisor_28 hl rfl rfl (by decide) (fun _ => rfl) (fun v4 ls h hl => ?_)
      refine r_goto C0 7 dX5_commonDivisor_31 (by decide) ?_
      exact hk7 v2 v3 v4 _ h (lv_sub hl [2, 1, 0] rfl)
theorem wX5_commonDivisor_7L (C0 : cx p s m args meth c cX5_commonDivisor 6 RX5 wsX5_commonDivisor (some .int) D K) : IX5_commonDivisor_7 p l e s m args below meth c D K z (fX5_commonDivisor_7 N) := by
  refine itn_ind (IX5_commonDivisor_7 p l e s m args below meth c D K z) ?_ ?_ N
  · intro _ _ _ _ h; cases h
  · intro k7 hk7 x2 x3 x4 ls h  hl
    exact wX5_commonDivisor_7 C0 hk7 x2 x3 x4 h ls hl
set_option maxHeartbeats 1000000 in
set_option maxRecDepth 10000 in
theorem wX5_commonDivisor_0 (C0 : cx p s m args meth c cX5_commonDivisor 6 RX5 wsX5_commonDivisor (some .int) D K) (x0 : Int32) (x1 : Int32) (h : fX5_commonDivisor N x0 x1 = some z) (ls : Array Slot) (hl : lv_has ls 6 [(0, .int x0), (1, .int x1)]) : W p l e rmX5_commonDivisor s m args below meth c s.heap [] 0 0 (MQ below (vp_Si (fun r => r = z)) args s 0 0 (fun _ => False)) (F0 m 0 ls []) := by
  unfold fX5_commonDivisor at h
  refine r_iload_n C0 dX5_commonDivisor_0 hl 0 rfl ?_
  refine r_istore_n h C0 (fun v1 => [(2, .int v1), (0, .int x0), (1, .int x1)]) dX5_commonDivisor_1 hl (by decide) (fun _ => rfl) (fun v1 ls h hl => ?_)
  refine r_iload_n C0 dX5_commonDivisor_2 hl 2 rfl ?_
  refine r_istore_n h C0 (fun v2 => [(3, .int v2), (2, .int v1), (0, .int x0), (1, .int x1)]) dX5_commonDivisor_3 hl (by decide) (fun _ => rfl) (fun v2 ls h hl => ?_)
  refine r_iconst C0 (nI 0) dX5_commonDivisor_4 (by decide) ?_
  refine r_istore h C0 (fun v3 => [(4, .int v3), (3, .int v2), (2, .int v1), (0, .int x0), (1, .int x1)]) dX5_commonDivisor_5 hl (by decide) (fun _ => rfl) (fun v3 ls h hl => ?_)
  exact wX5_commonDivisor_7L C0 v1 v2 v3 _ h (lv_sub hl [2, 1, 0] rfl)
set_option maxHeartbeats 1000000 in
set_option maxRecDepth 10000 in
theorem ctX5_commonDivisor (l : Launch) (D : va_G) (K : Nat → ClassId) (N : Nat) (p0 : Int32) (p1 : Int32) (z : Int32) (hz : fX5_commonDivisor N p0 p1 = some z) : Met l yX5_commonDivisor wsX5_commonDivisor rmX5_commonDivisor (pcR D K [.int p0, .int p1] []) (vp_Si (fun r => r = z)) 0 0 (fun _ => False) := by
  refine Met.ofW (cc := cX5_commonDivisor) (maxL := 6) (ret := (some .int)) (by decide) rfl ?_
  intro p e s m args below meth c s₁ B hml hv
  obtain ⟨rfl, hP, hK⟩ := hv
  have C0 : cx p s m _ meth c cX5_commonDivisor 6 RX5 wsX5_commonDivisor (some .int) D K := ⟨⟨B.exec, B.bytes, hml, findClass_of_methodNamed B.named, atoms_spec (ws := wsX5_commonDivisor) B.pre⟩, B.returns, B.notSynchronized, hK⟩
  have hl := lv_entry ([.int p0, .int p1]) (n := 6) (Nat.le_of_ble_eq_true rfl)
  rw [lg_entry_eq]
  generalize (lg_sl ([.int p0, .int p1]) ++ List.replicate (6 - (lg_sl ([.int p0, .int p1])).length) Slot.unset).toArray = ls at hl ⊢
  have hl : lv_has ls 6 [(0, .int p0), (1, .int p1)] := hl
  exact wX5_commonDivisor_0 C0 p0 p1 hz ls (lv_sub hl [0, 1] rfl)
end SX5_commonDivisor
