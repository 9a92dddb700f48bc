section SJ7_fill_53178
/-! java/util/Arrays.fill([II)V -/
abbrev wsJ7_fill_53178 : List Cond := Cond.code yJ7_fill_53178 cJ7_fill_53178 4 none :: wsL_law0
abbrev rmJ7_fill_53178 : Room := { frames := 0, cells := 0, slots := 0, locals := 0 }
variable {p : Program} {l : Launch} {e : Env} {s : State} {m : MethodId} {args : Array Value} {below : List Frame} {meth : Method} {c : Code} {D : va_G} {K : Nat → ClassId} {A : Nat → Prop} {nU : Nat} {N : Nat} {aU : Nat} {z : (Nat → Int32)}
def IJ7_fill_53178_5 (p : Program) (l : Launch) (e : Env) (s : State) (m : MethodId) (args : Array Value) (below : List Frame) (meth : Method) (c : Code) (D : va_G) (K : Nat → ClassId) (nU : Nat) (aU : Nat) (A : Nat → Prop) (z : (Nat → Int32)) (k : (Nat → Int32) → Int32 → Int32 → Int32 → Option ((Nat → Int32))) : Prop := ∀ (U : Nat → Int32) (x1 : Int32) (x2 : Int32) (x3 : Int32) (H : Heap) (locs : List Loc) (ls : Array Slot), k U x1 x2 x3 = some z → va_P D vwCl (fl [wArr K aU nU U]) H → va_D A (fl [wArr K aU nU U]) → va_S A s.heap H locs → lv_has ls 4 [(0, .ref aU), (1, .int x1), (2, .int x2), (3, .int x3)] → W p l e rmJ7_fill_53178 s m args below meth c H locs 0 0 (MQ below (qcV D z (fun (u : (Nat → Int32)) => (fl [wArr K aU nU u])) A) args s 0 0 A) (F0 m 5 ls [])
set_option maxHeartbeats 1000000 in
set_option maxRecDepth 10000 in
theorem wJ7_fill_53178_5 (C0 : cx p s m args meth c cJ7_fill_53178 4 RJ7 wsJ7_fill_53178 none D K) (hA : ∀ q, s.heap.size ≤ q → A q) {k5 : (Nat → Int32) → Int32 → Int32 → Int32 → Option ((Nat → Int32))} (hk5 : IJ7_fill_53178_5 p l e s m args below meth c D K nU aU A z k5) (U : Nat → Int32) (x1 : Int32) (x2 : Int32) (x3 : Int32) (h : fJ7_fill_53178_5b nU N k5 U x1 x2 x3 = some z) (H : Heap) (locs : List Loc) (hP : va_P D vwCl (fl [wArr K aU nU U]) H) (hD : va_D A (fl [wArr K aU nU U])) (hS : va_S A s.heap H locs) (ls : Array Slot) (hl : lv_has ls 4 [(0, .ref aU), (1, .int x1), (2, .int x2), (3, .int x3)]) : W p l e rmJ7_fill_53178 s m args below meth c H locs 0 0 (MQ below (qcV D z (fun (u : (Nat → Int32)) => (fl [wArr K aU nU u])) A) args s 0 0 A) (F0 m 5 ls []) := by
  unfold fJ7_fill_53178_5b at h
  refine r_iload_n C0 dJ7_fill_53178_5 hl 2 rfl ?_
  refine r_iload_n C0 dJ7_fill_53178_6 hl 3 rfl ?_
  refine r_icmp_ge h C0 20 dJ7_fill_53178_7 (by decide) (fun h => ?_) (fun h => ?_)
  · exact r_vret h C0 (fun (u : (Nat → Int32)) => (fl [wArr K aU nU u])) hP hD hS dJ7_fill_53178_20
  · refine r_aload_n C0 dJ7_fill_53178_10 hl 0 rfl ?_
    refine r_iload_n C0 dJ7_fill_53178_11 hl 2 rfl ?_
    refine r_iload_n C0 dJ7_fill_53178_12 hl 1 rfl ?_
    refine r_iast h C0 hP hD hS 0 (fun uu => (fl [wArr K aU nU uu])) rfl rfl dJ7_fill_53178_13 (fun U1 H locs h hP hD hS => ?_)
    refine r_iinc h C0 2 (fun v2 => [(2, .int v2), (0, .ref aU), (1, .int x1), (3, .int x3)]) dJ7_fill_53178_14 hl rfl rfl (by decide) (fun _ => rfl) (fun v2 ls h hl => ?_)
    refine r_goto C0 5 dJ7_fill_53178_17 (by decide) ?_
    exact hk5 U1 x1 v2 x3 _ _ _ h hP hD hS (lv_sub hl [1, 2, 0, 3] rfl)
theorem wJ7_fill_53178_5L (C0 : cx p s m args meth c cJ7_fill_53178 4 RJ7 wsJ7_fill_53178 none D K) (hA : ∀ q, s.heap.size ≤ q → A q) : IJ7_fill_53178_5 p l e s m args below meth c D K nU aU A z (fJ7_fill_53178_5 nU N) := by
  refine itn_ind (IJ7_fill_53178_5 p l e s m args below meth c D K nU aU A z) ?_ ?_ N
  · intro _ _ _ _ _ _ _ h; cases h
  · intro k5 hk5 U x1 x2 x3 H locs ls h hP hD hS hl
    exact wJ7_fill_53178_5 C0 hA hk5 U x1 x2 x3 h H locs hP hD hS ls hl
set_option maxHeartbeats 1000000 in
set_option maxRecDepth 10000 in
theorem wJ7_fill_53178_0 (C0 : cx p s m args meth c cJ7_fill_53178 4 RJ7 wsJ7_fill_53178 none D K) (hA : ∀ q, s.heap.size ≤ q → A q) (U : Nat → Int32) (x1 : Int32) (h : fJ7_fill_53178 nU N U x1 = some z) (H : Heap) (locs : List Loc) (hP : va_P D vwCl (fl [wArr K aU nU U]) H) (hD : va_D A (fl [wArr K aU nU U])) (hS : va_S A s.heap H locs) (ls : Array Slot) (hl : lv_has ls 4 [(0, .ref aU), (1, .int x1)]) : W p l e rmJ7_fill_53178 s m args below meth c H locs 0 0 (MQ below (qcV D z (fun (u : (Nat → Int32)) => (fl [wArr K aU nU u])) A) args s 0 0 A) (F0 m 0 ls []) := by
  unfold fJ7_fill_53178 at h
  refine r_iconst C0 (nI 0) dJ7_fill_53178_0 (by decide) ?_
  refine r_istore_n h C0 (fun v1 => [(2, .int v1), (0, .ref aU), (1, .int x1)]) dJ7_fill_53178_1 hl (by decide) (fun _ => rfl) (fun v1 ls h hl => ?_)
  refine r_aload_n C0 dJ7_fill_53178_2 hl 1 rfl ?_
  refine r_alen C0 hP 0 rfl dJ7_fill_53178_3 ?_
  refine r_istore_n h C0 (fun v2 => [(3, .int v2), (2, .int v1), (0, .ref aU), (1, .int x1)]) dJ7_fill_53178_4 hl (by decide) (fun _ => rfl) (fun v2 ls h hl => ?_)
  exact wJ7_fill_53178_5L C0 hA U x1 v1 v2 _ _ _ h hP hD hS (lv_sub hl [2, 3, 1, 0] rfl)
set_option maxHeartbeats 1000000 in
set_option maxRecDepth 10000 in
theorem ctJ7_fill_53178 (l : Launch) (D : va_G) (K : Nat → ClassId) (nU : Nat) (N : Nat) (aU : Nat) (U : Nat → Int32) (p1 : Int32) (sz : Nat) (z : (Nat → Int32)) (hz : fJ7_fill_53178 nU N U p1 = some z) : Met l yJ7_fill_53178 wsJ7_fill_53178 rmJ7_fill_53178 (pcW D K [.ref aU, .int p1] (fl [wArr K aU nU U]) sz) (qcV D z (fun (u : (Nat → Int32)) => (fl [wArr K aU nU u])) (va_A (fl [wArr K aU nU U]) sz)) 0 0 (va_A (fl [wArr K aU nU U]) sz) := by
  refine Met.ofW (cc := cJ7_fill_53178) (maxL := 4) (ret := none) (by decide) rfl ?_
  intro p e s m args below meth c s₁ B hml hv
  obtain ⟨rfl, hsz, hP, hK, hD0⟩ := hv
  subst hsz
  have C0 : cx p s m _ meth c cJ7_fill_53178 4 RJ7 wsJ7_fill_53178 none D K := ⟨⟨B.exec, B.bytes, hml, findClass_of_methodNamed B.named, atoms_spec (ws := wsJ7_fill_53178) B.pre⟩, B.returns, B.notSynchronized, hK⟩
  have hD := hD0.self (sz := s.heap.size)
  generalize hAe : va_A (fl [wArr K aU nU U]) s.heap.size = A at hD ⊢
  have hA : ∀ q : Nat, s.heap.size ≤ q → A q := fun q h => by rw [← hAe]; exact Or.inr h
  have hl := lv_entry ([.ref aU, .int p1]) (n := 4) (Nat.le_of_ble_eq_true rfl)
  rw [lg_entry_eq]
  generalize (lg_sl ([.ref aU, .int p1]) ++ List.replicate (4 - (lg_sl ([.ref aU, .int p1])).length) Slot.unset).toArray = ls at hl ⊢
  have hl : lv_has ls 4 [(0, .ref aU), (1, .int p1)] := hl
  exact wJ7_fill_53178_0 C0 hA U p1 hz s.heap [] hP hD va_S.rf ls (lv_sub hl [0, 1] rfl)
end SJ7_fill_53178

section SX1_isIdle
/-! CardLoops$Line.isIdle(I)Z -/
abbrev wsX1_isIdle : List Cond := Cond.code yX1_isIdle cX1_isIdle 2 (some .boolean) :: wsL_law0
abbrev rmX1_isIdle : Room := { frames := 0, cells := 0, slots := 0, locals := 0 }
variable {p : Program} {l : Launch} {e : Env} {s : State} {m : MethodId} {args : Array Value} {below : List Frame} {meth : Method} {c : Code} {D : va_G} {K : Nat → ClassId} {A : Nat → Prop} {aL : Nat → Nat} {rL0 : Nat} {z : Int32}
set_option maxHeartbeats 1000000 in
set_option maxRecDepth 10000 in
theorem wX1_isIdle_0 (C0 : cx p s m args meth c cX1_isIdle 2 RX1 wsX1_isIdle (some .boolean) D K) (L : Rc) (x1 : Int32) (h : fX1_isIdle L x1 = some z) (hP : va_P D vwCl (fl [wLine K aL rL0 L]) s.heap) (ls : Array Slot) (hl : lv_has ls 2 [(0, .ref (aL 0)), (1, .int x1)]) : W p l e rmX1_isIdle s m args below meth c s.heap [] 0 0 (MQ below (vp_Si (fun r => r = z)) args s 0 0 (fun _ => False)) (F0 m 0 ls []) := by
  unfold fX1_isIdle at h
  refine r_aload_n C0 dX1_isIdle_0 hl 0 rfl ?_
  refine r_get C0 1 inx1 hP 0 rfl rfl 1 (by decide) (mc wd3_9) (.ref (aL 2)) rfl dX1_isIdle_1 ?_
  refine r_iload_n C0 dX1_isIdle_4 hl 1 rfl ?_
  refine r_iald h C0 hP 1 rfl dX1_isIdle_5 (fun h => ?_)
  refine r_aload_n C0 dX1_isIdle_6 hl 0 rfl ?_
  refine r_get C0 1 inx1 hP 0 rfl rfl 2 (by decide) (mc wd3_10) (.ref (aL 3)) rfl dX1_isIdle_7 ?_
  refine r_iload_n C0 dX1_isIdle_10 hl 1 rfl ?_
  refine r_iald h C0 hP 2 rfl dX1_isIdle_11 (fun h => ?_)
  refine r_icmp_ne h C0 19 dX1_isIdle_12 (by decide) (fun h => ?_) (fun h => ?_)
  · refine r_iconst C0 (nI 0) dX1_isIdle_19 (by decide) ?_
    exact r_zretRC C0 h (by decide) dX1_isIdle_20
  · refine r_iconst C0 (nI 1) dX1_isIdle_15 (by decide) ?_
    refine r_goto C0 20 dX1_isIdle_16 (by decide) ?_
    exact r_zretRC C0 h (by decide) dX1_isIdle_20
set_option maxHeartbeats 1000000 in
set_option maxRecDepth 10000 in
theorem ctX1_isIdle (l : Launch) (D : va_G) (K : Nat → ClassId) (aL : Nat → Nat) (rL0 : Nat) (L : Rc) (p1 : Int32) (z : Int32) (hz : fX1_isIdle L p1 = some z) : Met l yX1_isIdle wsX1_isIdle rmX1_isIdle (pcR D K [.ref (aL 0), .int p1] (fl [wLine K aL rL0 L])) (vp_Si (fun r => r = z)) 0 0 (fun _ => False) := by
  refine Met.ofW (cc := cX1_isIdle) (maxL := 2) (ret := (some .boolean)) (by decide) rfl ?_
  intro p e s m args below meth c s₁ B hml hv
  obtain ⟨rfl, hP, hK⟩ := hv
  have C0 : cx p s m _ meth c cX1_isIdle 2 RX1 wsX1_isIdle (some .boolean) D K := ⟨⟨B.exec, B.bytes, hml, findClass_of_methodNamed B.named, atoms_spec (ws := wsX1_isIdle) B.pre⟩, B.returns, B.notSynchronized, hK⟩
  have hl := lv_entry ([.ref (aL 0), .int p1]) (n := 2) (Nat.le_of_ble_eq_true rfl)
  rw [lg_entry_eq]
  generalize (lg_sl ([.ref (aL 0), .int p1]) ++ List.replicate (2 - (lg_sl ([.ref (aL 0), .int p1])).length) Slot.unset).toArray = ls at hl ⊢
  have hl : lv_has ls 2 [(0, .ref (aL 0)), (1, .int p1)] := hl
  exact wX1_isIdle_0 C0 L p1 hz hP ls (lv_sub hl [0, 1] rfl)
end SX1_isIdle

section SX1_waiting
/-! CardLoops$Line.waiting(I)I -/
abbrev wsX1_waiting : List Cond := Cond.code yX1_waiting cX1_waiting 2 (some .int) :: wsL_law0
abbrev rmX1_waiting : Room := { frames := 0, cells := 0, slots := 0, locals := 0 }
variable {p : Program} {l : Launch} {e : Env} {s : State} {m : MethodId} {args : Array Value} {below : List Frame} {meth : Method} {c : Code} {D : va_G} {K : Nat → ClassId} {A : Nat → Prop} {aL : Nat → Nat} {rL0 : Nat} {z : Int32}
set_option maxHeartbeats 1000000 in
set_option maxRecDepth 10000 in
theorem wX1_waiting_0 (C0 : cx p s m args meth c cX1_waiting 2 RX1 wsX1_waiting (some .int) D K) (L : Rc) (x1 : Int32) (h : fX1_waiting L x1 = some z) (hP : va_P D vwCl (fl [wLine K aL rL0 L]) s.heap) (ls : Array Slot) (hl : lv_has ls 2 [(0, .ref (aL 0)), (1, .int x1)]) : W p l e rmX1_waiting s m args below meth c s.heap [] 0 0 (MQ below (vp_Si (fun r => r = z)) args s 0 0 (fun _ => False)) (F0 m 0 ls []) := by
  unfold fX1_waiting at h
  refine r_iload_n C0 dX1_waiting_0 hl 1 rfl ?_
  refine r_iconst C0 (nI 1) dX1_waiting_1 (by decide) ?_
  refine r_icmp_ge h C0 9 dX1_waiting_2 (by decide) (fun h => ?_) (fun h => ?_)
  · refine r_aload_n C0 dX1_waiting_9 hl 0 rfl ?_
    refine r_get C0 1 inx1 hP 0 rfl rfl 2 (by decide) (mc wd3_10) (.ref (aL 3)) rfl dX1_waiting_10 ?_
    refine r_iload_n C0 dX1_waiting_13 hl 1 rfl ?_
    refine r_iconst C0 (nI 1) dX1_waiting_14 (by decide) ?_
    refine r_isub C0 dX1_waiting_15 ?_
    refine r_iald h C0 hP 2 rfl dX1_waiting_16 (fun h => ?_)
    refine r_aload_n C0 dX1_waiting_17 hl 0 rfl ?_
    refine r_get C0 1 inx1 hP 0 rfl rfl 1 (by decide) (mc wd3_9) (.ref (aL 2)) rfl dX1_waiting_18 ?_
    refine r_iload_n C0 dX1_waiting_21 hl 1 rfl ?_
    refine r_iald h C0 hP 1 rfl dX1_waiting_22 (fun h => ?_)
    refine r_isub C0 dX1_waiting_23 ?_
    exact r_iretR C0 h dX1_waiting_24
  · refine r_iconst C0 (nI 0) dX1_waiting_5 (by decide) ?_
    refine r_goto C0 24 dX1_waiting_6 (by decide) ?_
    exact r_iretR C0 h dX1_waiting_24
set_option maxHeartbeats 1000000 in
set_option maxRecDepth 10000 in
theorem ctX1_waiting (l : Launch) (D : va_G) (K : Nat → ClassId) (aL : Nat → Nat) (rL0 : Nat) (L : Rc) (p1 : Int32) (z : Int32) (hz : fX1_waiting L p1 = some z) : Met l yX1_waiting wsX1_waiting rmX1_waiting (pcR D K [.ref (aL 0), .int p1] (fl [wLine K aL rL0 L])) (vp_Si (fun r => r = z)) 0 0 (fun _ => False) := by
  refine Met.ofW (cc := cX1_waiting) (maxL := 2) (ret := (some .int)) (by decide) rfl ?_
  intro p e s m args below meth c s₁ B hml hv
  obtain ⟨rfl, hP, hK⟩ := hv
  have C0 : cx p s m _ meth c cX1_waiting 2 RX1 wsX1_waiting (some .int) D K := ⟨⟨B.exec, B.bytes, hml, findClass_of_methodNamed B.named, atoms_spec (ws := wsX1_waiting) B.pre⟩, B.returns, B.notSynchronized, hK⟩
  have hl := lv_entry ([.ref (aL 0), .int p1]) (n := 2) (Nat.le_of_ble_eq_true rfl)
  rw [lg_entry_eq]
  generalize (lg_sl ([.ref (aL 0), .int p1]) ++ List.replicate (2 - (lg_sl ([.ref (aL 0), .int p1])).length) Slot.unset).toArray = ls at hl ⊢
  have hl : lv_has ls 2 [(0, .ref (aL 0)), (1, .int p1)] := hl
  exact wX1_waiting_0 C0 L p1 hz hP ls (lv_sub hl [0, 1] rfl)
end SX1_waiting

section SX1_out
/-! CardLoops$Line.out()I -/
abbrev wsX1_out : List Cond := Cond.code yX1_out cX1_out 1 (some .int) :: wsL_law0
abbrev rmX1_out : Room := { frames := 0, cells := 0, slots := 0, locals := 0 }
variable {p : Program} {l : Launch} {e : Env} {s : State} {m : MethodId} {args : Array Value} {below : List Frame} {meth : Method} {c : Code} {D : va_G} {K : Nat → ClassId} {A : Nat → Prop} {aP : Nat → Nat} {aL : Nat → Nat} {z : Int32}
set_option maxHeartbeats 1000000 in
set_option maxRecDepth 10000 in
theorem wX1_out_0 (C0 : cx p s m args meth c cX1_out 1 RX1 wsX1_out (some .int) D K) (P : Rc) (L : Rc) (h : fX1_out P L = some z) (hP : va_P D vwCl (fl [wPlan K aP P, wLine K aL (aP 0) L]) s.heap) (ls : Array Slot) (hl : lv_has ls 1 [(0, .ref (aL 0))]) : W p l e rmX1_out s m args below meth c s.heap [] 0 0 (MQ below (vp_Si (fun r => r = z)) args s 0 0 (fun _ => False)) (F0 m 0 ls []) := by
  unfold fX1_out at h
  refine r_aload_n C0 dX1_out_0 hl 0 rfl ?_
  refine r_get C0 1 inx1 hP 7 rfl rfl 0 (by decide) (mc wd3_19) (.ref (aP 0)) rfl dX1_out_1 ?_
  refine r_get C0 3 inx3 hP 0 rfl rfl 6 (by decide) (mc wd13_6) (.int (P 6 0)) rfl dX1_out_4 ?_
  refine r_iconst C0 (nI 1) dX1_out_7 (by decide) ?_
  refine r_icmp_ge h C0 15 dX1_out_8 (by decide) (fun h => ?_) (fun h => ?_)
  · refine r_aload_n C0 dX1_out_15 hl 0 rfl ?_
    refine r_get C0 1 inx1 hP 7 rfl rfl 2 (by decide) (mc wd3_10) (.ref (aL 3)) rfl dX1_out_16 ?_
    refine r_aload_n C0 dX1_out_19 hl 0 rfl ?_
    refine r_get C0 1 inx1 hP 7 rfl rfl 0 (by decide) (mc wd3_19) (.ref (aP 0)) rfl dX1_out_20 ?_
    refine r_get C0 3 inx3 hP 0 rfl rfl 6 (by decide) (mc wd13_6) (.int (P 6 0)) rfl dX1_out_23 ?_
    refine r_iconst C0 (nI 1) dX1_out_26 (by decide) ?_
    refine r_isub C0 dX1_out_27 ?_
    refine r_iald h C0 hP 9 rfl dX1_out_28 (fun h => ?_)
    exact r_iretR C0 h dX1_out_29
  · refine r_iconst C0 (nI 0) dX1_out_11 (by decide) ?_
    refine r_goto C0 29 dX1_out_12 (by decide) ?_
    exact r_iretR C0 h dX1_out_29
set_option maxHeartbeats 1000000 in
set_option maxRecDepth 10000 in
theorem ctX1_out (l : Launch) (D : va_G) (K : Nat → ClassId) (aP : Nat → Nat) (aL : Nat → Nat) (P : Rc) (L : Rc) (z : Int32) (hz : fX1_out P L = some z) : Met l yX1_out wsX1_out rmX1_out (pcR D K [.ref (aL 0)] (fl [wPlan K aP P, wLine K aL (aP 0) L])) (vp_Si (fun r => r = z)) 0 0 (fun _ => False) := by
  refine Met.ofW (cc := cX1_out) (maxL := 1) (ret := (some .int)) (by decide) rfl ?_
  intro p e s m args below meth c s₁ B hml hv
  obtain ⟨rfl, hP, hK⟩ := hv
  have C0 : cx p s m _ meth c cX1_out 1 RX1 wsX1_out (some .int) D K := ⟨⟨B.exec, B.bytes, hml, findClass_of_methodNamed B.named, atoms_spec (ws := wsX1_out) B.pre⟩, B.returns, B.notSynchronized, hK⟩
  have hl := lv_entry ([.ref (aL 0)]) (n := 1) (Nat.le_of_ble_eq_true rfl)
  rw [lg_entry_eq]
  generalize (lg_sl ([.ref (aL 0)]) ++ List.replicate (1 - (lg_sl ([.ref (aL 0)])).length) Slot.unset).toArray = ls at hl ⊢
  have hl : lv_has ls 1 [(0, .ref (aL 0))] := hl
  exact wX1_out_0 C0 P L hz hP ls (lv_sub hl [0] rfl)
end SX1_out

section SX1_onTheirWay
/-! CardLoops$Line.onTheirWay()I -/
abbrev wsX1_onTheirWay : List Cond := Cond.code yX1_onTheirWay cX1_onTheirWay 1 (some .int) :: wsL_law0
abbrev rmX1_onTheirWay : Room := { frames := 1, cells := 0, slots := 0, locals := 20 }
variable {p : Program} {l : Launch} {e : Env} {s : State} {m : MethodId} {args : Array Value} {below : List Frame} {meth : Method} {c : Code} {D : va_G} {K : Nat → ClassId} {A : Nat → Prop} {aP : Nat → Nat} {aL : Nat → Nat} {z : Int32}
set_option maxHeartbeats 1000000 in
set_option maxRecDepth 10000 in
theorem wX1_onTheirWay_0 (C0 : cx p s m args meth c cX1_onTheirWay 1 RX1 wsX1_onTheirWay (some .int) D K) (P : Rc) (L : Rc) (h : fX1_onTheirWay P L = some z) (hP : va_P D vwCl (fl [wPlan K aP P, wLine K aL (aP 0) L]) s.heap) (ls : Array Slot) (hl : lv_has ls 1 [(0, .ref (aL 0))]) : W p l e rmX1_onTheirWay s m args below meth c s.heap [] 0 0 (MQ below (vp_Si (fun r => r = z)) args s 0 0 (fun _ => False)) (F0 m 0 ls []) := by
  unfold fX1_onTheirWay at h
  refine r_aload_n C0 dX1_onTheirWay_0 hl 0 rfl ?_
  refine r_get C0 1 inx1 hP 7 rfl rfl 1 (by decide) (mc wd3_9) (.ref (aL 2)) rfl dX1_onTheirWay_1 ?_
  refine r_iconst C0 (nI 0) dX1_onTheirWay_4 (by decide) ?_
  refine r_ialdC C0 hP 8 rfl 0 (by decide) dX1_onTheirWay_5 ?_
  refine r_aload_n C0 dX1_onTheirWay_6 hl 0 rfl ?_
  obtain ⟨z1, hz1, h⟩ := bnd_some h
  have hPc := vaP_sel (Wc := [wPlan K aP P, wLine K aL (aP 0) L]) hP [0, 1] rfl
  refine r_cI (va_runV (As := []) (rest := [.int (L 1 0)]) C0.1 (ctX1_out l D K aP aL P L z1 hz1) (cwV 0 C0.1.2.2.2.2 (gdV wd21_7 wd21_0 wd21_1 wd1_23 wd21_2) rfl rfl rfl (by decide +kernel) ⟨Nat.le_of_ble_eq_true rfl, Nat.le_of_ble_eq_true rfl⟩) ⟨pcR_blind, va_recv C0.2.2.2.1 hPc (ci := 1) (q0 := 7) rfl rfl, pcR_of hPc C0.2.2.2⟩ rfl rfl hl.1 rfl (lv_room (Nat.le_of_ble_eq_true rfl)) dX1_onTheirWay_7 ⟨Nat.zero_le _, Nat.zero_le _⟩).run ?_
  refine r_isub C0 dX1_onTheirWay_10 ?_
  exact r_iretR C0 h dX1_onTheirWay_11
set_option maxHeartbeats 1000000 in
set_option maxRecDepth 10000 in
theorem ctX1_onTheirWay (l : Launch) (D : va_G) (K : Nat → ClassId) (aP : Nat → Nat) (aL : Nat → Nat) (P : Rc) (L : Rc) (z : Int32) (hz : fX1_onTheirWay P L = some z) : Met l yX1_onTheirWay wsX1_onTheirWay rmX1_onTheirWay (pcR D K [.ref (aL 0)] (fl [wPlan K aP P, wLine K aL (aP 0) L])) (vp_Si (fun r => r = z)) 0 0 (fun _ => False) := by
  refine Met.ofW (cc := cX1_onTheirWay) (maxL := 1) (ret := (some .int)) (by decide) rfl ?_
  intro p e s m args below meth c s₁ B hml hv
  obtain ⟨rfl, hP, hK⟩ := hv
  have C0 : cx p s m _ meth c cX1_onTheirWay 1 RX1 wsX1_onTheirWay (some .int) D K := ⟨⟨B.exec, B.bytes, hml, findClass_of_methodNamed B.named, atoms_spec (ws := wsX1_onTheirWay) B.pre⟩, B.returns, B.notSynchronized, hK⟩
  have hl := lv_entry ([.ref (aL 0)]) (n := 1) (Nat.le_of_ble_eq_true rfl)
  rw [lg_entry_eq]
  generalize (lg_sl ([.ref (aL 0)]) ++ List.replicate (1 - (lg_sl ([.ref (aL 0)])).length) Slot.unset).toArray = ls at hl ⊢
  have hl : lv_has ls 1 [(0, .ref (aL 0))] := hl
  exact wX1_onTheirWay_0 C0 P L hz hP ls (lv_sub hl [0] rfl)
end SX1_onTheirWay

section SX1_free
/-! CardLoops$Line.free(I)I -/
abbrev wsX1_free : List Cond := Cond.code yX1_free cX1_free 2 (some .int) :: wsL_law0
abbrev rmX1_free : Room := { frames := 0, cells := 0, slots := 0, locals := 0 }
variable {p : Program} {l : Launch} {e : Env} {s : State} {m : MethodId} {args : Array Value} {below : List Frame} {meth : Method} {c : Code} {D : va_G} {K : Nat → ClassId} {A : Nat → Prop} {aP : Nat → Nat} {aL : Nat → Nat} {z : Int32}
set_option maxHeartbeats 1000000 in
set_option maxRecDepth 10000 in
theorem wX1_free_0 (C0 : cx p s m args meth c cX1_free 2 RX1 wsX1_free (some .int) D K) (P : Rc) (L : Rc) (x1 : Int32) (h : fX1_free P L x1 = some z) (hP : va_P D vwCl (fl [wPlan K aP P, wLine K aL (aP 0) L]) s.heap) (ls : Array Slot) (hl : lv_has ls 2 [(0, .ref (aL 0)), (1, .int x1)]) : W p l e rmX1_free s m args below meth c s.heap [] 0 0 (MQ below (vp_Si (fun r => r = z)) args s 0 0 (fun _ => False)) (F0 m 0 ls []) := by
  unfold fX1_free at h
  refine r_aload_n C0 dX1_free_0 hl 0 rfl ?_
  refine r_get C0 1 inx1 hP 7 rfl rfl 4 (by decide) (mc wd3_12) (.ref (aL 5)) rfl dX1_free_1 ?_
  refine r_iload_n C0 dX1_free_4 hl 1 rfl ?_
  refine r_iald h C0 hP 11 rfl dX1_free_5 (fun h => ?_)
  refine r_aload_n C0 dX1_free_6 hl 0 rfl ?_
  refine r_get C0 1 inx1 hP 7 rfl rfl 1 (by decide) (mc wd3_9) (.ref (aL 2)) rfl dX1_free_7 ?_
  refine r_aload_n C0 dX1_free_10 hl 0 rfl ?_
  refine r_get C0 1 inx1 hP 7 rfl rfl 0 (by decide) (mc wd3_19) (.ref (aP 0)) rfl dX1_free_11 ?_
  refine r_get C0 3 inx3 hP 0 rfl rfl 2 (by decide) (mc wd13_23) (.ref (aP 3)) rfl dX1_free_14 ?_
  refine r_iload_n C0 dX1_free_17 hl 1 rfl ?_
  refine r_iald h C0 hP 3 rfl dX1_free_18 (fun h => ?_)
  refine r_iald h C0 hP 8 rfl dX1_free_19 (fun h => ?_)
  refine r_aload_n C0 dX1_free_20 hl 0 rfl ?_
  refine r_get C0 1 inx1 hP 7 rfl rfl 2 (by decide) (mc wd3_10) (.ref (aL 3)) rfl dX1_free_21 ?_
  refine r_aload_n C0 dX1_free_24 hl 0 rfl ?_
  refine r_get C0 1 inx1 hP 7 rfl rfl 0 (by decide) (mc wd3_19) (.ref (aP 0)) rfl dX1_free_25 ?_
  refine r_get C0 3 inx3 hP 0 rfl rfl 3 (by decide) (mc wd14_8) (.ref (aP 4)) rfl dX1_free_28 ?_
  refine r_iload_n C0 dX1_free_31 hl 1 rfl ?_
  refine r_iald h C0 hP 4 rfl dX1_free_32 (fun h => ?_)
  refine r_iald h C0 hP 9 rfl dX1_free_33 (fun h => ?_)
  refine r_isub C0 dX1_free_34 ?_
  refine r_isub C0 dX1_free_35 ?_
  exact r_iretR C0 h dX1_free_36
set_option maxHeartbeats 1000000 in
set_option maxRecDepth 10000 in
theorem ctX1_free (l : Launch) (D : va_G) (K : Nat → ClassId) (aP : Nat → Nat) (aL : Nat → Nat) (P : Rc) (L : Rc) (p1 : Int32) (z : Int32) (hz : fX1_free P L p1 = some z) : Met l yX1_free wsX1_free rmX1_free (pcR D K [.ref (aL 0), .int p1] (fl [wPlan K aP P, wLine K aL (aP 0) L])) (vp_Si (fun r => r = z)) 0 0 (fun _ => False) := by
  refine Met.ofW (cc := cX1_free) (maxL := 2) (ret := (some .int)) (by decide) rfl ?_
  intro p e s m args below meth c s₁ B hml hv
  obtain ⟨rfl, hP, hK⟩ := hv
  have C0 : cx p s m _ meth c cX1_free 2 RX1 wsX1_free (some .int) D K := ⟨⟨B.exec, B.bytes, hml, findClass_of_methodNamed B.named, atoms_spec (ws := wsX1_free) B.pre⟩, B.returns, B.notSynchronized, hK⟩
  have hl := lv_entry ([.ref (aL 0), .int p1]) (n := 2) (Nat.le_of_ble_eq_true rfl)
  rw [lg_entry_eq]
  generalize (lg_sl ([.ref (aL 0), .int p1]) ++ List.replicate (2 - (lg_sl ([.ref (aL 0), .int p1])).length) Slot.unset).toArray = ls at hl ⊢
  have hl : lv_has ls 2 [(0, .ref (aL 0)), (1, .int p1)] := hl
  exact wX1_free_0 C0 P L p1 hz hP ls (lv_sub hl [0, 1] rfl)
end SX1_free

section SX1_kindOf
/-! CardLoops$Line.kindOf(I)I -/
abbrev wsX1_kindOf : List Cond := Cond.code yX1_kindOf cX1_kindOf 2 (some .int) :: wsL_law0
abbrev rmX1_kindOf : Room := { frames := 0, cells := 0, slots := 0, locals := 0 }
variable {p : Program} {l : Launch} {e : Env} {s : State} {m : MethodId} {args : Array Value} {below : List Frame} {meth : Method} {c : Code} {D : va_G} {K : Nat → ClassId} {A : Nat → Prop} {aP : Nat → Nat} {aL : Nat → Nat} {z : Int32}
set_option maxHeartbeats 1000000 in
set_option maxRecDepth 10000 in
theorem wX1_kindOf_23 (C0 : cx p s m args meth c cX1_kindOf 2 RX1 wsX1_kindOf (some .int) D K) (P : Rc) (L : Rc) (h : fX1_kindOf_23 P L = some z) (hP : va_P D vwCl (fl [wPlan K aP P, wLine K aL (aP 0) L]) s.heap) (ls : Array Slot) (hl : lv_has ls 2 []) : W p l e rmX1_kindOf s m args below meth c s.heap [] 0 0 (MQ below (vp_Si (fun r => r = z)) args s 0 0 (fun _ => False)) (F0 m 23 ls []) := by
  unfold fX1_kindOf_23 at h
  refine r_iconst C0 (nI 0) dX1_kindOf_23 (by decide) ?_
  exact r_iretR C0 h dX1_kindOf_24
set_option maxHeartbeats 1000000 in
set_option maxRecDepth 10000 in
theorem wX1_kindOf_0 (C0 : cx p s m args meth c cX1_kindOf 2 RX1 wsX1_kindOf (some .int) D K) (P : Rc) (L : Rc) (x1 : Int32) (h : fX1_kindOf P L x1 = some z) (hP : va_P D vwCl (fl [wPlan K aP P, wLine K aL (aP 0) L]) s.heap) (ls : Array Slot) (hl : lv_has ls 2 [(0, .ref (aL 0)), (1, .int x1)]) : W p l e rmX1_kindOf s m args below meth c s.heap [] 0 0 (MQ below (vp_Si (fun r => r = z)) args s 0 0 (fun _ => False)) (F0 m 0 ls []) := by
  unfold fX1_kindOf at h
  refine r_aload_n C0 dX1_kindOf_0 hl 0 rfl ?_
  refine r_get C0 1 inx1 hP 7 rfl rfl 0 (by decide) (mc wd3_19) (.ref (aP 0)) rfl dX1_kindOf_1 ?_
  refine r_get C0 3 inx3 hP 0 rfl rfl 9 (by decide) (mc wd14_19) (.int (P 9 0)) rfl dX1_kindOf_4 ?_
  refine r_iconst C0 (nI 1) dX1_kindOf_7 (by decide) ?_
  refine r_icmp_lt h C0 23 dX1_kindOf_8 (by decide) (fun h => ?_) (fun h => ?_)
  · exact wX1_kindOf_23 C0 P L h hP _ (lv_sub hl [] rfl)
  · refine r_aload_n C0 dX1_kindOf_11 hl 0 rfl ?_
    refine r_get C0 1 inx1 hP 7 rfl rfl 7 (by decide) (mc wd3_15) (.int (L 7 0)) rfl dX1_kindOf_12 ?_
    refine r_iconst C0 (nI 1) dX1_kindOf_15 (by decide) ?_
    refine r_icmp_lt h C0 23 dX1_kindOf_16 (by decide) (fun h => ?_) (fun h => ?_)
    · exact wX1_kindOf_23 C0 P L h hP _ (lv_sub hl [] rfl)
    · refine r_iload_n C0 dX1_kindOf_19 hl 1 rfl ?_
      refine r_if_ge h C0 25 dX1_kindOf_20 (by decide) (fun h => ?_) (fun h => ?_)
      · refine r_aload_n C0 dX1_kindOf_25 hl 0 rfl ?_
        refine r_get C0 1 inx1 hP 7 rfl rfl 0 (by decide) (mc wd3_19) (.ref (aP 0)) rfl dX1_kindOf_26 ?_
        refine r_get C0 3 inx3 hP 0 rfl rfl 5 (by decide) (mc wd14_20) (.ref (aP 6)) rfl dX1_kindOf_29 ?_
        refine r_iload_n C0 dX1_kindOf_32 hl 1 rfl ?_
        refine r_aload_n C0 dX1_kindOf_33 hl 0 rfl ?_
        refine r_get C0 1 inx1 hP 7 rfl rfl 7 (by decide) (mc wd3_15) (.int (L 7 0)) rfl dX1_kindOf_34 ?_
        refine r_idiv h C0 dX1_kindOf_37 (fun h => ?_)
        refine r_aload_n C0 dX1_kindOf_38 hl 0 rfl ?_
        refine r_get C0 1 inx1 hP 7 rfl rfl 0 (by decide) (mc wd3_19) (.ref (aP 0)) rfl dX1_kindOf_39 ?_
        refine r_get C0 3 inx3 hP 0 rfl rfl 9 (by decide) (mc wd14_19) (.int (P 9 0)) rfl dX1_kindOf_42 ?_
        refine r_irem h C0 dX1_kindOf_45 (fun h => ?_)
        refine r_iald h C0 hP 6 rfl dX1_kindOf_46 (fun h => ?_)
        exact r_iretR C0 h dX1_kindOf_47
      · exact wX1_kindOf_23 C0 P L h hP _ (lv_sub hl [] rfl)
set_option maxHeartbeats 1000000 in
set_option maxRecDepth 10000 in
theorem ctX1_kindOf (l : Launch) (D : va_G) (K : Nat → ClassId) (aP : Nat → Nat) (aL : Nat → Nat) (P : Rc) (L : Rc) (p1 : Int32) (z : Int32) (hz : fX1_kindOf P L p1 = some z) : Met l yX1_kindOf wsX1_kindOf rmX1_kindOf (pcR D K [.ref (aL 0), .int p1] (fl [wPlan K aP P, wLine K aL (aP 0) L])) (vp_Si (fun r => r = z)) 0 0 (fun _ => False) := by
  refine Met.ofW (cc := cX1_kindOf) (maxL := 2) (ret := (some .int)) (by decide) rfl ?_
  intro p e s m args below meth c s₁ B hml hv
  obtain ⟨rfl, hP, hK⟩ := hv
  have C0 : cx p s m _ meth c cX1_kindOf 2 RX1 wsX1_kindOf (some .int) D K := ⟨⟨B.exec, B.bytes, hml, findClass_of_methodNamed B.named, atoms_spec (ws := wsX1_kindOf) B.pre⟩, B.returns, B.notSynchronized, hK⟩
  have hl := lv_entry ([.ref (aL 0), .int p1]) (n := 2) (Nat.le_of_ble_eq_true rfl)
  rw [lg_entry_eq]
  generalize (lg_sl ([.ref (aL 0), .int p1]) ++ List.replicate (2 - (lg_sl ([.ref (aL 0), .int p1])).length) Slot.unset).toArray = ls at hl ⊢
  have hl : lv_has ls 2 [(0, .ref (aL 0)), (1, .int p1)] := hl
  exact wX1_kindOf_0 C0 P L p1 hz hP ls (lv_sub hl [0, 1] rfl)
end SX1_kindOf

section SX1_kindAt
/-! CardLoops$Line.kindAt(I)I -/
abbrev wsX1_kindAt : List Cond := Cond.code yX1_kindAt cX1_kindAt 2 (some .int) :: wsL_law0
abbrev rmX1_kindAt : Room := { frames := 1, cells := 0, slots := 0, locals := 21 }
variable {p : Program} {l : Launch} {e : Env} {s : State} {m : MethodId} {args : Array Value} {below : List Frame} {meth : Method} {c : Code} {D : va_G} {K : Nat → ClassId} {A : Nat → Prop} {aP : Nat → Nat} {aL : Nat → Nat} {z : Int32}
set_option maxHeartbeats 1000000 in
set_option maxRecDepth 10000 in
theorem wX1_kindAt_0 (C0 : cx p s m args meth c cX1_kindAt 2 RX1 wsX1_kindAt (some .int) D K) (P : Rc) (L : Rc) (x1 : Int32) (h : fX1_kindAt P L x1 = some z) (hP : va_P D vwCl (fl [wPlan K aP P, wLine K aL (aP 0) L]) s.heap) (ls : Array Slot) (hl : lv_has ls 2 [(0, .ref (aL 0)), (1, .int x1)]) : W p l e rmX1_kindAt s m args below meth c s.heap [] 0 0 (MQ below (vp_Si (fun r => r = z)) args s 0 0 (fun _ => False)) (F0 m 0 ls []) := by
  unfold fX1_kindAt at h
  refine r_aload_n C0 dX1_kindAt_0 hl 0 rfl ?_
  refine r_iload_n C0 dX1_kindAt_1 hl 1 rfl ?_
  obtain ⟨z1, hz1, h⟩ := bnd_some h
  have hPc := vaP_sel (Wc := [wLine K aL (aP 0) L]) hP [1] rfl
  refine r_cI (va_runV (As := [.int x1]) (rest := []) C0.1 (ctX1_isIdle l D K aL (aP 0) L x1 z1 hz1) (cwV 1 C0.1.2.2.2.2 (gdV wd13_7 wd13_8 wd13_9 wd1_23 wd13_10) rfl rfl rfl (by decide +kernel) ⟨Nat.le_of_ble_eq_true rfl, Nat.le_of_ble_eq_true rfl⟩) ⟨pcR_blind, va_recv C0.2.2.2.1 hPc (ci := 1) (q0 := 0) rfl rfl, pcR_of hPc C0.2.2.2⟩ rfl rfl hl.1 rfl (lv_room (Nat.le_of_ble_eq_true rfl)) dX1_kindAt_2 ⟨Nat.zero_le _, Nat.zero_le _⟩).run ?_
  refine r_if_eq h C0 12 dX1_kindAt_5 (by decide) (fun h => ?_) (fun h => ?_)
  · refine r_aload_n C0 dX1_kindAt_12 hl 0 rfl ?_
    refine r_aload_n C0 dX1_kindAt_13 hl 0 rfl ?_
    refine r_get C0 1 inx1 hP 7 rfl rfl 1 (by decide) (mc wd3_9) (.ref (aL 2)) rfl dX1_kindAt_14 ?_
    refine r_iload_n C0 dX1_kindAt_17 hl 1 rfl ?_
    refine r_iald h C0 hP 8 rfl dX1_kindAt_18 (fun h => ?_)
    refine r_iconst C0 (nI 1) dX1_kindAt_19 (by decide) ?_
    refine r_isub C0 dX1_kindAt_20 ?_
    obtain ⟨z2, hz2, h⟩ := bnd_some h
    have hPc := vaP_sel (Wc := [wPlan K aP P, wLine K aL (aP 0) L]) hP [0, 1] rfl
    refine r_cI (va_runV (As := [.int ((L 1 x1.toNatClampNeg) - (nI 1))]) (rest := []) C0.1 (ctX1_kindOf l D K aP aL P L ((L 1 x1.toNatClampNeg) - (nI 1)) z2 hz2) (cwV 1 C0.1.2.2.2.2 (gdV wd14_15 wd14_16 wd14_17 wd1_23 wd14_18) rfl rfl rfl (by decide +kernel) ⟨Nat.le_of_ble_eq_true rfl, Nat.le_of_ble_eq_true rfl⟩) ⟨pcR_blind, va_recv C0.2.2.2.1 hPc (ci := 1) (q0 := 7) rfl rfl, pcR_of hPc C0.2.2.2⟩ rfl rfl hl.1 rfl (lv_room (Nat.le_of_ble_eq_true rfl)) dX1_kindAt_21 ⟨Nat.zero_le _, Nat.zero_le _⟩).run ?_
    exact r_iretR C0 h dX1_kindAt_24
  · refine r_iconst C0 (-1 : Int32) dX1_kindAt_8 (by decide) ?_
    refine r_goto C0 24 dX1_kindAt_9 (by decide) ?_
    exact r_iretR C0 h dX1_kindAt_24
set_option maxHeartbeats 1000000 in
set_option maxRecDepth 10000 in
theorem ctX1_kindAt (l : Launch) (D : va_G) (K : Nat → ClassId) (aP : Nat → Nat) (aL : Nat → Nat) (P : Rc) (L : Rc) (p1 : Int32) (z : Int32) (hz : fX1_kindAt P L p1 = some z) : Met l yX1_kindAt wsX1_kindAt rmX1_kindAt (pcR D K [.ref (aL 0), .int p1] (fl [wPlan K aP P, wLine K aL (aP 0) L])) (vp_Si (fun r => r = z)) 0 0 (fun _ => False) := by
  refine Met.ofW (cc := cX1_kindAt) (maxL := 2) (ret := (some .int)) (by decide) rfl ?_
  intro p e s m args below meth c s₁ B hml hv
  obtain ⟨rfl, hP, hK⟩ := hv
  have C0 : cx p s m _ meth c cX1_kindAt 2 RX1 wsX1_kindAt (some .int) D K := ⟨⟨B.exec, B.bytes, hml, findClass_of_methodNamed B.named, atoms_spec (ws := wsX1_kindAt) B.pre⟩, B.returns, B.notSynchronized, hK⟩
  have hl := lv_entry ([.ref (aL 0), .int p1]) (n := 2) (Nat.le_of_ble_eq_true rfl)
  rw [lg_entry_eq]
  generalize (lg_sl ([.ref (aL 0), .int p1]) ++ List.replicate (2 - (lg_sl ([.ref (aL 0), .int p1])).length) Slot.unset).toArray = ls at hl ⊢
  have hl : lv_has ls 2 [(0, .ref (aL 0)), (1, .int p1)] := hl
  exact wX1_kindAt_0 C0 P L p1 hz hP ls (lv_sub hl [0, 1] rfl)
end SX1_kindAt

section SX1_placeInRuns
/-! CardLoops$Line.placeInRuns()I -/
abbrev wsX1_placeInRuns : List Cond := Cond.code yX1_placeInRuns cX1_placeInRuns 2 (some .int) :: wsL_law0
abbrev rmX1_placeInRuns : Room := { frames := 0, cells := 0, slots := 0, locals := 0 }
variable {p : Program} {l : Launch} {e : Env} {s : State} {m : MethodId} {args : Array Value} {below : List Frame} {meth : Method} {c : Code} {D : va_G} {K : Nat → ClassId} {A : Nat → Prop} {aP : Nat → Nat} {aL : Nat → Nat} {z : Int32}
set_option maxHeartbeats 1000000 in
set_option maxRecDepth 10000 in
theorem wX1_placeInRuns_0 (C0 : cx p s m args meth c cX1_placeInRuns 2 RX1 wsX1_placeInRuns (some .int) D K) (P : Rc) (L : Rc) (h : fX1_placeInRuns P L = some z) (hP : va_P D vwCl (fl [wPlan K aP P, wLine K aL (aP 0) L]) s.heap) (ls : Array Slot) (hl : lv_has ls 2 [(0, .ref (aL 0))]) : W p l e rmX1_placeInRuns s m args below meth c s.heap [] 0 0 (MQ below (vp_Si (fun r => r = z)) args s 0 0 (fun _ => False)) (F0 m 0 ls []) := by
  unfold fX1_placeInRuns at h
  refine r_aload_n C0 dX1_placeInRuns_0 hl 0 rfl ?_
  refine r_get C0 1 inx1 hP 7 rfl rfl 0 (by decide) (mc wd3_19) (.ref (aP 0)) rfl dX1_placeInRuns_1 ?_
  refine r_get C0 3 inx3 hP 0 rfl rfl 9 (by decide) (mc wd14_19) (.int (P 9 0)) rfl dX1_placeInRuns_4 ?_
  refine r_aload_n C0 dX1_placeInRuns_7 hl 0 rfl ?_
  refine r_get C0 1 inx1 hP 7 rfl rfl 7 (by decide) (mc wd3_15) (.int (L 7 0)) rfl dX1_placeInRuns_8 ?_
  refine r_imul C0 dX1_placeInRuns_11 ?_
  refine r_istore_n h C0 (fun v1 => [(1, .int v1), (0, .ref (aL 0))]) dX1_placeInRuns_12 hl (by decide) (fun _ => rfl) (fun v1 ls h hl => ?_)
  refine r_iload_n C0 dX1_placeInRuns_13 hl 0 rfl ?_
  refine r_iconst C0 (nI 1) dX1_placeInRuns_14 (by decide) ?_
  refine r_icmp_ge h C0 22 dX1_placeInRuns_15 (by decide) (fun h => ?_) (fun h => ?_)
  · refine r_aload_n C0 dX1_placeInRuns_22 hl 1 rfl ?_
    refine r_get C0 1 inx1 hP 7 rfl rfl 1 (by decide) (mc wd3_9) (.ref (aL 2)) rfl dX1_placeInRuns_23 ?_
    refine r_iconst C0 (nI 0) dX1_placeInRuns_26 (by decide) ?_
    refine r_ialdC C0 hP 8 rfl 0 (by decide) dX1_placeInRuns_27 ?_
    refine r_iload_n C0 dX1_placeInRuns_28 hl 0 rfl ?_
    refine r_irem h C0 dX1_placeInRuns_29 (fun h => ?_)
    exact r_iretR C0 h dX1_placeInRuns_30
  · refine r_iconst C0 (nI 0) dX1_placeInRuns_18 (by decide) ?_
    refine r_goto C0 30 dX1_placeInRuns_19 (by decide) ?_
    exact r_iretR C0 h dX1_placeInRuns_30
set_option maxHeartbeats 1000000 in
set_option maxRecDepth 10000 in
theorem ctX1_placeInRuns (l : Launch) (D : va_G) (K : Nat → ClassId) (aP : Nat → Nat) (aL : Nat → Nat) (P : Rc) (L : Rc) (z : Int32) (hz : fX1_placeInRuns P L = some z) : Met l yX1_placeInRuns wsX1_placeInRuns rmX1_placeInRuns (pcR D K [.ref (aL 0)] (fl [wPlan K aP P, wLine K aL (aP 0) L])) (vp_Si (fun r => r = z)) 0 0 (fun _ => False) := by
  refine Met.ofW (cc := cX1_placeInRuns) (maxL := 2) (ret := (some .int)) (by decide) rfl ?_
  intro p e s m args below meth c s₁ B hml hv
  obtain ⟨rfl, hP, hK⟩ := hv
  have C0 : cx p s m _ meth c cX1_placeInRuns 2 RX1 wsX1_placeInRuns (some .int) D K := ⟨⟨B.exec, B.bytes, hml, findClass_of_methodNamed B.named, atoms_spec (ws := wsX1_placeInRuns) B.pre⟩, B.returns, B.notSynchronized, hK⟩
  have hl := lv_entry ([.ref (aL 0)]) (n := 2) (Nat.le_of_ble_eq_true rfl)
  rw [lg_entry_eq]
  generalize (lg_sl ([.ref (aL 0)]) ++ List.replicate (2 - (lg_sl ([.ref (aL 0)])).length) Slot.unset).toArray = ls at hl ⊢
  have hl : lv_has ls 2 [(0, .ref (aL 0))] := hl
  exact wX1_placeInRuns_0 C0 P L hz hP ls (lv_sub hl [0] rfl)
end SX1_placeInRuns

section SX1_setUpAt
/-! CardLoops$Line.setUpAt(I)I -/
abbrev wsX1_setUpAt : List Cond := Cond.code yX1_setUpAt cX1_setUpAt 2 (some .int) :: wsL_law0
abbrev rmX1_setUpAt : Room := { frames := 0, cells := 0, slots := 0, locals := 0 }
variable {p : Program} {l : Launch} {e : Env} {s : State} {m : MethodId} {args : Array Value} {below : List Frame} {meth : Method} {c : Code} {D : va_G} {K : Nat → ClassId} {A : Nat → Prop} {aP : Nat → Nat} {aL : Nat → Nat} {z : Int32}
set_option maxHeartbeats 1000000 in
set_option maxRecDepth 10000 in
theorem wX1_setUpAt_0 (C0 : cx p s m args meth c cX1_setUpAt 2 RX1 wsX1_setUpAt (some .int) D K) (P : Rc) (L : Rc) (x1 : Int32) (h : fX1_setUpAt P L x1 = some z) (hP : va_P D vwCl (fl [wPlan K aP P, wLine K aL (aP 0) L]) s.heap) (ls : Array Slot) (hl : lv_has ls 2 [(0, .ref (aL 0)), (1, .int x1)]) : W p l e rmX1_setUpAt s m args below meth c s.heap [] 0 0 (MQ below (vp_Si (fun r => r = z)) args s 0 0 (fun _ => False)) (F0 m 0 ls []) := by
  unfold fX1_setUpAt at h
  refine r_aload_n C0 dX1_setUpAt_0 hl 0 rfl ?_
  refine r_get C0 1 inx1 hP 7 rfl rfl 3 (by decide) (mc wd3_11) (.ref (aL 4)) rfl dX1_setUpAt_1 ?_
  refine r_iload_n C0 dX1_setUpAt_4 hl 1 rfl ?_
  refine r_iald h C0 hP 10 rfl dX1_setUpAt_5 (fun h => ?_)
  refine r_aload_n C0 dX1_setUpAt_6 hl 0 rfl ?_
  refine r_get C0 1 inx1 hP 7 rfl rfl 0 (by decide) (mc wd3_19) (.ref (aP 0)) rfl dX1_setUpAt_7 ?_
  refine r_get C0 3 inx3 hP 0 rfl rfl 0 (by decide) (mc wd14_14) (.ref (aP 1)) rfl dX1_setUpAt_10 ?_
  refine r_iload_n C0 dX1_setUpAt_13 hl 1 rfl ?_
  refine r_iald h C0 hP 1 rfl dX1_setUpAt_14 (fun h => ?_)
  refine r_isub C0 dX1_setUpAt_15 ?_
  exact r_iretR C0 h dX1_setUpAt_16
set_option maxHeartbeats 1000000 in
set_option maxRecDepth 10000 in
theorem ctX1_setUpAt (l : Launch) (D : va_G) (K : Nat → ClassId) (aP : Nat → Nat) (aL : Nat → Nat) (P : Rc) (L : Rc) (p1 : Int32) (z : Int32) (hz : fX1_setUpAt P L p1 = some z) : Met l yX1_setUpAt wsX1_setUpAt rmX1_setUpAt (pcR D K [.ref (aL 0), .int p1] (fl [wPlan K aP P, wLine K aL (aP 0) L])) (vp_Si (fun r => r = z)) 0 0 (fun _ => False) := by
  refine Met.ofW (cc := cX1_setUpAt) (maxL := 2) (ret := (some .int)) (by decide) rfl ?_
  intro p e s m args below meth c s₁ B hml hv
  obtain ⟨rfl, hP, hK⟩ := hv
  have C0 : cx p s m _ meth c cX1_setUpAt 2 RX1 wsX1_setUpAt (some .int) D K := ⟨⟨B.exec, B.bytes, hml, findClass_of_methodNamed B.named, atoms_spec (ws := wsX1_setUpAt) B.pre⟩, B.returns, B.notSynchronized, hK⟩
  have hl := lv_entry ([.ref (aL 0), .int p1]) (n := 2) (Nat.le_of_ble_eq_true rfl)
  rw [lg_entry_eq]
  generalize (lg_sl ([.ref (aL 0), .int p1]) ++ List.replicate (2 - (lg_sl ([.ref (aL 0), .int p1])).length) Slot.unset).toArray = ls at hl ⊢
  have hl : lv_has ls 2 [(0, .ref (aL 0)), (1, .int p1)] := hl
  exact wX1_setUpAt_0 C0 P L p1 hz hP ls (lv_sub hl [0, 1] rfl)
end SX1_setUpAt

section SX1_stateOf
/-! CardLoops$Line.stateOf(I)I -/
abbrev wsX1_stateOf : List Cond := Cond.code yX1_stateOf cX1_stateOf 2 (some .int) :: wsL_law0
abbrev rmX1_stateOf : Room := { frames := 1, cells := 0, slots := 0, locals := 21 }
variable {p : Program} {l : Launch} {e : Env} {s : State} {m : MethodId} {args : Array Value} {below : List Frame} {meth : Method} {c : Code} {D : va_G} {K : Nat → ClassId} {A : Nat → Prop} {aP : Nat → Nat} {aL : Nat → Nat} {z : Int32}
set_option maxHeartbeats 1000000 in
set_option maxRecDepth 10000 in
theorem wX1_stateOf_38 (C0 : cx p s m args meth c cX1_stateOf 2 RX1 wsX1_stateOf (some .int) D K) (P : Rc) (L : Rc) (h : fX1_stateOf_38 P L = some z) (hP : va_P D vwCl (fl [wPlan K aP P, wLine K aL (aP 0) L]) s.heap) (ls : Array Slot) (hl : lv_has ls 2 []) : W p l e rmX1_stateOf s m args below meth c s.heap [] 0 0 (MQ below (vp_Si (fun r => r = z)) args s 0 0 (fun _ => False)) (F0 m 38 ls []) := by
  unfold fX1_stateOf_38 at h
  refine r_iconst C0 (nI 1) dX1_stateOf_38 (by decide) ?_
  refine r_goto C0 43 dX1_stateOf_39 (by decide) ?_
  exact r_iretR C0 h dX1_stateOf_43
set_option maxHeartbeats 1000000 in
set_option maxRecDepth 10000 in
theorem wX1_stateOf_0 (C0 : cx p s m args meth c cX1_stateOf 2 RX1 wsX1_stateOf (some .int) D K) (P : Rc) (L : Rc) (x1 : Int32) (h : fX1_stateOf P L x1 = some z) (hP : va_P D vwCl (fl [wPlan K aP P, wLine K aL (aP 0) L]) s.heap) (ls : Array Slot) (hl : lv_has ls 2 [(0, .ref (aL 0)), (1, .int x1)]) : W p l e rmX1_stateOf s m args below meth c s.heap [] 0 0 (MQ below (vp_Si (fun r => r = z)) args s 0 0 (fun _ => False)) (F0 m 0 ls []) := by
  unfold fX1_stateOf at h
  refine r_aload_n C0 dX1_stateOf_0 hl 0 rfl ?_
  refine r_iload_n C0 dX1_stateOf_1 hl 1 rfl ?_
  obtain ⟨z1, hz1, h⟩ := bnd_some h
  have hPc := vaP_sel (Wc := [wLine K aL (aP 0) L]) hP [1] rfl
  refine r_cI (va_runV (As := [.int x1]) (rest := []) C0.1 (ctX1_isIdle l D K aL (aP 0) L x1 z1 hz1) (cwV 1 C0.1.2.2.2.2 (gdV wd13_7 wd13_8 wd13_9 wd1_23 wd13_10) rfl rfl rfl (by decide +kernel) ⟨Nat.le_of_ble_eq_true rfl, Nat.le_of_ble_eq_true rfl⟩) ⟨pcR_blind, va_recv C0.2.2.2.1 hPc (ci := 1) (q0 := 0) rfl rfl, pcR_of hPc C0.2.2.2⟩ rfl rfl hl.1 rfl (lv_room (Nat.le_of_ble_eq_true rfl)) dX1_stateOf_2 ⟨Nat.zero_le _, Nat.zero_le _⟩).run ?_
  refine r_if_ne h C0 26 dX1_stateOf_5 (by decide) (fun h => ?_) (fun h => ?_)
  · refine r_iload_n C0 dX1_stateOf_26 hl 1 rfl ?_
    refine r_if_eq h C0 38 dX1_stateOf_27 (by decide) (fun h => ?_) (fun h => ?_)
    · exact wX1_stateOf_38 C0 P L h hP _ (lv_sub hl [] rfl)
    · refine r_aload_n C0 dX1_stateOf_30 hl 0 rfl ?_
      refine r_iload_n C0 dX1_stateOf_31 hl 1 rfl ?_
      obtain ⟨z2, hz2, h⟩ := bnd_some h
      have hPc := vaP_sel (Wc := [wLine K aL (aP 0) L]) hP [1] rfl
      refine r_cI (va_runV (As := [.int x1]) (rest := []) C0.1 (ctX1_waiting l D K aL (aP 0) L x1 z2 hz2) (cwV 1 C0.1.2.2.2.2 (gdV wd14_0 wd14_1 wd14_2 wd1_23 wd14_3) rfl rfl rfl (by decide +kernel) ⟨Nat.le_of_ble_eq_true rfl, Nat.le_of_ble_eq_true rfl⟩) ⟨pcR_blind, va_recv C0.2.2.2.1 hPc (ci := 1) (q0 := 0) rfl rfl, pcR_of hPc C0.2.2.2⟩ rfl rfl hl.1 rfl (lv_room (Nat.le_of_ble_eq_true rfl)) dX1_stateOf_32 ⟨Nat.zero_le _, Nat.zero_le _⟩).run ?_
      refine r_if_le h C0 42 dX1_stateOf_35 (by decide) (fun h => ?_) (fun h => ?_)
      · refine r_iconst C0 (nI 0) dX1_stateOf_42 (by decide) ?_
        exact r_iretR C0 h dX1_stateOf_43
      · exact wX1_stateOf_38 C0 P L h hP _ (lv_sub hl [] rfl)
  · refine r_aload_n C0 dX1_stateOf_8 hl 0 rfl ?_
    refine r_get C0 1 inx1 hP 7 rfl rfl 8 (by decide) (mc wd3_16) (.int (L 8 0)) rfl dX1_stateOf_9 ?_
    refine r_aload_n C0 dX1_stateOf_12 hl 0 rfl ?_
    refine r_iload_n C0 dX1_stateOf_13 hl 1 rfl ?_
    obtain ⟨z3, hz3, h⟩ := bnd_some h
    have hPc := vaP_sel (Wc := [wPlan K aP P, wLine K aL (aP 0) L]) hP [0, 1] rfl
    refine r_cI (va_runV (As := [.int x1]) (rest := [.int (L 8 0)]) C0.1 (ctX1_setUpAt l D K aP aL P L x1 z3 hz3) (cwV 1 C0.1.2.2.2.2 (gdV wd22_7 wd22_8 wd22_9 wd1_23 wd22_10) rfl rfl rfl (by decide +kernel) ⟨Nat.le_of_ble_eq_true rfl, Nat.le_of_ble_eq_true rfl⟩) ⟨pcR_blind, va_recv C0.2.2.2.1 hPc (ci := 1) (q0 := 7) rfl rfl, pcR_of hPc C0.2.2.2⟩ rfl rfl hl.1 rfl (lv_room (Nat.le_of_ble_eq_true rfl)) dX1_stateOf_14 ⟨Nat.zero_le _, Nat.zero_le _⟩).run ?_
    refine r_icmp_ge h C0 24 dX1_stateOf_17 (by decide) (fun h => ?_) (fun h => ?_)
    · refine r_iconst C0 (nI 3) dX1_stateOf_24 (by decide) ?_
      exact r_iretR C0 h dX1_stateOf_25
    · refine r_iconst C0 (nI 2) dX1_stateOf_20 (by decide) ?_
      refine r_goto C0 25 dX1_stateOf_21 (by decide) ?_
      exact r_iretR C0 h dX1_stateOf_25
set_option maxHeartbeats 1000000 in
set_option maxRecDepth 10000 in
theorem ctX1_stateOf (l : Launch) (D : va_G) (K : Nat → ClassId) (aP : Nat → Nat) (aL : Nat → Nat) (P : Rc) (L : Rc) (p1 : Int32) (z : Int32) (hz : fX1_stateOf P L p1 = some z) : Met l yX1_stateOf wsX1_stateOf rmX1_stateOf (pcR D K [.ref (aL 0), .int p1] (fl [wPlan K aP P, wLine K aL (aP 0) L])) (vp_Si (fun r => r = z)) 0 0 (fun _ => False) := by
  refine Met.ofW (cc := cX1_stateOf) (maxL := 2) (ret := (some .int)) (by decide) rfl ?_
  intro p e s m args below meth c s₁ B hml hv
  obtain ⟨rfl, hP, hK⟩ := hv
  have C0 : cx p s m _ meth c cX1_stateOf 2 RX1 wsX1_stateOf (some .int) D K := ⟨⟨B.exec, B.bytes, hml, findClass_of_methodNamed B.named, atoms_spec (ws := wsX1_stateOf) B.pre⟩, B.returns, B.notSynchronized, hK⟩
  have hl := lv_entry ([.ref (aL 0), .int p1]) (n := 2) (Nat.le_of_ble_eq_true rfl)
  rw [lg_entry_eq]
  generalize (lg_sl ([.ref (aL 0), .int p1]) ++ List.replicate (2 - (lg_sl ([.ref (aL 0), .int p1])).length) Slot.unset).toArray = ls at hl ⊢
  have hl : lv_has ls 2 [(0, .ref (aL 0)), (1, .int p1)] := hl
  exact wX1_stateOf_0 C0 P L p1 hz hP ls (lv_sub hl [0, 1] rfl)
end SX1_stateOf

section SX1_finish
/-! CardLoops$Line.finish(I)V -/
abbrev wsX1_finish : List Cond := Cond.code yX1_finish cX1_finish 3 none :: wsL_law0
abbrev rmX1_finish : Room := { frames := 1, cells := 0, slots := 0, locals := 14 }
variable {p : Program} {l : Launch} {e : Env} {s : State} {m : MethodId} {args : Array Value} {below : List Frame} {meth : Method} {c : Code} {D : va_G} {K : Nat → ClassId} {A : Nat → Prop} {aP : Nat → Nat} {aL : Nat → Nat} {z : Rc}
set_option maxHeartbeats 1000000 in
set_option maxRecDepth 10000 in
theorem wX1_finish_0 (C0 : cx p s m args meth c cX1_finish 3 RX1 wsX1_finish none D K) (hA : ∀ q, s.heap.size ≤ q → A q) (P : Rc) (L : Rc) (x1 : Int32) (h : fX1_finish P L x1 = some z) (H : Heap) (locs : List Loc) (hP : va_P D vwCl (fl [wPlan K aP P, wLine K aL (aP 0) L]) H) (hD : va_D A (fl [wPlan K aP P, wLine K aL (aP 0) L])) (hS : va_S A s.heap H locs) (ls : Array Slot) (hl : lv_has ls 3 [(0, .ref (aL 0)), (1, .int x1)]) : W p l e rmX1_finish s m args below meth c H locs 0 0 (MQ below (qcV D z (fun (u : Rc) => (fl [wPlan K aP P, wLine K aL (aP 0) u])) A) args s 0 0 A) (F0 m 0 ls []) := by
  unfold fX1_finish at h
  refine r_aload_n C0 dX1_finish_0 hl 0 rfl ?_
  refine r_get C0 1 inx1 hP 7 rfl rfl 2 (by decide) (mc wd3_10) (.ref (aL 3)) rfl dX1_finish_1 ?_
  refine r_iload_n C0 dX1_finish_4 hl 1 rfl ?_
  refine r_iald h C0 hP 9 rfl dX1_finish_5 (fun h => ?_)
  refine r_istore_n h C0 (fun v1 => [(2, .int v1), (0, .ref (aL 0)), (1, .int x1)]) dX1_finish_6 hl (by decide) (fun _ => rfl) (fun v1 ls h hl => ?_)
  refine r_aload_n C0 dX1_finish_7 hl 1 rfl ?_
  refine r_get C0 1 inx1 hP 7 rfl rfl 2 (by decide) (mc wd3_10) (.ref (aL 3)) rfl dX1_finish_8 ?_
  refine r_iload_n C0 dX1_finish_11 hl 2 rfl ?_
  refine r_dup2 C0 dX1_finish_12 rfl rfl ?_
  refine r_iald h C0 hP 9 rfl dX1_finish_13 (fun h => ?_)
  refine r_iconst C0 (nI 1) dX1_finish_14 (by decide) ?_
  refine r_iadd C0 dX1_finish_15 ?_
  refine r_iast h C0 hP hD hS 9 (fun uu => (fl [wPlan K aP P, wLine K aL (aP 0) uu])) rfl rfl dX1_finish_16 (fun L2 H locs h hP hD hS => ?_)
  refine r_iload_n C0 dX1_finish_17 hl 2 rfl ?_
  refine r_aload_n C0 dX1_finish_18 hl 1 rfl ?_
  refine r_get C0 1 inx1 hP 7 rfl rfl 0 (by decide) (mc wd3_19) (.ref (aP 0)) rfl dX1_finish_19 ?_
  refine r_get C0 3 inx3 hP 0 rfl rfl 6 (by decide) (mc wd13_6) (.int (P 6 0)) rfl dX1_finish_22 ?_
  refine r_iconst C0 (nI 1) dX1_finish_25 (by decide) ?_
  refine r_isub C0 dX1_finish_26 ?_
  refine r_icmp_ne h C0 63 dX1_finish_27 (by decide) (fun h => ?_) (fun h => ?_)
  · exact r_vret h C0 (fun (u : Rc) => (fl [wPlan K aP P, wLine K aL (aP 0) u])) hP hD hS dX1_finish_63
  · refine r_aload_n C0 dX1_finish_30 hl 1 rfl ?_
    refine r_aload_n C0 dX1_finish_31 hl 1 rfl ?_
    refine r_get C0 1 inx1 hP 7 rfl rfl 8 (by decide) (mc wd3_16) (.int (L2 8 0)) rfl dX1_finish_32 ?_
    refine r_aload_n C0 dX1_finish_35 hl 1 rfl ?_
    refine r_get C0 1 inx1 hP 7 rfl rfl 5 (by decide) (mc wd3_13) (.ref (aL 6)) rfl dX1_finish_36 ?_
    refine r_iload_n C0 dX1_finish_39 hl 0 rfl ?_
    refine r_bipush C0 (nI 20) dX1_finish_40 (by decide) ?_
    refine r_iremC C0 (by decide) dX1_finish_42 ?_
    refine r_iald h C0 hP 12 rfl dX1_finish_43 (fun h => ?_)
    refine r_isub C0 dX1_finish_44 ?_
    refine r_put (ty := .int) h C0 1 inx1 tyX1 tyX1_ok nmX1 hP hD hS 7 (fun uu => (fl [wPlan K aP P, wLine K aL (aP 0) uu])) rfl rfl 9 (by decide) (mc wd3_17) rfl (by decide +kernel) rfl rfl (by simp) rfl dX1_finish_45 (fun L3 H locs h hP hD hS => ?_)
    refine r_aload_n C0 dX1_finish_48 hl 1 rfl ?_
    refine r_aload_n C0 dX1_finish_49 hl 1 rfl ?_
    refine r_get C0 1 inx1 hP 7 rfl rfl 10 (by decide) (mc wd3_18) (.int (L3 10 0)) rfl dX1_finish_50 ?_
    refine r_aload_n C0 dX1_finish_53 hl 1 rfl ?_
    refine r_get C0 1 inx1 hP 7 rfl rfl 9 (by decide) (mc wd3_17) (.int (L3 9 0)) rfl dX1_finish_54 ?_
    refine r_mmax C0 ⟨(mc wd13_15), (mc wd13_16), (mc wd7_12), (mc wd13_17)⟩ hl ⟨Nat.le_of_ble_eq_true rfl, Nat.le_of_ble_eq_true rfl⟩ ⟨Nat.zero_le _, Nat.zero_le _⟩ dX1_finish_57 ?_
    refine r_put (ty := .int) h C0 1 inx1 tyX1 tyX1_ok nmX1 hP hD hS 7 (fun uu => (fl [wPlan K aP P, wLine K aL (aP 0) uu])) rfl rfl 10 (by decide) (mc wd3_18) rfl (by decide +kernel) rfl rfl (by simp) rfl dX1_finish_60 (fun L4 H locs h hP hD hS => ?_)
    exact r_vret h C0 (fun (u : Rc) => (fl [wPlan K aP P, wLine K aL (aP 0) u])) hP hD hS dX1_finish_63
set_option maxHeartbeats 1000000 in
set_option maxRecDepth 10000 in
theorem ctX1_finish (l : Launch) (D : va_G) (K : Nat → ClassId) (aP : Nat → Nat) (aL : Nat → Nat) (P : Rc) (L : Rc) (p1 : Int32) (sz : Nat) (z : Rc) (hz : fX1_finish P L p1 = some z) : Met l yX1_finish wsX1_finish rmX1_finish (pcW D K [.ref (aL 0), .int p1] (fl [wPlan K aP P, wLine K aL (aP 0) L]) sz) (qcV D z (fun (u : Rc) => (fl [wPlan K aP P, wLine K aL (aP 0) u])) (va_A (fl [wPlan K aP P, wLine K aL (aP 0) L]) sz)) 0 0 (va_A (fl [wPlan K aP P, wLine K aL (aP 0) L]) sz) := by
  refine Met.ofW (cc := cX1_finish) (maxL := 3) (ret := none) (by decide) rfl ?_
  intro p e s m args below meth c s₁ B hml hv
  obtain ⟨rfl, hsz, hP, hK, hD0⟩ := hv
  subst hsz
  have C0 : cx p s m _ meth c cX1_finish 3 RX1 wsX1_finish none D K := ⟨⟨B.exec, B.bytes, hml, findClass_of_methodNamed B.named, atoms_spec (ws := wsX1_finish) B.pre⟩, B.returns, B.notSynchronized, hK⟩
  have hD := hD0.self (sz := s.heap.size)
  generalize hAe : va_A (fl [wPlan K aP P, wLine K aL (aP 0) L]) s.heap.size = A at hD ⊢
  have hA : ∀ q : Nat, s.heap.size ≤ q → A q := fun q h => by rw [← hAe]; exact Or.inr h
  have hl := lv_entry ([.ref (aL 0), .int p1]) (n := 3) (Nat.le_of_ble_eq_true rfl)
  rw [lg_entry_eq]
  generalize (lg_sl ([.ref (aL 0), .int p1]) ++ List.replicate (3 - (lg_sl ([.ref (aL 0), .int p1])).length) Slot.unset).toArray = ls at hl ⊢
  have hl : lv_has ls 3 [(0, .ref (aL 0)), (1, .int p1)] := hl
  exact wX1_finish_0 C0 hA P L p1 hz s.heap [] hP hD va_S.rf ls (lv_sub hl [0, 1] rfl)
end SX1_finish

section SX1_canBegin
/-! CardLoops$Line.canBegin(I)Z -/
abbrev wsX1_canBegin : List Cond := Cond.code yX1_canBegin cX1_canBegin 3 (some .boolean) :: wsL_law0
abbrev rmX1_canBegin : Room := { frames := 1, cells := 0, slots := 0, locals := 21 }
variable {p : Program} {l : Launch} {e : Env} {s : State} {m : MethodId} {args : Array Value} {below : List Frame} {meth : Method} {c : Code} {D : va_G} {K : Nat → ClassId} {A : Nat → Prop} {N : Nat} {aP : Nat → Nat} {aL : Nat → Nat} {z : Int32}
def IX1_canBegin_17 (p : Program) (l : Launch) (e : Env) (s : State) (m : MethodId) (args : Array Value) (below : List Frame) (meth : Method) (c : Code) (D : va_G) (K : Nat → ClassId) (aP : Nat → Nat) (aL : Nat → Nat) (z : Int32) (k : Rc → Rc → Int32 → Int32 → Option (Int32)) : Prop := ∀ (P : Rc) (L : Rc) (x1 : Int32) (x2 : Int32) (ls : Array Slot), k P L x1 x2 = some z → va_P D vwCl (fl [wPlan K aP P, wLine K aL (aP 0) L]) s.heap → lv_has ls 3 [(0, .ref (aL 0)), (1, .int x1), (2, .int x2)] → W p l e rmX1_canBegin s m args below meth c s.heap [] 0 0 (MQ below (vp_Si (fun r => r = z)) args s 0 0 (fun _ => False)) (F0 m 17 ls [])
set_option maxHeartbeats 1000000 in
set_option maxRecDepth 10000 in
theorem wX1_canBegin_52 (C0 : cx p s m args meth c cX1_canBegin 3 RX1 wsX1_canBegin (some .boolean) D K) {k17 : Rc → Rc → Int32 → Int32 → Option (Int32)} (hk17 : IX1_canBegin_17 p l e s m args below meth c D K aP aL z k17) (P : Rc) (L : Rc) (x1 : Int32) (x2 : Int32) (h : fX1_canBegin_52 N k17 P L x1 x2 = some z) (hP : va_P D vwCl (fl [wPlan K aP P, wLine K aL (aP 0) L]) s.heap) (ls : Array Slot) (hl : lv_has ls 3 [(0, .ref (aL 0)), (1, .int x1), (2, .int x2)]) : W p l e rmX1_canBegin s m args below meth c s.heap [] 0 0 (MQ below (vp_Si (fun r => r = z)) args s 0 0 (fun _ => False)) (F0 m 52 ls []) := by
  unfold fX1_canBegin_52 at h
  refine r_iinc h C0 2 (fun v1 => [(2, .int v1), (0, .ref (aL 0)), (1, .int x1)]) dX1_canBegin_52 hl rfl rfl (by decide) (fun _ => rfl) (fun v1 ls h hl => ?_)
  refine r_goto C0 17 dX1_canBegin_55 (by decide) ?_
  exact hk17 P L x1 v1 _ h hP (lv_sub hl [1, 2, 0] rfl)
set_option maxHeartbeats 1000000 in
set_option maxRecDepth 10000 in
theorem wX1_canBegin_17 (C0 : cx p s m args meth c cX1_canBegin 3 RX1 wsX1_canBegin (some .boolean) D K) {k17 : Rc → Rc → Int32 → Int32 → Option (Int32)} (hk17 : IX1_canBegin_17 p l e s m args below meth c D K aP aL z k17) (P : Rc) (L : Rc) (x1 : Int32) (x2 : Int32) (h : fX1_canBegin_17b N k17 P L x1 x2 = some z) (hP : va_P D vwCl (fl [wPlan K aP P, wLine K aL (aP 0) L]) s.heap) (ls : Array Slot) (hl : lv_has ls 3 [(0, .ref (aL 0)), (1, .int x1), (2, .int x2)]) : W p l e rmX1_canBegin s m args below meth c s.heap [] 0 0 (MQ below (vp_Si (fun r => r = z)) args s 0 0 (fun _ => False)) (F0 m 17 ls []) := by
  unfold fX1_canBegin_17b at h
  refine r_iload_n C0 dX1_canBegin_17 hl 2 rfl ?_
  refine r_aload_n C0 dX1_canBegin_18 hl 0 rfl ?_
  refine r_get C0 1 inx1 hP 7 rfl rfl 0 (by decide) (mc wd3_19) (.ref (aP 0)) rfl dX1_canBegin_19 ?_
  refine r_get C0 3 inx3 hP 0 rfl rfl 7 (by decide) (mc wd13_22) (.int (P 7 0)) rfl dX1_canBegin_22 ?_
  refine r_icmp_ge h C0 58 dX1_canBegin_25 (by decide) (fun h => ?_) (fun h => ?_)
  · refine r_iconst C0 (nI 1) dX1_canBegin_58 (by decide) ?_
    exact r_zretRC C0 h (by decide) dX1_canBegin_59
  · refine r_aload_n C0 dX1_canBegin_28 hl 0 rfl ?_
    refine r_get C0 1 inx1 hP 7 rfl rfl 0 (by decide) (mc wd3_19) (.ref (aP 0)) rfl dX1_canBegin_29 ?_
    refine r_get C0 3 inx3 hP 0 rfl rfl 2 (by decide) (mc wd13_23) (.ref (aP 3)) rfl dX1_canBegin_32 ?_
    refine r_iload_n C0 dX1_canBegin_35 hl 2 rfl ?_
    refine r_iald h C0 hP 3 rfl dX1_canBegin_36 (fun h => ?_)
    refine r_iload_n C0 dX1_canBegin_37 hl 1 rfl ?_
    refine r_icmp_ne h C0 52 dX1_canBegin_38 (by decide) (fun h => ?_) (fun h => ?_)
    · exact wX1_canBegin_52 C0 hk17 P L x1 x2 h hP _ (lv_sub hl [0, 1, 2] rfl)
    · refine r_aload_n C0 dX1_canBegin_41 hl 0 rfl ?_
      refine r_iload_n C0 dX1_canBegin_42 hl 2 rfl ?_
      obtain ⟨z1, hz1, h⟩ := bnd_some h
      have hPc := vaP_sel (Wc := [wPlan K aP P, wLine K aL (aP 0) L]) hP [0, 1] rfl
      refine r_cI (va_runV (As := [.int x2]) (rest := []) C0.1 (ctX1_free l D K aP aL P L x2 z1 hz1) (cwV 1 C0.1.2.2.2.2 (gdV wd14_4 wd14_5 wd14_6 wd1_23 wd14_7) rfl rfl rfl (by decide +kernel) ⟨Nat.le_of_ble_eq_true rfl, Nat.le_of_ble_eq_true rfl⟩) ⟨pcR_blind, va_recv C0.2.2.2.1 hPc (ci := 1) (q0 := 7) rfl rfl, pcR_of hPc C0.2.2.2⟩ rfl rfl hl.1 rfl (lv_room (Nat.le_of_ble_eq_true rfl)) dX1_canBegin_43 ⟨Nat.zero_le _, Nat.zero_le _⟩).run ?_
      refine r_iconst C0 (nI 1) dX1_canBegin_46 (by decide) ?_
      refine r_icmp_ge h C0 52 dX1_canBegin_47 (by decide) (fun h => ?_) (fun h => ?_)
      · exact wX1_canBegin_52 C0 hk17 P L x1 x2 h hP _ (lv_sub hl [0, 1, 2] rfl)
      · refine r_iconst C0 (nI 0) dX1_canBegin_50 (by decide) ?_
        exact r_zretRC C0 h (by decide) dX1_canBegin_51
theorem wX1_canBegin_17L (C0 : cx p s m args meth c cX1_canBegin 3 RX1 wsX1_canBegin (some .boolean) D K) : IX1_canBegin_17 p l e s m args below meth c D K aP aL z (fX1_canBegin_17 N) := by
  refine itn_ind (IX1_canBegin_17 p l e s m args below meth c D K aP aL z) ?_ ?_ N
  · intro _ _ _ _ _ h; cases h
  · intro k17 hk17 P L x1 x2 ls h hP hl
    exact wX1_canBegin_17 C0 hk17 P L x1 x2 h hP ls hl
set_option maxHeartbeats 1000000 in
set_option maxRecDepth 10000 in
theorem wX1_canBegin_15 (C0 : cx p s m args meth c cX1_canBegin 3 RX1 wsX1_canBegin (some .boolean) D K) (P : Rc) (L : Rc) (x1 : Int32) (h : fX1_canBegin_15 N P L x1 = some z) (hP : va_P D vwCl (fl [wPlan K aP P, wLine K aL (aP 0) L]) s.heap) (ls : Array Slot) (hl : lv_has ls 3 [(0, .ref (aL 0)), (1, .int x1)]) : W p l e rmX1_canBegin s m args below meth c s.heap [] 0 0 (MQ below (vp_Si (fun r => r = z)) args s 0 0 (fun _ => False)) (F0 m 15 ls []) := by
  unfold fX1_canBegin_15 at h
  refine r_iconst C0 (nI 0) dX1_canBegin_15 (by decide) ?_
  refine r_istore_n h C0 (fun v1 => [(2, .int v1), (0, .ref (aL 0)), (1, .int x1)]) dX1_canBegin_16 hl (by decide) (fun _ => rfl) (fun v1 ls h hl => ?_)
  exact wX1_canBegin_17L C0 P L x1 v1 _ h hP (lv_sub hl [1, 2, 0] rfl)
set_option maxHeartbeats 1000000 in
set_option maxRecDepth 10000 in
theorem wX1_canBegin_0 (C0 : cx p s m args meth c cX1_canBegin 3 RX1 wsX1_canBegin (some .boolean) D K) (P : Rc) (L : Rc) (x1 : Int32) (h : fX1_canBegin N P L x1 = some z) (hP : va_P D vwCl (fl [wPlan K aP P, wLine K aL (aP 0) L]) s.heap) (ls : Array Slot) (hl : lv_has ls 3 [(0, .ref (aL 0)), (1, .int x1)]) : W p l e rmX1_canBegin s m args below meth c s.heap [] 0 0 (MQ below (vp_Si (fun r => r = z)) args s 0 0 (fun _ => False)) (F0 m 0 ls []) := by
  unfold fX1_canBegin at h
  refine r_iload_n C0 dX1_canBegin_0 hl 1 rfl ?_
  refine r_if_le h C0 15 dX1_canBegin_1 (by decide) (fun h => ?_) (fun h => ?_)
  · exact wX1_canBegin_15 C0 P L x1 h hP _ (lv_sub hl [0, 1] rfl)
  · refine r_aload_n C0 dX1_canBegin_4 hl 0 rfl ?_
    refine r_iload_n C0 dX1_canBegin_5 hl 1 rfl ?_
    obtain ⟨z1, hz1, h⟩ := bnd_some h
    have hPc := vaP_sel (Wc := [wLine K aL (aP 0) L]) hP [1] rfl
    refine r_cI (va_runV (As := [.int x1]) (rest := []) C0.1 (ctX1_waiting l D K aL (aP 0) L x1 z1 hz1) (cwV 1 C0.1.2.2.2.2 (gdV wd14_0 wd14_1 wd14_2 wd1_23 wd14_3) rfl rfl rfl (by decide +kernel) ⟨Nat.le_of_ble_eq_true rfl, Nat.le_of_ble_eq_true rfl⟩) ⟨pcR_blind, va_recv C0.2.2.2.1 hPc (ci := 1) (q0 := 0) rfl rfl, pcR_of hPc C0.2.2.2⟩ rfl rfl hl.1 rfl (lv_room (Nat.le_of_ble_eq_true rfl)) dX1_canBegin_6 ⟨Nat.zero_le _, Nat.zero_le _⟩).run ?_
    refine r_iconst C0 (nI 1) dX1_canBegin_9 (by decide) ?_
    refine r_icmp_ge h C0 15 dX1_canBegin_10 (by decide) (fun h => ?_) (fun h => ?_)
    · exact wX1_canBegin_15 C0 P L x1 h hP _ (lv_sub hl [0, 1] rfl)
    · refine r_iconst C0 (nI 0) dX1_canBegin_13 (by decide) ?_
      exact r_zretRC C0 h (by decide) dX1_canBegin_14
set_option maxHeartbeats 1000000 in
set_option maxRecDepth 10000 in
theorem ctX1_canBegin (l : Launch) (D : va_G) (K : Nat → ClassId) (N : Nat) (aP : Nat → Nat) (aL : Nat → Nat) (P : Rc) (L : Rc) (p1 : Int32) (z : Int32) (hz : fX1_canBegin N P L p1 = some z) : Met l yX1_canBegin wsX1_canBegin rmX1_canBegin (pcR D K [.ref (aL 0), .int p1] (fl [wPlan K aP P, wLine K aL (aP 0) L])) (vp_Si (fun r => r = z)) 0 0 (fun _ => False) := by
  refine Met.ofW (cc := cX1_canBegin) (maxL := 3) (ret := (some .boolean)) (by decide) rfl ?_
  intro p e s m args below meth c s₁ B hml hv
  obtain ⟨rfl, hP, hK⟩ := hv
  have C0 : cx p s m _ meth c cX1_canBegin 3 RX1 wsX1_canBegin (some .boolean) D K := ⟨⟨B.exec, B.bytes, hml, findClass_of_methodNamed B.named, atoms_spec (ws := wsX1_canBegin) B.pre⟩, B.returns, B.notSynchronized, hK⟩
  have hl := lv_entry ([.ref (aL 0), .int p1]) (n := 3) (Nat.le_of_ble_eq_true rfl)
  rw [lg_entry_eq]
  generalize (lg_sl ([.ref (aL 0), .int p1]) ++ List.replicate (3 - (lg_sl ([.ref (aL 0), .int p1])).length) Slot.unset).toArray = ls at hl ⊢
  have hl : lv_has ls 3 [(0, .ref (aL 0)), (1, .int p1)] := hl
  exact wX1_canBegin_0 C0 P L p1 hz hP ls (lv_sub hl [0, 1] rfl)
end SX1_canBegin

section SX1_begin
/-! CardLoops$Line.begin(I)V -/
abbrev wsX1_begin : List Cond := Cond.code yX1_begin cX1_begin 4 none :: wsL_law0
abbrev rmX1_begin : Room := { frames := 1, cells := 0, slots := 0, locals := 21 }
variable {p : Program} {l : Launch} {e : Env} {s : State} {m : MethodId} {args : Array Value} {below : List Frame} {meth : Method} {c : Code} {D : va_G} {K : Nat → ClassId} {A : Nat → Prop} {aP : Nat → Nat} {aL : Nat → Nat} {z : Rc}
set_option maxHeartbeats 1000000 in
set_option maxRecDepth 10000 in
theorem wX1_begin_49 (C0 : cx p s m args meth c cX1_begin 4 RX1 wsX1_begin none D K) (hA : ∀ q, s.heap.size ≤ q → A q) (P : Rc) (L : Rc) (x1 : Int32) (x2 : Int32) (y0 : Int32) (h : fX1_begin_49 P L x1 x2 y0 = some z) (H : Heap) (locs : List Loc) (hP : va_P D vwCl (fl [wPlan K aP P, wLine K aL (aP 0) L]) H) (hD : va_D A (fl [wPlan K aP P, wLine K aL (aP 0) L])) (hS : va_S A s.heap H locs) (ls : Array Slot) (hl : lv_has ls 4 [(0, .ref (aL 0)), (1, .int x1), (2, .int x2)]) : W p l e rmX1_begin s m args below meth c H locs 0 0 (MQ below (qcV D z (fun (u : Rc) => (fl [wPlan K aP P, wLine K aL (aP 0) u])) A) args s 0 0 A) (F0 m 49 ls [.int y0]) := by
  unfold fX1_begin_49 at h
  refine r_istore_n h C0 (fun v1 => [(3, .int v1), (0, .ref (aL 0)), (1, .int x1), (2, .int x2)]) dX1_begin_49 hl (by decide) (fun _ => rfl) (fun v1 ls h hl => ?_)
  refine r_aload_n C0 dX1_begin_50 hl 1 rfl ?_
  refine r_get C0 1 inx1 hP 7 rfl rfl 3 (by decide) (mc wd3_11) (.ref (aL 4)) rfl dX1_begin_51 ?_
  refine r_iload_n C0 dX1_begin_54 hl 2 rfl ?_
  refine r_aload_n C0 dX1_begin_55 hl 1 rfl ?_
  refine r_get C0 1 inx1 hP 7 rfl rfl 8 (by decide) (mc wd3_16) (.int (L 8 0)) rfl dX1_begin_56 ?_
  refine r_iload_n C0 dX1_begin_59 hl 0 rfl ?_
  refine r_iadd C0 dX1_begin_60 ?_
  refine r_aload_n C0 dX1_begin_61 hl 1 rfl ?_
  refine r_get C0 1 inx1 hP 7 rfl rfl 0 (by decide) (mc wd3_19) (.ref (aP 0)) rfl dX1_begin_62 ?_
  refine r_get C0 3 inx3 hP 0 rfl rfl 0 (by decide) (mc wd14_14) (.ref (aP 1)) rfl dX1_begin_65 ?_
  refine r_iload_n C0 dX1_begin_68 hl 2 rfl ?_
  refine r_iald h C0 hP 1 rfl dX1_begin_69 (fun h => ?_)
  refine r_iadd C0 dX1_begin_70 ?_
  refine r_iast h C0 hP hD hS 10 (fun uu => (fl [wPlan K aP P, wLine K aL (aP 0) uu])) rfl rfl dX1_begin_71 (fun L2 H locs h hP hD hS => ?_)
  refine r_iload_n C0 dX1_begin_72 hl 2 rfl ?_
  refine r_if_ne h C0 89 dX1_begin_73 (by decide) (fun h => ?_) (fun h => ?_)
  · exact r_vret h C0 (fun (u : Rc) => (fl [wPlan K aP P, wLine K aL (aP 0) u])) hP hD hS dX1_begin_89
  · refine r_aload_n C0 dX1_begin_76 hl 1 rfl ?_
    refine r_get C0 1 inx1 hP 7 rfl rfl 5 (by decide) (mc wd3_13) (.ref (aL 6)) rfl dX1_begin_77 ?_
    refine r_iload_n C0 dX1_begin_80 hl 3 rfl ?_
    refine r_bipush C0 (nI 20) dX1_begin_81 (by decide) ?_
    refine r_iremC C0 (by decide) dX1_begin_83 ?_
    refine r_aload_n C0 dX1_begin_84 hl 1 rfl ?_
    refine r_get C0 1 inx1 hP 7 rfl rfl 8 (by decide) (mc wd3_16) (.int (L2 8 0)) rfl dX1_begin_85 ?_
    refine r_iast h C0 hP hD hS 12 (fun uu => (fl [wPlan K aP P, wLine K aL (aP 0) uu])) rfl rfl dX1_begin_88 (fun L3 H locs h hP hD hS => ?_)
    exact r_vret h C0 (fun (u : Rc) => (fl [wPlan K aP P, wLine K aL (aP 0) u])) hP hD hS dX1_begin_89
set_option maxHeartbeats 1000000 in
set_option maxRecDepth 10000 in
theorem wX1_begin_48 (C0 : cx p s m args meth c cX1_begin 4 RX1 wsX1_begin none D K) (hA : ∀ q, s.heap.size ≤ q → A q) (P : Rc) (L : Rc) (x1 : Int32) (x2 : Int32) (h : fX1_begin_48 P L x1 x2 = some z) (H : Heap) (locs : List Loc) (hP : va_P D vwCl (fl [wPlan K aP P, wLine K aL (aP 0) L]) H) (hD : va_D A (fl [wPlan K aP P, wLine K aL (aP 0) L])) (hS : va_S A s.heap H locs) (ls : Array Slot) (hl : lv_has ls 4 [(0, .ref (aL 0)), (1, .int x1), (2, .int x2)]) : W p l e rmX1_begin s m args below meth c H locs 0 0 (MQ below (qcV D z (fun (u : Rc) => (fl [wPlan K aP P, wLine K aL (aP 0) u])) A) args s 0 0 A) (F0 m 48 ls []) := by
  unfold fX1_begin_48 at h
  refine r_iconst C0 (nI 0) dX1_begin_48 (by decide) ?_
  exact wX1_begin_49 C0 hA P L x1 x2 (nI 0) h _ _ hP hD hS _ (lv_sub hl [0, 1, 2] rfl)
set_option maxHeartbeats 1000000 in
set_option maxRecDepth 10000 in
theorem wX1_begin_0 (C0 : cx p s m args meth c cX1_begin 4 RX1 wsX1_begin none D K) (hA : ∀ q, s.heap.size ≤ q → A q) (P : Rc) (L : Rc) (x1 : Int32) (h : fX1_begin P L x1 = some z) (H : Heap) (locs : List Loc) (hP : va_P D vwCl (fl [wPlan K aP P, wLine K aL (aP 0) L]) H) (hD : va_D A (fl [wPlan K aP P, wLine K aL (aP 0) L])) (hS : va_S A s.heap H locs) (ls : Array Slot) (hl : lv_has ls 4 [(0, .ref (aL 0)), (1, .int x1)]) : W p l e rmX1_begin s m args below meth c H locs 0 0 (MQ below (qcV D z (fun (u : Rc) => (fl [wPlan K aP P, wLine K aL (aP 0) u])) A) args s 0 0 A) (F0 m 0 ls []) := by
  unfold fX1_begin at h
  refine r_aload_n C0 dX1_begin_0 hl 0 rfl ?_
  refine r_get C0 1 inx1 hP 7 rfl rfl 1 (by decide) (mc wd3_9) (.ref (aL 2)) rfl dX1_begin_1 ?_
  refine r_iload_n C0 dX1_begin_4 hl 1 rfl ?_
  refine r_iald h C0 hP 8 rfl dX1_begin_5 (fun h => ?_)
  refine r_istore_n h C0 (fun v1 => [(2, .int v1), (0, .ref (aL 0)), (1, .int x1)]) dX1_begin_6 hl (by decide) (fun _ => rfl) (fun v1 ls h hl => ?_)
  refine r_aload_n C0 dX1_begin_7 hl 1 rfl ?_
  refine r_get C0 1 inx1 hP 7 rfl rfl 1 (by decide) (mc wd3_9) (.ref (aL 2)) rfl dX1_begin_8 ?_
  refine r_iload_n C0 dX1_begin_11 hl 2 rfl ?_
  refine r_dup2 C0 dX1_begin_12 rfl rfl ?_
  refine r_iald h C0 hP 8 rfl dX1_begin_13 (fun h => ?_)
  refine r_iconst C0 (nI 1) dX1_begin_14 (by decide) ?_
  refine r_iadd C0 dX1_begin_15 ?_
  refine r_iast h C0 hP hD hS 8 (fun uu => (fl [wPlan K aP P, wLine K aL (aP 0) uu])) rfl rfl dX1_begin_16 (fun L2 H locs h hP hD hS => ?_)
  refine r_iload_n C0 dX1_begin_17 hl 0 rfl ?_
  refine r_if_le h C0 48 dX1_begin_18 (by decide) (fun h => ?_) (fun h => ?_)
  · exact wX1_begin_48 C0 hA P L2 x1 v1 h _ _ hP hD hS _ (lv_sub hl [1, 2, 0] rfl)
  · refine r_aload_n C0 dX1_begin_21 hl 1 rfl ?_
    refine r_iload_n C0 dX1_begin_22 hl 0 rfl ?_
    refine r_iconst C0 (nI 1) dX1_begin_23 (by decide) ?_
    refine r_isub C0 dX1_begin_24 ?_
    obtain ⟨z3, hz3, h⟩ := bnd_some h
    have hPc := vaP_sel (Wc := [wPlan K aP P, wLine K aL (aP 0) L2]) hP [0, 1] rfl
    refine r_cI (va_runV (As := [.int (v1 - (nI 1))]) (rest := []) C0.1 (ctX1_kindOf l D K aP aL P L2 (v1 - (nI 1)) z3 hz3) (cwV 1 C0.1.2.2.2.2 (gdV wd14_15 wd14_16 wd14_17 wd1_23 wd14_18) rfl rfl rfl (by decide +kernel) ⟨Nat.le_of_ble_eq_true rfl, Nat.le_of_ble_eq_true rfl⟩) ⟨pcR_blind, va_recv C0.2.2.2.1 hPc (ci := 1) (q0 := 7) rfl rfl, pcR_of hPc C0.2.2.2⟩ rfl rfl hl.1 rfl (lv_room (Nat.le_of_ble_eq_true rfl)) dX1_begin_25 ⟨Nat.zero_le _, Nat.zero_le _⟩).run ?_
    refine r_aload_n C0 dX1_begin_28 hl 1 rfl ?_
    refine r_iload_n C0 dX1_begin_29 hl 0 rfl ?_
    obtain ⟨z4, hz4, h⟩ := bnd_some h
    have hPc := vaP_sel (Wc := [wPlan K aP P, wLine K aL (aP 0) L2]) hP [0, 1] rfl
    refine r_cI (va_runV (As := [.int v1]) (rest := [.int z3]) C0.1 (ctX1_kindOf l D K aP aL P L2 v1 z4 hz4) (cwV 1 C0.1.2.2.2.2 (gdV wd14_15 wd14_16 wd14_17 wd1_23 wd14_18) rfl rfl rfl (by decide +kernel) ⟨Nat.le_of_ble_eq_true rfl, Nat.le_of_ble_eq_true rfl⟩) ⟨pcR_blind, va_recv C0.2.2.2.1 hPc (ci := 1) (q0 := 7) rfl rfl, pcR_of hPc C0.2.2.2⟩ rfl rfl hl.1 rfl (lv_room (Nat.le_of_ble_eq_true rfl)) dX1_begin_30 ⟨Nat.zero_le _, Nat.zero_le _⟩).run ?_
    refine r_icmp_eq h C0 48 dX1_begin_33 (by decide) (fun h => ?_) (fun h => ?_)
    · exact wX1_begin_48 C0 hA P L2 x1 v1 h _ _ hP hD hS _ (lv_sub hl [1, 2, 0] rfl)
    · refine r_aload_n C0 dX1_begin_36 hl 1 rfl ?_
      refine r_get C0 1 inx1 hP 7 rfl rfl 0 (by decide) (mc wd3_19) (.ref (aP 0)) rfl dX1_begin_37 ?_
      refine r_get C0 3 inx3 hP 0 rfl rfl 1 (by decide) (mc wd14_13) (.ref (aP 2)) rfl dX1_begin_40 ?_
      refine r_iload_n C0 dX1_begin_43 hl 2 rfl ?_
      refine r_iald h C0 hP 2 rfl dX1_begin_44 (fun h => ?_)
      refine r_goto C0 49 dX1_begin_45 (by decide) ?_
      exact wX1_begin_49 C0 hA P L2 x1 v1 (P 1 x1.toNatClampNeg) h _ _ hP hD hS _ (lv_sub hl [1, 2, 0] rfl)
set_option maxHeartbeats 1000000 in
set_option maxRecDepth 10000 in
theorem ctX1_begin (l : Launch) (D : va_G) (K : Nat → ClassId) (aP : Nat → Nat) (aL : Nat → Nat) (P : Rc) (L : Rc) (p1 : Int32) (sz : Nat) (z : Rc) (hz : fX1_begin P L p1 = some z) : Met l yX1_begin wsX1_begin rmX1_begin (pcW D K [.ref (aL 0), .int p1] (fl [wPlan K aP P, wLine K aL (aP 0) L]) sz) (qcV D z (fun (u : Rc) => (fl [wPlan K aP P, wLine K aL (aP 0) u])) (va_A (fl [wPlan K aP P, wLine K aL (aP 0) L]) sz)) 0 0 (va_A (fl [wPlan K aP P, wLine K aL (aP 0) L]) sz) := by
  refine Met.ofW (cc := cX1_begin) (maxL := 4) (ret := none) (by decide) rfl ?_
  intro p e s m args below meth c s₁ B hml hv
  obtain ⟨rfl, hsz, hP, hK, hD0⟩ := hv
  subst hsz
  have C0 : cx p s m _ meth c cX1_begin 4 RX1 wsX1_begin none D K := ⟨⟨B.exec, B.bytes, hml, findClass_of_methodNamed B.named, atoms_spec (ws := wsX1_begin) B.pre⟩, B.returns, B.notSynchronized, hK⟩
  have hD := hD0.self (sz := s.heap.size)
  generalize hAe : va_A (fl [wPlan K aP P, wLine K aL (aP 0) L]) s.heap.size = A at hD ⊢
  have hA : ∀ q : Nat, s.heap.size ≤ q → A q := fun q h => by rw [← hAe]; exact Or.inr h
  have hl := lv_entry ([.ref (aL 0), .int p1]) (n := 4) (Nat.le_of_ble_eq_true rfl)
  rw [lg_entry_eq]
  generalize (lg_sl ([.ref (aL 0), .int p1]) ++ List.replicate (4 - (lg_sl ([.ref (aL 0), .int p1])).length) Slot.unset).toArray = ls at hl ⊢
  have hl : lv_has ls 4 [(0, .ref (aL 0)), (1, .int p1)] := hl
  exact wX1_begin_0 C0 hA P L p1 hz s.heap [] hP hD va_S.rf ls (lv_sub hl [0, 1] rfl)
end SX1_begin

section SX1_round
/-! CardLoops$Line.round()V -/
abbrev wsX1_round : List Cond := Cond.code yX1_round cX1_round 2 none :: wsL_law0
abbrev rmX1_round : Room := { frames := 2, cells := 0, slots := 0, locals := 44 }
variable {p : Program} {l : Launch} {e : Env} {s : State} {m : MethodId} {args : Array Value} {below : List Frame} {meth : Method} {c : Code} {D : va_G} {K : Nat → ClassId} {A : Nat → Prop} {N : Nat} {aP : Nat → Nat} {aL : Nat → Nat} {z : Rc}
def IX1_round_56 (p : Program) (l : Launch) (e : Env) (s : State) (m : MethodId) (args : Array Value) (below : List Frame) (meth : Method) (c : Code) (D : va_G) (K : Nat → ClassId) (aP : Nat → Nat) (aL : Nat → Nat) (A : Nat → Prop) (z : Rc) (k : Rc → Rc → Int32 → Option (Rc)) : Prop := ∀ (P : Rc) (L : Rc) (x1 : Int32) (H : Heap) (locs : List Loc) (ls : Array Slot), k P L x1 = some z → va_P D vwCl (fl [wPlan K aP P, wLine K aL (aP 0) L]) H → va_D A (fl [wPlan K aP P, wLine K aL (aP 0) L]) → va_S A s.heap H locs → lv_has ls 2 [(0, .ref (aL 0)), (1, .int x1)] → W p l e rmX1_round s m args below meth c H locs 0 0 (MQ below (qcV D z (fun (u : Rc) => (fl [wPlan K aP P, wLine K aL (aP 0) u])) A) args s 0 0 A) (F0 m 56 ls [])
def IX1_round_10 (p : Program) (l : Launch) (e : Env) (s : State) (m : MethodId) (args : Array Value) (below : List Frame) (meth : Method) (c : Code) (D : va_G) (K : Nat → ClassId) (aP : Nat → Nat) (aL : Nat → Nat) (A : Nat → Prop) (z : Rc) (k : Rc → Rc → Int32 → Option (Rc)) : Prop := ∀ (P : Rc) (L : Rc) (x1 : Int32) (H : Heap) (locs : List Loc) (ls : Array Slot), k P L x1 = some z → va_P D vwCl (fl [wPlan K aP P, wLine K aL (aP 0) L]) H → va_D A (fl [wPlan K aP P, wLine K aL (aP 0) L]) → va_S A s.heap H locs → lv_has ls 2 [(0, .ref (aL 0)), (1, .int x1)] → W p l e rmX1_round s m args below meth c H locs 0 0 (MQ below (qcV D z (fun (u : Rc) => (fl [wPlan K aP P, wLine K aL (aP 0) u])) A) args s 0 0 A) (F0 m 10 ls [])
set_option maxHeartbeats 1000000 in
set_option maxRecDepth 10000 in
theorem wX1_round_81 (C0 : cx p s m args meth c cX1_round 2 RX1 wsX1_round none D K) (hA : ∀ q, s.heap.size ≤ q → A q) {k56 : Rc → Rc → Int32 → Option (Rc)} (hk56 : IX1_round_56 p l e s m args below meth c D K aP aL A z k56) (P : Rc) (L : Rc) (x1 : Int32) (h : fX1_round_81 N k56 P L x1 = some z) (H : Heap) (locs : List Loc) (hP : va_P D vwCl (fl [wPlan K aP P, wLine K aL (aP 0) L]) H) (hD : va_D A (fl [wPlan K aP P, wLine K aL (aP 0) L])) (hS : va_S A s.heap H locs) (ls : Array Slot) (hl : lv_has ls 2 [(0, .ref (aL 0)), (1, .int x1)]) : W p l e rmX1_round s m args below meth c H locs 0 0 (MQ below (qcV D z (fun (u : Rc) => (fl [wPlan K aP P, wLine K aL (aP 0) u])) A) args s 0 0 A) (F0 m 81 ls []) := by
  unfold fX1_round_81 at h
  refine r_iinc h C0 1 (fun v1 => [(1, .int v1), (0, .ref (aL 0))]) dX1_round_81 hl rfl rfl (by decide) (fun _ => rfl) (fun v1 ls h hl => ?_)
  refine r_goto C0 56 dX1_round_84 (by decide) ?_
  exact hk56 P L v1 _ _ _ h hP hD hS (lv_sub hl [1, 0] rfl)
set_option maxHeartbeats 1000000 in
set_option maxRecDepth 10000 in
theorem wX1_round_56 (C0 : cx p s m args meth c cX1_round 2 RX1 wsX1_round none D K) (hA : ∀ q, s.heap.size ≤ q → A q) {k56 : Rc → Rc → Int32 → Option (Rc)} (hk56 : IX1_round_56 p l e s m args below meth c D K aP aL A z k56) (P : Rc) (L : Rc) (x1 : Int32) (h : fX1_round_56b N k56 P L x1 = some z) (H : Heap) (locs : List Loc) (hP : va_P D vwCl (fl [wPlan K aP P, wLine K aL (aP 0) L]) H) (hD : va_D A (fl [wPlan K aP P, wLine K aL (aP 0) L])) (hS : va_S A s.heap H locs) (ls : Array Slot) (hl : lv_has ls 2 [(0, .ref (aL 0)), (1, .int x1)]) : W p l e rmX1_round s m args below meth c H locs 0 0 (MQ below (qcV D z (fun (u : Rc) => (fl [wPlan K aP P, wLine K aL (aP 0) u])) A) args s 0 0 A) (F0 m 56 ls []) := by
  unfold fX1_round_56b at h
  refine r_iload_n C0 dX1_round_56 hl 1 rfl ?_
  refine r_if_lt h C0 87 dX1_round_57 (by decide) (fun h => ?_) (fun h => ?_)
  · exact r_vret h C0 (fun (u : Rc) => (fl [wPlan K aP P, wLine K aL (aP 0) u])) hP hD hS dX1_round_87
  · refine r_aload_n C0 dX1_round_60 hl 0 rfl ?_
    refine r_iload_n C0 dX1_round_61 hl 1 rfl ?_
    obtain ⟨z1, hz1, h⟩ := bnd_some h
    have hPc := vaP_sel (Wc := [wLine K aL (aP 0) L]) hP [1] rfl
    refine r_cI (va_runV (As := [.int x1]) (rest := []) C0.1 (ctX1_isIdle l D K aL (aP 0) L x1 z1 hz1) (cwV 1 C0.1.2.2.2.2 (gdV wd13_7 wd13_8 wd13_9 wd1_23 wd13_10) rfl rfl rfl (by decide +kernel) ⟨Nat.le_of_ble_eq_true rfl, Nat.le_of_ble_eq_true rfl⟩) ⟨pcR_blind, va_recv C0.2.2.2.1 hPc (ci := 1) (q0 := 0) rfl rfl, pcR_of hPc C0.2.2.2⟩ rfl rfl hl.1 rfl (lv_room (Nat.le_of_ble_eq_true rfl)) dX1_round_62 ⟨Nat.zero_le _, Nat.zero_le _⟩).run ?_
    refine r_if_eq h C0 81 dX1_round_65 (by decide) (fun h => ?_) (fun h => ?_)
    · exact wX1_round_81 C0 hA hk56 P L x1 h _ _ hP hD hS _ (lv_sub hl [0, 1] rfl)
    · refine r_aload_n C0 dX1_round_68 hl 0 rfl ?_
      refine r_iload_n C0 dX1_round_69 hl 1 rfl ?_
      obtain ⟨z2, hz2, h⟩ := bnd_some h
      have hPc := vaP_sel (Wc := [wPlan K aP P, wLine K aL (aP 0) L]) hP [0, 1] rfl
      refine r_cI (va_runV (As := [.int x1]) (rest := []) C0.1 (ctX1_canBegin l D K N aP aL P L x1 z2 hz2) (cwV 1 C0.1.2.2.2.2 (gdV wd13_18 wd13_19 wd13_20 wd1_23 wd13_21) rfl rfl rfl (by decide +kernel) ⟨Nat.le_of_ble_eq_true rfl, Nat.le_of_ble_eq_true rfl⟩) ⟨pcR_blind, va_recv C0.2.2.2.1 hPc (ci := 1) (q0 := 7) rfl rfl, pcR_of hPc C0.2.2.2⟩ rfl rfl hl.1 rfl (lv_room (Nat.le_of_ble_eq_true rfl)) dX1_round_70 ⟨Nat.zero_le _, Nat.zero_le _⟩).run ?_
      refine r_if_eq h C0 81 dX1_round_73 (by decide) (fun h => ?_) (fun h => ?_)
      · exact wX1_round_81 C0 hA hk56 P L x1 h _ _ hP hD hS _ (lv_sub hl [0, 1] rfl)
      · refine r_aload_n C0 dX1_round_76 hl 0 rfl ?_
        refine r_iload_n C0 dX1_round_77 hl 1 rfl ?_
        obtain ⟨z3, hz3, h⟩ := bnd_some h
        refine r_callVC (Wc := [wPlan K aP P, wLine K aL (aP 0) L]) (wf := fun (u : Rc) => [wPlan K aP P, wLine K aL (aP 0) u]) (Wn := [wPlan K aP P, wLine K aL (aP 0) z3]) hP hD hS hA [0, 1] [] [0, 1] 2 rfl rfl (by decide) rfl rfl (by decide) (fun hPc hDc hFc => va_runV (As := [.int x1]) (rest := []) C0.1 (ctX1_begin l D K aP aL P L x1 H.size z3 hz3) (cwV 1 C0.1.2.2.2.2 (gdV wd14_9 wd14_10 wd14_11 wd1_23 wd14_12) rfl rfl rfl (by decide +kernel) ⟨Nat.le_of_ble_eq_true rfl, Nat.le_of_ble_eq_true rfl⟩) ⟨pcW_blind, va_recv C0.2.2.2.1 hPc (ci := 1) (q0 := 7) rfl rfl, pcW_of hPc hDc C0.2.2.2⟩ rfl rfl hl.1 rfl (lv_room (Nat.le_of_ble_eq_true rfl)) dX1_round_78 ⟨Nat.zero_le _, Nat.zero_le _⟩) (fun H locs hP hD hS => ?_)
        exact wX1_round_81 C0 hA hk56 P z3 x1 h _ _ hP hD hS _ (lv_sub hl [0, 1] rfl)
theorem wX1_round_56L (C0 : cx p s m args meth c cX1_round 2 RX1 wsX1_round none D K) (hA : ∀ q, s.heap.size ≤ q → A q) : IX1_round_56 p l e s m args below meth c D K aP aL A z (fX1_round_56 N) := by
  refine itn_ind (IX1_round_56 p l e s m args below meth c D K aP aL A z) ?_ ?_ N
  · intro _ _ _ _ _ _ h; cases h
  · intro k56 hk56 P L x1 H locs ls h hP hD hS hl
    exact wX1_round_56 C0 hA hk56 P L x1 h H locs hP hD hS ls hl
set_option maxHeartbeats 1000000 in
set_option maxRecDepth 10000 in
theorem wX1_round_40 (C0 : cx p s m args meth c cX1_round 2 RX1 wsX1_round none D K) (hA : ∀ q, s.heap.size ≤ q → A q) {k10 : Rc → Rc → Int32 → Option (Rc)} (hk10 : IX1_round_10 p l e s m args below meth c D K aP aL A z k10) (P : Rc) (L : Rc) (x1 : Int32) (h : fX1_round_40 N k10 P L x1 = some z) (H : Heap) (locs : List Loc) (hP : va_P D vwCl (fl [wPlan K aP P, wLine K aL (aP 0) L]) H) (hD : va_D A (fl [wPlan K aP P, wLine K aL (aP 0) L])) (hS : va_S A s.heap H locs) (ls : Array Slot) (hl : lv_has ls 2 [(0, .ref (aL 0)), (1, .int x1)]) : W p l e rmX1_round s m args below meth c H locs 0 0 (MQ below (qcV D z (fun (u : Rc) => (fl [wPlan K aP P, wLine K aL (aP 0) u])) A) args s 0 0 A) (F0 m 40 ls []) := by
  unfold fX1_round_40 at h
  refine r_iinc h C0 1 (fun v1 => [(1, .int v1), (0, .ref (aL 0))]) dX1_round_40 hl rfl rfl (by decide) (fun _ => rfl) (fun v1 ls h hl => ?_)
  refine r_goto C0 10 dX1_round_43 (by decide) ?_
  exact hk10 P L v1 _ _ _ h hP hD hS (lv_sub hl [1, 0] rfl)
set_option maxHeartbeats 1000000 in
set_option maxRecDepth 10000 in
theorem wX1_round_10 (C0 : cx p s m args meth c cX1_round 2 RX1 wsX1_round none D K) (hA : ∀ q, s.heap.size ≤ q → A q) {k10 : Rc → Rc → Int32 → Option (Rc)} (hk10 : IX1_round_10 p l e s m args below meth c D K aP aL A z k10) (P : Rc) (L : Rc) (x1 : Int32) (h : fX1_round_10b N k10 P L x1 = some z) (H : Heap) (locs : List Loc) (hP : va_P D vwCl (fl [wPlan K aP P, wLine K aL (aP 0) L]) H) (hD : va_D A (fl [wPlan K aP P, wLine K aL (aP 0) L])) (hS : va_S A s.heap H locs) (ls : Array Slot) (hl : lv_has ls 2 [(0, .ref (aL 0)), (1, .int x1)]) : W p l e rmX1_round s m args below meth c H locs 0 0 (MQ below (qcV D z (fun (u : Rc) => (fl [wPlan K aP P, wLine K aL (aP 0) u])) A) args s 0 0 A) (F0 m 10 ls []) := by
  unfold fX1_round_10b at h
  refine r_iload_n C0 dX1_round_10 hl 1 rfl ?_
  refine r_if_lt h C0 46 dX1_round_11 (by decide) (fun h => ?_) (fun h => ?_)
  · refine r_aload_n C0 dX1_round_46 hl 0 rfl ?_
    refine r_get C0 1 inx1 hP 7 rfl rfl 0 (by decide) (mc wd3_19) (.ref (aP 0)) rfl dX1_round_47 ?_
    refine r_get C0 3 inx3 hP 0 rfl rfl 6 (by decide) (mc wd13_6) (.int (P 6 0)) rfl dX1_round_50 ?_
    refine r_iconst C0 (nI 1) dX1_round_53 (by decide) ?_
    refine r_isub C0 dX1_round_54 ?_
    refine r_istore_n h C0 (fun v1 => [(1, .int v1), (0, .ref (aL 0))]) dX1_round_55 hl (by decide) (fun _ => rfl) (fun v1 ls h hl => ?_)
    exact wX1_round_56L C0 hA P L v1 _ _ _ h hP hD hS (lv_sub hl [1, 0] rfl)
  · refine r_aload_n C0 dX1_round_14 hl 0 rfl ?_
    refine r_iload_n C0 dX1_round_15 hl 1 rfl ?_
    obtain ⟨z2, hz2, h⟩ := bnd_some h
    have hPc := vaP_sel (Wc := [wLine K aL (aP 0) L]) hP [1] rfl
    refine r_cI (va_runV (As := [.int x1]) (rest := []) C0.1 (ctX1_isIdle l D K aL (aP 0) L x1 z2 hz2) (cwV 1 C0.1.2.2.2.2 (gdV wd13_7 wd13_8 wd13_9 wd1_23 wd13_10) rfl rfl rfl (by decide +kernel) ⟨Nat.le_of_ble_eq_true rfl, Nat.le_of_ble_eq_true rfl⟩) ⟨pcR_blind, va_recv C0.2.2.2.1 hPc (ci := 1) (q0 := 0) rfl rfl, pcR_of hPc C0.2.2.2⟩ rfl rfl hl.1 rfl (lv_room (Nat.le_of_ble_eq_true rfl)) dX1_round_16 ⟨Nat.zero_le _, Nat.zero_le _⟩).run ?_
    refine r_if_ne h C0 40 dX1_round_19 (by decide) (fun h => ?_) (fun h => ?_)
    · exact wX1_round_40 C0 hA hk10 P L x1 h _ _ hP hD hS _ (lv_sub hl [0, 1] rfl)
    · refine r_aload_n C0 dX1_round_22 hl 0 rfl ?_
      refine r_get C0 1 inx1 hP 7 rfl rfl 3 (by decide) (mc wd3_11) (.ref (aL 4)) rfl dX1_round_23 ?_
      refine r_iload_n C0 dX1_round_26 hl 1 rfl ?_
      refine r_iald h C0 hP 10 rfl dX1_round_27 (fun h => ?_)
      refine r_aload_n C0 dX1_round_28 hl 0 rfl ?_
      refine r_get C0 1 inx1 hP 7 rfl rfl 8 (by decide) (mc wd3_16) (.int (L 8 0)) rfl dX1_round_29 ?_
      refine r_icmp_gt h C0 40 dX1_round_32 (by decide) (fun h => ?_) (fun h => ?_)
      · exact wX1_round_40 C0 hA hk10 P L x1 h _ _ hP hD hS _ (lv_sub hl [0, 1] rfl)
      · refine r_aload_n C0 dX1_round_35 hl 0 rfl ?_
        refine r_iload_n C0 dX1_round_36 hl 1 rfl ?_
        obtain ⟨z3, hz3, h⟩ := bnd_some h
        refine r_callVC (Wc := [wPlan K aP P, wLine K aL (aP 0) L]) (wf := fun (u : Rc) => [wPlan K aP P, wLine K aL (aP 0) u]) (Wn := [wPlan K aP P, wLine K aL (aP 0) z3]) hP hD hS hA [0, 1] [] [0, 1] 2 rfl rfl (by decide) rfl rfl (by decide) (fun hPc hDc hFc => va_runV (As := [.int x1]) (rest := []) C0.1 (ctX1_finish l D K aP aL P L x1 H.size z3 hz3) (cwV 1 C0.1.2.2.2.2 (gdV wd13_11 wd13_12 wd13_13 wd1_23 wd13_14) rfl rfl rfl (by decide +kernel) ⟨Nat.le_of_ble_eq_true rfl, Nat.le_of_ble_eq_true rfl⟩) ⟨pcW_blind, va_recv C0.2.2.2.1 hPc (ci := 1) (q0 := 7) rfl rfl, pcW_of hPc hDc C0.2.2.2⟩ rfl rfl hl.1 rfl (lv_room (Nat.le_of_ble_eq_true rfl)) dX1_round_37 ⟨Nat.zero_le _, Nat.zero_le _⟩) (fun H locs hP hD hS => ?_)
        exact wX1_round_40 C0 hA hk10 P z3 x1 h _ _ hP hD hS _ (lv_sub hl [0, 1] rfl)
theorem wX1_round_10L (C0 : cx p s m args meth c cX1_round 2 RX1 wsX1_round none D K) (hA : ∀ q, s.heap.size ≤ q → A q) : IX1_round_10 p l e s m args below meth c D K aP aL A z (fX1_round_10 N) := by
  refine itn_ind (IX1_round_10 p l e s m args below meth c D K aP aL A z) ?_ ?_ N
  · intro _ _ _ _ _ _ h; cases h
  · intro k10 hk10 P L x1 H locs ls h hP hD hS hl
    exact wX1_round_10 C0 hA hk10 P L x1 h H locs hP hD hS ls hl
set_option maxHeartbeats 1000000 in
set_option maxRecDepth 10000 in
theorem wX1_round_0 (C0 : cx p s m args meth c cX1_round 2 RX1 wsX1_round none D K) (hA : ∀ q, s.heap.size ≤ q → A q) (P : Rc) (L : Rc) (h : fX1_round N P L = some z) (H : Heap) (locs : List Loc) (hP : va_P D vwCl (fl [wPlan K aP P, wLine K aL (aP 0) L]) H) (hD : va_D A (fl [wPlan K aP P, wLine K aL (aP 0) L])) (hS : va_S A s.heap H locs) (ls : Array Slot) (hl : lv_has ls 2 [(0, .ref (aL 0))]) : W p l e rmX1_round s m args below meth c H locs 0 0 (MQ below (qcV D z (fun (u : Rc) => (fl [wPlan K aP P, wLine K aL (aP 0) u])) A) args s 0 0 A) (F0 m 0 ls []) := by
  unfold fX1_round at h
  refine r_aload_n C0 dX1_round_0 hl 0 rfl ?_
  refine r_get C0 1 inx1 hP 7 rfl rfl 0 (by decide) (mc wd3_19) (.ref (aP 0)) rfl dX1_round_1 ?_
  refine r_get C0 3 inx3 hP 0 rfl rfl 6 (by decide) (mc wd13_6) (.int (P 6 0)) rfl dX1_round_4 ?_
  refine r_iconst C0 (nI 1) dX1_round_7 (by decide) ?_
  refine r_isub C0 dX1_round_8 ?_
  refine r_istore_n h C0 (fun v1 => [(1, .int v1), (0, .ref (aL 0))]) dX1_round_9 hl (by decide) (fun _ => rfl) (fun v1 ls h hl => ?_)
  exact wX1_round_10L C0 hA P L v1 _ _ _ h hP hD hS (lv_sub hl [1, 0] rfl)
set_option maxHeartbeats 1000000 in
set_option maxRecDepth 10000 in
theorem ctX1_round (l : Launch) (D : va_G) (K : Nat → ClassId) (N : Nat) (aP : Nat → Nat) (aL : Nat → Nat) (P : Rc) (L : Rc) (sz : Nat) (z : Rc) (hz : fX1_round N P L = some z) : Met l yX1_round wsX1_round rmX1_round (pcW D K [.ref (aL 0)] (fl [wPlan K aP P, wLine K aL (aP 0) L]) sz) (qcV D z (fun (u : Rc) => (fl [wPlan K aP P, wLine K aL (aP 0) u])) (va_A (fl [wPlan K aP P, wLine K aL (aP 0) L]) sz)) 0 0 (va_A (fl [wPlan K aP P, wLine K aL (aP 0) L]) sz) := by
  refine Met.ofW (cc := cX1_round) (maxL := 2) (ret := none) (by decide) rfl ?_
  intro p e s m args below meth c s₁ B hml hv
  obtain ⟨rfl, hsz, hP, hK, hD0⟩ := hv
  subst hsz
  have C0 : cx p s m _ meth c cX1_round 2 RX1 wsX1_round none D K := ⟨⟨B.exec, B.bytes, hml, findClass_of_methodNamed B.named, atoms_spec (ws := wsX1_round) B.pre⟩, B.returns, B.notSynchronized, hK⟩
  have hD := hD0.self (sz := s.heap.size)
  generalize hAe : va_A (fl [wPlan K aP P, wLine K aL (aP 0) L]) s.heap.size = A at hD ⊢
  have hA : ∀ q : Nat, s.heap.size ≤ q → A q := fun q h => by rw [← hAe]; exact Or.inr h
  have hl := lv_entry ([.ref (aL 0)]) (n := 2) (Nat.le_of_ble_eq_true rfl)
  rw [lg_entry_eq]
  generalize (lg_sl ([.ref (aL 0)]) ++ List.replicate (2 - (lg_sl ([.ref (aL 0)])).length) Slot.unset).toArray = ls at hl ⊢
  have hl : lv_has ls 2 [(0, .ref (aL 0))] := hl
  exact wX1_round_0 C0 hA P L hz s.heap [] hP hD va_S.rf ls (lv_sub hl [0] rfl)
end SX1_round
