section SX6_thrown
/-! CardLoopsModel.thrown()I -/
abbrev wsX6_thrown : List Cond := Cond.code yX6_thrown cX6_thrown 1 (some .int) :: wsL_law0
abbrev rmX6_thrown : Room := { frames := 0, cells := 0, slots := 0, locals := 0 }
variable {p : Program} {l : Launch} {e : Env} {s : State} {m : MethodId} {args : Array Value} {below : List Frame} {meth : Method} {c : Code} {D : va_G} {K : Nat → ClassId} {A : Nat → Prop} {aM : Nat → Nat} {z : Int32}
set_option maxHeartbeats 1000000 in
set_option maxRecDepth 10000 in
theorem wX6_thrown_0 (C0 : cx p s m args meth c cX6_thrown 1 RX6 wsX6_thrown (some .int) D K) (M : Rc) (ML : RcL) (h : fX6_thrown M ML = some z) (hP : va_P D vwCl (fl [wModel K aM M ML]) s.heap) (ls : Array Slot) (hl : lv_has ls 1 [(0, .ref (aM 0))]) : W p l e rmX6_thrown s m args below meth c s.heap [] 0 0 (MQ below (vp_Si (fun r => r = z)) args s 0 0 (fun _ => False)) (F0 m 0 ls []) := by
  unfold fX6_thrown at h
  refine r_aload_n C0 dX6_thrown_0 hl 0 rfl ?_
  refine r_get C0 6 inx6 hP 0 rfl rfl 0 (by decide) (mc wd6_10) (.int (M 0 0)) rfl dX6_thrown_1 ?_
  exact r_iretR C0 h dX6_thrown_4
set_option maxHeartbeats 1000000 in
set_option maxRecDepth 10000 in
theorem ctX6_thrown (l : Launch) (D : va_G) (K : Nat → ClassId) (aM : Nat → Nat) (M : Rc) (ML : RcL) (z : Int32) (hz : fX6_thrown M ML = some z) : Met l yX6_thrown wsX6_thrown rmX6_thrown (pcR D K [.ref (aM 0)] (fl [wModel K aM M ML])) (vp_Si (fun r => r = z)) 0 0 (fun _ => False) := by
  refine Met.ofW (cc := cX6_thrown) (maxL := 1) (ret := (some .int)) (by decide) rfl ?_
  intro p e s m args below meth c s₁ B hml hv
  obtain ⟨rfl, hP, hK⟩ := hv
  have C0 : cx p s m _ meth c cX6_thrown 1 RX6 wsX6_thrown (some .int) D K := ⟨⟨B.exec, B.bytes, hml, findClass_of_methodNamed B.named, atoms_spec (ws := wsX6_thrown) B.pre⟩, B.returns, B.notSynchronized, hK⟩
  have hl := lv_entry ([.ref (aM 0)]) (n := 1) (Nat.le_of_ble_eq_true rfl)
  rw [lg_entry_eq]
  generalize (lg_sl ([.ref (aM 0)]) ++ List.replicate (1 - (lg_sl ([.ref (aM 0)])).length) Slot.unset).toArray = ls at hl ⊢
  have hl : lv_has ls 1 [(0, .ref (aM 0))] := hl
  exact wX6_thrown_0 C0 M ML hz hP ls (lv_sub hl [0] rfl)
end SX6_thrown

section SX6_refuse
/-! CardLoopsModel.refuse()I -/
abbrev wsX6_refuse : List Cond := Cond.code yX6_refuse cX6_refuse 1 (some .int) :: wsL_law0
abbrev rmX6_refuse : Room := { frames := 0, cells := 0, slots := 0, locals := 0 }
variable {p : Program} {l : Launch} {e : Env} {s : State} {m : MethodId} {args : Array Value} {below : List Frame} {meth : Method} {c : Code} {D : va_G} {K : Nat → ClassId} {A : Nat → Prop} {aM : Nat → Nat} {z : Int32 × (Rc)}
set_option maxHeartbeats 1000000 in
set_option maxRecDepth 10000 in
theorem wX6_refuse_0 (C0 : cx p s m args meth c cX6_refuse 1 RX6 wsX6_refuse (some .int) D K) (hA : ∀ q, s.heap.size ≤ q → A q) (M : Rc) (ML : RcL) (h : fX6_refuse M ML = some z) (H : Heap) (locs : List Loc) (hP : va_P D vwCl (fl [wModel K aM M ML]) H) (hD : va_D A (fl [wModel K aM M ML])) (hS : va_S A s.heap H locs) (ls : Array Slot) (hl : lv_has ls 1 [(0, .ref (aM 0))]) : W p l e rmX6_refuse s m args below meth c H locs 0 0 (MQ below (qcI D z (fun (u : Rc) => (fl [wModel K aM u ML])) A) args s 0 0 A) (F0 m 0 ls []) := by
  unfold fX6_refuse at h
  refine r_aload_n C0 dX6_refuse_0 hl 0 rfl ?_
  refine r_iconst C0 (nI 1) dX6_refuse_1 (by decide) ?_
  refine r_put (ty := .int) h C0 6 inx6 tyX6 tyX6_ok nmX6 hP hD hS 0 (fun uu => (fl [wModel K aM uu ML])) rfl rfl 0 (by decide) (mc wd6_10) rfl (by decide +kernel) rfl rfl (by simp) rfl dX6_refuse_2 (fun M1 H locs h hP hD hS => ?_)
  refine r_iconst C0 (nI 0) dX6_refuse_5 (by decide) ?_
  exact r_iret h C0 (fun (u : Rc) => (fl [wModel K aM u ML])) hP hD hS dX6_refuse_6
set_option maxHeartbeats 1000000 in
set_option maxRecDepth 10000 in
theorem ctX6_refuse (l : Launch) (D : va_G) (K : Nat → ClassId) (aM : Nat → Nat) (M : Rc) (ML : RcL) (sz : Nat) (z : Int32 × (Rc)) (hz : fX6_refuse M ML = some z) : Met l yX6_refuse wsX6_refuse rmX6_refuse (pcW D K [.ref (aM 0)] (fl [wModel K aM M ML]) sz) (qcI D z (fun (u : Rc) => (fl [wModel K aM u ML])) (va_A (fl [wModel K aM M ML]) sz)) 0 0 (va_A (fl [wModel K aM M ML]) sz) := by
  refine Met.ofW (cc := cX6_refuse) (maxL := 1) (ret := (some .int)) (by decide) rfl ?_
  intro p e s m args below meth c s₁ B hml hv
  obtain ⟨rfl, hsz, hP, hK, hD0⟩ := hv
  subst hsz
  have C0 : cx p s m _ meth c cX6_refuse 1 RX6 wsX6_refuse (some .int) D K := ⟨⟨B.exec, B.bytes, hml, findClass_of_methodNamed B.named, atoms_spec (ws := wsX6_refuse) B.pre⟩, B.returns, B.notSynchronized, hK⟩
  have hD := hD0.self (sz := s.heap.size)
  generalize hAe : va_A (fl [wModel K aM M ML]) s.heap.size = A at hD ⊢
  have hA : ∀ q : Nat, s.heap.size ≤ q → A q := fun q h => by rw [← hAe]; exact Or.inr h
  have hl := lv_entry ([.ref (aM 0)]) (n := 1) (Nat.le_of_ble_eq_true rfl)
  rw [lg_entry_eq]
  generalize (lg_sl ([.ref (aM 0)]) ++ List.replicate (1 - (lg_sl ([.ref (aM 0)])).length) Slot.unset).toArray = ls at hl ⊢
  have hl : lv_has ls 1 [(0, .ref (aM 0))] := hl
  exact wX6_refuse_0 C0 hA M ML hz s.heap [] hP hD va_S.rf ls (lv_sub hl [0] rfl)
end SX6_refuse

section SX6_isIn
/-! CardLoopsModel.isIn(III)Z -/
abbrev wsX6_isIn : List Cond := Cond.code yX6_isIn cX6_isIn 3 (some .boolean) :: wsL_law0
abbrev rmX6_isIn : Room := { frames := 0, cells := 0, slots := 0, locals := 0 }
variable {p : Program} {l : Launch} {e : Env} {s : State} {m : MethodId} {args : Array Value} {below : List Frame} {meth : Method} {c : Code} {D : va_G} {K : Nat → ClassId} {A : Nat → Prop} {z : Int32}
set_option maxHeartbeats 1000000 in
set_option maxRecDepth 10000 in
theorem wX6_isIn_14 (C0 : cx p s m args meth c cX6_isIn 3 RX6 wsX6_isIn (some .boolean) D K) (h : fX6_isIn_14 = some z) (ls : Array Slot) (hl : lv_has ls 3 []) : W p l e rmX6_isIn s m args below meth c s.heap [] 0 0 (MQ below (vp_Si (fun r => r = z)) args s 0 0 (fun _ => False)) (F0 m 14 ls []) := by
  unfold fX6_isIn_14 at h
  refine r_iconst C0 (nI 0) dX6_isIn_14 (by decide) ?_
  exact r_zretRC C0 h (by decide) dX6_isIn_15
set_option maxHeartbeats 1000000 in
set_option maxRecDepth 10000 in
theorem wX6_isIn_0 (C0 : cx p s m args meth c cX6_isIn 3 RX6 wsX6_isIn (some .boolean) D K) (x0 : Int32) (x1 : Int32) (x2 : Int32) (h : fX6_isIn x0 x1 x2 = some z) (ls : Array Slot) (hl : lv_has ls 3 [(0, .int x0), (1, .int x1), (2, .int x2)]) : W p l e rmX6_isIn s m args below meth c s.heap [] 0 0 (MQ below (vp_Si (fun r => r = z)) args s 0 0 (fun _ => False)) (F0 m 0 ls []) := by
  unfold fX6_isIn at h
  refine r_iload_n C0 dX6_isIn_0 hl 0 rfl ?_
  refine r_iload_n C0 dX6_isIn_1 hl 1 rfl ?_
  refine r_icmp_lt h C0 14 dX6_isIn_2 (by decide) (fun h => ?_) (fun h => ?_)
  · exact wX6_isIn_14 C0 h _ (lv_sub hl [] rfl)
  · refine r_iload_n C0 dX6_isIn_5 hl 0 rfl ?_
    refine r_iload_n C0 dX6_isIn_6 hl 2 rfl ?_
    refine r_icmp_gt h C0 14 dX6_isIn_7 (by decide) (fun h => ?_) (fun h => ?_)
    · exact wX6_isIn_14 C0 h _ (lv_sub hl [] rfl)
    · refine r_iconst C0 (nI 1) dX6_isIn_10 (by decide) ?_
      refine r_goto C0 15 dX6_isIn_11 (by decide) ?_
      exact r_zretRC C0 h (by decide) dX6_isIn_15
set_option maxHeartbeats 1000000 in
set_option maxRecDepth 10000 in
theorem ctX6_isIn (l : Launch) (D : va_G) (K : Nat → ClassId) (p0 : Int32) (p1 : Int32) (p2 : Int32) (z : Int32) (hz : fX6_isIn p0 p1 p2 = some z) : Met l yX6_isIn wsX6_isIn rmX6_isIn (pcR D K [.int p0, .int p1, .int p2] []) (vp_Si (fun r => r = z)) 0 0 (fun _ => False) := by
  refine Met.ofW (cc := cX6_isIn) (maxL := 3) (ret := (some .boolean)) (by decide) rfl ?_
  intro p e s m args below meth c s₁ B hml hv
  obtain ⟨rfl, hP, hK⟩ := hv
  have C0 : cx p s m _ meth c cX6_isIn 3 RX6 wsX6_isIn (some .boolean) D K := ⟨⟨B.exec, B.bytes, hml, findClass_of_methodNamed B.named, atoms_spec (ws := wsX6_isIn) B.pre⟩, B.returns, B.notSynchronized, hK⟩
  have hl := lv_entry ([.int p0, .int p1, .int p2]) (n := 3) (Nat.le_of_ble_eq_true rfl)
  rw [lg_entry_eq]
  generalize (lg_sl ([.int p0, .int p1, .int p2]) ++ List.replicate (3 - (lg_sl ([.int p0, .int p1, .int p2])).length) Slot.unset).toArray = ls at hl ⊢
  have hl : lv_has ls 3 [(0, .int p0), (1, .int p1), (2, .int p2)] := hl
  exact wX6_isIn_0 C0 p0 p1 p2 hz ls (lv_sub hl [0, 1, 2] rfl)
end SX6_isIn

section SX6_lays
/-! CardLoopsModel.lays(I)V -/
abbrev wsX6_lays : List Cond := Cond.code yX6_lays cX6_lays 3 none :: wsL_law0
abbrev rmX6_lays : Room := { frames := 0, cells := 0, slots := 0, locals := 0 }
variable {p : Program} {l : Launch} {e : Env} {s : State} {m : MethodId} {args : Array Value} {below : List Frame} {meth : Method} {c : Code} {D : va_G} {K : Nat → ClassId} {A : Nat → Prop} {N : Nat} {aM : Nat → Nat} {z : Rc}
def IX6_lays_3 (p : Program) (l : Launch) (e : Env) (s : State) (m : MethodId) (args : Array Value) (below : List Frame) (meth : Method) (c : Code) (D : va_G) (K : Nat → ClassId) (aM : Nat → Nat) (A : Nat → Prop) (z : Rc) (k : Rc → RcL → Int32 → Int32 → Option (Rc)) : Prop := ∀ (M : Rc) (ML : RcL) (x1 : Int32) (x2 : Int32) (H : Heap) (locs : List Loc) (ls : Array Slot), k M ML x1 x2 = some z → va_P D vwCl (fl [wModel K aM M ML]) H → va_D A (fl [wModel K aM M ML]) → va_S A s.heap H locs → lv_has ls 3 [(0, .ref (aM 0)), (1, .int x1), (2, .int x2)] → W p l e rmX6_lays s m args below meth c H locs 0 0 (MQ below (qcV D z (fun (u : Rc) => (fl [wModel K aM u ML])) A) args s 0 0 A) (F0 m 3 ls [])
set_option maxHeartbeats 1000000 in
set_option maxRecDepth 10000 in
theorem wX6_lays_3 (C0 : cx p s m args meth c cX6_lays 3 RX6 wsX6_lays none D K) (hA : ∀ q, s.heap.size ≤ q → A q) {k3 : Rc → RcL → Int32 → Int32 → Option (Rc)} (hk3 : IX6_lays_3 p l e s m args below meth c D K aM A z k3) (M : Rc) (ML : RcL) (x1 : Int32) (x2 : Int32) (h : fX6_lays_3b N k3 M ML x1 x2 = some z) (H : Heap) (locs : List Loc) (hP : va_P D vwCl (fl [wModel K aM M ML]) H) (hD : va_D A (fl [wModel K aM M ML])) (hS : va_S A s.heap H locs) (ls : Array Slot) (hl : lv_has ls 3 [(0, .ref (aM 0)), (1, .int x1), (2, .int x2)]) : W p l e rmX6_lays s m args below meth c H locs 0 0 (MQ below (qcV D z (fun (u : Rc) => (fl [wModel K aM u ML])) A) args s 0 0 A) (F0 m 3 ls []) := by
  unfold fX6_lays_3b at h
  refine r_iload_n C0 dX6_lays_3 hl 2 rfl ?_
  refine r_if_lt h C0 39 dX6_lays_4 (by decide) (fun h => ?_) (fun h => ?_)
  · exact r_vret h C0 (fun (u : Rc) => (fl [wModel K aM u ML])) hP hD hS dX6_lays_39
  · refine r_aload_n C0 dX6_lays_7 hl 0 rfl ?_
    refine r_get C0 6 inx6 hP 0 rfl rfl 1 (by decide) (mc wd5_10) (.ref (aM 2)) rfl dX6_lays_8 ?_
    refine r_aload_n C0 dX6_lays_11 hl 0 rfl ?_
    refine r_get C0 6 inx6 hP 0 rfl rfl 2 (by decide) (mc wd6_11) (.int (M 2 0)) rfl dX6_lays_12 ?_
    refine r_iload_n C0 dX6_lays_15 hl 1 rfl ?_
    refine r_iload_n C0 dX6_lays_16 hl 2 rfl ?_
    refine r_iushr C0 dX6_lays_17 ?_
    refine r_sipush C0 (nI 255) dX6_lays_18 (by decide) ?_
    refine r_iand C0 dX6_lays_21 ?_
    refine r_iast h C0 hP hD hS 1 (fun uu => (fl [wModel K aM uu ML])) rfl rfl dX6_lays_22 (fun M1 H locs h hP hD hS => ?_)
    refine r_aload_n C0 dX6_lays_23 hl 0 rfl ?_
    refine r_dup C0 dX6_lays_24 rfl ?_
    refine r_get C0 6 inx6 hP 0 rfl rfl 2 (by decide) (mc wd6_11) (.int (M1 2 0)) rfl dX6_lays_25 ?_
    refine r_iconst C0 (nI 1) dX6_lays_28 (by decide) ?_
    refine r_iadd C0 dX6_lays_29 ?_
    refine r_put (ty := .int) h C0 6 inx6 tyX6 tyX6_ok nmX6 hP hD hS 0 (fun uu => (fl [wModel K aM uu ML])) rfl rfl 2 (by decide) (mc wd6_11) rfl (by decide +kernel) rfl rfl (by simp) rfl dX6_lays_30 (fun M2 H locs h hP hD hS => ?_)
    refine r_iinc h C0 2 (fun v3 => [(2, .int v3), (0, .ref (aM 0)), (1, .int x1)]) dX6_lays_33 hl rfl rfl (by decide) (fun _ => rfl) (fun v3 ls h hl => ?_)
    refine r_goto C0 3 dX6_lays_36 (by decide) ?_
    exact hk3 M2 ML x1 v3 _ _ _ h hP hD hS (lv_sub hl [1, 2, 0] rfl)
theorem wX6_lays_3L (C0 : cx p s m args meth c cX6_lays 3 RX6 wsX6_lays none D K) (hA : ∀ q, s.heap.size ≤ q → A q) : IX6_lays_3 p l e s m args below meth c D K aM A z (fX6_lays_3 N) := by
  refine itn_ind (IX6_lays_3 p l e s m args below meth c D K aM A z) ?_ ?_ N
  · intro _ _ _ _ _ _ _ h; cases h
  · intro k3 hk3 M ML x1 x2 H locs ls h hP hD hS hl
    exact wX6_lays_3 C0 hA hk3 M ML x1 x2 h H locs hP hD hS ls hl
set_option maxHeartbeats 1000000 in
set_option maxRecDepth 10000 in
theorem wX6_lays_0 (C0 : cx p s m args meth c cX6_lays 3 RX6 wsX6_lays none D K) (hA : ∀ q, s.heap.size ≤ q → A q) (M : Rc) (ML : RcL) (x1 : Int32) (h : fX6_lays N M ML x1 = some z) (H : Heap) (locs : List Loc) (hP : va_P D vwCl (fl [wModel K aM M ML]) H) (hD : va_D A (fl [wModel K aM M ML])) (hS : va_S A s.heap H locs) (ls : Array Slot) (hl : lv_has ls 3 [(0, .ref (aM 0)), (1, .int x1)]) : W p l e rmX6_lays s m args below meth c H locs 0 0 (MQ below (qcV D z (fun (u : Rc) => (fl [wModel K aM u ML])) A) args s 0 0 A) (F0 m 0 ls []) := by
  unfold fX6_lays at h
  refine r_bipush C0 (nI 24) dX6_lays_0 (by decide) ?_
  refine r_istore_n h C0 (fun v1 => [(2, .int v1), (0, .ref (aM 0)), (1, .int x1)]) dX6_lays_2 hl (by decide) (fun _ => rfl) (fun v1 ls h hl => ?_)
  exact wX6_lays_3L C0 hA M ML x1 v1 _ _ _ h hP hD hS (lv_sub hl [1, 2, 0] rfl)
set_option maxHeartbeats 1000000 in
set_option maxRecDepth 10000 in
theorem ctX6_lays (l : Launch) (D : va_G) (K : Nat → ClassId) (N : Nat) (aM : Nat → Nat) (M : Rc) (ML : RcL) (p1 : Int32) (sz : Nat) (z : Rc) (hz : fX6_lays N M ML p1 = some z) : Met l yX6_lays wsX6_lays rmX6_lays (pcW D K [.ref (aM 0), .int p1] (fl [wModel K aM M ML]) sz) (qcV D z (fun (u : Rc) => (fl [wModel K aM u ML])) (va_A (fl [wModel K aM M ML]) sz)) 0 0 (va_A (fl [wModel K aM M ML]) sz) := by
  refine Met.ofW (cc := cX6_lays) (maxL := 3) (ret := none) (by decide) rfl ?_
  intro p e s m args below meth c s₁ B hml hv
  obtain ⟨rfl, hsz, hP, hK, hD0⟩ := hv
  subst hsz
  have C0 : cx p s m _ meth c cX6_lays 3 RX6 wsX6_lays none D K := ⟨⟨B.exec, B.bytes, hml, findClass_of_methodNamed B.named, atoms_spec (ws := wsX6_lays) B.pre⟩, B.returns, B.notSynchronized, hK⟩
  have hD := hD0.self (sz := s.heap.size)
  generalize hAe : va_A (fl [wModel K aM M ML]) s.heap.size = A at hD ⊢
  have hA : ∀ q : Nat, s.heap.size ≤ q → A q := fun q h => by rw [← hAe]; exact Or.inr h
  have hl := lv_entry ([.ref (aM 0), .int p1]) (n := 3) (Nat.le_of_ble_eq_true rfl)
  rw [lg_entry_eq]
  generalize (lg_sl ([.ref (aM 0), .int p1]) ++ List.replicate (3 - (lg_sl ([.ref (aM 0), .int p1])).length) Slot.unset).toArray = ls at hl ⊢
  have hl : lv_has ls 3 [(0, .ref (aM 0)), (1, .int p1)] := hl
  exact wX6_lays_0 C0 hA M ML p1 hz s.heap [] hP hD va_S.rf ls (lv_sub hl [0, 1] rfl)
end SX6_lays

section SX6_feed
/-! CardLoopsModel.feed(IIIII)I -/
abbrev wsX6_feed : List Cond := Cond.code yX6_feed cX6_feed 6 (some .int) :: wsL_law0
abbrev rmX6_feed : Room := { frames := 1, cells := 0, slots := 0, locals := 22 }
variable {p : Program} {l : Launch} {e : Env} {s : State} {m : MethodId} {args : Array Value} {below : List Frame} {meth : Method} {c : Code} {D : va_G} {K : Nat → ClassId} {A : Nat → Prop} {N : Nat} {aM : Nat → Nat} {z : Int32 × (Rc)}
set_option maxHeartbeats 1000000 in
set_option maxRecDepth 10000 in
theorem wX6_feed_0 (C0 : cx p s m args meth c cX6_feed 6 RX6 wsX6_feed (some .int) D K) (hA : ∀ q, s.heap.size ≤ q → A q) (M : Rc) (ML : RcL) (x1 : Int32) (x2 : Int32) (x3 : Int32) (x4 : Int32) (x5 : Int32) (h : fX6_feed N M ML x1 x2 x3 x4 x5 = some z) (H : Heap) (locs : List Loc) (hP : va_P D vwCl (fl [wModel K aM M ML]) H) (hD : va_D A (fl [wModel K aM M ML])) (hS : va_S A s.heap H locs) (ls : Array Slot) (hl : lv_has ls 6 [(0, .ref (aM 0)), (1, .int x1), (2, .int x2), (3, .int x3), (4, .int x4), (5, .int x5)]) : W p l e rmX6_feed s m args below meth c H locs 0 0 (MQ below (qcI D z (fun (u : Rc) => (fl [wModel K aM u ML])) A) args s 0 0 A) (F0 m 0 ls []) := by
  unfold fX6_feed at h
  refine r_aload_n C0 dX6_feed_0 hl 0 rfl ?_
  refine r_iconst C0 (nI 0) dX6_feed_1 (by decide) ?_
  refine r_put (ty := .int) h C0 6 inx6 tyX6 tyX6_ok nmX6 hP hD hS 0 (fun uu => (fl [wModel K aM uu ML])) rfl rfl 0 (by decide) (mc wd6_10) rfl (by decide +kernel) rfl rfl (by simp) rfl dX6_feed_2 (fun M1 H locs h hP hD hS => ?_)
  refine r_aload_n C0 dX6_feed_5 hl 0 rfl ?_
  refine r_get C0 6 inx6 hP 0 rfl rfl 2 (by decide) (mc wd6_11) (.int (M1 2 0)) rfl dX6_feed_6 ?_
  refine r_bipush C0 (nI 20) dX6_feed_9 (by decide) ?_
  refine r_iadd C0 dX6_feed_11 ?_
  refine r_sipush C0 (nI 440) dX6_feed_12 (by decide) ?_
  refine r_icmp_le h C0 20 dX6_feed_15 (by decide) (fun h => ?_) (fun h => ?_)
  · refine r_aload_n C0 dX6_feed_20 hl 0 rfl ?_
    refine r_iload_n C0 dX6_feed_21 hl 1 rfl ?_
    obtain ⟨z2, hz2, h⟩ := bnd_some h
    refine r_callVC (Wc := [wModel K aM M1 ML]) (wf := fun (u : Rc) => [wModel K aM u ML]) (Wn := [wModel K aM z2 ML]) hP hD hS hA [0] [] [0] 1 rfl rfl (by decide) rfl rfl (by decide) (fun hPc hDc hFc => va_runV (As := [.int x1]) (rest := []) C0.1 (ctX6_lays l D K N aM M1 ML x1 H.size z2 hz2) (cwV 1 C0.1.2.2.2.2 (gdV wd6_12 wd6_13 wd6_14 wd1_5 wd6_15) rfl rfl rfl (by decide +kernel) ⟨Nat.le_of_ble_eq_true rfl, Nat.le_of_ble_eq_true rfl⟩) ⟨pcW_blind, va_recv C0.2.2.2.1 hPc (ci := 6) (q0 := 0) rfl rfl, pcW_of hPc hDc C0.2.2.2⟩ rfl rfl hl.1 rfl (lv_room (Nat.le_of_ble_eq_true rfl)) dX6_feed_22 ⟨Nat.zero_le _, Nat.zero_le _⟩) (fun H locs hP hD hS => ?_)
    refine r_aload_n C0 dX6_feed_25 hl 0 rfl ?_
    refine r_iload_n C0 dX6_feed_26 hl 2 rfl ?_
    obtain ⟨z3, hz3, h⟩ := bnd_some h
    refine r_callVC (Wc := [wModel K aM z2 ML]) (wf := fun (u : Rc) => [wModel K aM u ML]) (Wn := [wModel K aM z3 ML]) hP hD hS hA [0] [] [0] 1 rfl rfl (by decide) rfl rfl (by decide) (fun hPc hDc hFc => va_runV (As := [.int x2]) (rest := []) C0.1 (ctX6_lays l D K N aM z2 ML x2 H.size z3 hz3) (cwV 1 C0.1.2.2.2.2 (gdV wd6_12 wd6_13 wd6_14 wd1_5 wd6_15) rfl rfl rfl (by decide +kernel) ⟨Nat.le_of_ble_eq_true rfl, Nat.le_of_ble_eq_true rfl⟩) ⟨pcW_blind, va_recv C0.2.2.2.1 hPc (ci := 6) (q0 := 0) rfl rfl, pcW_of hPc hDc C0.2.2.2⟩ rfl rfl hl.1 rfl (lv_room (Nat.le_of_ble_eq_true rfl)) dX6_feed_27 ⟨Nat.zero_le _, Nat.zero_le _⟩) (fun H locs hP hD hS => ?_)
    refine r_aload_n C0 dX6_feed_30 hl 0 rfl ?_
    refine r_iload_n C0 dX6_feed_31 hl 3 rfl ?_
    obtain ⟨z4, hz4, h⟩ := bnd_some h
    refine r_callVC (Wc := [wModel K aM z3 ML]) (wf := fun (u : Rc) => [wModel K aM u ML]) (Wn := [wModel K aM z4 ML]) hP hD hS hA [0] [] [0] 1 rfl rfl (by decide) rfl rfl (by decide) (fun hPc hDc hFc => va_runV (As := [.int x3]) (rest := []) C0.1 (ctX6_lays l D K N aM z3 ML x3 H.size z4 hz4) (cwV 1 C0.1.2.2.2.2 (gdV wd6_12 wd6_13 wd6_14 wd1_5 wd6_15) rfl rfl rfl (by decide +kernel) ⟨Nat.le_of_ble_eq_true rfl, Nat.le_of_ble_eq_true rfl⟩) ⟨pcW_blind, va_recv C0.2.2.2.1 hPc (ci := 6) (q0 := 0) rfl rfl, pcW_of hPc hDc C0.2.2.2⟩ rfl rfl hl.1 rfl (lv_room (Nat.le_of_ble_eq_true rfl)) dX6_feed_32 ⟨Nat.zero_le _, Nat.zero_le _⟩) (fun H locs hP hD hS => ?_)
    refine r_aload_n C0 dX6_feed_35 hl 0 rfl ?_
    refine r_iload C0 dX6_feed_36 hl 4 rfl ?_
    obtain ⟨z5, hz5, h⟩ := bnd_some h
    refine r_callVC (Wc := [wModel K aM z4 ML]) (wf := fun (u : Rc) => [wModel K aM u ML]) (Wn := [wModel K aM z5 ML]) hP hD hS hA [0] [] [0] 1 rfl rfl (by decide) rfl rfl (by decide) (fun hPc hDc hFc => va_runV (As := [.int x4]) (rest := []) C0.1 (ctX6_lays l D K N aM z4 ML x4 H.size z5 hz5) (cwV 1 C0.1.2.2.2.2 (gdV wd6_12 wd6_13 wd6_14 wd1_5 wd6_15) rfl rfl rfl (by decide +kernel) ⟨Nat.le_of_ble_eq_true rfl, Nat.le_of_ble_eq_true rfl⟩) ⟨pcW_blind, va_recv C0.2.2.2.1 hPc (ci := 6) (q0 := 0) rfl rfl, pcW_of hPc hDc C0.2.2.2⟩ rfl rfl hl.1 rfl (lv_room (Nat.le_of_ble_eq_true rfl)) dX6_feed_38 ⟨Nat.zero_le _, Nat.zero_le _⟩) (fun H locs hP hD hS => ?_)
    refine r_aload_n C0 dX6_feed_41 hl 0 rfl ?_
    refine r_iload C0 dX6_feed_42 hl 5 rfl ?_
    obtain ⟨z6, hz6, h⟩ := bnd_some h
    refine r_callVC (Wc := [wModel K aM z5 ML]) (wf := fun (u : Rc) => [wModel K aM u ML]) (Wn := [wModel K aM z6 ML]) hP hD hS hA [0] [] [0] 1 rfl rfl (by decide) rfl rfl (by decide) (fun hPc hDc hFc => va_runV (As := [.int x5]) (rest := []) C0.1 (ctX6_lays l D K N aM z5 ML x5 H.size z6 hz6) (cwV 1 C0.1.2.2.2.2 (gdV wd6_12 wd6_13 wd6_14 wd1_5 wd6_15) rfl rfl rfl (by decide +kernel) ⟨Nat.le_of_ble_eq_true rfl, Nat.le_of_ble_eq_true rfl⟩) ⟨pcW_blind, va_recv C0.2.2.2.1 hPc (ci := 6) (q0 := 0) rfl rfl, pcW_of hPc hDc C0.2.2.2⟩ rfl rfl hl.1 rfl (lv_room (Nat.le_of_ble_eq_true rfl)) dX6_feed_44 ⟨Nat.zero_le _, Nat.zero_le _⟩) (fun H locs hP hD hS => ?_)
    refine r_aload_n C0 dX6_feed_47 hl 0 rfl ?_
    refine r_get C0 6 inx6 hP 0 rfl rfl 2 (by decide) (mc wd6_11) (.int (z6 2 0)) rfl dX6_feed_48 ?_
    exact r_iret h C0 (fun (u : Rc) => (fl [wModel K aM u ML])) hP hD hS dX6_feed_51
  · refine r_iconst C0 (-1 : Int32) dX6_feed_18 (by decide) ?_
    exact r_iret h C0 (fun (u : Rc) => (fl [wModel K aM u ML])) hP hD hS dX6_feed_19
set_option maxHeartbeats 1000000 in
set_option maxRecDepth 10000 in
theorem ctX6_feed (l : Launch) (D : va_G) (K : Nat → ClassId) (N : Nat) (aM : Nat → Nat) (M : Rc) (ML : RcL) (p1 : Int32) (p2 : Int32) (p3 : Int32) (p4 : Int32) (p5 : Int32) (sz : Nat) (z : Int32 × (Rc)) (hz : fX6_feed N M ML p1 p2 p3 p4 p5 = some z) : Met l yX6_feed wsX6_feed rmX6_feed (pcW D K [.ref (aM 0), .int p1, .int p2, .int p3, .int p4, .int p5] (fl [wModel K aM M ML]) sz) (qcI D z (fun (u : Rc) => (fl [wModel K aM u ML])) (va_A (fl [wModel K aM M ML]) sz)) 0 0 (va_A (fl [wModel K aM M ML]) sz) := by
  refine Met.ofW (cc := cX6_feed) (maxL := 6) (ret := (some .int)) (by decide) rfl ?_
  intro p e s m args below meth c s₁ B hml hv
  obtain ⟨rfl, hsz, hP, hK, hD0⟩ := hv
  subst hsz
  have C0 : cx p s m _ meth c cX6_feed 6 RX6 wsX6_feed (some .int) D K := ⟨⟨B.exec, B.bytes, hml, findClass_of_methodNamed B.named, atoms_spec (ws := wsX6_feed) B.pre⟩, B.returns, B.notSynchronized, hK⟩
  have hD := hD0.self (sz := s.heap.size)
  generalize hAe : va_A (fl [wModel K aM M ML]) s.heap.size = A at hD ⊢
  have hA : ∀ q : Nat, s.heap.size ≤ q → A q := fun q h => by rw [← hAe]; exact Or.inr h
  have hl := lv_entry ([.ref (aM 0), .int p1, .int p2, .int p3, .int p4, .int p5]) (n := 6) (Nat.le_of_ble_eq_true rfl)
  rw [lg_entry_eq]
  generalize (lg_sl ([.ref (aM 0), .int p1, .int p2, .int p3, .int p4, .int p5]) ++ List.replicate (6 - (lg_sl ([.ref (aM 0), .int p1, .int p2, .int p3, .int p4, .int p5])).length) Slot.unset).toArray = ls at hl ⊢
  have hl : lv_has ls 6 [(0, .ref (aM 0)), (1, .int p1), (2, .int p2), (3, .int p3), (4, .int p4), (5, .int p5)] := hl
  exact wX6_feed_0 C0 hA M ML p1 p2 p3 p4 p5 hz s.heap [] hP hD va_S.rf ls (lv_sub hl [0, 1, 2, 3, 4, 5] rfl)
end SX6_feed

section SX6_end
/-! CardLoopsModel.end(I)Z -/
abbrev wsX6_end : List Cond := Cond.code yX6_end cX6_end 2 (some .boolean) :: wsL_law0
abbrev rmX6_end : Room := { frames := 0, cells := 0, slots := 0, locals := 0 }
variable {p : Program} {l : Launch} {e : Env} {s : State} {m : MethodId} {args : Array Value} {below : List Frame} {meth : Method} {c : Code} {D : va_G} {K : Nat → ClassId} {A : Nat → Prop} {aM : Nat → Nat} {z : Int32 × (Rc)}
set_option maxHeartbeats 1000000 in
set_option maxRecDepth 10000 in
theorem wX6_end_17 (C0 : cx p s m args meth c cX6_end 2 RX6 wsX6_end (some .boolean) D K) (hA : ∀ q, s.heap.size ≤ q → A q) (M : Rc) (ML : RcL) (h : fX6_end_17 M ML = some z) (H : Heap) (locs : List Loc) (hP : va_P D vwCl (fl [wModel K aM M ML]) H) (hD : va_D A (fl [wModel K aM M ML])) (hS : va_S A s.heap H locs) (ls : Array Slot) (hl : lv_has ls 2 []) : W p l e rmX6_end s m args below meth c H locs 0 0 (MQ below (qcI D z (fun (u : Rc) => (fl [wModel K aM u ML])) A) args s 0 0 A) (F0 m 17 ls []) := by
  unfold fX6_end_17 at h
  refine r_iconst C0 (nI 0) dX6_end_17 (by decide) ?_
  exact r_zretC h (by decide) C0 (fun (u : Rc) => (fl [wModel K aM u ML])) hP hD hS dX6_end_18
set_option maxHeartbeats 1000000 in
set_option maxRecDepth 10000 in
theorem wX6_end_0 (C0 : cx p s m args meth c cX6_end 2 RX6 wsX6_end (some .boolean) D K) (hA : ∀ q, s.heap.size ≤ q → A q) (M : Rc) (ML : RcL) (x1 : Int32) (h : fX6_end M ML x1 = some z) (H : Heap) (locs : List Loc) (hP : va_P D vwCl (fl [wModel K aM M ML]) H) (hD : va_D A (fl [wModel K aM M ML])) (hS : va_S A s.heap H locs) (ls : Array Slot) (hl : lv_has ls 2 [(0, .ref (aM 0)), (1, .int x1)]) : W p l e rmX6_end s m args below meth c H locs 0 0 (MQ below (qcI D z (fun (u : Rc) => (fl [wModel K aM u ML])) A) args s 0 0 A) (F0 m 0 ls []) := by
  unfold fX6_end at h
  refine r_aload_n C0 dX6_end_0 hl 0 rfl ?_
  refine r_iconst C0 (nI 0) dX6_end_1 (by decide) ?_
  refine r_put (ty := .int) h C0 6 inx6 tyX6 tyX6_ok nmX6 hP hD hS 0 (fun uu => (fl [wModel K aM uu ML])) rfl rfl 0 (by decide) (mc wd6_10) rfl (by decide +kernel) rfl rfl (by simp) rfl dX6_end_2 (fun M1 H locs h hP hD hS => ?_)
  refine r_iload_n C0 dX6_end_5 hl 1 rfl ?_
  refine r_if_lt h C0 17 dX6_end_6 (by decide) (fun h => ?_) (fun h => ?_)
  · exact wX6_end_17 C0 hA M1 ML h _ _ hP hD hS _ (lv_sub hl [] rfl)
  · refine r_iload_n C0 dX6_end_9 hl 1 rfl ?_
    refine r_aload_n C0 dX6_end_10 hl 0 rfl ?_
    refine r_get C0 6 inx6 hP 0 rfl rfl 2 (by decide) (mc wd6_11) (.int (M1 2 0)) rfl dX6_end_11 ?_
    refine r_icmp_le h C0 19 dX6_end_14 (by decide) (fun h => ?_) (fun h => ?_)
    · refine r_aload_n C0 dX6_end_19 hl 0 rfl ?_
      refine r_iload_n C0 dX6_end_20 hl 1 rfl ?_
      refine r_put (ty := .int) h C0 6 inx6 tyX6 tyX6_ok nmX6 hP hD hS 0 (fun uu => (fl [wModel K aM uu ML])) rfl rfl 2 (by decide) (mc wd6_11) rfl (by decide +kernel) rfl rfl (by simp) rfl dX6_end_21 (fun M2 H locs h hP hD hS => ?_)
      refine r_iconst C0 (nI 1) dX6_end_24 (by decide) ?_
      exact r_zretC h (by decide) C0 (fun (u : Rc) => (fl [wModel K aM u ML])) hP hD hS dX6_end_25
    · exact wX6_end_17 C0 hA M1 ML h _ _ hP hD hS _ (lv_sub hl [] rfl)
set_option maxHeartbeats 1000000 in
set_option maxRecDepth 10000 in
theorem ctX6_end (l : Launch) (D : va_G) (K : Nat → ClassId) (aM : Nat → Nat) (M : Rc) (ML : RcL) (p1 : Int32) (sz : Nat) (z : Int32 × (Rc)) (hz : fX6_end M ML p1 = some z) : Met l yX6_end wsX6_end rmX6_end (pcW D K [.ref (aM 0), .int p1] (fl [wModel K aM M ML]) sz) (qcI D z (fun (u : Rc) => (fl [wModel K aM u ML])) (va_A (fl [wModel K aM M ML]) sz)) 0 0 (va_A (fl [wModel K aM M ML]) sz) := by
  refine Met.ofW (cc := cX6_end) (maxL := 2) (ret := (some .boolean)) (by decide) rfl ?_
  intro p e s m args below meth c s₁ B hml hv
  obtain ⟨rfl, hsz, hP, hK, hD0⟩ := hv
  subst hsz
  have C0 : cx p s m _ meth c cX6_end 2 RX6 wsX6_end (some .boolean) D K := ⟨⟨B.exec, B.bytes, hml, findClass_of_methodNamed B.named, atoms_spec (ws := wsX6_end) B.pre⟩, B.returns, B.notSynchronized, hK⟩
  have hD := hD0.self (sz := s.heap.size)
  generalize hAe : va_A (fl [wModel K aM M ML]) s.heap.size = A at hD ⊢
  have hA : ∀ q : Nat, s.heap.size ≤ q → A q := fun q h => by rw [← hAe]; exact Or.inr h
  have hl := lv_entry ([.ref (aM 0), .int p1]) (n := 2) (Nat.le_of_ble_eq_true rfl)
  rw [lg_entry_eq]
  generalize (lg_sl ([.ref (aM 0), .int p1]) ++ List.replicate (2 - (lg_sl ([.ref (aM 0), .int p1])).length) Slot.unset).toArray = ls at hl ⊢
  have hl : lv_has ls 2 [(0, .ref (aM 0)), (1, .int p1)] := hl
  exact wX6_end_0 C0 hA M ML p1 hz s.heap [] hP hD va_S.rf ls (lv_sub hl [0, 1] rfl)
end SX6_end

section SX6_tapeAt
/-! CardLoopsModel.tapeAt(I)I -/
abbrev wsX6_tapeAt : List Cond := Cond.code yX6_tapeAt cX6_tapeAt 2 (some .int) :: wsL_law0
abbrev rmX6_tapeAt : Room := { frames := 0, cells := 0, slots := 0, locals := 0 }
variable {p : Program} {l : Launch} {e : Env} {s : State} {m : MethodId} {args : Array Value} {below : List Frame} {meth : Method} {c : Code} {D : va_G} {K : Nat → ClassId} {A : Nat → Prop} {aM : Nat → Nat} {z : Int32}
set_option maxHeartbeats 1000000 in
set_option maxRecDepth 10000 in
theorem wX6_tapeAt_0 (C0 : cx p s m args meth c cX6_tapeAt 2 RX6 wsX6_tapeAt (some .int) D K) (M : Rc) (ML : RcL) (x1 : Int32) (h : fX6_tapeAt M ML x1 = some z) (hP : va_P D vwCl (fl [wModel K aM M ML]) s.heap) (ls : Array Slot) (hl : lv_has ls 2 [(0, .ref (aM 0)), (1, .int x1)]) : W p l e rmX6_tapeAt s m args below meth c s.heap [] 0 0 (MQ below (vp_Si (fun r => r = z)) args s 0 0 (fun _ => False)) (F0 m 0 ls []) := by
  unfold fX6_tapeAt at h
  refine r_iload_n C0 dX6_tapeAt_0 hl 1 rfl ?_
  refine r_aload_n C0 dX6_tapeAt_1 hl 0 rfl ?_
  refine r_get C0 6 inx6 hP 0 rfl rfl 3 (by decide) (mc wd15_10) (.int (M 3 0)) rfl dX6_tapeAt_2 ?_
  refine r_icmp_ge h C0 17 dX6_tapeAt_5 (by decide) (fun h => ?_) (fun h => ?_)
  · refine r_iconst C0 (nI 0) dX6_tapeAt_17 (by decide) ?_
    exact r_iretR C0 h dX6_tapeAt_18
  · refine r_aload_n C0 dX6_tapeAt_8 hl 0 rfl ?_
    refine r_get C0 6 inx6 hP 0 rfl rfl 1 (by decide) (mc wd5_10) (.ref (aM 2)) rfl dX6_tapeAt_9 ?_
    refine r_iload_n C0 dX6_tapeAt_12 hl 1 rfl ?_
    refine r_iald h C0 hP 1 rfl dX6_tapeAt_13 (fun h => ?_)
    refine r_goto C0 18 dX6_tapeAt_14 (by decide) ?_
    exact r_iretR C0 h dX6_tapeAt_18
set_option maxHeartbeats 1000000 in
set_option maxRecDepth 10000 in
theorem ctX6_tapeAt (l : Launch) (D : va_G) (K : Nat → ClassId) (aM : Nat → Nat) (M : Rc) (ML : RcL) (p1 : Int32) (z : Int32) (hz : fX6_tapeAt M ML p1 = some z) : Met l yX6_tapeAt wsX6_tapeAt rmX6_tapeAt (pcR D K [.ref (aM 0), .int p1] (fl [wModel K aM M ML])) (vp_Si (fun r => r = z)) 0 0 (fun _ => False) := by
  refine Met.ofW (cc := cX6_tapeAt) (maxL := 2) (ret := (some .int)) (by decide) rfl ?_
  intro p e s m args below meth c s₁ B hml hv
  obtain ⟨rfl, hP, hK⟩ := hv
  have C0 : cx p s m _ meth c cX6_tapeAt 2 RX6 wsX6_tapeAt (some .int) D K := ⟨⟨B.exec, B.bytes, hml, findClass_of_methodNamed B.named, atoms_spec (ws := wsX6_tapeAt) B.pre⟩, B.returns, B.notSynchronized, hK⟩
  have hl := lv_entry ([.ref (aM 0), .int p1]) (n := 2) (Nat.le_of_ble_eq_true rfl)
  rw [lg_entry_eq]
  generalize (lg_sl ([.ref (aM 0), .int p1]) ++ List.replicate (2 - (lg_sl ([.ref (aM 0), .int p1])).length) Slot.unset).toArray = ls at hl ⊢
  have hl : lv_has ls 2 [(0, .ref (aM 0)), (1, .int p1)] := hl
  exact wX6_tapeAt_0 C0 M ML p1 hz hP ls (lv_sub hl [0, 1] rfl)
end SX6_tapeAt

section SX6_isDigit
/-! CardLoopsModel.isDigit(I)Z -/
abbrev wsX6_isDigit : List Cond := Cond.code yX6_isDigit cX6_isDigit 1 (some .boolean) :: wsL_law0
abbrev rmX6_isDigit : Room := { frames := 0, cells := 0, slots := 0, locals := 0 }
variable {p : Program} {l : Launch} {e : Env} {s : State} {m : MethodId} {args : Array Value} {below : List Frame} {meth : Method} {c : Code} {D : va_G} {K : Nat → ClassId} {A : Nat → Prop} {z : Int32}
set_option maxHeartbeats 1000000 in
set_option maxRecDepth 10000 in
theorem wX6_isDigit_16 (C0 : cx p s m args meth c cX6_isDigit 1 RX6 wsX6_isDigit (some .boolean) D K) (h : fX6_isDigit_16 = some z) (ls : Array Slot) (hl : lv_has ls 1 []) : W p l e rmX6_isDigit s m args below meth c s.heap [] 0 0 (MQ below (vp_Si (fun r => r = z)) args s 0 0 (fun _ => False)) (F0 m 16 ls []) := by
  unfold fX6_isDigit_16 at h
  refine r_iconst C0 (nI 0) dX6_isDigit_16 (by decide) ?_
  exact r_zretRC C0 h (by decide) dX6_isDigit_17
set_option maxHeartbeats 1000000 in
set_option maxRecDepth 10000 in
theorem wX6_isDigit_0 (C0 : cx p s m args meth c cX6_isDigit 1 RX6 wsX6_isDigit (some .boolean) D K) (x0 : Int32) (h : fX6_isDigit x0 = some z) (ls : Array Slot) (hl : lv_has ls 1 [(0, .int x0)]) : W p l e rmX6_isDigit s m args below meth c s.heap [] 0 0 (MQ below (vp_Si (fun r => r = z)) args s 0 0 (fun _ => False)) (F0 m 0 ls []) := by
  unfold fX6_isDigit at h
  refine r_iload_n C0 dX6_isDigit_0 hl 0 rfl ?_
  refine r_bipush C0 (nI 48) dX6_isDigit_1 (by decide) ?_
  refine r_icmp_lt h C0 16 dX6_isDigit_3 (by decide) (fun h => ?_) (fun h => ?_)
  · exact wX6_isDigit_16 C0 h _ (lv_sub hl [] rfl)
  · refine r_iload_n C0 dX6_isDigit_6 hl 0 rfl ?_
    refine r_bipush C0 (nI 57) dX6_isDigit_7 (by decide) ?_
    refine r_icmp_gt h C0 16 dX6_isDigit_9 (by decide) (fun h => ?_) (fun h => ?_)
    · exact wX6_isDigit_16 C0 h _ (lv_sub hl [] rfl)
    · refine r_iconst C0 (nI 1) dX6_isDigit_12 (by decide) ?_
      refine r_goto C0 17 dX6_isDigit_13 (by decide) ?_
      exact r_zretRC C0 h (by decide) dX6_isDigit_17
set_option maxHeartbeats 1000000 in
set_option maxRecDepth 10000 in
theorem ctX6_isDigit (l : Launch) (D : va_G) (K : Nat → ClassId) (p0 : Int32) (z : Int32) (hz : fX6_isDigit p0 = some z) : Met l yX6_isDigit wsX6_isDigit rmX6_isDigit (pcR D K [.int p0] []) (vp_Si (fun r => r = z)) 0 0 (fun _ => False) := by
  refine Met.ofW (cc := cX6_isDigit) (maxL := 1) (ret := (some .boolean)) (by decide) rfl ?_
  intro p e s m args below meth c s₁ B hml hv
  obtain ⟨rfl, hP, hK⟩ := hv
  have C0 : cx p s m _ meth c cX6_isDigit 1 RX6 wsX6_isDigit (some .boolean) D K := ⟨⟨B.exec, B.bytes, hml, findClass_of_methodNamed B.named, atoms_spec (ws := wsX6_isDigit) B.pre⟩, B.returns, B.notSynchronized, hK⟩
  have hl := lv_entry ([.int p0]) (n := 1) (Nat.le_of_ble_eq_true rfl)
  rw [lg_entry_eq]
  generalize (lg_sl ([.int p0]) ++ List.replicate (1 - (lg_sl ([.int p0])).length) Slot.unset).toArray = ls at hl ⊢
  have hl : lv_has ls 1 [(0, .int p0)] := hl
  exact wX6_isDigit_0 C0 p0 hz ls (lv_sub hl [0] rfl)
end SX6_isDigit

section SX6_isLetter
/-! CardLoopsModel.isLetter(I)Z -/
abbrev wsX6_isLetter : List Cond := Cond.code yX6_isLetter cX6_isLetter 1 (some .boolean) :: wsL_law0
abbrev rmX6_isLetter : Room := { frames := 0, cells := 0, slots := 0, locals := 0 }
variable {p : Program} {l : Launch} {e : Env} {s : State} {m : MethodId} {args : Array Value} {below : List Frame} {meth : Method} {c : Code} {D : va_G} {K : Nat → ClassId} {A : Nat → Prop} {z : Int32}
set_option maxHeartbeats 1000000 in
set_option maxRecDepth 10000 in
theorem wX6_isLetter_16 (C0 : cx p s m args meth c cX6_isLetter 1 RX6 wsX6_isLetter (some .boolean) D K) (h : fX6_isLetter_16 = some z) (ls : Array Slot) (hl : lv_has ls 1 []) : W p l e rmX6_isLetter s m args below meth c s.heap [] 0 0 (MQ below (vp_Si (fun r => r = z)) args s 0 0 (fun _ => False)) (F0 m 16 ls []) := by
  unfold fX6_isLetter_16 at h
  refine r_iconst C0 (nI 0) dX6_isLetter_16 (by decide) ?_
  exact r_zretRC C0 h (by decide) dX6_isLetter_17
set_option maxHeartbeats 1000000 in
set_option maxRecDepth 10000 in
theorem wX6_isLetter_0 (C0 : cx p s m args meth c cX6_isLetter 1 RX6 wsX6_isLetter (some .boolean) D K) (x0 : Int32) (h : fX6_isLetter x0 = some z) (ls : Array Slot) (hl : lv_has ls 1 [(0, .int x0)]) : W p l e rmX6_isLetter s m args below meth c s.heap [] 0 0 (MQ below (vp_Si (fun r => r = z)) args s 0 0 (fun _ => False)) (F0 m 0 ls []) := by
  unfold fX6_isLetter at h
  refine r_iload_n C0 dX6_isLetter_0 hl 0 rfl ?_
  refine r_bipush C0 (nI 97) dX6_isLetter_1 (by decide) ?_
  refine r_icmp_lt h C0 16 dX6_isLetter_3 (by decide) (fun h => ?_) (fun h => ?_)
  · exact wX6_isLetter_16 C0 h _ (lv_sub hl [] rfl)
  · refine r_iload_n C0 dX6_isLetter_6 hl 0 rfl ?_
    refine r_bipush C0 (nI 122) dX6_isLetter_7 (by decide) ?_
    refine r_icmp_gt h C0 16 dX6_isLetter_9 (by decide) (fun h => ?_) (fun h => ?_)
    · exact wX6_isLetter_16 C0 h _ (lv_sub hl [] rfl)
    · refine r_iconst C0 (nI 1) dX6_isLetter_12 (by decide) ?_
      refine r_goto C0 17 dX6_isLetter_13 (by decide) ?_
      exact r_zretRC C0 h (by decide) dX6_isLetter_17
set_option maxHeartbeats 1000000 in
set_option maxRecDepth 10000 in
theorem ctX6_isLetter (l : Launch) (D : va_G) (K : Nat → ClassId) (p0 : Int32) (z : Int32) (hz : fX6_isLetter p0 = some z) : Met l yX6_isLetter wsX6_isLetter rmX6_isLetter (pcR D K [.int p0] []) (vp_Si (fun r => r = z)) 0 0 (fun _ => False) := by
  refine Met.ofW (cc := cX6_isLetter) (maxL := 1) (ret := (some .boolean)) (by decide) rfl ?_
  intro p e s m args below meth c s₁ B hml hv
  obtain ⟨rfl, hP, hK⟩ := hv
  have C0 : cx p s m _ meth c cX6_isLetter 1 RX6 wsX6_isLetter (some .boolean) D K := ⟨⟨B.exec, B.bytes, hml, findClass_of_methodNamed B.named, atoms_spec (ws := wsX6_isLetter) B.pre⟩, B.returns, B.notSynchronized, hK⟩
  have hl := lv_entry ([.int p0]) (n := 1) (Nat.le_of_ble_eq_true rfl)
  rw [lg_entry_eq]
  generalize (lg_sl ([.int p0]) ++ List.replicate (1 - (lg_sl ([.int p0])).length) Slot.unset).toArray = ls at hl ⊢
  have hl : lv_has ls 1 [(0, .int p0)] := hl
  exact wX6_isLetter_0 C0 p0 hz ls (lv_sub hl [0] rfl)
end SX6_isLetter

section SX6_go
/-! CardLoopsModel.go()V -/
abbrev wsX6_go : List Cond := Cond.code yX6_go cX6_go 5 none :: wsL_law0
abbrev rmX6_go : Room := { frames := 1, cells := 0, slots := 0, locals := 21 }
variable {p : Program} {l : Launch} {e : Env} {s : State} {m : MethodId} {args : Array Value} {below : List Frame} {meth : Method} {c : Code} {D : va_G} {K : Nat → ClassId} {A : Nat → Prop} {N : Nat} {aM : Nat → Nat} {z : Rc × RcL}
def IX6_go_177 (p : Program) (l : Launch) (e : Env) (s : State) (m : MethodId) (args : Array Value) (below : List Frame) (meth : Method) (c : Code) (D : va_G) (K : Nat → ClassId) (aM : Nat → Nat) (A : Nat → Prop) (z : Rc × RcL) (k : Rc → RcL → Int32 → Int32 → Option (Rc × RcL)) : Prop := ∀ (M : Rc) (ML : RcL) (x2 : Int32) (x3 : Int32) (H : Heap) (locs : List Loc) (ls : Array Slot), k M ML x2 x3 = some z → va_P D vwCl (fl [wModel K aM M ML]) H → va_D A (fl [wModel K aM M ML]) → va_S A s.heap H locs → lv_has ls 5 [(0, .ref (aM 0)), (2, .int x2), (3, .int x3)] → W p l e rmX6_go s m args below meth c H locs 0 0 (MQ below (qcV D z (fun (u : Rc × RcL) => (fl [wModel K aM u.1 u.2])) A) args s 0 0 A) (F0 m 177 ls [])
def IX6_go_0 (p : Program) (l : Launch) (e : Env) (s : State) (m : MethodId) (args : Array Value) (below : List Frame) (meth : Method) (c : Code) (D : va_G) (K : Nat → ClassId) (aM : Nat → Nat) (A : Nat → Prop) (z : Rc × RcL) (k : Rc → RcL → Option (Rc × RcL)) : Prop := ∀ (M : Rc) (ML : RcL) (H : Heap) (locs : List Loc) (ls : Array Slot), k M ML = some z → va_P D vwCl (fl [wModel K aM M ML]) H → va_D A (fl [wModel K aM M ML]) → va_S A s.heap H locs → lv_has ls 5 [(0, .ref (aM 0))] → W p l e rmX6_go s m args below meth c H locs 0 0 (MQ below (qcV D z (fun (u : Rc × RcL) => (fl [wModel K aM u.1 u.2])) A) args s 0 0 A) (F0 m 0 ls [])
set_option maxHeartbeats 1000000 in
set_option maxRecDepth 10000 in
theorem wX6_go_347 (C0 : cx p s m args meth c cX6_go 5 RX6 wsX6_go none D K) (hA : ∀ q, s.heap.size ≤ q → A q) (M : Rc) (ML : RcL) (y1 : Int32) (h : fX6_go_347 N M ML y1 = some z) (H : Heap) (locs : List Loc) (hP : va_P D vwCl (fl [wModel K aM M ML]) H) (hD : va_D A (fl [wModel K aM M ML])) (hS : va_S A s.heap H locs) (ls : Array Slot) (hl : lv_has ls 5 []) : W p l e rmX6_go s m args below meth c H locs 0 0 (MQ below (qcV D z (fun (u : Rc × RcL) => (fl [wModel K aM u.1 u.2])) A) args s 0 0 A) (F0 m 347 ls [.int y1, .ref (aM 0)]) := by
  unfold fX6_go_347 at h
  refine r_put (ty := .int) h C0 6 inx6 tyX6 tyX6_ok nmX6 hP hD hS 0 (fun uu => (fl [wModel K aM uu ML])) rfl rfl 6 (by decide) (mc wd15_13) rfl (by decide +kernel) rfl rfl (by simp) rfl dX6_go_347 (fun M1 H locs h hP hD hS => ?_)
  exact r_vret h C0 (fun (u : Rc × RcL) => (fl [wModel K aM u.1 u.2])) hP hD hS dX6_go_350
set_option maxHeartbeats 1000000 in
set_option maxRecDepth 10000 in
theorem wX6_go_338 (C0 : cx p s m args meth c cX6_go 5 RX6 wsX6_go none D K) (hA : ∀ q, s.heap.size ≤ q → A q) (M : Rc) (ML : RcL) (x2 : Int32) (h : fX6_go_338 N M ML x2 = some z) (H : Heap) (locs : List Loc) (hP : va_P D vwCl (fl [wModel K aM M ML]) H) (hD : va_D A (fl [wModel K aM M ML])) (hS : va_S A s.heap H locs) (ls : Array Slot) (hl : lv_has ls 5 [(2, .int x2)]) : W p l e rmX6_go s m args below meth c H locs 0 0 (MQ below (qcV D z (fun (u : Rc × RcL) => (fl [wModel K aM u.1 u.2])) A) args s 0 0 A) (F0 m 338 ls [.ref (aM 0)]) := by
  unfold fX6_go_338 at h
  refine r_iload_n C0 dX6_go_338 hl 0 rfl ?_
  refine r_if_eq h C0 346 dX6_go_339 (by decide) (fun h => ?_) (fun h => ?_)
  · refine r_iconst C0 (nI 3) dX6_go_346 (by decide) ?_
    exact wX6_go_347 C0 hA M ML (nI 3) h _ _ hP hD hS _ (lv_sub hl [] rfl)
  · refine r_iconst C0 (nI 2) dX6_go_342 (by decide) ?_
    refine r_goto C0 347 dX6_go_343 (by decide) ?_
    exact wX6_go_347 C0 hA M ML (nI 2) h _ _ hP hD hS _ (lv_sub hl [] rfl)
set_option maxHeartbeats 1000000 in
set_option maxRecDepth 10000 in
theorem wX6_go_334 (C0 : cx p s m args meth c cX6_go 5 RX6 wsX6_go none D K) (hA : ∀ q, s.heap.size ≤ q → A q) (M : Rc) (ML : RcL) (h : fX6_go_334 N M ML = some z) (H : Heap) (locs : List Loc) (hP : va_P D vwCl (fl [wModel K aM M ML]) H) (hD : va_D A (fl [wModel K aM M ML])) (hS : va_S A s.heap H locs) (ls : Array Slot) (hl : lv_has ls 5 []) : W p l e rmX6_go s m args below meth c H locs 0 0 (MQ below (qcV D z (fun (u : Rc × RcL) => (fl [wModel K aM u.1 u.2])) A) args s 0 0 A) (F0 m 334 ls [.ref (aM 0)]) := by
  unfold fX6_go_334 at h
  refine r_iconst C0 (nI 1) dX6_go_334 (by decide) ?_
  refine r_goto C0 347 dX6_go_335 (by decide) ?_
  exact wX6_go_347 C0 hA M ML (nI 1) h _ _ hP hD hS _ (lv_sub hl [] rfl)
set_option maxHeartbeats 1000000 in
set_option maxRecDepth 10000 in
theorem wX6_go_299 (C0 : cx p s m args meth c cX6_go 5 RX6 wsX6_go none D K) (hA : ∀ q, s.heap.size ≤ q → A q) {k177 : Rc → RcL → Int32 → Int32 → Option (Rc × RcL)} (hk177 : IX6_go_177 p l e s m args below meth c D K aM A z k177) (M : Rc) (ML : RcL) (x2 : Int32) (x3 : Int32) (h : fX6_go_299 N k177 M ML x2 x3 = some z) (H : Heap) (locs : List Loc) (hP : va_P D vwCl (fl [wModel K aM M ML]) H) (hD : va_D A (fl [wModel K aM M ML])) (hS : va_S A s.heap H locs) (ls : Array Slot) (hl : lv_has ls 5 [(0, .ref (aM 0)), (2, .int x2), (3, .int x3)]) : W p l e rmX6_go s m args below meth c H locs 0 0 (MQ below (qcV D z (fun (u : Rc × RcL) => (fl [wModel K aM u.1 u.2])) A) args s 0 0 A) (F0 m 299 ls []) := by
  unfold fX6_go_299 at h
  refine r_aload_n C0 dX6_go_299 hl 0 rfl ?_
  refine r_dup C0 dX6_go_300 rfl ?_
  refine r_get C0 6 inx6 hP 0 rfl rfl 4 (by decide) (mc wd15_12) (.int (M 4 0)) rfl dX6_go_301 ?_
  refine r_iconst C0 (nI 1) dX6_go_304 (by decide) ?_
  refine r_iadd C0 dX6_go_305 ?_
  refine r_put (ty := .int) h C0 6 inx6 tyX6 tyX6_ok nmX6 hP hD hS 0 (fun uu => (fl [wModel K aM uu ML])) rfl rfl 4 (by decide) (mc wd15_12) rfl (by decide +kernel) rfl rfl (by simp) rfl dX6_go_306 (fun M1 H locs h hP hD hS => ?_)
  refine r_goto C0 177 dX6_go_309 (by decide) ?_
  exact hk177 M1 ML x2 x3 _ _ _ h hP hD hS (lv_sub hl [0, 1, 2] rfl)
set_option maxHeartbeats 1000000 in
set_option maxRecDepth 10000 in
theorem wX6_go_269 (C0 : cx p s m args meth c cX6_go 5 RX6 wsX6_go none D K) (hA : ∀ q, s.heap.size ≤ q → A q) {k177 : Rc → RcL → Int32 → Int32 → Option (Rc × RcL)} (hk177 : IX6_go_177 p l e s m args below meth c D K aM A z k177) (M : Rc) (ML : RcL) (x2 : Int32) (x3 : Int32) (x4 : Int32) (h : fX6_go_269 N k177 M ML x2 x3 x4 = some z) (H : Heap) (locs : List Loc) (hP : va_P D vwCl (fl [wModel K aM M ML]) H) (hD : va_D A (fl [wModel K aM M ML])) (hS : va_S A s.heap H locs) (ls : Array Slot) (hl : lv_has ls 5 [(0, .ref (aM 0)), (2, .int x2), (3, .int x3), (4, .int x4)]) : W p l e rmX6_go s m args below meth c H locs 0 0 (MQ below (qcV D z (fun (u : Rc × RcL) => (fl [wModel K aM u.1 u.2])) A) args s 0 0 A) (F0 m 269 ls []) := by
  unfold fX6_go_269 at h
  refine r_aload_n C0 dX6_go_269 hl 0 rfl ?_
  refine r_get C0 6 inx6 hP 0 rfl rfl 4 (by decide) (mc wd15_12) (.int (M 4 0)) rfl dX6_go_270 ?_
  refine r_aload_n C0 dX6_go_273 hl 0 rfl ?_
  refine r_get C0 6 inx6 hP 0 rfl rfl 5 (by decide) (mc wd15_20) (.int (M 5 0)) rfl dX6_go_274 ?_
  refine r_isub C0 dX6_go_277 ?_
  refine r_iconst C0 (nI 2) dX6_go_278 (by decide) ?_
  refine r_icmp_ge h C0 299 dX6_go_279 (by decide) (fun h => ?_) (fun h => ?_)
  · exact wX6_go_299 C0 hA hk177 M ML x2 x3 h _ _ hP hD hS _ (lv_sub hl [0, 1, 2] rfl)
  · refine r_aload_n C0 dX6_go_282 hl 0 rfl ?_
    refine r_bipush C0 (nI 10) dX6_go_283 (by decide) ?_
    refine r_aload_n C0 dX6_go_285 hl 0 rfl ?_
    refine r_get C0 6 inx6 hP 0 rfl rfl 7 (by decide) (mc wd15_22) (.int (M 7 0)) rfl dX6_go_286 ?_
    refine r_imul C0 dX6_go_289 ?_
    refine r_iload C0 dX6_go_290 hl 3 rfl ?_
    refine r_iadd C0 dX6_go_292 ?_
    refine r_bipush C0 (nI 48) dX6_go_293 (by decide) ?_
    refine r_isub C0 dX6_go_295 ?_
    refine r_put (ty := .int) h C0 6 inx6 tyX6 tyX6_ok nmX6 hP hD hS 0 (fun uu => (fl [wModel K aM uu ML])) rfl rfl 7 (by decide) (mc wd15_22) rfl (by decide +kernel) rfl rfl (by simp) rfl dX6_go_296 (fun M1 H locs h hP hD hS => ?_)
    exact wX6_go_299 C0 hA hk177 M1 ML x2 x3 h _ _ hP hD hS _ (lv_sub hl [0, 1, 2] rfl)
set_option maxHeartbeats 1000000 in
set_option maxRecDepth 10000 in
theorem wX6_go_234 (C0 : cx p s m args meth c cX6_go 5 RX6 wsX6_go none D K) (hA : ∀ q, s.heap.size ≤ q → A q) {k177 : Rc → RcL → Int32 → Int32 → Option (Rc × RcL)} (hk177 : IX6_go_177 p l e s m args below meth c D K aM A z k177) (M : Rc) (ML : RcL) (x2 : Int32) (x4 : Int32) (y0 : Int32) (h : fX6_go_234 N k177 M ML x2 x4 y0 = some z) (H : Heap) (locs : List Loc) (hP : va_P D vwCl (fl [wModel K aM M ML]) H) (hD : va_D A (fl [wModel K aM M ML])) (hS : va_S A s.heap H locs) (ls : Array Slot) (hl : lv_has ls 5 [(0, .ref (aM 0)), (2, .int x2), (4, .int x4)]) : W p l e rmX6_go s m args below meth c H locs 0 0 (MQ below (qcV D z (fun (u : Rc × RcL) => (fl [wModel K aM u.1 u.2])) A) args s 0 0 A) (F0 m 234 ls [.int y0]) := by
  unfold fX6_go_234 at h
  refine r_istore_n h C0 (fun v1 => [(3, .int v1), (0, .ref (aM 0)), (2, .int x2), (4, .int x4)]) dX6_go_234 hl (by decide) (fun _ => rfl) (fun v1 ls h hl => ?_)
  refine r_aload_n C0 dX6_go_235 hl 1 rfl ?_
  refine r_get C0 6 inx6 hP 0 rfl rfl 4 (by decide) (mc wd15_12) (.int (M 4 0)) rfl dX6_go_236 ?_
  refine r_aload_n C0 dX6_go_239 hl 1 rfl ?_
  refine r_get C0 6 inx6 hP 0 rfl rfl 5 (by decide) (mc wd15_20) (.int (M 5 0)) rfl dX6_go_240 ?_
  refine r_isub C0 dX6_go_243 ?_
  refine r_bipush C0 (nI 8) dX6_go_244 (by decide) ?_
  refine r_icmp_ge h C0 269 dX6_go_246 (by decide) (fun h => ?_) (fun h => ?_)
  · exact wX6_go_269 C0 hA hk177 M ML x2 v1 x4 h _ _ hP hD hS _ (lv_sub hl [1, 2, 0, 3] rfl)
  · refine r_aload_n C0 dX6_go_249 hl 1 rfl ?_
    refine r_ldc2 C0 dX6_go_250 (mc wd15_23) ?_
    refine r_aload_n C0 dX6_go_253 hl 1 rfl ?_
    refine r_get C0 6 inx6 hP 0 rfl rfl 10 (by decide) (mc wd15_21) (.long (ML 10 0)) rfl dX6_go_254 ?_
    refine r_lmul C0 dX6_go_257 ?_
    refine r_iload C0 dX6_go_258 hl 3 rfl ?_
    refine r_i2l C0 dX6_go_260 ?_
    refine r_ladd C0 dX6_go_261 ?_
    refine r_ldc2 C0 dX6_go_262 (mc wd16_0) ?_
    refine r_lsub C0 dX6_go_265 ?_
    refine r_put (ty := .long) h C0 6 inx6 tyX6 tyX6_ok nmX6 hP hD hS 0 (fun uu => (fl [wModel K aM M uu])) rfl rfl 10 (by decide) (mc wd15_21) rfl (by decide +kernel) rfl rfl (by simp) rfl dX6_go_266 (fun ML2 H locs h hP hD hS => ?_)
    exact wX6_go_269 C0 hA hk177 M ML2 x2 v1 x4 h _ _ hP hD hS _ (lv_sub hl [1, 2, 0, 3] rfl)
set_option maxHeartbeats 1000000 in
set_option maxRecDepth 10000 in
theorem wX6_go_233 (C0 : cx p s m args meth c cX6_go 5 RX6 wsX6_go none D K) (hA : ∀ q, s.heap.size ≤ q → A q) {k177 : Rc → RcL → Int32 → Int32 → Option (Rc × RcL)} (hk177 : IX6_go_177 p l e s m args below meth c D K aM A z k177) (M : Rc) (ML : RcL) (x2 : Int32) (x4 : Int32) (h : fX6_go_233 N k177 M ML x2 x4 = some z) (H : Heap) (locs : List Loc) (hP : va_P D vwCl (fl [wModel K aM M ML]) H) (hD : va_D A (fl [wModel K aM M ML])) (hS : va_S A s.heap H locs) (ls : Array Slot) (hl : lv_has ls 5 [(0, .ref (aM 0)), (2, .int x2), (4, .int x4)]) : W p l e rmX6_go s m args below meth c H locs 0 0 (MQ below (qcV D z (fun (u : Rc × RcL) => (fl [wModel K aM u.1 u.2])) A) args s 0 0 A) (F0 m 233 ls []) := by
  unfold fX6_go_233 at h
  refine r_iconst C0 (nI 0) dX6_go_233 (by decide) ?_
  exact wX6_go_234 C0 hA hk177 M ML x2 x4 (nI 0) h _ _ hP hD hS _ (lv_sub hl [0, 1, 2] rfl)
set_option maxHeartbeats 1000000 in
set_option maxRecDepth 10000 in
theorem wX6_go_205 (C0 : cx p s m args meth c cX6_go 5 RX6 wsX6_go none D K) (hA : ∀ q, s.heap.size ≤ q → A q) {k177 : Rc → RcL → Int32 → Int32 → Option (Rc × RcL)} (hk177 : IX6_go_177 p l e s m args below meth c D K aM A z k177) (M : Rc) (ML : RcL) (x2 : Int32) (x3 : Int32) (h : fX6_go_205 N k177 M ML x2 x3 = some z) (H : Heap) (locs : List Loc) (hP : va_P D vwCl (fl [wModel K aM M ML]) H) (hD : va_D A (fl [wModel K aM M ML])) (hS : va_S A s.heap H locs) (ls : Array Slot) (hl : lv_has ls 5 [(0, .ref (aM 0)), (2, .int x2), (3, .int x3)]) : W p l e rmX6_go s m args below meth c H locs 0 0 (MQ below (qcV D z (fun (u : Rc × RcL) => (fl [wModel K aM u.1 u.2])) A) args s 0 0 A) (F0 m 205 ls []) := by
  unfold fX6_go_205 at h
  refine r_aload_n C0 dX6_go_205 hl 0 rfl ?_
  refine r_get C0 6 inx6 hP 0 rfl rfl 1 (by decide) (mc wd5_10) (.ref (aM 2)) rfl dX6_go_206 ?_
  refine r_aload_n C0 dX6_go_209 hl 0 rfl ?_
  refine r_get C0 6 inx6 hP 0 rfl rfl 4 (by decide) (mc wd15_12) (.int (M 4 0)) rfl dX6_go_210 ?_
  refine r_iald h C0 hP 1 rfl dX6_go_213 (fun h => ?_)
  refine r_istore h C0 (fun v1 => [(4, .int v1), (0, .ref (aM 0)), (2, .int x2), (3, .int x3)]) dX6_go_214 hl (by decide) (fun _ => rfl) (fun v1 ls h hl => ?_)
  refine r_iload_n C0 dX6_go_216 hl 3 rfl ?_
  refine r_if_eq h C0 233 dX6_go_217 (by decide) (fun h => ?_) (fun h => ?_)
  · exact wX6_go_233 C0 hA hk177 M ML x2 v1 h _ _ hP hD hS _ (lv_sub hl [1, 2, 0] rfl)
  · refine r_iload C0 dX6_go_220 hl 0 rfl ?_
    obtain ⟨z2, hz2, h⟩ := bnd_some h
    have hPc : va_P D vwCl [] H := va_P_nil
    refine r_cI (va_runS (As := [.int v1]) (rest := []) C0.1 (ctX6_isLetter l D K v1 z2 hz2) (va_cwS 1 C0.1.2.2.2.2 (gdS wd16_1 wd16_2 wd1_5 wd16_3) rfl rfl rfl (by decide +kernel) ⟨Nat.le_of_ble_eq_true rfl, Nat.le_of_ble_eq_true rfl⟩) ⟨pcR_blind, pcR_of hPc C0.2.2.2⟩ rfl rfl hl.1 rfl (lv_room (Nat.le_of_ble_eq_true rfl)) dX6_go_222 ⟨Nat.zero_le _, Nat.zero_le _⟩).run ?_
    refine r_iload_n C0 dX6_go_225 hl 2 rfl ?_
    refine r_icmp_ne h C0 233 dX6_go_226 (by decide) (fun h => ?_) (fun h => ?_)
    · exact wX6_go_233 C0 hA hk177 M ML x2 v1 h _ _ hP hD hS _ (lv_sub hl [1, 2, 0] rfl)
    · refine r_iconst C0 (nI 1) dX6_go_229 (by decide) ?_
      refine r_goto C0 234 dX6_go_230 (by decide) ?_
      exact wX6_go_234 C0 hA hk177 M ML x2 v1 (nI 1) h _ _ hP hD hS _ (lv_sub hl [1, 2, 0] rfl)
set_option maxHeartbeats 1000000 in
set_option maxRecDepth 10000 in
theorem wX6_go_177 (C0 : cx p s m args meth c cX6_go 5 RX6 wsX6_go none D K) (hA : ∀ q, s.heap.size ≤ q → A q) {k177 : Rc → RcL → Int32 → Int32 → Option (Rc × RcL)} (hk177 : IX6_go_177 p l e s m args below meth c D K aM A z k177) (M : Rc) (ML : RcL) (x2 : Int32) (x3 : Int32) (h : fX6_go_177b N k177 M ML x2 x3 = some z) (H : Heap) (locs : List Loc) (hP : va_P D vwCl (fl [wModel K aM M ML]) H) (hD : va_D A (fl [wModel K aM M ML])) (hS : va_S A s.heap H locs) (ls : Array Slot) (hl : lv_has ls 5 [(0, .ref (aM 0)), (2, .int x2), (3, .int x3)]) : W p l e rmX6_go s m args below meth c H locs 0 0 (MQ below (qcV D z (fun (u : Rc × RcL) => (fl [wModel K aM u.1 u.2])) A) args s 0 0 A) (F0 m 177 ls []) := by
  unfold fX6_go_177b at h
  refine r_aload_n C0 dX6_go_177 hl 0 rfl ?_
  refine r_aload_n C0 dX6_go_178 hl 0 rfl ?_
  refine r_get C0 6 inx6 hP 0 rfl rfl 4 (by decide) (mc wd15_12) (.int (M 4 0)) rfl dX6_go_179 ?_
  obtain ⟨z1, hz1, h⟩ := bnd_some h
  have hPc := vaP_sel (Wc := [wModel K aM M ML]) hP [0] rfl
  refine r_cI (va_runV (As := [.int (M 4 0)]) (rest := []) C0.1 (ctX6_tapeAt l D K aM M ML (M 4 0) z1 hz1) (cwV 1 C0.1.2.2.2.2 (gdV wd16_7 wd16_8 wd16_9 wd1_5 wd16_10) rfl rfl rfl (by decide +kernel) ⟨Nat.le_of_ble_eq_true rfl, Nat.le_of_ble_eq_true rfl⟩) ⟨pcR_blind, va_recv C0.2.2.2.1 hPc (ci := 6) (q0 := 0) rfl rfl, pcR_of hPc C0.2.2.2⟩ rfl rfl hl.1 rfl (lv_room (Nat.le_of_ble_eq_true rfl)) dX6_go_182 ⟨Nat.zero_le _, Nat.zero_le _⟩).run ?_
  obtain ⟨z2, hz2, h⟩ := bnd_some h
  have hPc : va_P D vwCl [] H := va_P_nil
  refine r_cI (va_runS (As := [.int z1]) (rest := []) C0.1 (ctX6_isLetter l D K z1 z2 hz2) (va_cwS 1 C0.1.2.2.2.2 (gdS wd16_1 wd16_2 wd1_5 wd16_3) rfl rfl rfl (by decide +kernel) ⟨Nat.le_of_ble_eq_true rfl, Nat.le_of_ble_eq_true rfl⟩) ⟨pcR_blind, pcR_of hPc C0.2.2.2⟩ rfl rfl hl.1 rfl (lv_room (Nat.le_of_ble_eq_true rfl)) dX6_go_185 ⟨Nat.zero_le _, Nat.zero_le _⟩).run ?_
  refine r_if_ne h C0 205 dX6_go_188 (by decide) (fun h => ?_) (fun h => ?_)
  · exact wX6_go_205 C0 hA hk177 M ML x2 x3 h _ _ hP hD hS _ (lv_sub hl [0, 1, 2] rfl)
  · refine r_aload_n C0 dX6_go_191 hl 0 rfl ?_
    refine r_aload_n C0 dX6_go_192 hl 0 rfl ?_
    refine r_get C0 6 inx6 hP 0 rfl rfl 4 (by decide) (mc wd15_12) (.int (M 4 0)) rfl dX6_go_193 ?_
    obtain ⟨z3, hz3, h⟩ := bnd_some h
    have hPc := vaP_sel (Wc := [wModel K aM M ML]) hP [0] rfl
    refine r_cI (va_runV (As := [.int (M 4 0)]) (rest := []) C0.1 (ctX6_tapeAt l D K aM M ML (M 4 0) z3 hz3) (cwV 1 C0.1.2.2.2.2 (gdV wd16_7 wd16_8 wd16_9 wd1_5 wd16_10) rfl rfl rfl (by decide +kernel) ⟨Nat.le_of_ble_eq_true rfl, Nat.le_of_ble_eq_true rfl⟩) ⟨pcR_blind, va_recv C0.2.2.2.1 hPc (ci := 6) (q0 := 0) rfl rfl, pcR_of hPc C0.2.2.2⟩ rfl rfl hl.1 rfl (lv_room (Nat.le_of_ble_eq_true rfl)) dX6_go_196 ⟨Nat.zero_le _, Nat.zero_le _⟩).run ?_
    obtain ⟨z4, hz4, h⟩ := bnd_some h
    have hPc : va_P D vwCl [] H := va_P_nil
    refine r_cI (va_runS (As := [.int z3]) (rest := []) C0.1 (ctX6_isDigit l D K z3 z4 hz4) (va_cwS 1 C0.1.2.2.2.2 (gdS wd16_4 wd16_5 wd1_5 wd16_6) rfl rfl rfl (by decide +kernel) ⟨Nat.le_of_ble_eq_true rfl, Nat.le_of_ble_eq_true rfl⟩) ⟨pcR_blind, pcR_of hPc C0.2.2.2⟩ rfl rfl hl.1 rfl (lv_room (Nat.le_of_ble_eq_true rfl)) dX6_go_199 ⟨Nat.zero_le _, Nat.zero_le _⟩).run ?_
    refine r_if_eq h C0 312 dX6_go_202 (by decide) (fun h => ?_) (fun h => ?_)
    · refine r_aload_n C0 dX6_go_312 hl 0 rfl ?_
      refine r_iload_n C0 dX6_go_313 hl 2 rfl ?_
      refine r_if_eq h C0 334 dX6_go_314 (by decide) (fun h => ?_) (fun h => ?_)
      · exact wX6_go_334 C0 hA M ML h _ _ hP hD hS _ (lv_sub hl [] rfl)
      · refine r_iload_n C0 dX6_go_317 hl 1 rfl ?_
        refine r_if_ne h C0 338 dX6_go_318 (by decide) (fun h => ?_) (fun h => ?_)
        · exact wX6_go_338 C0 hA M ML x2 h _ _ hP hD hS _ (lv_sub hl [1] rfl)
        · refine r_aload_n C0 dX6_go_321 hl 0 rfl ?_
          refine r_get C0 6 inx6 hP 0 rfl rfl 4 (by decide) (mc wd15_12) (.int (M 4 0)) rfl dX6_go_322 ?_
          refine r_aload_n C0 dX6_go_325 hl 0 rfl ?_
          refine r_get C0 6 inx6 hP 0 rfl rfl 5 (by decide) (mc wd15_20) (.int (M 5 0)) rfl dX6_go_326 ?_
          refine r_isub C0 dX6_go_329 ?_
          refine r_iconst C0 (nI 2) dX6_go_330 (by decide) ?_
          refine r_icmp_le h C0 338 dX6_go_331 (by decide) (fun h => ?_) (fun h => ?_)
          · exact wX6_go_338 C0 hA M ML x2 h _ _ hP hD hS _ (lv_sub hl [1] rfl)
          · exact wX6_go_334 C0 hA M ML h _ _ hP hD hS _ (lv_sub hl [] rfl)
    · exact wX6_go_205 C0 hA hk177 M ML x2 x3 h _ _ hP hD hS _ (lv_sub hl [0, 1, 2] rfl)
theorem wX6_go_177L (C0 : cx p s m args meth c cX6_go 5 RX6 wsX6_go none D K) (hA : ∀ q, s.heap.size ≤ q → A q) : IX6_go_177 p l e s m args below meth c D K aM A z (fX6_go_177 N) := by
  refine itn_ind (IX6_go_177 p l e s m args below meth c D K aM A z) ?_ ?_ N
  · intro _ _ _ _ _ _ _ h; cases h
  · intro k177 hk177 M ML x2 x3 H locs ls h hP hD hS hl
    exact wX6_go_177 C0 hA hk177 M ML x2 x3 h H locs hP hD hS ls hl
set_option maxHeartbeats 1000000 in
set_option maxRecDepth 10000 in
theorem wX6_go_160 (C0 : cx p s m args meth c cX6_go 5 RX6 wsX6_go none D K) (hA : ∀ q, s.heap.size ≤ q → A q) (M : Rc) (ML : RcL) (x1 : Int32) (h : fX6_go_160 N M ML x1 = some z) (H : Heap) (locs : List Loc) (hP : va_P D vwCl (fl [wModel K aM M ML]) H) (hD : va_D A (fl [wModel K aM M ML])) (hS : va_S A s.heap H locs) (ls : Array Slot) (hl : lv_has ls 5 [(0, .ref (aM 0)), (1, .int x1)]) : W p l e rmX6_go s m args below meth c H locs 0 0 (MQ below (qcV D z (fun (u : Rc × RcL) => (fl [wModel K aM u.1 u.2])) A) args s 0 0 A) (F0 m 160 ls []) := by
  unfold fX6_go_160 at h
  refine r_iload_n C0 dX6_go_160 hl 1 rfl ?_
  obtain ⟨z1, hz1, h⟩ := bnd_some h
  have hPc : va_P D vwCl [] H := va_P_nil
  refine r_cI (va_runS (As := [.int x1]) (rest := []) C0.1 (ctX6_isLetter l D K x1 z1 hz1) (va_cwS 1 C0.1.2.2.2.2 (gdS wd16_1 wd16_2 wd1_5 wd16_3) rfl rfl rfl (by decide +kernel) ⟨Nat.le_of_ble_eq_true rfl, Nat.le_of_ble_eq_true rfl⟩) ⟨pcR_blind, pcR_of hPc C0.2.2.2⟩ rfl rfl hl.1 rfl (lv_room (Nat.le_of_ble_eq_true rfl)) dX6_go_161 ⟨Nat.zero_le _, Nat.zero_le _⟩).run ?_
  refine r_istore_n h C0 (fun v2 => [(2, .int v2), (0, .ref (aM 0)), (1, .int x1)]) dX6_go_164 hl (by decide) (fun _ => rfl) (fun v2 ls h hl => ?_)
  refine r_iconst C0 (nI 1) dX6_go_165 (by decide) ?_
  refine r_istore_n h C0 (fun v3 => [(3, .int v3), (2, .int v2), (0, .ref (aM 0)), (1, .int x1)]) dX6_go_166 hl (by decide) (fun _ => rfl) (fun v3 ls h hl => ?_)
  refine r_aload_n C0 dX6_go_167 hl 2 rfl ?_
  refine r_lconst C0 (0) dX6_go_168 (by decide) ?_
  refine r_put (ty := .long) h C0 6 inx6 tyX6 tyX6_ok nmX6 hP hD hS 0 (fun uu => (fl [wModel K aM M uu])) rfl rfl 10 (by decide) (mc wd15_21) rfl (by decide +kernel) rfl rfl (by simp) rfl dX6_go_169 (fun ML4 H locs h hP hD hS => ?_)
  refine r_aload_n C0 dX6_go_172 hl 2 rfl ?_
  refine r_iconst C0 (nI 0) dX6_go_173 (by decide) ?_
  refine r_put (ty := .int) h C0 6 inx6 tyX6 tyX6_ok nmX6 hP hD hS 0 (fun uu => (fl [wModel K aM uu ML4])) rfl rfl 7 (by decide) (mc wd15_22) rfl (by decide +kernel) rfl rfl (by simp) rfl dX6_go_174 (fun M5 H locs h hP hD hS => ?_)
  exact wX6_go_177L C0 hA M5 ML4 v2 v3 _ _ _ h hP hD hS (lv_sub hl [2, 1, 0] rfl)
set_option maxHeartbeats 1000000 in
set_option maxRecDepth 10000 in
theorem wX6_go_146 (C0 : cx p s m args meth c cX6_go 5 RX6 wsX6_go none D K) (hA : ∀ q, s.heap.size ≤ q → A q) (M : Rc) (ML : RcL) (y1 : Int32) (h : fX6_go_146 N M ML y1 = some z) (H : Heap) (locs : List Loc) (hP : va_P D vwCl (fl [wModel K aM M ML]) H) (hD : va_D A (fl [wModel K aM M ML])) (hS : va_S A s.heap H locs) (ls : Array Slot) (hl : lv_has ls 5 [(0, .ref (aM 0))]) : W p l e rmX6_go s m args below meth c H locs 0 0 (MQ below (qcV D z (fun (u : Rc × RcL) => (fl [wModel K aM u.1 u.2])) A) args s 0 0 A) (F0 m 146 ls [.int y1, .ref (aM 0)]) := by
  unfold fX6_go_146 at h
  refine r_put (ty := .int) h C0 6 inx6 tyX6 tyX6_ok nmX6 hP hD hS 0 (fun uu => (fl [wModel K aM uu ML])) rfl rfl 6 (by decide) (mc wd15_13) rfl (by decide +kernel) rfl rfl (by simp) rfl dX6_go_146 (fun M1 H locs h hP hD hS => ?_)
  refine r_aload_n C0 dX6_go_149 hl 0 rfl ?_
  refine r_dup C0 dX6_go_150 rfl ?_
  refine r_get C0 6 inx6 hP 0 rfl rfl 4 (by decide) (mc wd15_12) (.int (M1 4 0)) rfl dX6_go_151 ?_
  refine r_iconst C0 (nI 1) dX6_go_154 (by decide) ?_
  refine r_iadd C0 dX6_go_155 ?_
  refine r_put (ty := .int) h C0 6 inx6 tyX6 tyX6_ok nmX6 hP hD hS 0 (fun uu => (fl [wModel K aM uu ML])) rfl rfl 4 (by decide) (mc wd15_12) rfl (by decide +kernel) rfl rfl (by simp) rfl dX6_go_156 (fun M2 H locs h hP hD hS => ?_)
  exact r_vret h C0 (fun (u : Rc × RcL) => (fl [wModel K aM u.1 u.2])) hP hD hS dX6_go_159
set_option maxHeartbeats 1000000 in
set_option maxRecDepth 10000 in
theorem wX6_go_93 (C0 : cx p s m args meth c cX6_go 5 RX6 wsX6_go none D K) (hA : ∀ q, s.heap.size ≤ q → A q) (M : Rc) (ML : RcL) (h : fX6_go_93 N M ML = some z) (H : Heap) (locs : List Loc) (hP : va_P D vwCl (fl [wModel K aM M ML]) H) (hD : va_D A (fl [wModel K aM M ML])) (hS : va_S A s.heap H locs) (ls : Array Slot) (hl : lv_has ls 5 [(0, .ref (aM 0))]) : W p l e rmX6_go s m args below meth c H locs 0 0 (MQ below (qcV D z (fun (u : Rc × RcL) => (fl [wModel K aM u.1 u.2])) A) args s 0 0 A) (F0 m 93 ls []) := by
  unfold fX6_go_93 at h
  refine r_aload_n C0 dX6_go_93 hl 0 rfl ?_
  refine r_get C0 6 inx6 hP 0 rfl rfl 4 (by decide) (mc wd15_12) (.int (M 4 0)) rfl dX6_go_94 ?_
  refine r_aload_n C0 dX6_go_97 hl 0 rfl ?_
  refine r_get C0 6 inx6 hP 0 rfl rfl 3 (by decide) (mc wd15_10) (.int (M 3 0)) rfl dX6_go_98 ?_
  refine r_icmp_lt h C0 110 dX6_go_101 (by decide) (fun h => ?_) (fun h => ?_)
  · refine r_aload_n C0 dX6_go_110 hl 0 rfl ?_
    refine r_get C0 6 inx6 hP 0 rfl rfl 1 (by decide) (mc wd5_10) (.ref (aM 2)) rfl dX6_go_111 ?_
    refine r_aload_n C0 dX6_go_114 hl 0 rfl ?_
    refine r_get C0 6 inx6 hP 0 rfl rfl 4 (by decide) (mc wd15_12) (.int (M 4 0)) rfl dX6_go_115 ?_
    refine r_iald h C0 hP 1 rfl dX6_go_118 (fun h => ?_)
    refine r_istore_n h C0 (fun v1 => [(1, .int v1), (0, .ref (aM 0))]) dX6_go_119 hl (by decide) (fun _ => rfl) (fun v1 ls h hl => ?_)
    refine r_iload_n C0 dX6_go_120 hl 0 rfl ?_
    obtain ⟨z2, hz2, h⟩ := bnd_some h
    have hPc : va_P D vwCl [] H := va_P_nil
    refine r_cI (va_runS (As := [.int v1]) (rest := []) C0.1 (ctX6_isLetter l D K v1 z2 hz2) (va_cwS 1 C0.1.2.2.2.2 (gdS wd16_1 wd16_2 wd1_5 wd16_3) rfl rfl rfl (by decide +kernel) ⟨Nat.le_of_ble_eq_true rfl, Nat.le_of_ble_eq_true rfl⟩) ⟨pcR_blind, pcR_of hPc C0.2.2.2⟩ rfl rfl hl.1 rfl (lv_room (Nat.le_of_ble_eq_true rfl)) dX6_go_121 ⟨Nat.zero_le _, Nat.zero_le _⟩).run ?_
    refine r_if_ne h C0 160 dX6_go_124 (by decide) (fun h => ?_) (fun h => ?_)
    · exact wX6_go_160 C0 hA M ML v1 h _ _ hP hD hS _ (lv_sub hl [1, 0] rfl)
    · refine r_iload_n C0 dX6_go_127 hl 0 rfl ?_
      obtain ⟨z3, hz3, h⟩ := bnd_some h
      have hPc : va_P D vwCl [] H := va_P_nil
      refine r_cI (va_runS (As := [.int v1]) (rest := []) C0.1 (ctX6_isDigit l D K v1 z3 hz3) (va_cwS 1 C0.1.2.2.2.2 (gdS wd16_4 wd16_5 wd1_5 wd16_6) rfl rfl rfl (by decide +kernel) ⟨Nat.le_of_ble_eq_true rfl, Nat.le_of_ble_eq_true rfl⟩) ⟨pcR_blind, pcR_of hPc C0.2.2.2⟩ rfl rfl hl.1 rfl (lv_room (Nat.le_of_ble_eq_true rfl)) dX6_go_128 ⟨Nat.zero_le _, Nat.zero_le _⟩).run ?_
      refine r_if_ne h C0 160 dX6_go_131 (by decide) (fun h => ?_) (fun h => ?_)
      · exact wX6_go_160 C0 hA M ML v1 h _ _ hP hD hS _ (lv_sub hl [1, 0] rfl)
      · refine r_aload_n C0 dX6_go_134 hl 1 rfl ?_
        refine r_iload_n C0 dX6_go_135 hl 0 rfl ?_
        refine r_bipush C0 (nI 59) dX6_go_136 (by decide) ?_
        refine r_icmp_ne h C0 145 dX6_go_138 (by decide) (fun h => ?_) (fun h => ?_)
        · refine r_iconst C0 (nI 1) dX6_go_145 (by decide) ?_
          exact wX6_go_146 C0 hA M ML (nI 1) h _ _ hP hD hS _ (lv_sub hl [1] rfl)
        · refine r_iconst C0 (nI 4) dX6_go_141 (by decide) ?_
          refine r_goto C0 146 dX6_go_142 (by decide) ?_
          exact wX6_go_146 C0 hA M ML (nI 4) h _ _ hP hD hS _ (lv_sub hl [1] rfl)
  · refine r_aload_n C0 dX6_go_104 hl 0 rfl ?_
    refine r_iconst C0 (nI 0) dX6_go_105 (by decide) ?_
    refine r_put (ty := .int) h C0 6 inx6 tyX6 tyX6_ok nmX6 hP hD hS 0 (fun uu => (fl [wModel K aM uu ML])) rfl rfl 6 (by decide) (mc wd15_13) rfl (by decide +kernel) rfl rfl (by simp) rfl dX6_go_106 (fun M4 H locs h hP hD hS => ?_)
    exact r_vret h C0 (fun (u : Rc × RcL) => (fl [wModel K aM u.1 u.2])) hP hD hS dX6_go_109
set_option maxHeartbeats 1000000 in
set_option maxRecDepth 10000 in
theorem wX6_go_52 (C0 : cx p s m args meth c cX6_go 5 RX6 wsX6_go none D K) (hA : ∀ q, s.heap.size ≤ q → A q) (M : Rc) (ML : RcL) (h : fX6_go_52 N M ML = some z) (H : Heap) (locs : List Loc) (hP : va_P D vwCl (fl [wModel K aM M ML]) H) (hD : va_D A (fl [wModel K aM M ML])) (hS : va_S A s.heap H locs) (ls : Array Slot) (hl : lv_has ls 5 [(0, .ref (aM 0))]) : W p l e rmX6_go s m args below meth c H locs 0 0 (MQ below (qcV D z (fun (u : Rc × RcL) => (fl [wModel K aM u.1 u.2])) A) args s 0 0 A) (F0 m 52 ls []) := by
  unfold fX6_go_52 at h
  refine r_aload_n C0 dX6_go_52 hl 0 rfl ?_
  refine r_aload_n C0 dX6_go_53 hl 0 rfl ?_
  refine r_get C0 6 inx6 hP 0 rfl rfl 4 (by decide) (mc wd15_12) (.int (M 4 0)) rfl dX6_go_54 ?_
  refine r_put (ty := .int) h C0 6 inx6 tyX6 tyX6_ok nmX6 hP hD hS 0 (fun uu => (fl [wModel K aM uu ML])) rfl rfl 5 (by decide) (mc wd15_20) rfl (by decide +kernel) rfl rfl (by simp) rfl dX6_go_57 (fun M1 H locs h hP hD hS => ?_)
  refine r_aload_n C0 dX6_go_60 hl 0 rfl ?_
  refine r_get C0 6 inx6 hP 0 rfl rfl 3 (by decide) (mc wd15_10) (.int (M1 3 0)) rfl dX6_go_61 ?_
  refine r_sipush C0 (nI 400) dX6_go_64 (by decide) ?_
  refine r_icmp_le h C0 93 dX6_go_67 (by decide) (fun h => ?_) (fun h => ?_)
  · exact wX6_go_93 C0 hA M1 ML h _ _ hP hD hS _ (lv_sub hl [0] rfl)
  · refine r_aload_n C0 dX6_go_70 hl 0 rfl ?_
    refine r_get C0 6 inx6 hP 0 rfl rfl 5 (by decide) (mc wd15_20) (.int (M1 5 0)) rfl dX6_go_71 ?_
    refine r_sipush C0 (nI 400) dX6_go_74 (by decide) ?_
    refine r_icmp_lt h C0 93 dX6_go_77 (by decide) (fun h => ?_) (fun h => ?_)
    · exact wX6_go_93 C0 hA M1 ML h _ _ hP hD hS _ (lv_sub hl [0] rfl)
    · refine r_aload_n C0 dX6_go_80 hl 0 rfl ?_
      refine r_sipush C0 (nI 400) dX6_go_81 (by decide) ?_
      refine r_put (ty := .int) h C0 6 inx6 tyX6 tyX6_ok nmX6 hP hD hS 0 (fun uu => (fl [wModel K aM uu ML])) rfl rfl 5 (by decide) (mc wd15_20) rfl (by decide +kernel) rfl rfl (by simp) rfl dX6_go_84 (fun M2 H locs h hP hD hS => ?_)
      refine r_aload_n C0 dX6_go_87 hl 0 rfl ?_
      refine r_iconst C0 (nI 1) dX6_go_88 (by decide) ?_
      refine r_put (ty := .int) h C0 6 inx6 tyX6 tyX6_ok nmX6 hP hD hS 0 (fun uu => (fl [wModel K aM uu ML])) rfl rfl 6 (by decide) (mc wd15_13) rfl (by decide +kernel) rfl rfl (by simp) rfl dX6_go_89 (fun M3 H locs h hP hD hS => ?_)
      exact r_vret h C0 (fun (u : Rc × RcL) => (fl [wModel K aM u.1 u.2])) hP hD hS dX6_go_92
set_option maxHeartbeats 1000000 in
set_option maxRecDepth 10000 in
theorem wX6_go_39 (C0 : cx p s m args meth c cX6_go 5 RX6 wsX6_go none D K) (hA : ∀ q, s.heap.size ≤ q → A q) {k0 : Rc → RcL → Option (Rc × RcL)} (hk0 : IX6_go_0 p l e s m args below meth c D K aM A z k0) (M : Rc) (ML : RcL) (h : fX6_go_39 N k0 M ML = some z) (H : Heap) (locs : List Loc) (hP : va_P D vwCl (fl [wModel K aM M ML]) H) (hD : va_D A (fl [wModel K aM M ML])) (hS : va_S A s.heap H locs) (ls : Array Slot) (hl : lv_has ls 5 [(0, .ref (aM 0))]) : W p l e rmX6_go s m args below meth c H locs 0 0 (MQ below (qcV D z (fun (u : Rc × RcL) => (fl [wModel K aM u.1 u.2])) A) args s 0 0 A) (F0 m 39 ls []) := by
  unfold fX6_go_39 at h
  refine r_aload_n C0 dX6_go_39 hl 0 rfl ?_
  refine r_dup C0 dX6_go_40 rfl ?_
  refine r_get C0 6 inx6 hP 0 rfl rfl 4 (by decide) (mc wd15_12) (.int (M 4 0)) rfl dX6_go_41 ?_
  refine r_iconst C0 (nI 1) dX6_go_44 (by decide) ?_
  refine r_iadd C0 dX6_go_45 ?_
  refine r_put (ty := .int) h C0 6 inx6 tyX6 tyX6_ok nmX6 hP hD hS 0 (fun uu => (fl [wModel K aM uu ML])) rfl rfl 4 (by decide) (mc wd15_12) rfl (by decide +kernel) rfl rfl (by simp) rfl dX6_go_46 (fun M1 H locs h hP hD hS => ?_)
  refine r_goto C0 0 dX6_go_49 (by decide) ?_
  exact hk0 M1 ML _ _ _ h hP hD hS (lv_sub hl [0] rfl)
set_option maxHeartbeats 1000000 in
set_option maxRecDepth 10000 in
theorem wX6_go_0 (C0 : cx p s m args meth c cX6_go 5 RX6 wsX6_go none D K) (hA : ∀ q, s.heap.size ≤ q → A q) {k0 : Rc → RcL → Option (Rc × RcL)} (hk0 : IX6_go_0 p l e s m args below meth c D K aM A z k0) (M : Rc) (ML : RcL) (h : fX6_gob N k0 M ML = some z) (H : Heap) (locs : List Loc) (hP : va_P D vwCl (fl [wModel K aM M ML]) H) (hD : va_D A (fl [wModel K aM M ML])) (hS : va_S A s.heap H locs) (ls : Array Slot) (hl : lv_has ls 5 [(0, .ref (aM 0))]) : W p l e rmX6_go s m args below meth c H locs 0 0 (MQ below (qcV D z (fun (u : Rc × RcL) => (fl [wModel K aM u.1 u.2])) A) args s 0 0 A) (F0 m 0 ls []) := by
  unfold fX6_gob at h
  refine r_aload_n C0 dX6_go_0 hl 0 rfl ?_
  refine r_get C0 6 inx6 hP 0 rfl rfl 4 (by decide) (mc wd15_12) (.int (M 4 0)) rfl dX6_go_1 ?_
  refine r_aload_n C0 dX6_go_4 hl 0 rfl ?_
  refine r_get C0 6 inx6 hP 0 rfl rfl 3 (by decide) (mc wd15_10) (.int (M 3 0)) rfl dX6_go_5 ?_
  refine r_icmp_ge h C0 52 dX6_go_8 (by decide) (fun h => ?_) (fun h => ?_)
  · exact wX6_go_52 C0 hA M ML h _ _ hP hD hS _ (lv_sub hl [0] rfl)
  · refine r_aload_n C0 dX6_go_11 hl 0 rfl ?_
    refine r_get C0 6 inx6 hP 0 rfl rfl 1 (by decide) (mc wd5_10) (.ref (aM 2)) rfl dX6_go_12 ?_
    refine r_aload_n C0 dX6_go_15 hl 0 rfl ?_
    refine r_get C0 6 inx6 hP 0 rfl rfl 4 (by decide) (mc wd15_12) (.int (M 4 0)) rfl dX6_go_16 ?_
    refine r_iald h C0 hP 1 rfl dX6_go_19 (fun h => ?_)
    refine r_bipush C0 (nI 32) dX6_go_20 (by decide) ?_
    refine r_icmp_eq h C0 39 dX6_go_22 (by decide) (fun h => ?_) (fun h => ?_)
    · exact wX6_go_39 C0 hA hk0 M ML h _ _ hP hD hS _ (lv_sub hl [0] rfl)
    · refine r_aload_n C0 dX6_go_25 hl 0 rfl ?_
      refine r_get C0 6 inx6 hP 0 rfl rfl 1 (by decide) (mc wd5_10) (.ref (aM 2)) rfl dX6_go_26 ?_
      refine r_aload_n C0 dX6_go_29 hl 0 rfl ?_
      refine r_get C0 6 inx6 hP 0 rfl rfl 4 (by decide) (mc wd15_12) (.int (M 4 0)) rfl dX6_go_30 ?_
      refine r_iald h C0 hP 1 rfl dX6_go_33 (fun h => ?_)
      refine r_bipush C0 (nI 10) dX6_go_34 (by decide) ?_
      refine r_icmp_ne h C0 52 dX6_go_36 (by decide) (fun h => ?_) (fun h => ?_)
      · exact wX6_go_52 C0 hA M ML h _ _ hP hD hS _ (lv_sub hl [0] rfl)
      · exact wX6_go_39 C0 hA hk0 M ML h _ _ hP hD hS _ (lv_sub hl [0] rfl)
theorem wX6_go_0L (C0 : cx p s m args meth c cX6_go 5 RX6 wsX6_go none D K) (hA : ∀ q, s.heap.size ≤ q → A q) : IX6_go_0 p l e s m args below meth c D K aM A z (fX6_go N) := by
  refine itn_ind (IX6_go_0 p l e s m args below meth c D K aM A z) ?_ ?_ N
  · intro _ _ _ _ _ h; cases h
  · intro k0 hk0 M ML H locs ls h hP hD hS hl
    exact wX6_go_0 C0 hA hk0 M ML h H locs hP hD hS ls hl
set_option maxHeartbeats 1000000 in
set_option maxRecDepth 10000 in
theorem ctX6_go (l : Launch) (D : va_G) (K : Nat → ClassId) (N : Nat) (aM : Nat → Nat) (M : Rc) (ML : RcL) (sz : Nat) (z : Rc × RcL) (hz : fX6_go N M ML = some z) : Met l yX6_go wsX6_go rmX6_go (pcW D K [.ref (aM 0)] (fl [wModel K aM M ML]) sz) (qcV D z (fun (u : Rc × RcL) => (fl [wModel K aM u.1 u.2])) (va_A (fl [wModel K aM M ML]) sz)) 0 0 (va_A (fl [wModel K aM M ML]) sz) := by
  refine Met.ofW (cc := cX6_go) (maxL := 5) (ret := none) (by decide) rfl ?_
  intro p e s m args below meth c s₁ B hml hv
  obtain ⟨rfl, hsz, hP, hK, hD0⟩ := hv
  subst hsz
  have C0 : cx p s m _ meth c cX6_go 5 RX6 wsX6_go none D K := ⟨⟨B.exec, B.bytes, hml, findClass_of_methodNamed B.named, atoms_spec (ws := wsX6_go) B.pre⟩, B.returns, B.notSynchronized, hK⟩
  have hD := hD0.self (sz := s.heap.size)
  generalize hAe : va_A (fl [wModel K aM M ML]) s.heap.size = A at hD ⊢
  have hA : ∀ q : Nat, s.heap.size ≤ q → A q := fun q h => by rw [← hAe]; exact Or.inr h
  have hl := lv_entry ([.ref (aM 0)]) (n := 5) (Nat.le_of_ble_eq_true rfl)
  rw [lg_entry_eq]
  generalize (lg_sl ([.ref (aM 0)]) ++ List.replicate (5 - (lg_sl ([.ref (aM 0)])).length) Slot.unset).toArray = ls at hl ⊢
  have hl : lv_has ls 5 [(0, .ref (aM 0))] := hl
  exact wX6_go_0L C0 hA M ML s.heap [] ls hz hP hD va_S.rf (lv_sub hl [0] rfl)
end SX6_go

section SX6_four
/-! CardLoopsModel.four(IIII)J -/
abbrev wsX6_four : List Cond := Cond.code yX6_four cX6_four 4 (some .long) :: wsL_law0
abbrev rmX6_four : Room := { frames := 0, cells := 0, slots := 0, locals := 0 }
variable {p : Program} {l : Launch} {e : Env} {s : State} {m : MethodId} {args : Array Value} {below : List Frame} {meth : Method} {c : Code} {D : va_G} {K : Nat → ClassId} {A : Nat → Prop} {z : Int64}
set_option maxHeartbeats 1000000 in
set_option maxRecDepth 10000 in
theorem wX6_four_0 (C0 : cx p s m args meth c cX6_four 4 RX6 wsX6_four (some .long) D K) (x0 : Int32) (x1 : Int32) (x2 : Int32) (x3 : Int32) (h : fX6_four x0 x1 x2 x3 = some z) (ls : Array Slot) (hl : lv_has ls 4 [(0, .int x0), (1, .int x1), (2, .int x2), (3, .int x3)]) : W p l e rmX6_four s m args below meth c s.heap [] 0 0 (MQ below (vp_Sl (fun r => r = z)) args s 0 0 (fun _ => False)) (F0 m 0 ls []) := by
  unfold fX6_four at h
  refine r_ldc2 C0 dX6_four_0 (mc wd15_23) ?_
  refine r_ldc2 C0 dX6_four_3 (mc wd15_23) ?_
  refine r_ldc2 C0 dX6_four_6 (mc wd15_23) ?_
  refine r_iload_n C0 dX6_four_9 hl 0 rfl ?_
  refine r_i2l C0 dX6_four_10 ?_
  refine r_ldc2 C0 dX6_four_11 (mc wd16_0) ?_
  refine r_lsub C0 dX6_four_14 ?_
  refine r_lmul C0 dX6_four_15 ?_
  refine r_iload_n C0 dX6_four_16 hl 1 rfl ?_
  refine r_i2l C0 dX6_four_17 ?_
  refine r_ladd C0 dX6_four_18 ?_
  refine r_ldc2 C0 dX6_four_19 (mc wd16_0) ?_
  refine r_lsub C0 dX6_four_22 ?_
  refine r_lmul C0 dX6_four_23 ?_
  refine r_iload_n C0 dX6_four_24 hl 2 rfl ?_
  refine r_i2l C0 dX6_four_25 ?_
  refine r_ladd C0 dX6_four_26 ?_
  refine r_ldc2 C0 dX6_four_27 (mc wd16_0) ?_
  refine r_lsub C0 dX6_four_30 ?_
  refine r_lmul C0 dX6_four_31 ?_
  refine r_iload_n C0 dX6_four_32 hl 3 rfl ?_
  refine r_i2l C0 dX6_four_33 ?_
  refine r_ladd C0 dX6_four_34 ?_
  refine r_ldc2 C0 dX6_four_35 (mc wd16_0) ?_
  refine r_lsub C0 dX6_four_38 ?_
  exact r_lretR C0 h dX6_four_39
set_option maxHeartbeats 1000000 in
set_option maxRecDepth 10000 in
theorem ctX6_four (l : Launch) (D : va_G) (K : Nat → ClassId) (p0 : Int32) (p1 : Int32) (p2 : Int32) (p3 : Int32) (z : Int64) (hz : fX6_four p0 p1 p2 p3 = some z) : Met l yX6_four wsX6_four rmX6_four (pcR D K [.int p0, .int p1, .int p2, .int p3] []) (vp_Sl (fun r => r = z)) 0 0 (fun _ => False) := by
  refine Met.ofW (cc := cX6_four) (maxL := 4) (ret := (some .long)) (by decide) rfl ?_
  intro p e s m args below meth c s₁ B hml hv
  obtain ⟨rfl, hP, hK⟩ := hv
  have C0 : cx p s m _ meth c cX6_four 4 RX6 wsX6_four (some .long) D K := ⟨⟨B.exec, B.bytes, hml, findClass_of_methodNamed B.named, atoms_spec (ws := wsX6_four) B.pre⟩, B.returns, B.notSynchronized, hK⟩
  have hl := lv_entry ([.int p0, .int p1, .int p2, .int p3]) (n := 4) (Nat.le_of_ble_eq_true rfl)
  rw [lg_entry_eq]
  generalize (lg_sl ([.int p0, .int p1, .int p2, .int p3]) ++ List.replicate (4 - (lg_sl ([.int p0, .int p1, .int p2, .int p3])).length) Slot.unset).toArray = ls at hl ⊢
  have hl : lv_has ls 4 [(0, .int p0), (1, .int p1), (2, .int p2), (3, .int p3)] := hl
  exact wX6_four_0 C0 p0 p1 p2 p3 hz ls (lv_sub hl [0, 1, 2, 3] rfl)
end SX6_four

section SX6_isWord
/-! CardLoopsModel.isWord(J)Z -/
abbrev wsX6_isWord : List Cond := Cond.code yX6_isWord cX6_isWord 3 (some .boolean) :: wsL_law0
abbrev rmX6_isWord : Room := { frames := 0, cells := 0, slots := 0, locals := 0 }
variable {p : Program} {l : Launch} {e : Env} {s : State} {m : MethodId} {args : Array Value} {below : List Frame} {meth : Method} {c : Code} {D : va_G} {K : Nat → ClassId} {A : Nat → Prop} {aM : Nat → Nat} {z : Int32}
set_option maxHeartbeats 1000000 in
set_option maxRecDepth 10000 in
theorem wX6_isWord_21 (C0 : cx p s m args meth c cX6_isWord 3 RX6 wsX6_isWord (some .boolean) D K) (M : Rc) (ML : RcL) (h : fX6_isWord_21 M ML = some z) (hP : va_P D vwCl (fl [wModel K aM M ML]) s.heap) (ls : Array Slot) (hl : lv_has ls 3 []) : W p l e rmX6_isWord s m args below meth c s.heap [] 0 0 (MQ below (vp_Si (fun r => r = z)) args s 0 0 (fun _ => False)) (F0 m 21 ls []) := by
  unfold fX6_isWord_21 at h
  refine r_iconst C0 (nI 0) dX6_isWord_21 (by decide) ?_
  exact r_zretRC C0 h (by decide) dX6_isWord_22
set_option maxHeartbeats 1000000 in
set_option maxRecDepth 10000 in
theorem wX6_isWord_0 (C0 : cx p s m args meth c cX6_isWord 3 RX6 wsX6_isWord (some .boolean) D K) (M : Rc) (ML : RcL) (x1 : Int64) (h : fX6_isWord M ML x1 = some z) (hP : va_P D vwCl (fl [wModel K aM M ML]) s.heap) (ls : Array Slot) (hl : lv_has ls 3 [(0, .ref (aM 0)), (1, .long x1)]) : W p l e rmX6_isWord s m args below meth c s.heap [] 0 0 (MQ below (vp_Si (fun r => r = z)) args s 0 0 (fun _ => False)) (F0 m 0 ls []) := by
  unfold fX6_isWord at h
  refine r_aload_n C0 dX6_isWord_0 hl 0 rfl ?_
  refine r_get C0 6 inx6 hP 0 rfl rfl 6 (by decide) (mc wd15_13) (.int (M 6 0)) rfl dX6_isWord_1 ?_
  refine r_iconst C0 (nI 2) dX6_isWord_4 (by decide) ?_
  refine r_icmp_ne h C0 21 dX6_isWord_5 (by decide) (fun h => ?_) (fun h => ?_)
  · exact wX6_isWord_21 C0 M ML h hP _ (lv_sub hl [] rfl)
  · refine r_aload_n C0 dX6_isWord_8 hl 0 rfl ?_
    refine r_get C0 6 inx6 hP 0 rfl rfl 10 (by decide) (mc wd15_21) (.long (ML 10 0)) rfl dX6_isWord_9 ?_
    refine r_lload_n C0 dX6_isWord_12 hl 1 rfl ?_
    refine r_lcmp C0 dX6_isWord_13 ?_
    refine r_if_ne h C0 21 dX6_isWord_14 (by decide) (fun h => ?_) (fun h => ?_)
    · exact wX6_isWord_21 C0 M ML h hP _ (lv_sub hl [] rfl)
    · refine r_iconst C0 (nI 1) dX6_isWord_17 (by decide) ?_
      refine r_goto C0 22 dX6_isWord_18 (by decide) ?_
      exact r_zretRC C0 h (by decide) dX6_isWord_22
set_option maxHeartbeats 1000000 in
set_option maxRecDepth 10000 in
theorem ctX6_isWord (l : Launch) (D : va_G) (K : Nat → ClassId) (aM : Nat → Nat) (M : Rc) (ML : RcL) (p1 : Int64) (z : Int32) (hz : fX6_isWord M ML p1 = some z) : Met l yX6_isWord wsX6_isWord rmX6_isWord (pcR D K [.ref (aM 0), .long p1] (fl [wModel K aM M ML])) (vp_Si (fun r => r = z)) 0 0 (fun _ => False) := by
  refine Met.ofW (cc := cX6_isWord) (maxL := 3) (ret := (some .boolean)) (by decide) rfl ?_
  intro p e s m args below meth c s₁ B hml hv
  obtain ⟨rfl, hP, hK⟩ := hv
  have C0 : cx p s m _ meth c cX6_isWord 3 RX6 wsX6_isWord (some .boolean) D K := ⟨⟨B.exec, B.bytes, hml, findClass_of_methodNamed B.named, atoms_spec (ws := wsX6_isWord) B.pre⟩, B.returns, B.notSynchronized, hK⟩
  have hl := lv_entry ([.ref (aM 0), .long p1]) (n := 3) (Nat.le_of_ble_eq_true rfl)
  rw [lg_entry_eq]
  generalize (lg_sl ([.ref (aM 0), .long p1]) ++ List.replicate (3 - (lg_sl ([.ref (aM 0), .long p1])).length) Slot.unset).toArray = ls at hl ⊢
  have hl : lv_has ls 3 [(0, .ref (aM 0)), (1, .long p1)] := hl
  exact wX6_isWord_0 C0 M ML p1 hz hP ls (lv_sub hl [0, 1] rfl)
end SX6_isWord

section SX6_isWorks
/-! CardLoopsModel.isWorks()Z -/
abbrev wsX6_isWorks : List Cond := Cond.code yX6_isWorks cX6_isWorks 1 (some .boolean) :: wsL_law0
abbrev rmX6_isWorks : Room := { frames := 1, cells := 0, slots := 0, locals := 23 }
variable {p : Program} {l : Launch} {e : Env} {s : State} {m : MethodId} {args : Array Value} {below : List Frame} {meth : Method} {c : Code} {D : va_G} {K : Nat → ClassId} {A : Nat → Prop} {aM : Nat → Nat} {z : Int32}
set_option maxHeartbeats 1000000 in
set_option maxRecDepth 10000 in
theorem wX6_isWorks_0 (C0 : cx p s m args meth c cX6_isWorks 1 RX6 wsX6_isWorks (some .boolean) D K) (M : Rc) (ML : RcL) (h : fX6_isWorks M ML = some z) (hP : va_P D vwCl (fl [wModel K aM M ML]) s.heap) (ls : Array Slot) (hl : lv_has ls 1 [(0, .ref (aM 0))]) : W p l e rmX6_isWorks s m args below meth c s.heap [] 0 0 (MQ below (vp_Si (fun r => r = z)) args s 0 0 (fun _ => False)) (F0 m 0 ls []) := by
  unfold fX6_isWorks at h
  refine r_aload_n C0 dX6_isWorks_0 hl 0 rfl ?_
  refine r_ldc2 C0 dX6_isWorks_1 (mc wd15_23) ?_
  refine r_bipush C0 (nI 119) dX6_isWorks_4 (by decide) ?_
  refine r_bipush C0 (nI 111) dX6_isWorks_6 (by decide) ?_
  refine r_bipush C0 (nI 114) dX6_isWorks_8 (by decide) ?_
  refine r_bipush C0 (nI 107) dX6_isWorks_10 (by decide) ?_
  obtain ⟨z1, hz1, h⟩ := bnd_some h
  have hPc : va_P D vwCl [] s.heap := va_P_nil
  refine r_cL (va_runS (As := [.int (nI 119), .int (nI 111), .int (nI 114), .int (nI 107)]) (rest := [.long (27 : Int64), .ref (aM 0)]) C0.1 (ctX6_four l D K (nI 119) (nI 111) (nI 114) (nI 107) z1 hz1) (va_cwS 4 C0.1.2.2.2.2 (gdS wd16_21 wd16_22 wd1_5 wd16_23) rfl rfl rfl (by decide +kernel) ⟨Nat.le_of_ble_eq_true rfl, Nat.le_of_ble_eq_true rfl⟩) ⟨pcR_blind, pcR_of hPc C0.2.2.2⟩ rfl rfl hl.1 rfl (lv_room (Nat.le_of_ble_eq_true rfl)) dX6_isWorks_12 ⟨Nat.zero_le _, Nat.zero_le _⟩).run ?_
  refine r_lmul C0 dX6_isWorks_15 ?_
  refine r_ldc2 C0 dX6_isWorks_16 (mc wd16_20) ?_
  refine r_ladd C0 dX6_isWorks_19 ?_
  obtain ⟨z2, hz2, h⟩ := bnd_some h
  have hPc := vaP_sel (Wc := [wModel K aM M ML]) hP [0] rfl
  refine r_cI (va_runV (As := [.long (((27 : Int64) * z1) + (19 : Int64))]) (rest := []) C0.1 (ctX6_isWord l D K aM M ML (((27 : Int64) * z1) + (19 : Int64)) z2 hz2) (cwV 1 C0.1.2.2.2.2 (gdV wd17_0 wd17_1 wd17_2 wd1_5 wd17_3) rfl rfl rfl (by decide +kernel) ⟨Nat.le_of_ble_eq_true rfl, Nat.le_of_ble_eq_true rfl⟩) ⟨pcR_blind, va_recv C0.2.2.2.1 hPc (ci := 6) (q0 := 0) rfl rfl, pcR_of hPc C0.2.2.2⟩ rfl rfl hl.1 rfl (lv_room (Nat.le_of_ble_eq_true rfl)) dX6_isWorks_20 ⟨Nat.zero_le _, Nat.zero_le _⟩).run ?_
  exact r_zretR C0 h dX6_isWorks_23
set_option maxHeartbeats 1000000 in
set_option maxRecDepth 10000 in
theorem ctX6_isWorks (l : Launch) (D : va_G) (K : Nat → ClassId) (aM : Nat → Nat) (M : Rc) (ML : RcL) (z : Int32) (hz : fX6_isWorks M ML = some z) : Met l yX6_isWorks wsX6_isWorks rmX6_isWorks (pcR D K [.ref (aM 0)] (fl [wModel K aM M ML])) (vp_Si (fun r => r = z)) 0 0 (fun _ => False) := by
  refine Met.ofW (cc := cX6_isWorks) (maxL := 1) (ret := (some .boolean)) (by decide) rfl ?_
  intro p e s m args below meth c s₁ B hml hv
  obtain ⟨rfl, hP, hK⟩ := hv
  have C0 : cx p s m _ meth c cX6_isWorks 1 RX6 wsX6_isWorks (some .boolean) D K := ⟨⟨B.exec, B.bytes, hml, findClass_of_methodNamed B.named, atoms_spec (ws := wsX6_isWorks) B.pre⟩, B.returns, B.notSynchronized, hK⟩
  have hl := lv_entry ([.ref (aM 0)]) (n := 1) (Nat.le_of_ble_eq_true rfl)
  rw [lg_entry_eq]
  generalize (lg_sl ([.ref (aM 0)]) ++ List.replicate (1 - (lg_sl ([.ref (aM 0)])).length) Slot.unset).toArray = ls at hl ⊢
  have hl : lv_has ls 1 [(0, .ref (aM 0))] := hl
  exact wX6_isWorks_0 C0 M ML hz hP ls (lv_sub hl [0] rfl)
end SX6_isWorks

section SX6_isStationWord
/-! CardLoopsModel.isStationWord()Z -/
abbrev wsX6_isStationWord : List Cond := Cond.code yX6_isStationWord cX6_isStationWord 1 (some .boolean) :: wsL_law0
abbrev rmX6_isStationWord : Room := { frames := 1, cells := 0, slots := 0, locals := 23 }
variable {p : Program} {l : Launch} {e : Env} {s : State} {m : MethodId} {args : Array Value} {below : List Frame} {meth : Method} {c : Code} {D : va_G} {K : Nat → ClassId} {A : Nat → Prop} {aM : Nat → Nat} {z : Int32}
set_option maxHeartbeats 1000000 in
set_option maxRecDepth 10000 in
theorem wX6_isStationWord_0 (C0 : cx p s m args meth c cX6_isStationWord 1 RX6 wsX6_isStationWord (some .boolean) D K) (M : Rc) (ML : RcL) (h : fX6_isStationWord M ML = some z) (hP : va_P D vwCl (fl [wModel K aM M ML]) s.heap) (ls : Array Slot) (hl : lv_has ls 1 [(0, .ref (aM 0))]) : W p l e rmX6_isStationWord s m args below meth c s.heap [] 0 0 (MQ below (vp_Si (fun r => r = z)) args s 0 0 (fun _ => False)) (F0 m 0 ls []) := by
  unfold fX6_isStationWord at h
  refine r_aload_n C0 dX6_isStationWord_0 hl 0 rfl ?_
  refine r_ldc2 C0 dX6_isStationWord_1 (mc wd15_23) ?_
  refine r_ldc2 C0 dX6_isStationWord_4 (mc wd15_23) ?_
  refine r_ldc2 C0 dX6_isStationWord_7 (mc wd15_23) ?_
  refine r_bipush C0 (nI 115) dX6_isStationWord_10 (by decide) ?_
  refine r_bipush C0 (nI 116) dX6_isStationWord_12 (by decide) ?_
  refine r_bipush C0 (nI 97) dX6_isStationWord_14 (by decide) ?_
  refine r_bipush C0 (nI 116) dX6_isStationWord_16 (by decide) ?_
  obtain ⟨z1, hz1, h⟩ := bnd_some h
  have hPc : va_P D vwCl [] s.heap := va_P_nil
  refine r_cL (va_runS (As := [.int (nI 115), .int (nI 116), .int (nI 97), .int (nI 116)]) (rest := [.long (27 : Int64), .long (27 : Int64), .long (27 : Int64), .ref (aM 0)]) C0.1 (ctX6_four l D K (nI 115) (nI 116) (nI 97) (nI 116) z1 hz1) (va_cwS 4 C0.1.2.2.2.2 (gdS wd16_21 wd16_22 wd1_5 wd16_23) rfl rfl rfl (by decide +kernel) ⟨Nat.le_of_ble_eq_true rfl, Nat.le_of_ble_eq_true rfl⟩) ⟨pcR_blind, pcR_of hPc C0.2.2.2⟩ rfl rfl hl.1 rfl (lv_room (Nat.le_of_ble_eq_true rfl)) dX6_isStationWord_18 ⟨Nat.zero_le _, Nat.zero_le _⟩).run ?_
  refine r_lmul C0 dX6_isStationWord_21 ?_
  refine r_ldc2 C0 dX6_isStationWord_22 (mc wd17_23) ?_
  refine r_ladd C0 dX6_isStationWord_25 ?_
  refine r_lmul C0 dX6_isStationWord_26 ?_
  refine r_ldc2 C0 dX6_isStationWord_27 (mc wd18_0) ?_
  refine r_ladd C0 dX6_isStationWord_30 ?_
  refine r_lmul C0 dX6_isStationWord_31 ?_
  refine r_ldc2 C0 dX6_isStationWord_32 (mc wd18_1) ?_
  refine r_ladd C0 dX6_isStationWord_35 ?_
  obtain ⟨z2, hz2, h⟩ := bnd_some h
  have hPc := vaP_sel (Wc := [wModel K aM M ML]) hP [0] rfl
  refine r_cI (va_runV (As := [.long (((27 : Int64) * (((27 : Int64) * (((27 : Int64) * z1) + (9 : Int64))) + (15 : Int64))) + (14 : Int64))]) (rest := []) C0.1 (ctX6_isWord l D K aM M ML (((27 : Int64) * (((27 : Int64) * (((27 : Int64) * z1) + (9 : Int64))) + (15 : Int64))) + (14 : Int64)) z2 hz2) (cwV 1 C0.1.2.2.2.2 (gdV wd17_0 wd17_1 wd17_2 wd1_5 wd17_3) rfl rfl rfl (by decide +kernel) ⟨Nat.le_of_ble_eq_true rfl, Nat.le_of_ble_eq_true rfl⟩) ⟨pcR_blind, va_recv C0.2.2.2.1 hPc (ci := 6) (q0 := 0) rfl rfl, pcR_of hPc C0.2.2.2⟩ rfl rfl hl.1 rfl (lv_room (Nat.le_of_ble_eq_true rfl)) dX6_isStationWord_36 ⟨Nat.zero_le _, Nat.zero_le _⟩).run ?_
  exact r_zretR C0 h dX6_isStationWord_39
set_option maxHeartbeats 1000000 in
set_option maxRecDepth 10000 in
theorem ctX6_isStationWord (l : Launch) (D : va_G) (K : Nat → ClassId) (aM : Nat → Nat) (M : Rc) (ML : RcL) (z : Int32) (hz : fX6_isStationWord M ML = some z) : Met l yX6_isStationWord wsX6_isStationWord rmX6_isStationWord (pcR D K [.ref (aM 0)] (fl [wModel K aM M ML])) (vp_Si (fun r => r = z)) 0 0 (fun _ => False) := by
  refine Met.ofW (cc := cX6_isStationWord) (maxL := 1) (ret := (some .boolean)) (by decide) rfl ?_
  intro p e s m args below meth c s₁ B hml hv
  obtain ⟨rfl, hP, hK⟩ := hv
  have C0 : cx p s m _ meth c cX6_isStationWord 1 RX6 wsX6_isStationWord (some .boolean) D K := ⟨⟨B.exec, B.bytes, hml, findClass_of_methodNamed B.named, atoms_spec (ws := wsX6_isStationWord) B.pre⟩, B.returns, B.notSynchronized, hK⟩
  have hl := lv_entry ([.ref (aM 0)]) (n := 1) (Nat.le_of_ble_eq_true rfl)
  rw [lg_entry_eq]
  generalize (lg_sl ([.ref (aM 0)]) ++ List.replicate (1 - (lg_sl ([.ref (aM 0)])).length) Slot.unset).toArray = ls at hl ⊢
  have hl : lv_has ls 1 [(0, .ref (aM 0))] := hl
  exact wX6_isStationWord_0 C0 M ML hz hP ls (lv_sub hl [0] rfl)
end SX6_isStationWord

section SX6_bad
/-! CardLoopsModel.bad(I)Z -/
abbrev wsX6_bad : List Cond := Cond.code yX6_bad cX6_bad 2 (some .boolean) :: wsL_law0
abbrev rmX6_bad : Room := { frames := 0, cells := 0, slots := 0, locals := 0 }
variable {p : Program} {l : Launch} {e : Env} {s : State} {m : MethodId} {args : Array Value} {below : List Frame} {meth : Method} {c : Code} {D : va_G} {K : Nat → ClassId} {A : Nat → Prop} {aM : Nat → Nat} {z : Int32 × (Rc)}
set_option maxHeartbeats 1000000 in
set_option maxRecDepth 10000 in
theorem wX6_bad_14 (C0 : cx p s m args meth c cX6_bad 2 RX6 wsX6_bad (some .boolean) D K) (hA : ∀ q, s.heap.size ≤ q → A q) (M : Rc) (ML : RcL) (y1 : Int32) (h : fX6_bad_14 M ML y1 = some z) (H : Heap) (locs : List Loc) (hP : va_P D vwCl (fl [wModel K aM M ML]) H) (hD : va_D A (fl [wModel K aM M ML])) (hS : va_S A s.heap H locs) (ls : Array Slot) (hl : lv_has ls 2 [(0, .ref (aM 0))]) : W p l e rmX6_bad s m args below meth c H locs 0 0 (MQ below (qcI D z (fun (u : Rc) => (fl [wModel K aM u ML])) A) args s 0 0 A) (F0 m 14 ls [.int y1, .ref (aM 0)]) := by
  unfold fX6_bad_14 at h
  refine r_put (ty := .int) h C0 6 inx6 tyX6 tyX6_ok nmX6 hP hD hS 0 (fun uu => (fl [wModel K aM uu ML])) rfl rfl 8 (by decide) (mc wd15_11) rfl (by decide +kernel) rfl rfl (by simp) rfl dX6_bad_14 (fun M1 H locs h hP hD hS => ?_)
  refine r_aload_n C0 dX6_bad_17 hl 0 rfl ?_
  refine r_aload_n C0 dX6_bad_18 hl 0 rfl ?_
  refine r_get C0 6 inx6 hP 0 rfl rfl 5 (by decide) (mc wd15_20) (.int (M1 5 0)) rfl dX6_bad_19 ?_
  refine r_put (ty := .int) h C0 6 inx6 tyX6 tyX6_ok nmX6 hP hD hS 0 (fun uu => (fl [wModel K aM uu ML])) rfl rfl 9 (by decide) (mc wd15_14) rfl (by decide +kernel) rfl rfl (by simp) rfl dX6_bad_22 (fun M2 H locs h hP hD hS => ?_)
  refine r_iconst C0 (nI 0) dX6_bad_25 (by decide) ?_
  exact r_zretC h (by decide) C0 (fun (u : Rc) => (fl [wModel K aM u ML])) hP hD hS dX6_bad_26
set_option maxHeartbeats 1000000 in
set_option maxRecDepth 10000 in
theorem wX6_bad_0 (C0 : cx p s m args meth c cX6_bad 2 RX6 wsX6_bad (some .boolean) D K) (hA : ∀ q, s.heap.size ≤ q → A q) (M : Rc) (ML : RcL) (x1 : Int32) (h : fX6_bad M ML x1 = some z) (H : Heap) (locs : List Loc) (hP : va_P D vwCl (fl [wModel K aM M ML]) H) (hD : va_D A (fl [wModel K aM M ML])) (hS : va_S A s.heap H locs) (ls : Array Slot) (hl : lv_has ls 2 [(0, .ref (aM 0)), (1, .int x1)]) : W p l e rmX6_bad s m args below meth c H locs 0 0 (MQ below (qcI D z (fun (u : Rc) => (fl [wModel K aM u ML])) A) args s 0 0 A) (F0 m 0 ls []) := by
  unfold fX6_bad at h
  refine r_aload_n C0 dX6_bad_0 hl 0 rfl ?_
  refine r_aload_n C0 dX6_bad_1 hl 0 rfl ?_
  refine r_get C0 6 inx6 hP 0 rfl rfl 6 (by decide) (mc wd15_13) (.int (M 6 0)) rfl dX6_bad_2 ?_
  refine r_iconst C0 (nI 1) dX6_bad_5 (by decide) ?_
  refine r_icmp_ne h C0 13 dX6_bad_6 (by decide) (fun h => ?_) (fun h => ?_)
  · refine r_iload_n C0 dX6_bad_13 hl 1 rfl ?_
    exact wX6_bad_14 C0 hA M ML x1 h _ _ hP hD hS _ (lv_sub hl [0] rfl)
  · refine r_iconst C0 (nI 1) dX6_bad_9 (by decide) ?_
    refine r_goto C0 14 dX6_bad_10 (by decide) ?_
    exact wX6_bad_14 C0 hA M ML (nI 1) h _ _ hP hD hS _ (lv_sub hl [0] rfl)
set_option maxHeartbeats 1000000 in
set_option maxRecDepth 10000 in
theorem ctX6_bad (l : Launch) (D : va_G) (K : Nat → ClassId) (aM : Nat → Nat) (M : Rc) (ML : RcL) (p1 : Int32) (sz : Nat) (z : Int32 × (Rc)) (hz : fX6_bad M ML p1 = some z) : Met l yX6_bad wsX6_bad rmX6_bad (pcW D K [.ref (aM 0), .int p1] (fl [wModel K aM M ML]) sz) (qcI D z (fun (u : Rc) => (fl [wModel K aM u ML])) (va_A (fl [wModel K aM M ML]) sz)) 0 0 (va_A (fl [wModel K aM M ML]) sz) := by
  refine Met.ofW (cc := cX6_bad) (maxL := 2) (ret := (some .boolean)) (by decide) rfl ?_
  intro p e s m args below meth c s₁ B hml hv
  obtain ⟨rfl, hsz, hP, hK, hD0⟩ := hv
  subst hsz
  have C0 : cx p s m _ meth c cX6_bad 2 RX6 wsX6_bad (some .boolean) D K := ⟨⟨B.exec, B.bytes, hml, findClass_of_methodNamed B.named, atoms_spec (ws := wsX6_bad) B.pre⟩, B.returns, B.notSynchronized, hK⟩
  have hD := hD0.self (sz := s.heap.size)
  generalize hAe : va_A (fl [wModel K aM M ML]) s.heap.size = A at hD ⊢
  have hA : ∀ q : Nat, s.heap.size ≤ q → A q := fun q h => by rw [← hAe]; exact Or.inr h
  have hl := lv_entry ([.ref (aM 0), .int p1]) (n := 2) (Nat.le_of_ble_eq_true rfl)
  rw [lg_entry_eq]
  generalize (lg_sl ([.ref (aM 0), .int p1]) ++ List.replicate (2 - (lg_sl ([.ref (aM 0), .int p1])).length) Slot.unset).toArray = ls at hl ⊢
  have hl : lv_has ls 2 [(0, .ref (aM 0)), (1, .int p1)] := hl
  exact wX6_bad_0 C0 hA M ML p1 hz s.heap [] hP hD va_S.rf ls (lv_sub hl [0, 1] rfl)
end SX6_bad

section SX6_told
/-! CardLoopsModel.told(III)Z -/
abbrev wsX6_told : List Cond := Cond.code yX6_told cX6_told 4 (some .boolean) :: wsL_law0
abbrev rmX6_told : Room := { frames := 2, cells := 0, slots := 0, locals := 45 }
variable {p : Program} {l : Launch} {e : Env} {s : State} {m : MethodId} {args : Array Value} {below : List Frame} {meth : Method} {c : Code} {D : va_G} {K : Nat → ClassId} {A : Nat → Prop} {N : Nat} {aM : Nat → Nat} {z : Int32 × (Rc × RcL)}
set_option maxHeartbeats 1000000 in
set_option maxRecDepth 10000 in
theorem wX6_told_0 (C0 : cx p s m args meth c cX6_told 4 RX6 wsX6_told (some .boolean) D K) (hA : ∀ q, s.heap.size ≤ q → A q) (M : Rc) (ML : RcL) (x1 : Int32) (x2 : Int32) (x3 : Int32) (h : fX6_told N M ML x1 x2 x3 = some z) (H : Heap) (locs : List Loc) (hP : va_P D vwCl (fl [wModel K aM M ML]) H) (hD : va_D A (fl [wModel K aM M ML])) (hS : va_S A s.heap H locs) (ls : Array Slot) (hl : lv_has ls 4 [(0, .ref (aM 0)), (1, .int x1), (2, .int x2), (3, .int x3)]) : W p l e rmX6_told s m args below meth c H locs 0 0 (MQ below (qcI D z (fun (u : Rc × RcL) => (fl [wModel K aM u.1 u.2])) A) args s 0 0 A) (F0 m 0 ls []) := by
  unfold fX6_told at h
  refine r_aload_n C0 dX6_told_0 hl 0 rfl ?_
  refine r_get C0 6 inx6 hP 0 rfl rfl 6 (by decide) (mc wd15_13) (.int (M 6 0)) rfl dX6_told_1 ?_
  refine r_iconst C0 (nI 3) dX6_told_4 (by decide) ?_
  refine r_icmp_eq h C0 14 dX6_told_5 (by decide) (fun h => ?_) (fun h => ?_)
  · refine r_aload_n C0 dX6_told_14 hl 0 rfl ?_
    refine r_get C0 6 inx6 hP 0 rfl rfl 7 (by decide) (mc wd15_22) (.int (M 7 0)) rfl dX6_told_15 ?_
    refine r_iload_n C0 dX6_told_18 hl 2 rfl ?_
    refine r_iload_n C0 dX6_told_19 hl 3 rfl ?_
    obtain ⟨z1, hz1, h⟩ := bnd_some h
    have hPc : va_P D vwCl [] H := va_P_nil
    refine r_cI (va_runS (As := [.int (M 7 0), .int x2, .int x3]) (rest := []) C0.1 (ctX6_isIn l D K (M 7 0) x2 x3 z1 hz1) (va_cwS 3 C0.1.2.2.2.2 (gdS wd17_16 wd17_17 wd1_5 wd17_18) rfl rfl rfl (by decide +kernel) ⟨Nat.le_of_ble_eq_true rfl, Nat.le_of_ble_eq_true rfl⟩) ⟨pcR_blind, pcR_of hPc C0.2.2.2⟩ rfl rfl hl.1 rfl (lv_room (Nat.le_of_ble_eq_true rfl)) dX6_told_20 ⟨Nat.zero_le _, Nat.zero_le _⟩).run ?_
    refine r_if_ne h C0 32 dX6_told_23 (by decide) (fun h => ?_) (fun h => ?_)
    · refine r_aload_n C0 dX6_told_32 hl 0 rfl ?_
      refine r_get C0 6 inx6 hP 0 rfl rfl 12 (by decide) (mc wd5_12) (.ref (aM 13)) rfl dX6_told_33 ?_
      refine r_iload_n C0 dX6_told_36 hl 1 rfl ?_
      refine r_aload_n C0 dX6_told_37 hl 0 rfl ?_
      refine r_get C0 6 inx6 hP 0 rfl rfl 7 (by decide) (mc wd15_22) (.int (M 7 0)) rfl dX6_told_38 ?_
      refine r_iast h C0 hP hD hS 3 (fun uu => (fl [wModel K aM uu ML])) rfl rfl dX6_told_41 (fun M2 H locs h hP hD hS => ?_)
      refine r_aload_n C0 dX6_told_42 hl 0 rfl ?_
      obtain ⟨z3, hz3, h⟩ := bnd_some h
      refine r_callVC (Wc := [wModel K aM M2 ML]) (wf := fun (u : Rc × RcL) => [wModel K aM u.1 u.2]) (Wn := [wModel K aM z3.1 z3.2]) hP hD hS hA [0] [] [0] 1 rfl rfl (by decide) rfl rfl (by decide) (fun hPc hDc hFc => va_runV (As := []) (rest := []) C0.1 (ctX6_go l D K N aM M2 ML H.size z3 hz3) (cwV 0 C0.1.2.2.2.2 (gdV wd15_16 wd15_17 wd15_18 wd1_5 wd15_19) rfl rfl rfl (by decide +kernel) ⟨Nat.le_of_ble_eq_true rfl, Nat.le_of_ble_eq_true rfl⟩) ⟨pcW_blind, va_recv C0.2.2.2.1 hPc (ci := 6) (q0 := 0) rfl rfl, pcW_of hPc hDc C0.2.2.2⟩ rfl rfl hl.1 rfl (lv_room (Nat.le_of_ble_eq_true rfl)) dX6_told_43 ⟨Nat.zero_le _, Nat.zero_le _⟩) (fun H locs hP hD hS => ?_)
      refine r_iconst C0 (nI 1) dX6_told_46 (by decide) ?_
      exact r_zretC h (by decide) C0 (fun (u : Rc × RcL) => (fl [wModel K aM u.1 u.2])) hP hD hS dX6_told_47
    · refine r_aload_n C0 dX6_told_26 hl 0 rfl ?_
      refine r_iconst C0 (nI 2) dX6_told_27 (by decide) ?_
      obtain ⟨z4, hz4, h⟩ := bnd_some h
      refine r_callIC (Wc := [wModel K aM M ML]) (wf := fun (u : Rc) => [wModel K aM u ML]) (Wn := [wModel K aM z4.2 ML]) hP hD hS hA [0] [] [0] 1 rfl rfl (by decide) rfl rfl (by decide) (fun hPc hDc hFc => va_runV (As := [.int (nI 2)]) (rest := []) C0.1 (ctX6_bad l D K aM M ML (nI 2) H.size z4 hz4) (cwV 1 C0.1.2.2.2.2 (gdV wd17_12 wd17_13 wd17_14 wd1_5 wd17_15) rfl rfl rfl (by decide +kernel) ⟨Nat.le_of_ble_eq_true rfl, Nat.le_of_ble_eq_true rfl⟩) ⟨pcW_blind, va_recv C0.2.2.2.1 hPc (ci := 6) (q0 := 0) rfl rfl, pcW_of hPc hDc C0.2.2.2⟩ rfl rfl hl.1 rfl (lv_room (Nat.le_of_ble_eq_true rfl)) dX6_told_28 ⟨Nat.zero_le _, Nat.zero_le _⟩) (fun H locs hP hD hS => ?_)
      exact r_zret h C0 (fun (u : Rc × RcL) => (fl [wModel K aM u.1 u.2])) hP hD hS dX6_told_31
  · refine r_aload_n C0 dX6_told_8 hl 0 rfl ?_
    refine r_iconst C0 (nI 1) dX6_told_9 (by decide) ?_
    obtain ⟨z5, hz5, h⟩ := bnd_some h
    refine r_callIC (Wc := [wModel K aM M ML]) (wf := fun (u : Rc) => [wModel K aM u ML]) (Wn := [wModel K aM z5.2 ML]) hP hD hS hA [0] [] [0] 1 rfl rfl (by decide) rfl rfl (by decide) (fun hPc hDc hFc => va_runV (As := [.int (nI 1)]) (rest := []) C0.1 (ctX6_bad l D K aM M ML (nI 1) H.size z5 hz5) (cwV 1 C0.1.2.2.2.2 (gdV wd17_12 wd17_13 wd17_14 wd1_5 wd17_15) rfl rfl rfl (by decide +kernel) ⟨Nat.le_of_ble_eq_true rfl, Nat.le_of_ble_eq_true rfl⟩) ⟨pcW_blind, va_recv C0.2.2.2.1 hPc (ci := 6) (q0 := 0) rfl rfl, pcW_of hPc hDc C0.2.2.2⟩ rfl rfl hl.1 rfl (lv_room (Nat.le_of_ble_eq_true rfl)) dX6_told_10 ⟨Nat.zero_le _, Nat.zero_le _⟩) (fun H locs hP hD hS => ?_)
    exact r_zret h C0 (fun (u : Rc × RcL) => (fl [wModel K aM u.1 u.2])) hP hD hS dX6_told_13
set_option maxHeartbeats 1000000 in
set_option maxRecDepth 10000 in
theorem ctX6_told (l : Launch) (D : va_G) (K : Nat → ClassId) (N : Nat) (aM : Nat → Nat) (M : Rc) (ML : RcL) (p1 : Int32) (p2 : Int32) (p3 : Int32) (sz : Nat) (z : Int32 × (Rc × RcL)) (hz : fX6_told N M ML p1 p2 p3 = some z) : Met l yX6_told wsX6_told rmX6_told (pcW D K [.ref (aM 0), .int p1, .int p2, .int p3] (fl [wModel K aM M ML]) sz) (qcI D z (fun (u : Rc × RcL) => (fl [wModel K aM u.1 u.2])) (va_A (fl [wModel K aM M ML]) sz)) 0 0 (va_A (fl [wModel K aM M ML]) sz) := by
  refine Met.ofW (cc := cX6_told) (maxL := 4) (ret := (some .boolean)) (by decide) rfl ?_
  intro p e s m args below meth c s₁ B hml hv
  obtain ⟨rfl, hsz, hP, hK, hD0⟩ := hv
  subst hsz
  have C0 : cx p s m _ meth c cX6_told 4 RX6 wsX6_told (some .boolean) D K := ⟨⟨B.exec, B.bytes, hml, findClass_of_methodNamed B.named, atoms_spec (ws := wsX6_told) B.pre⟩, B.returns, B.notSynchronized, hK⟩
  have hD := hD0.self (sz := s.heap.size)
  generalize hAe : va_A (fl [wModel K aM M ML]) s.heap.size = A at hD ⊢
  have hA : ∀ q : Nat, s.heap.size ≤ q → A q := fun q h => by rw [← hAe]; exact Or.inr h
  have hl := lv_entry ([.ref (aM 0), .int p1, .int p2, .int p3]) (n := 4) (Nat.le_of_ble_eq_true rfl)
  rw [lg_entry_eq]
  generalize (lg_sl ([.ref (aM 0), .int p1, .int p2, .int p3]) ++ List.replicate (4 - (lg_sl ([.ref (aM 0), .int p1, .int p2, .int p3])).length) Slot.unset).toArray = ls at hl ⊢
  have hl : lv_has ls 4 [(0, .ref (aM 0)), (1, .int p1), (2, .int p2), (3, .int p3)] := hl
  exact wX6_told_0 C0 hA M ML p1 p2 p3 hz s.heap [] hP hD va_S.rf ls (lv_sub hl [0, 1, 2, 3] rfl)
end SX6_told

section SX6_readWorks
/-! CardLoopsModel.readWorks()Z -/
abbrev wsX6_readWorks : List Cond := Cond.code yX6_readWorks cX6_readWorks 1 (some .boolean) :: wsL_law0
abbrev rmX6_readWorks : Room := { frames := 3, cells := 0, slots := 0, locals := 68 }
variable {p : Program} {l : Launch} {e : Env} {s : State} {m : MethodId} {args : Array Value} {below : List Frame} {meth : Method} {c : Code} {D : va_G} {K : Nat → ClassId} {A : Nat → Prop} {N : Nat} {aM : Nat → Nat} {z : Int32 × (Rc × RcL)}
set_option maxHeartbeats 1000000 in
set_option maxRecDepth 10000 in
theorem wX6_readWorks_0 (C0 : cx p s m args meth c cX6_readWorks 1 RX6 wsX6_readWorks (some .boolean) D K) (hA : ∀ q, s.heap.size ≤ q → A q) (M : Rc) (ML : RcL) (h : fX6_readWorks N M ML = some z) (H : Heap) (locs : List Loc) (hP : va_P D vwCl (fl [wModel K aM M ML]) H) (hD : va_D A (fl [wModel K aM M ML])) (hS : va_S A s.heap H locs) (ls : Array Slot) (hl : lv_has ls 1 [(0, .ref (aM 0))]) : W p l e rmX6_readWorks s m args below meth c H locs 0 0 (MQ below (qcI D z (fun (u : Rc × RcL) => (fl [wModel K aM u.1 u.2])) A) args s 0 0 A) (F0 m 0 ls []) := by
  unfold fX6_readWorks at h
  refine r_aload_n C0 dX6_readWorks_0 hl 0 rfl ?_
  obtain ⟨z1, hz1, h⟩ := bnd_some h
  refine r_callVC (Wc := [wModel K aM M ML]) (wf := fun (u : Rc × RcL) => [wModel K aM u.1 u.2]) (Wn := [wModel K aM z1.1 z1.2]) hP hD hS hA [0] [] [0] 1 rfl rfl (by decide) rfl rfl (by decide) (fun hPc hDc hFc => va_runV (As := []) (rest := []) C0.1 (ctX6_go l D K N aM M ML H.size z1 hz1) (cwV 0 C0.1.2.2.2.2 (gdV wd15_16 wd15_17 wd15_18 wd1_5 wd15_19) rfl rfl rfl (by decide +kernel) ⟨Nat.le_of_ble_eq_true rfl, Nat.le_of_ble_eq_true rfl⟩) ⟨pcW_blind, va_recv C0.2.2.2.1 hPc (ci := 6) (q0 := 0) rfl rfl, pcW_of hPc hDc C0.2.2.2⟩ rfl rfl hl.1 rfl (lv_room (Nat.le_of_ble_eq_true rfl)) dX6_readWorks_1 ⟨Nat.zero_le _, Nat.zero_le _⟩) (fun H locs hP hD hS => ?_)
  refine r_aload_n C0 dX6_readWorks_4 hl 0 rfl ?_
  refine r_bipush C0 (nI 17) dX6_readWorks_5 (by decide) ?_
  refine r_iconst C0 (nI 1) dX6_readWorks_7 (by decide) ?_
  refine r_bipush C0 (nI 20) dX6_readWorks_8 (by decide) ?_
  obtain ⟨z2, hz2, h⟩ := bnd_some h
  refine r_callIC (Wc := [wModel K aM z1.1 z1.2]) (wf := fun (u : Rc × RcL) => [wModel K aM u.1 u.2]) (Wn := [wModel K aM z2.2.1 z2.2.2]) hP hD hS hA [0] [] [0] 1 rfl rfl (by decide) rfl rfl (by decide) (fun hPc hDc hFc => va_runV (As := [.int (nI 17), .int (nI 1), .int (nI 20)]) (rest := []) C0.1 (ctX6_told l D K N aM z1.1 z1.2 (nI 17) (nI 1) (nI 20) H.size z2 hz2) (cwV 3 C0.1.2.2.2.2 (gdV wd17_8 wd17_9 wd17_10 wd1_5 wd17_11) rfl rfl rfl (by decide +kernel) ⟨Nat.le_of_ble_eq_true rfl, Nat.le_of_ble_eq_true rfl⟩) ⟨pcW_blind, va_recv C0.2.2.2.1 hPc (ci := 6) (q0 := 0) rfl rfl, pcW_of hPc hDc C0.2.2.2⟩ rfl rfl hl.1 rfl (lv_room (Nat.le_of_ble_eq_true rfl)) dX6_readWorks_10 ⟨Nat.zero_le _, Nat.zero_le _⟩) (fun H locs hP hD hS => ?_)
  refine r_if_ne h C0 18 dX6_readWorks_13 (by decide) (fun h => ?_) (fun h => ?_)
  · refine r_aload_n C0 dX6_readWorks_18 hl 0 rfl ?_
    refine r_get C0 6 inx6 hP 0 rfl rfl 12 (by decide) (mc wd5_12) (.ref (aM 13)) rfl dX6_readWorks_19 ?_
    refine r_iconst C0 (nI 0) dX6_readWorks_22 (by decide) ?_
    refine r_iconst C0 (nI 1) dX6_readWorks_23 (by decide) ?_
    refine r_iastC h C0 hP hD hS 3 (fun uu => (fl [wModel K aM uu z2.2.2])) rfl 0 (by decide) rfl dX6_readWorks_24 (fun M3 H locs h hP hD hS => ?_)
    refine r_aload_n C0 dX6_readWorks_25 hl 0 rfl ?_
    refine r_get C0 6 inx6 hP 0 rfl rfl 12 (by decide) (mc wd5_12) (.ref (aM 13)) rfl dX6_readWorks_26 ?_
    refine r_bipush C0 (nI 14) dX6_readWorks_29 (by decide) ?_
    refine r_iconst C0 (nI 1) dX6_readWorks_31 (by decide) ?_
    refine r_iastC h C0 hP hD hS 3 (fun uu => (fl [wModel K aM uu z2.2.2])) rfl 14 (by decide) rfl dX6_readWorks_32 (fun M4 H locs h hP hD hS => ?_)
    refine r_iconst C0 (nI 1) dX6_readWorks_33 (by decide) ?_
    exact r_zretC h (by decide) C0 (fun (u : Rc × RcL) => (fl [wModel K aM u.1 u.2])) hP hD hS dX6_readWorks_34
  · refine r_iconst C0 (nI 0) dX6_readWorks_16 (by decide) ?_
    exact r_zretC h (by decide) C0 (fun (u : Rc × RcL) => (fl [wModel K aM u.1 u.2])) hP hD hS dX6_readWorks_17
set_option maxHeartbeats 1000000 in
set_option maxRecDepth 10000 in
theorem ctX6_readWorks (l : Launch) (D : va_G) (K : Nat → ClassId) (N : Nat) (aM : Nat → Nat) (M : Rc) (ML : RcL) (sz : Nat) (z : Int32 × (Rc × RcL)) (hz : fX6_readWorks N M ML = some z) : Met l yX6_readWorks wsX6_readWorks rmX6_readWorks (pcW D K [.ref (aM 0)] (fl [wModel K aM M ML]) sz) (qcI D z (fun (u : Rc × RcL) => (fl [wModel K aM u.1 u.2])) (va_A (fl [wModel K aM M ML]) sz)) 0 0 (va_A (fl [wModel K aM M ML]) sz) := by
  refine Met.ofW (cc := cX6_readWorks) (maxL := 1) (ret := (some .boolean)) (by decide) rfl ?_
  intro p e s m args below meth c s₁ B hml hv
  obtain ⟨rfl, hsz, hP, hK, hD0⟩ := hv
  subst hsz
  have C0 : cx p s m _ meth c cX6_readWorks 1 RX6 wsX6_readWorks (some .boolean) D K := ⟨⟨B.exec, B.bytes, hml, findClass_of_methodNamed B.named, atoms_spec (ws := wsX6_readWorks) B.pre⟩, B.returns, B.notSynchronized, hK⟩
  have hD := hD0.self (sz := s.heap.size)
  generalize hAe : va_A (fl [wModel K aM M ML]) s.heap.size = A at hD ⊢
  have hA : ∀ q : Nat, s.heap.size ≤ q → A q := fun q h => by rw [← hAe]; exact Or.inr h
  have hl := lv_entry ([.ref (aM 0)]) (n := 1) (Nat.le_of_ble_eq_true rfl)
  rw [lg_entry_eq]
  generalize (lg_sl ([.ref (aM 0)]) ++ List.replicate (1 - (lg_sl ([.ref (aM 0)])).length) Slot.unset).toArray = ls at hl ⊢
  have hl : lv_has ls 1 [(0, .ref (aM 0))] := hl
  exact wX6_readWorks_0 C0 hA M ML hz s.heap [] hP hD va_S.rf ls (lv_sub hl [0] rfl)
end SX6_readWorks

section SX6_readStation
/-! CardLoopsModel.readStation()Z -/
abbrev wsX6_readStation : List Cond := Cond.code yX6_readStation cX6_readStation 2 (some .boolean) :: wsL_law0
abbrev rmX6_readStation : Room := { frames := 3, cells := 0, slots := 0, locals := 68 }
variable {p : Program} {l : Launch} {e : Env} {s : State} {m : MethodId} {args : Array Value} {below : List Frame} {meth : Method} {c : Code} {D : va_G} {K : Nat → ClassId} {A : Nat → Prop} {N : Nat} {aM : Nat → Nat} {z : Int32 × (Rc × RcL)}
set_option maxHeartbeats 1000000 in
set_option maxRecDepth 10000 in
theorem wX6_readStation_50 (C0 : cx p s m args meth c cX6_readStation 2 RX6 wsX6_readStation (some .boolean) D K) (hA : ∀ q, s.heap.size ≤ q → A q) (M : Rc) (ML : RcL) (h : fX6_readStation_50 N M ML = some z) (H : Heap) (locs : List Loc) (hP : va_P D vwCl (fl [wModel K aM M ML]) H) (hD : va_D A (fl [wModel K aM M ML])) (hS : va_S A s.heap H locs) (ls : Array Slot) (hl : lv_has ls 2 []) : W p l e rmX6_readStation s m args below meth c H locs 0 0 (MQ below (qcI D z (fun (u : Rc × RcL) => (fl [wModel K aM u.1 u.2])) A) args s 0 0 A) (F0 m 50 ls []) := by
  unfold fX6_readStation_50 at h
  refine r_iconst C0 (nI 0) dX6_readStation_50 (by decide) ?_
  exact r_zretC h (by decide) C0 (fun (u : Rc × RcL) => (fl [wModel K aM u.1 u.2])) hP hD hS dX6_readStation_51
set_option maxHeartbeats 1000000 in
set_option maxRecDepth 10000 in
theorem wX6_readStation_0 (C0 : cx p s m args meth c cX6_readStation 2 RX6 wsX6_readStation (some .boolean) D K) (hA : ∀ q, s.heap.size ≤ q → A q) (M : Rc) (ML : RcL) (h : fX6_readStation N M ML = some z) (H : Heap) (locs : List Loc) (hP : va_P D vwCl (fl [wModel K aM M ML]) H) (hD : va_D A (fl [wModel K aM M ML])) (hS : va_S A s.heap H locs) (ls : Array Slot) (hl : lv_has ls 2 [(0, .ref (aM 0))]) : W p l e rmX6_readStation s m args below meth c H locs 0 0 (MQ below (qcI D z (fun (u : Rc × RcL) => (fl [wModel K aM u.1 u.2])) A) args s 0 0 A) (F0 m 0 ls []) := by
  unfold fX6_readStation at h
  refine r_aload_n C0 dX6_readStation_0 hl 0 rfl ?_
  refine r_get C0 6 inx6 hP 0 rfl rfl 12 (by decide) (mc wd5_12) (.ref (aM 13)) rfl dX6_readStation_1 ?_
  refine r_iconst C0 (nI 1) dX6_readStation_4 (by decide) ?_
  refine r_ialdC C0 hP 3 rfl 1 (by decide) dX6_readStation_5 ?_
  refine r_istore_n h C0 (fun v1 => [(1, .int v1), (0, .ref (aM 0))]) dX6_readStation_6 hl (by decide) (fun _ => rfl) (fun v1 ls h hl => ?_)
  refine r_iload_n C0 dX6_readStation_7 hl 0 rfl ?_
  refine r_bipush C0 (nI 6) dX6_readStation_8 (by decide) ?_
  refine r_icmp_ne h C0 19 dX6_readStation_10 (by decide) (fun h => ?_) (fun h => ?_)
  · refine r_aload_n C0 dX6_readStation_19 hl 1 rfl ?_
    obtain ⟨z2, hz2, h⟩ := bnd_some h
    refine r_callVC (Wc := [wModel K aM M ML]) (wf := fun (u : Rc × RcL) => [wModel K aM u.1 u.2]) (Wn := [wModel K aM z2.1 z2.2]) hP hD hS hA [0] [] [0] 1 rfl rfl (by decide) rfl rfl (by decide) (fun hPc hDc hFc => va_runV (As := []) (rest := []) C0.1 (ctX6_go l D K N aM M ML H.size z2 hz2) (cwV 0 C0.1.2.2.2.2 (gdV wd15_16 wd15_17 wd15_18 wd1_5 wd15_19) rfl rfl rfl (by decide +kernel) ⟨Nat.le_of_ble_eq_true rfl, Nat.le_of_ble_eq_true rfl⟩) ⟨pcW_blind, va_recv C0.2.2.2.1 hPc (ci := 6) (q0 := 0) rfl rfl, pcW_of hPc hDc C0.2.2.2⟩ rfl rfl hl.1 rfl (lv_room (Nat.le_of_ble_eq_true rfl)) dX6_readStation_20 ⟨Nat.zero_le _, Nat.zero_le _⟩) (fun H locs hP hD hS => ?_)
    refine r_aload_n C0 dX6_readStation_23 hl 1 rfl ?_
    refine r_iconst C0 (nI 2) dX6_readStation_24 (by decide) ?_
    refine r_iload_n C0 dX6_readStation_25 hl 0 rfl ?_
    refine r_iadd C0 dX6_readStation_26 ?_
    refine r_iconst C0 (nI 1) dX6_readStation_27 (by decide) ?_
    refine r_bipush C0 (nI 60) dX6_readStation_28 (by decide) ?_
    obtain ⟨z3, hz3, h⟩ := bnd_some h
    refine r_callIC (Wc := [wModel K aM z2.1 z2.2]) (wf := fun (u : Rc × RcL) => [wModel K aM u.1 u.2]) (Wn := [wModel K aM z3.2.1 z3.2.2]) hP hD hS hA [0] [] [0] 1 rfl rfl (by decide) rfl rfl (by decide) (fun hPc hDc hFc => va_runV (As := [.int ((nI 2) + v1), .int (nI 1), .int (nI 60)]) (rest := []) C0.1 (ctX6_told l D K N aM z2.1 z2.2 ((nI 2) + v1) (nI 1) (nI 60) H.size z3 hz3) (cwV 3 C0.1.2.2.2.2 (gdV wd17_8 wd17_9 wd17_10 wd1_5 wd17_11) rfl rfl rfl (by decide +kernel) ⟨Nat.le_of_ble_eq_true rfl, Nat.le_of_ble_eq_true rfl⟩) ⟨pcW_blind, va_recv C0.2.2.2.1 hPc (ci := 6) (q0 := 0) rfl rfl, pcW_of hPc hDc C0.2.2.2⟩ rfl rfl hl.1 rfl (lv_room (Nat.le_of_ble_eq_true rfl)) dX6_readStation_30 ⟨Nat.zero_le _, Nat.zero_le _⟩) (fun H locs hP hD hS => ?_)
    refine r_if_eq h C0 50 dX6_readStation_33 (by decide) (fun h => ?_) (fun h => ?_)
    · exact wX6_readStation_50 C0 hA z3.2.1 z3.2.2 h _ _ hP hD hS _ (lv_sub hl [] rfl)
    · refine r_aload_n C0 dX6_readStation_36 hl 1 rfl ?_
      refine r_bipush C0 (nI 8) dX6_readStation_37 (by decide) ?_
      refine r_iload_n C0 dX6_readStation_39 hl 0 rfl ?_
      refine r_iadd C0 dX6_readStation_40 ?_
      refine r_iconst C0 (nI 0) dX6_readStation_41 (by decide) ?_
      refine r_bipush C0 (nI 60) dX6_readStation_42 (by decide) ?_
      obtain ⟨z4, hz4, h⟩ := bnd_some h
      refine r_callIC (Wc := [wModel K aM z3.2.1 z3.2.2]) (wf := fun (u : Rc × RcL) => [wModel K aM u.1 u.2]) (Wn := [wModel K aM z4.2.1 z4.2.2]) hP hD hS hA [0] [] [0] 1 rfl rfl (by decide) rfl rfl (by decide) (fun hPc hDc hFc => va_runV (As := [.int ((nI 8) + v1), .int (nI 0), .int (nI 60)]) (rest := []) C0.1 (ctX6_told l D K N aM z3.2.1 z3.2.2 ((nI 8) + v1) (nI 0) (nI 60) H.size z4 hz4) (cwV 3 C0.1.2.2.2.2 (gdV wd17_8 wd17_9 wd17_10 wd1_5 wd17_11) rfl rfl rfl (by decide +kernel) ⟨Nat.le_of_ble_eq_true rfl, Nat.le_of_ble_eq_true rfl⟩) ⟨pcW_blind, va_recv C0.2.2.2.1 hPc (ci := 6) (q0 := 0) rfl rfl, pcW_of hPc hDc C0.2.2.2⟩ rfl rfl hl.1 rfl (lv_room (Nat.le_of_ble_eq_true rfl)) dX6_readStation_44 ⟨Nat.zero_le _, Nat.zero_le _⟩) (fun H locs hP hD hS => ?_)
      refine r_if_ne h C0 52 dX6_readStation_47 (by decide) (fun h => ?_) (fun h => ?_)
      · refine r_aload_n C0 dX6_readStation_52 hl 1 rfl ?_
        refine r_get C0 6 inx6 hP 0 rfl rfl 12 (by decide) (mc wd5_12) (.ref (aM 13)) rfl dX6_readStation_53 ?_
        refine r_iconst C0 (nI 1) dX6_readStation_56 (by decide) ?_
        refine r_dup2 C0 dX6_readStation_57 rfl rfl ?_
        refine r_ialdC C0 hP 3 rfl 1 (by decide) dX6_readStation_58 ?_
        refine r_iconst C0 (nI 1) dX6_readStation_59 (by decide) ?_
        refine r_iadd C0 dX6_readStation_60 ?_
        refine r_iastC h C0 hP hD hS 3 (fun uu => (fl [wModel K aM uu z4.2.2])) rfl 1 (by decide) rfl dX6_readStation_61 (fun M5 H locs h hP hD hS => ?_)
        refine r_iconst C0 (nI 1) dX6_readStation_62 (by decide) ?_
        exact r_zretC h (by decide) C0 (fun (u : Rc × RcL) => (fl [wModel K aM u.1 u.2])) hP hD hS dX6_readStation_63
      · exact wX6_readStation_50 C0 hA z4.2.1 z4.2.2 h _ _ hP hD hS _ (lv_sub hl [] rfl)
  · refine r_aload_n C0 dX6_readStation_13 hl 1 rfl ?_
    refine r_iconst C0 (nI 3) dX6_readStation_14 (by decide) ?_
    obtain ⟨z6, hz6, h⟩ := bnd_some h
    refine r_callIC (Wc := [wModel K aM M ML]) (wf := fun (u : Rc) => [wModel K aM u ML]) (Wn := [wModel K aM z6.2 ML]) hP hD hS hA [0] [] [0] 1 rfl rfl (by decide) rfl rfl (by decide) (fun hPc hDc hFc => va_runV (As := [.int (nI 3)]) (rest := []) C0.1 (ctX6_bad l D K aM M ML (nI 3) H.size z6 hz6) (cwV 1 C0.1.2.2.2.2 (gdV wd17_12 wd17_13 wd17_14 wd1_5 wd17_15) rfl rfl rfl (by decide +kernel) ⟨Nat.le_of_ble_eq_true rfl, Nat.le_of_ble_eq_true rfl⟩) ⟨pcW_blind, va_recv C0.2.2.2.1 hPc (ci := 6) (q0 := 0) rfl rfl, pcW_of hPc hDc C0.2.2.2⟩ rfl rfl hl.1 rfl (lv_room (Nat.le_of_ble_eq_true rfl)) dX6_readStation_15 ⟨Nat.zero_le _, Nat.zero_le _⟩) (fun H locs hP hD hS => ?_)
    exact r_zret h C0 (fun (u : Rc × RcL) => (fl [wModel K aM u.1 u.2])) hP hD hS dX6_readStation_18
set_option maxHeartbeats 1000000 in
set_option maxRecDepth 10000 in
theorem ctX6_readStation (l : Launch) (D : va_G) (K : Nat → ClassId) (N : Nat) (aM : Nat → Nat) (M : Rc) (ML : RcL) (sz : Nat) (z : Int32 × (Rc × RcL)) (hz : fX6_readStation N M ML = some z) : Met l yX6_readStation wsX6_readStation rmX6_readStation (pcW D K [.ref (aM 0)] (fl [wModel K aM M ML]) sz) (qcI D z (fun (u : Rc × RcL) => (fl [wModel K aM u.1 u.2])) (va_A (fl [wModel K aM M ML]) sz)) 0 0 (va_A (fl [wModel K aM M ML]) sz) := by
  refine Met.ofW (cc := cX6_readStation) (maxL := 2) (ret := (some .boolean)) (by decide) rfl ?_
  intro p e s m args below meth c s₁ B hml hv
  obtain ⟨rfl, hsz, hP, hK, hD0⟩ := hv
  subst hsz
  have C0 : cx p s m _ meth c cX6_readStation 2 RX6 wsX6_readStation (some .boolean) D K := ⟨⟨B.exec, B.bytes, hml, findClass_of_methodNamed B.named, atoms_spec (ws := wsX6_readStation) B.pre⟩, B.returns, B.notSynchronized, hK⟩
  have hD := hD0.self (sz := s.heap.size)
  generalize hAe : va_A (fl [wModel K aM M ML]) s.heap.size = A at hD ⊢
  have hA : ∀ q : Nat, s.heap.size ≤ q → A q := fun q h => by rw [← hAe]; exact Or.inr h
  have hl := lv_entry ([.ref (aM 0)]) (n := 2) (Nat.le_of_ble_eq_true rfl)
  rw [lg_entry_eq]
  generalize (lg_sl ([.ref (aM 0)]) ++ List.replicate (2 - (lg_sl ([.ref (aM 0)])).length) Slot.unset).toArray = ls at hl ⊢
  have hl : lv_has ls 2 [(0, .ref (aM 0))] := hl
  exact wX6_readStation_0 C0 hA M ML hz s.heap [] hP hD va_S.rf ls (lv_sub hl [0] rfl)
end SX6_readStation

section SX6_readLoop
/-! CardLoopsModel.readLoop()Z -/
abbrev wsX6_readLoop : List Cond := Cond.code yX6_readLoop cX6_readLoop 2 (some .boolean) :: wsL_law0
abbrev rmX6_readLoop : Room := { frames := 3, cells := 0, slots := 0, locals := 68 }
variable {p : Program} {l : Launch} {e : Env} {s : State} {m : MethodId} {args : Array Value} {below : List Frame} {meth : Method} {c : Code} {D : va_G} {K : Nat → ClassId} {A : Nat → Prop} {N : Nat} {aM : Nat → Nat} {z : Int32 × (Rc × RcL)}
set_option maxHeartbeats 1000000 in
set_option maxRecDepth 10000 in
theorem wX6_readLoop_88 (C0 : cx p s m args meth c cX6_readLoop 2 RX6 wsX6_readLoop (some .boolean) D K) (hA : ∀ q, s.heap.size ≤ q → A q) (M : Rc) (ML : RcL) (h : fX6_readLoop_88 N M ML = some z) (H : Heap) (locs : List Loc) (hP : va_P D vwCl (fl [wModel K aM M ML]) H) (hD : va_D A (fl [wModel K aM M ML])) (hS : va_S A s.heap H locs) (ls : Array Slot) (hl : lv_has ls 2 []) : W p l e rmX6_readLoop s m args below meth c H locs 0 0 (MQ below (qcI D z (fun (u : Rc × RcL) => (fl [wModel K aM u.1 u.2])) A) args s 0 0 A) (F0 m 88 ls []) := by
  unfold fX6_readLoop_88 at h
  refine r_iconst C0 (nI 0) dX6_readLoop_88 (by decide) ?_
  exact r_zretC h (by decide) C0 (fun (u : Rc × RcL) => (fl [wModel K aM u.1 u.2])) hP hD hS dX6_readLoop_89
set_option maxHeartbeats 1000000 in
set_option maxRecDepth 10000 in
theorem wX6_readLoop_0 (C0 : cx p s m args meth c cX6_readLoop 2 RX6 wsX6_readLoop (some .boolean) D K) (hA : ∀ q, s.heap.size ≤ q → A q) (M : Rc) (ML : RcL) (h : fX6_readLoop N M ML = some z) (H : Heap) (locs : List Loc) (hP : va_P D vwCl (fl [wModel K aM M ML]) H) (hD : va_D A (fl [wModel K aM M ML])) (hS : va_S A s.heap H locs) (ls : Array Slot) (hl : lv_has ls 2 [(0, .ref (aM 0))]) : W p l e rmX6_readLoop s m args below meth c H locs 0 0 (MQ below (qcI D z (fun (u : Rc × RcL) => (fl [wModel K aM u.1 u.2])) A) args s 0 0 A) (F0 m 0 ls []) := by
  unfold fX6_readLoop at h
  refine r_aload_n C0 dX6_readLoop_0 hl 0 rfl ?_
  refine r_get C0 6 inx6 hP 0 rfl rfl 12 (by decide) (mc wd5_12) (.ref (aM 13)) rfl dX6_readLoop_1 ?_
  refine r_bipush C0 (nI 14) dX6_readLoop_4 (by decide) ?_
  refine r_ialdC C0 hP 3 rfl 14 (by decide) dX6_readLoop_6 ?_
  refine r_iconst C0 (nI 5) dX6_readLoop_7 (by decide) ?_
  refine r_icmp_ne h C0 17 dX6_readLoop_8 (by decide) (fun h => ?_) (fun h => ?_)
  · refine r_aload_n C0 dX6_readLoop_17 hl 0 rfl ?_
    obtain ⟨z1, hz1, h⟩ := bnd_some h
    refine r_callVC (Wc := [wModel K aM M ML]) (wf := fun (u : Rc × RcL) => [wModel K aM u.1 u.2]) (Wn := [wModel K aM z1.1 z1.2]) hP hD hS hA [0] [] [0] 1 rfl rfl (by decide) rfl rfl (by decide) (fun hPc hDc hFc => va_runV (As := []) (rest := []) C0.1 (ctX6_go l D K N aM M ML H.size z1 hz1) (cwV 0 C0.1.2.2.2.2 (gdV wd15_16 wd15_17 wd15_18 wd1_5 wd15_19) rfl rfl rfl (by decide +kernel) ⟨Nat.le_of_ble_eq_true rfl, Nat.le_of_ble_eq_true rfl⟩) ⟨pcW_blind, va_recv C0.2.2.2.1 hPc (ci := 6) (q0 := 0) rfl rfl, pcW_of hPc hDc C0.2.2.2⟩ rfl rfl hl.1 rfl (lv_room (Nat.le_of_ble_eq_true rfl)) dX6_readLoop_18 ⟨Nat.zero_le _, Nat.zero_le _⟩) (fun H locs hP hD hS => ?_)
    refine r_bipush C0 (nI 15) dX6_readLoop_21 (by decide) ?_
    refine r_iconst C0 (nI 4) dX6_readLoop_23 (by decide) ?_
    refine r_aload_n C0 dX6_readLoop_24 hl 0 rfl ?_
    refine r_get C0 6 inx6 hP 0 rfl rfl 12 (by decide) (mc wd5_12) (.ref (aM 13)) rfl dX6_readLoop_25 ?_
    refine r_bipush C0 (nI 14) dX6_readLoop_28 (by decide) ?_
    refine r_ialdC C0 hP 3 rfl 14 (by decide) dX6_readLoop_30 ?_
    refine r_imul C0 dX6_readLoop_31 ?_
    refine r_iadd C0 dX6_readLoop_32 ?_
    refine r_istore_n h C0 (fun v2 => [(1, .int v2), (0, .ref (aM 0))]) dX6_readLoop_33 hl (by decide) (fun _ => rfl) (fun v2 ls h hl => ?_)
    refine r_aload_n C0 dX6_readLoop_34 hl 1 rfl ?_
    refine r_iload_n C0 dX6_readLoop_35 hl 0 rfl ?_
    refine r_iconst C0 (nI 0) dX6_readLoop_36 (by decide) ?_
    refine r_aload_n C0 dX6_readLoop_37 hl 1 rfl ?_
    refine r_get C0 6 inx6 hP 0 rfl rfl 12 (by decide) (mc wd5_12) (.ref (aM 13)) rfl dX6_readLoop_38 ?_
    refine r_iconst C0 (nI 1) dX6_readLoop_41 (by decide) ?_
    refine r_ialdC C0 hP 3 rfl 1 (by decide) dX6_readLoop_42 ?_
    refine r_iconst C0 (nI 1) dX6_readLoop_43 (by decide) ?_
    refine r_isub C0 dX6_readLoop_44 ?_
    obtain ⟨z3, hz3, h⟩ := bnd_some h
    refine r_callIC (Wc := [wModel K aM z1.1 z1.2]) (wf := fun (u : Rc × RcL) => [wModel K aM u.1 u.2]) (Wn := [wModel K aM z3.2.1 z3.2.2]) hP hD hS hA [0] [] [0] 1 rfl rfl (by decide) rfl rfl (by decide) (fun hPc hDc hFc => va_runV (As := [.int v2, .int (nI 0), .int ((z1.1 12 1) - (nI 1))]) (rest := []) C0.1 (ctX6_told l D K N aM z1.1 z1.2 v2 (nI 0) ((z1.1 12 1) - (nI 1)) H.size z3 hz3) (cwV 3 C0.1.2.2.2.2 (gdV wd17_8 wd17_9 wd17_10 wd1_5 wd17_11) rfl rfl rfl (by decide +kernel) ⟨Nat.le_of_ble_eq_true rfl, Nat.le_of_ble_eq_true rfl⟩) ⟨pcW_blind, va_recv C0.2.2.2.1 hPc (ci := 6) (q0 := 0) rfl rfl, pcW_of hPc hDc C0.2.2.2⟩ rfl rfl hl.1 rfl (lv_room (Nat.le_of_ble_eq_true rfl)) dX6_readLoop_45 ⟨Nat.zero_le _, Nat.zero_le _⟩) (fun H locs hP hD hS => ?_)
    refine r_if_eq h C0 88 dX6_readLoop_48 (by decide) (fun h => ?_) (fun h => ?_)
    · exact wX6_readLoop_88 C0 hA z3.2.1 z3.2.2 h _ _ hP hD hS _ (lv_sub hl [] rfl)
    · refine r_aload_n C0 dX6_readLoop_51 hl 1 rfl ?_
      refine r_iload_n C0 dX6_readLoop_52 hl 0 rfl ?_
      refine r_iconst C0 (nI 1) dX6_readLoop_53 (by decide) ?_
      refine r_iadd C0 dX6_readLoop_54 ?_
      refine r_aload_n C0 dX6_readLoop_55 hl 1 rfl ?_
      refine r_get C0 6 inx6 hP 0 rfl rfl 12 (by decide) (mc wd5_12) (.ref (aM 13)) rfl dX6_readLoop_56 ?_
      refine r_iload_n C0 dX6_readLoop_59 hl 0 rfl ?_
      refine r_iald h C0 hP 3 rfl dX6_readLoop_60 (fun h => ?_)
      refine r_aload_n C0 dX6_readLoop_61 hl 1 rfl ?_
      refine r_get C0 6 inx6 hP 0 rfl rfl 12 (by decide) (mc wd5_12) (.ref (aM 13)) rfl dX6_readLoop_62 ?_
      refine r_iconst C0 (nI 1) dX6_readLoop_65 (by decide) ?_
      refine r_ialdC C0 hP 3 rfl 1 (by decide) dX6_readLoop_66 ?_
      refine r_iconst C0 (nI 1) dX6_readLoop_67 (by decide) ?_
      refine r_isub C0 dX6_readLoop_68 ?_
      obtain ⟨z4, hz4, h⟩ := bnd_some h
      refine r_callIC (Wc := [wModel K aM z3.2.1 z3.2.2]) (wf := fun (u : Rc × RcL) => [wModel K aM u.1 u.2]) (Wn := [wModel K aM z4.2.1 z4.2.2]) hP hD hS hA [0] [] [0] 1 rfl rfl (by decide) rfl rfl (by decide) (fun hPc hDc hFc => va_runV (As := [.int (v2 + (nI 1)), .int (z3.2.1 12 v2.toNatClampNeg), .int ((z3.2.1 12 1) - (nI 1))]) (rest := []) C0.1 (ctX6_told l D K N aM z3.2.1 z3.2.2 (v2 + (nI 1)) (z3.2.1 12 v2.toNatClampNeg) ((z3.2.1 12 1) - (nI 1)) H.size z4 hz4) (cwV 3 C0.1.2.2.2.2 (gdV wd17_8 wd17_9 wd17_10 wd1_5 wd17_11) rfl rfl rfl (by decide +kernel) ⟨Nat.le_of_ble_eq_true rfl, Nat.le_of_ble_eq_true rfl⟩) ⟨pcW_blind, va_recv C0.2.2.2.1 hPc (ci := 6) (q0 := 0) rfl rfl, pcW_of hPc hDc C0.2.2.2⟩ rfl rfl hl.1 rfl (lv_room (Nat.le_of_ble_eq_true rfl)) dX6_readLoop_69 ⟨Nat.zero_le _, Nat.zero_le _⟩) (fun H locs hP hD hS => ?_)
      refine r_if_eq h C0 88 dX6_readLoop_72 (by decide) (fun h => ?_) (fun h => ?_)
      · exact wX6_readLoop_88 C0 hA z4.2.1 z4.2.2 h _ _ hP hD hS _ (lv_sub hl [] rfl)
      · refine r_aload_n C0 dX6_readLoop_75 hl 1 rfl ?_
        refine r_iload_n C0 dX6_readLoop_76 hl 0 rfl ?_
        refine r_iconst C0 (nI 2) dX6_readLoop_77 (by decide) ?_
        refine r_iadd C0 dX6_readLoop_78 ?_
        refine r_iconst C0 (nI 1) dX6_readLoop_79 (by decide) ?_
        refine r_bipush C0 (nI 20) dX6_readLoop_80 (by decide) ?_
        obtain ⟨z5, hz5, h⟩ := bnd_some h
        refine r_callIC (Wc := [wModel K aM z4.2.1 z4.2.2]) (wf := fun (u : Rc × RcL) => [wModel K aM u.1 u.2]) (Wn := [wModel K aM z5.2.1 z5.2.2]) hP hD hS hA [0] [] [0] 1 rfl rfl (by decide) rfl rfl (by decide) (fun hPc hDc hFc => va_runV (As := [.int (v2 + (nI 2)), .int (nI 1), .int (nI 20)]) (rest := []) C0.1 (ctX6_told l D K N aM z4.2.1 z4.2.2 (v2 + (nI 2)) (nI 1) (nI 20) H.size z5 hz5) (cwV 3 C0.1.2.2.2.2 (gdV wd17_8 wd17_9 wd17_10 wd1_5 wd17_11) rfl rfl rfl (by decide +kernel) ⟨Nat.le_of_ble_eq_true rfl, Nat.le_of_ble_eq_true rfl⟩) ⟨pcW_blind, va_recv C0.2.2.2.1 hPc (ci := 6) (q0 := 0) rfl rfl, pcW_of hPc hDc C0.2.2.2⟩ rfl rfl hl.1 rfl (lv_room (Nat.le_of_ble_eq_true rfl)) dX6_readLoop_82 ⟨Nat.zero_le _, Nat.zero_le _⟩) (fun H locs hP hD hS => ?_)
        refine r_if_ne h C0 90 dX6_readLoop_85 (by decide) (fun h => ?_) (fun h => ?_)
        · refine r_aload_n C0 dX6_readLoop_90 hl 1 rfl ?_
          refine r_get C0 6 inx6 hP 0 rfl rfl 12 (by decide) (mc wd5_12) (.ref (aM 13)) rfl dX6_readLoop_91 ?_
          refine r_bipush C0 (nI 14) dX6_readLoop_94 (by decide) ?_
          refine r_dup2 C0 dX6_readLoop_96 rfl rfl ?_
          refine r_ialdC C0 hP 3 rfl 14 (by decide) dX6_readLoop_97 ?_
          refine r_iconst C0 (nI 1) dX6_readLoop_98 (by decide) ?_
          refine r_iadd C0 dX6_readLoop_99 ?_
          refine r_iastC h C0 hP hD hS 3 (fun uu => (fl [wModel K aM uu z5.2.2])) rfl 14 (by decide) rfl dX6_readLoop_100 (fun M6 H locs h hP hD hS => ?_)
          refine r_iconst C0 (nI 1) dX6_readLoop_101 (by decide) ?_
          exact r_zretC h (by decide) C0 (fun (u : Rc × RcL) => (fl [wModel K aM u.1 u.2])) hP hD hS dX6_readLoop_102
        · exact wX6_readLoop_88 C0 hA z5.2.1 z5.2.2 h _ _ hP hD hS _ (lv_sub hl [] rfl)
  · refine r_aload_n C0 dX6_readLoop_11 hl 0 rfl ?_
    refine r_iconst C0 (nI 3) dX6_readLoop_12 (by decide) ?_
    obtain ⟨z7, hz7, h⟩ := bnd_some h
    refine r_callIC (Wc := [wModel K aM M ML]) (wf := fun (u : Rc) => [wModel K aM u ML]) (Wn := [wModel K aM z7.2 ML]) hP hD hS hA [0] [] [0] 1 rfl rfl (by decide) rfl rfl (by decide) (fun hPc hDc hFc => va_runV (As := [.int (nI 3)]) (rest := []) C0.1 (ctX6_bad l D K aM M ML (nI 3) H.size z7 hz7) (cwV 1 C0.1.2.2.2.2 (gdV wd17_12 wd17_13 wd17_14 wd1_5 wd17_15) rfl rfl rfl (by decide +kernel) ⟨Nat.le_of_ble_eq_true rfl, Nat.le_of_ble_eq_true rfl⟩) ⟨pcW_blind, va_recv C0.2.2.2.1 hPc (ci := 6) (q0 := 0) rfl rfl, pcW_of hPc hDc C0.2.2.2⟩ rfl rfl hl.1 rfl (lv_room (Nat.le_of_ble_eq_true rfl)) dX6_readLoop_13 ⟨Nat.zero_le _, Nat.zero_le _⟩) (fun H locs hP hD hS => ?_)
    exact r_zret h C0 (fun (u : Rc × RcL) => (fl [wModel K aM u.1 u.2])) hP hD hS dX6_readLoop_16
set_option maxHeartbeats 1000000 in
set_option maxRecDepth 10000 in
theorem ctX6_readLoop (l : Launch) (D : va_G) (K : Nat → ClassId) (N : Nat) (aM : Nat → Nat) (M : Rc) (ML : RcL) (sz : Nat) (z : Int32 × (Rc × RcL)) (hz : fX6_readLoop N M ML = some z) : Met l yX6_readLoop wsX6_readLoop rmX6_readLoop (pcW D K [.ref (aM 0)] (fl [wModel K aM M ML]) sz) (qcI D z (fun (u : Rc × RcL) => (fl [wModel K aM u.1 u.2])) (va_A (fl [wModel K aM M ML]) sz)) 0 0 (va_A (fl [wModel K aM M ML]) sz) := by
  refine Met.ofW (cc := cX6_readLoop) (maxL := 2) (ret := (some .boolean)) (by decide) rfl ?_
  intro p e s m args below meth c s₁ B hml hv
  obtain ⟨rfl, hsz, hP, hK, hD0⟩ := hv
  subst hsz
  have C0 : cx p s m _ meth c cX6_readLoop 2 RX6 wsX6_readLoop (some .boolean) D K := ⟨⟨B.exec, B.bytes, hml, findClass_of_methodNamed B.named, atoms_spec (ws := wsX6_readLoop) B.pre⟩, B.returns, B.notSynchronized, hK⟩
  have hD := hD0.self (sz := s.heap.size)
  generalize hAe : va_A (fl [wModel K aM M ML]) s.heap.size = A at hD ⊢
  have hA : ∀ q : Nat, s.heap.size ≤ q → A q := fun q h => by rw [← hAe]; exact Or.inr h
  have hl := lv_entry ([.ref (aM 0)]) (n := 2) (Nat.le_of_ble_eq_true rfl)
  rw [lg_entry_eq]
  generalize (lg_sl ([.ref (aM 0)]) ++ List.replicate (2 - (lg_sl ([.ref (aM 0)])).length) Slot.unset).toArray = ls at hl ⊢
  have hl : lv_has ls 2 [(0, .ref (aM 0))] := hl
  exact wX6_readLoop_0 C0 hA M ML hz s.heap [] hP hD va_S.rf ls (lv_sub hl [0] rfl)
end SX6_readLoop

section SX6_readRun
/-! CardLoopsModel.readRun()Z -/
abbrev wsX6_readRun : List Cond := Cond.code yX6_readRun cX6_readRun 2 (some .boolean) :: wsL_law0
abbrev rmX6_readRun : Room := { frames := 3, cells := 0, slots := 0, locals := 68 }
variable {p : Program} {l : Launch} {e : Env} {s : State} {m : MethodId} {args : Array Value} {below : List Frame} {meth : Method} {c : Code} {D : va_G} {K : Nat → ClassId} {A : Nat → Prop} {N : Nat} {aM : Nat → Nat} {z : Int32 × (Rc × RcL)}
set_option maxHeartbeats 1000000 in
set_option maxRecDepth 10000 in
theorem wX6_readRun_58 (C0 : cx p s m args meth c cX6_readRun 2 RX6 wsX6_readRun (some .boolean) D K) (hA : ∀ q, s.heap.size ≤ q → A q) (M : Rc) (ML : RcL) (h : fX6_readRun_58 N M ML = some z) (H : Heap) (locs : List Loc) (hP : va_P D vwCl (fl [wModel K aM M ML]) H) (hD : va_D A (fl [wModel K aM M ML])) (hS : va_S A s.heap H locs) (ls : Array Slot) (hl : lv_has ls 2 []) : W p l e rmX6_readRun s m args below meth c H locs 0 0 (MQ below (qcI D z (fun (u : Rc × RcL) => (fl [wModel K aM u.1 u.2])) A) args s 0 0 A) (F0 m 58 ls []) := by
  unfold fX6_readRun_58 at h
  refine r_iconst C0 (nI 0) dX6_readRun_58 (by decide) ?_
  exact r_zretC h (by decide) C0 (fun (u : Rc × RcL) => (fl [wModel K aM u.1 u.2])) hP hD hS dX6_readRun_59
set_option maxHeartbeats 1000000 in
set_option maxRecDepth 10000 in
theorem wX6_readRun_0 (C0 : cx p s m args meth c cX6_readRun 2 RX6 wsX6_readRun (some .boolean) D K) (hA : ∀ q, s.heap.size ≤ q → A q) (M : Rc) (ML : RcL) (h : fX6_readRun N M ML = some z) (H : Heap) (locs : List Loc) (hP : va_P D vwCl (fl [wModel K aM M ML]) H) (hD : va_D A (fl [wModel K aM M ML])) (hS : va_S A s.heap H locs) (ls : Array Slot) (hl : lv_has ls 2 [(0, .ref (aM 0))]) : W p l e rmX6_readRun s m args below meth c H locs 0 0 (MQ below (qcI D z (fun (u : Rc × RcL) => (fl [wModel K aM u.1 u.2])) A) args s 0 0 A) (F0 m 0 ls []) := by
  unfold fX6_readRun at h
  refine r_aload_n C0 dX6_readRun_0 hl 0 rfl ?_
  refine r_get C0 6 inx6 hP 0 rfl rfl 12 (by decide) (mc wd5_12) (.ref (aM 13)) rfl dX6_readRun_1 ?_
  refine r_bipush C0 (nI 35) dX6_readRun_4 (by decide) ?_
  refine r_ialdC C0 hP 3 rfl 35 (by decide) dX6_readRun_6 ?_
  refine r_bipush C0 (nI 6) dX6_readRun_7 (by decide) ?_
  refine r_icmp_ne h C0 18 dX6_readRun_9 (by decide) (fun h => ?_) (fun h => ?_)
  · refine r_aload_n C0 dX6_readRun_18 hl 0 rfl ?_
    obtain ⟨z1, hz1, h⟩ := bnd_some h
    refine r_callVC (Wc := [wModel K aM M ML]) (wf := fun (u : Rc × RcL) => [wModel K aM u.1 u.2]) (Wn := [wModel K aM z1.1 z1.2]) hP hD hS hA [0] [] [0] 1 rfl rfl (by decide) rfl rfl (by decide) (fun hPc hDc hFc => va_runV (As := []) (rest := []) C0.1 (ctX6_go l D K N aM M ML H.size z1 hz1) (cwV 0 C0.1.2.2.2.2 (gdV wd15_16 wd15_17 wd15_18 wd1_5 wd15_19) rfl rfl rfl (by decide +kernel) ⟨Nat.le_of_ble_eq_true rfl, Nat.le_of_ble_eq_true rfl⟩) ⟨pcW_blind, va_recv C0.2.2.2.1 hPc (ci := 6) (q0 := 0) rfl rfl, pcW_of hPc hDc C0.2.2.2⟩ rfl rfl hl.1 rfl (lv_room (Nat.le_of_ble_eq_true rfl)) dX6_readRun_19 ⟨Nat.zero_le _, Nat.zero_le _⟩) (fun H locs hP hD hS => ?_)
    refine r_bipush C0 (nI 36) dX6_readRun_22 (by decide) ?_
    refine r_iconst C0 (nI 2) dX6_readRun_24 (by decide) ?_
    refine r_aload_n C0 dX6_readRun_25 hl 0 rfl ?_
    refine r_get C0 6 inx6 hP 0 rfl rfl 12 (by decide) (mc wd5_12) (.ref (aM 13)) rfl dX6_readRun_26 ?_
    refine r_bipush C0 (nI 35) dX6_readRun_29 (by decide) ?_
    refine r_ialdC C0 hP 3 rfl 35 (by decide) dX6_readRun_31 ?_
    refine r_imul C0 dX6_readRun_32 ?_
    refine r_iadd C0 dX6_readRun_33 ?_
    refine r_istore_n h C0 (fun v2 => [(1, .int v2), (0, .ref (aM 0))]) dX6_readRun_34 hl (by decide) (fun _ => rfl) (fun v2 ls h hl => ?_)
    refine r_aload_n C0 dX6_readRun_35 hl 1 rfl ?_
    refine r_iload_n C0 dX6_readRun_36 hl 0 rfl ?_
    refine r_iconst C0 (nI 0) dX6_readRun_37 (by decide) ?_
    refine r_iconst C0 (nI 3) dX6_readRun_38 (by decide) ?_
    obtain ⟨z3, hz3, h⟩ := bnd_some h
    refine r_callIC (Wc := [wModel K aM z1.1 z1.2]) (wf := fun (u : Rc × RcL) => [wModel K aM u.1 u.2]) (Wn := [wModel K aM z3.2.1 z3.2.2]) hP hD hS hA [0] [] [0] 1 rfl rfl (by decide) rfl rfl (by decide) (fun hPc hDc hFc => va_runV (As := [.int v2, .int (nI 0), .int (nI 3)]) (rest := []) C0.1 (ctX6_told l D K N aM z1.1 z1.2 v2 (nI 0) (nI 3) H.size z3 hz3) (cwV 3 C0.1.2.2.2.2 (gdV wd17_8 wd17_9 wd17_10 wd1_5 wd17_11) rfl rfl rfl (by decide +kernel) ⟨Nat.le_of_ble_eq_true rfl, Nat.le_of_ble_eq_true rfl⟩) ⟨pcW_blind, va_recv C0.2.2.2.1 hPc (ci := 6) (q0 := 0) rfl rfl, pcW_of hPc hDc C0.2.2.2⟩ rfl rfl hl.1 rfl (lv_room (Nat.le_of_ble_eq_true rfl)) dX6_readRun_39 ⟨Nat.zero_le _, Nat.zero_le _⟩) (fun H locs hP hD hS => ?_)
    refine r_if_eq h C0 58 dX6_readRun_42 (by decide) (fun h => ?_) (fun h => ?_)
    · exact wX6_readRun_58 C0 hA z3.2.1 z3.2.2 h _ _ hP hD hS _ (lv_sub hl [] rfl)
    · refine r_aload_n C0 dX6_readRun_45 hl 1 rfl ?_
      refine r_iload_n C0 dX6_readRun_46 hl 0 rfl ?_
      refine r_iconst C0 (nI 1) dX6_readRun_47 (by decide) ?_
      refine r_iadd C0 dX6_readRun_48 ?_
      refine r_iconst C0 (nI 1) dX6_readRun_49 (by decide) ?_
      refine r_bipush C0 (nI 20) dX6_readRun_50 (by decide) ?_
      obtain ⟨z4, hz4, h⟩ := bnd_some h
      refine r_callIC (Wc := [wModel K aM z3.2.1 z3.2.2]) (wf := fun (u : Rc × RcL) => [wModel K aM u.1 u.2]) (Wn := [wModel K aM z4.2.1 z4.2.2]) hP hD hS hA [0] [] [0] 1 rfl rfl (by decide) rfl rfl (by decide) (fun hPc hDc hFc => va_runV (As := [.int (v2 + (nI 1)), .int (nI 1), .int (nI 20)]) (rest := []) C0.1 (ctX6_told l D K N aM z3.2.1 z3.2.2 (v2 + (nI 1)) (nI 1) (nI 20) H.size z4 hz4) (cwV 3 C0.1.2.2.2.2 (gdV wd17_8 wd17_9 wd17_10 wd1_5 wd17_11) rfl rfl rfl (by decide +kernel) ⟨Nat.le_of_ble_eq_true rfl, Nat.le_of_ble_eq_true rfl⟩) ⟨pcW_blind, va_recv C0.2.2.2.1 hPc (ci := 6) (q0 := 0) rfl rfl, pcW_of hPc hDc C0.2.2.2⟩ rfl rfl hl.1 rfl (lv_room (Nat.le_of_ble_eq_true rfl)) dX6_readRun_52 ⟨Nat.zero_le _, Nat.zero_le _⟩) (fun H locs hP hD hS => ?_)
      refine r_if_ne h C0 60 dX6_readRun_55 (by decide) (fun h => ?_) (fun h => ?_)
      · refine r_aload_n C0 dX6_readRun_60 hl 1 rfl ?_
        refine r_get C0 6 inx6 hP 0 rfl rfl 12 (by decide) (mc wd5_12) (.ref (aM 13)) rfl dX6_readRun_61 ?_
        refine r_bipush C0 (nI 35) dX6_readRun_64 (by decide) ?_
        refine r_dup2 C0 dX6_readRun_66 rfl rfl ?_
        refine r_ialdC C0 hP 3 rfl 35 (by decide) dX6_readRun_67 ?_
        refine r_iconst C0 (nI 1) dX6_readRun_68 (by decide) ?_
        refine r_iadd C0 dX6_readRun_69 ?_
        refine r_iastC h C0 hP hD hS 3 (fun uu => (fl [wModel K aM uu z4.2.2])) rfl 35 (by decide) rfl dX6_readRun_70 (fun M5 H locs h hP hD hS => ?_)
        refine r_iconst C0 (nI 1) dX6_readRun_71 (by decide) ?_
        exact r_zretC h (by decide) C0 (fun (u : Rc × RcL) => (fl [wModel K aM u.1 u.2])) hP hD hS dX6_readRun_72
      · exact wX6_readRun_58 C0 hA z4.2.1 z4.2.2 h _ _ hP hD hS _ (lv_sub hl [] rfl)
  · refine r_aload_n C0 dX6_readRun_12 hl 0 rfl ?_
    refine r_iconst C0 (nI 3) dX6_readRun_13 (by decide) ?_
    obtain ⟨z6, hz6, h⟩ := bnd_some h
    refine r_callIC (Wc := [wModel K aM M ML]) (wf := fun (u : Rc) => [wModel K aM u ML]) (Wn := [wModel K aM z6.2 ML]) hP hD hS hA [0] [] [0] 1 rfl rfl (by decide) rfl rfl (by decide) (fun hPc hDc hFc => va_runV (As := [.int (nI 3)]) (rest := []) C0.1 (ctX6_bad l D K aM M ML (nI 3) H.size z6 hz6) (cwV 1 C0.1.2.2.2.2 (gdV wd17_12 wd17_13 wd17_14 wd1_5 wd17_15) rfl rfl rfl (by decide +kernel) ⟨Nat.le_of_ble_eq_true rfl, Nat.le_of_ble_eq_true rfl⟩) ⟨pcW_blind, va_recv C0.2.2.2.1 hPc (ci := 6) (q0 := 0) rfl rfl, pcW_of hPc hDc C0.2.2.2⟩ rfl rfl hl.1 rfl (lv_room (Nat.le_of_ble_eq_true rfl)) dX6_readRun_14 ⟨Nat.zero_le _, Nat.zero_le _⟩) (fun H locs hP hD hS => ?_)
    exact r_zret h C0 (fun (u : Rc × RcL) => (fl [wModel K aM u.1 u.2])) hP hD hS dX6_readRun_17
set_option maxHeartbeats 1000000 in
set_option maxRecDepth 10000 in
theorem ctX6_readRun (l : Launch) (D : va_G) (K : Nat → ClassId) (N : Nat) (aM : Nat → Nat) (M : Rc) (ML : RcL) (sz : Nat) (z : Int32 × (Rc × RcL)) (hz : fX6_readRun N M ML = some z) : Met l yX6_readRun wsX6_readRun rmX6_readRun (pcW D K [.ref (aM 0)] (fl [wModel K aM M ML]) sz) (qcI D z (fun (u : Rc × RcL) => (fl [wModel K aM u.1 u.2])) (va_A (fl [wModel K aM M ML]) sz)) 0 0 (va_A (fl [wModel K aM M ML]) sz) := by
  refine Met.ofW (cc := cX6_readRun) (maxL := 2) (ret := (some .boolean)) (by decide) rfl ?_
  intro p e s m args below meth c s₁ B hml hv
  obtain ⟨rfl, hsz, hP, hK, hD0⟩ := hv
  subst hsz
  have C0 : cx p s m _ meth c cX6_readRun 2 RX6 wsX6_readRun (some .boolean) D K := ⟨⟨B.exec, B.bytes, hml, findClass_of_methodNamed B.named, atoms_spec (ws := wsX6_readRun) B.pre⟩, B.returns, B.notSynchronized, hK⟩
  have hD := hD0.self (sz := s.heap.size)
  generalize hAe : va_A (fl [wModel K aM M ML]) s.heap.size = A at hD ⊢
  have hA : ∀ q : Nat, s.heap.size ≤ q → A q := fun q h => by rw [← hAe]; exact Or.inr h
  have hl := lv_entry ([.ref (aM 0)]) (n := 2) (Nat.le_of_ble_eq_true rfl)
  rw [lg_entry_eq]
  generalize (lg_sl ([.ref (aM 0)]) ++ List.replicate (2 - (lg_sl ([.ref (aM 0)])).length) Slot.unset).toArray = ls at hl ⊢
  have hl : lv_has ls 2 [(0, .ref (aM 0))] := hl
  exact wX6_readRun_0 C0 hA M ML hz s.heap [] hP hD va_S.rf ls (lv_sub hl [0] rfl)
end SX6_readRun

section SX6_readLine
/-! CardLoopsModel.readLine()Z -/
abbrev wsX6_readLine : List Cond := Cond.code yX6_readLine cX6_readLine 1 (some .boolean) :: wsL_law0
abbrev rmX6_readLine : Room := { frames := 4, cells := 0, slots := 0, locals := 89 }
variable {p : Program} {l : Launch} {e : Env} {s : State} {m : MethodId} {args : Array Value} {below : List Frame} {meth : Method} {c : Code} {D : va_G} {K : Nat → ClassId} {A : Nat → Prop} {N : Nat} {aM : Nat → Nat} {z : Int32 × (Rc × RcL)}
set_option maxHeartbeats 1000000 in
set_option maxRecDepth 10000 in
theorem wX6_readLine_0 (C0 : cx p s m args meth c cX6_readLine 1 RX6 wsX6_readLine (some .boolean) D K) (hA : ∀ q, s.heap.size ≤ q → A q) (M : Rc) (ML : RcL) (h : fX6_readLine N M ML = some z) (H : Heap) (locs : List Loc) (hP : va_P D vwCl (fl [wModel K aM M ML]) H) (hD : va_D A (fl [wModel K aM M ML])) (hS : va_S A s.heap H locs) (ls : Array Slot) (hl : lv_has ls 1 [(0, .ref (aM 0))]) : W p l e rmX6_readLine s m args below meth c H locs 0 0 (MQ below (qcI D z (fun (u : Rc × RcL) => (fl [wModel K aM u.1 u.2])) A) args s 0 0 A) (F0 m 0 ls []) := by
  unfold fX6_readLine at h
  refine r_aload_n C0 dX6_readLine_0 hl 0 rfl ?_
  refine r_get C0 6 inx6 hP 0 rfl rfl 12 (by decide) (mc wd5_12) (.ref (aM 13)) rfl dX6_readLine_1 ?_
  refine r_iconst C0 (nI 0) dX6_readLine_4 (by decide) ?_
  refine r_ialdC C0 hP 3 rfl 0 (by decide) dX6_readLine_5 ?_
  refine r_if_ne h C0 29 dX6_readLine_6 (by decide) (fun h => ?_) (fun h => ?_)
  · refine r_aload_n C0 dX6_readLine_29 hl 0 rfl ?_
    obtain ⟨z1, hz1, h⟩ := bnd_some h
    have hPc := vaP_sel (Wc := [wModel K aM M ML]) hP [0] rfl
    refine r_cI (va_runV (As := []) (rest := []) C0.1 (ctX6_isStationWord l D K aM M ML z1 hz1) (cwV 0 C0.1.2.2.2.2 (gdV wd17_19 wd17_20 wd17_21 wd1_5 wd17_22) rfl rfl rfl (by decide +kernel) ⟨Nat.le_of_ble_eq_true rfl, Nat.le_of_ble_eq_true rfl⟩) ⟨pcR_blind, va_recv C0.2.2.2.1 hPc (ci := 6) (q0 := 0) rfl rfl, pcR_of hPc C0.2.2.2⟩ rfl rfl hl.1 rfl (lv_room (Nat.le_of_ble_eq_true rfl)) dX6_readLine_30 ⟨Nat.zero_le _, Nat.zero_le _⟩).run ?_
    refine r_if_eq h C0 41 dX6_readLine_33 (by decide) (fun h => ?_) (fun h => ?_)
    · refine r_aload_n C0 dX6_readLine_41 hl 0 rfl ?_
      refine r_bipush C0 (nI 108) dX6_readLine_42 (by decide) ?_
      refine r_bipush C0 (nI 111) dX6_readLine_44 (by decide) ?_
      refine r_bipush C0 (nI 111) dX6_readLine_46 (by decide) ?_
      refine r_bipush C0 (nI 112) dX6_readLine_48 (by decide) ?_
      obtain ⟨z2, hz2, h⟩ := bnd_some h
      have hPc : va_P D vwCl [] H := va_P_nil
      refine r_cL (va_runS (As := [.int (nI 108), .int (nI 111), .int (nI 111), .int (nI 112)]) (rest := [.ref (aM 0)]) C0.1 (ctX6_four l D K (nI 108) (nI 111) (nI 111) (nI 112) z2 hz2) (va_cwS 4 C0.1.2.2.2.2 (gdS wd16_21 wd16_22 wd1_5 wd16_23) rfl rfl rfl (by decide +kernel) ⟨Nat.le_of_ble_eq_true rfl, Nat.le_of_ble_eq_true rfl⟩) ⟨pcR_blind, pcR_of hPc C0.2.2.2⟩ rfl rfl hl.1 rfl (lv_room (Nat.le_of_ble_eq_true rfl)) dX6_readLine_50 ⟨Nat.zero_le _, Nat.zero_le _⟩).run ?_
      obtain ⟨z3, hz3, h⟩ := bnd_some h
      have hPc := vaP_sel (Wc := [wModel K aM M ML]) hP [0] rfl
      refine r_cI (va_runV (As := [.long z2]) (rest := []) C0.1 (ctX6_isWord l D K aM M ML z2 z3 hz3) (cwV 1 C0.1.2.2.2.2 (gdV wd17_0 wd17_1 wd17_2 wd1_5 wd17_3) rfl rfl rfl (by decide +kernel) ⟨Nat.le_of_ble_eq_true rfl, Nat.le_of_ble_eq_true rfl⟩) ⟨pcR_blind, va_recv C0.2.2.2.1 hPc (ci := 6) (q0 := 0) rfl rfl, pcR_of hPc C0.2.2.2⟩ rfl rfl hl.1 rfl (lv_room (Nat.le_of_ble_eq_true rfl)) dX6_readLine_53 ⟨Nat.zero_le _, Nat.zero_le _⟩).run ?_
      refine r_if_eq h C0 64 dX6_readLine_56 (by decide) (fun h => ?_) (fun h => ?_)
      · refine r_aload_n C0 dX6_readLine_64 hl 0 rfl ?_
        refine r_ldc2 C0 dX6_readLine_65 (mc wd16_15) ?_
        obtain ⟨z4, hz4, h⟩ := bnd_some h
        have hPc := vaP_sel (Wc := [wModel K aM M ML]) hP [0] rfl
        refine r_cI (va_runV (As := [.long (13703 : Int64)]) (rest := []) C0.1 (ctX6_isWord l D K aM M ML (13703 : Int64) z4 hz4) (cwV 1 C0.1.2.2.2.2 (gdV wd17_0 wd17_1 wd17_2 wd1_5 wd17_3) rfl rfl rfl (by decide +kernel) ⟨Nat.le_of_ble_eq_true rfl, Nat.le_of_ble_eq_true rfl⟩) ⟨pcR_blind, va_recv C0.2.2.2.1 hPc (ci := 6) (q0 := 0) rfl rfl, pcR_of hPc C0.2.2.2⟩ rfl rfl hl.1 rfl (lv_room (Nat.le_of_ble_eq_true rfl)) dX6_readLine_68 ⟨Nat.zero_le _, Nat.zero_le _⟩).run ?_
        refine r_if_eq h C0 81 dX6_readLine_71 (by decide) (fun h => ?_) (fun h => ?_)
        · refine r_aload_n C0 dX6_readLine_81 hl 0 rfl ?_
          refine r_iconst C0 (nI 1) dX6_readLine_82 (by decide) ?_
          obtain ⟨z5, hz5, h⟩ := bnd_some h
          refine r_callIC (Wc := [wModel K aM M ML]) (wf := fun (u : Rc) => [wModel K aM u ML]) (Wn := [wModel K aM z5.2 ML]) hP hD hS hA [0] [] [0] 1 rfl rfl (by decide) rfl rfl (by decide) (fun hPc hDc hFc => va_runV (As := [.int (nI 1)]) (rest := []) C0.1 (ctX6_bad l D K aM M ML (nI 1) H.size z5 hz5) (cwV 1 C0.1.2.2.2.2 (gdV wd17_12 wd17_13 wd17_14 wd1_5 wd17_15) rfl rfl rfl (by decide +kernel) ⟨Nat.le_of_ble_eq_true rfl, Nat.le_of_ble_eq_true rfl⟩) ⟨pcW_blind, va_recv C0.2.2.2.1 hPc (ci := 6) (q0 := 0) rfl rfl, pcW_of hPc hDc C0.2.2.2⟩ rfl rfl hl.1 rfl (lv_room (Nat.le_of_ble_eq_true rfl)) dX6_readLine_83 ⟨Nat.zero_le _, Nat.zero_le _⟩) (fun H locs hP hD hS => ?_)
          exact r_zret h C0 (fun (u : Rc × RcL) => (fl [wModel K aM u.1 u.2])) hP hD hS dX6_readLine_86
        · refine r_aload_n C0 dX6_readLine_74 hl 0 rfl ?_
          obtain ⟨z6, hz6, h⟩ := bnd_some h
          refine r_callIC (Wc := [wModel K aM M ML]) (wf := fun (u : Rc × RcL) => [wModel K aM u.1 u.2]) (Wn := [wModel K aM z6.2.1 z6.2.2]) hP hD hS hA [0] [] [0] 1 rfl rfl (by decide) rfl rfl (by decide) (fun hPc hDc hFc => va_runV (As := []) (rest := []) C0.1 (ctX6_readRun l D K N aM M ML H.size z6 hz6) (cwV 0 C0.1.2.2.2.2 (gdV wd18_10 wd18_11 wd18_12 wd1_5 wd18_13) rfl rfl rfl (by decide +kernel) ⟨Nat.le_of_ble_eq_true rfl, Nat.le_of_ble_eq_true rfl⟩) ⟨pcW_blind, va_recv C0.2.2.2.1 hPc (ci := 6) (q0 := 0) rfl rfl, pcW_of hPc hDc C0.2.2.2⟩ rfl rfl hl.1 rfl (lv_room (Nat.le_of_ble_eq_true rfl)) dX6_readLine_75 ⟨Nat.zero_le _, Nat.zero_le _⟩) (fun H locs hP hD hS => ?_)
          refine r_goto C0 86 dX6_readLine_78 (by decide) ?_
          exact r_zret h C0 (fun (u : Rc × RcL) => (fl [wModel K aM u.1 u.2])) hP hD hS dX6_readLine_86
      · refine r_aload_n C0 dX6_readLine_59 hl 0 rfl ?_
        obtain ⟨z7, hz7, h⟩ := bnd_some h
        refine r_callIC (Wc := [wModel K aM M ML]) (wf := fun (u : Rc × RcL) => [wModel K aM u.1 u.2]) (Wn := [wModel K aM z7.2.1 z7.2.2]) hP hD hS hA [0] [] [0] 1 rfl rfl (by decide) rfl rfl (by decide) (fun hPc hDc hFc => va_runV (As := []) (rest := []) C0.1 (ctX6_readLoop l D K N aM M ML H.size z7 hz7) (cwV 0 C0.1.2.2.2.2 (gdV wd18_6 wd18_7 wd18_8 wd1_5 wd18_9) rfl rfl rfl (by decide +kernel) ⟨Nat.le_of_ble_eq_true rfl, Nat.le_of_ble_eq_true rfl⟩) ⟨pcW_blind, va_recv C0.2.2.2.1 hPc (ci := 6) (q0 := 0) rfl rfl, pcW_of hPc hDc C0.2.2.2⟩ rfl rfl hl.1 rfl (lv_room (Nat.le_of_ble_eq_true rfl)) dX6_readLine_60 ⟨Nat.zero_le _, Nat.zero_le _⟩) (fun H locs hP hD hS => ?_)
        exact r_zret h C0 (fun (u : Rc × RcL) => (fl [wModel K aM u.1 u.2])) hP hD hS dX6_readLine_63
    · refine r_aload_n C0 dX6_readLine_36 hl 0 rfl ?_
      obtain ⟨z8, hz8, h⟩ := bnd_some h
      refine r_callIC (Wc := [wModel K aM M ML]) (wf := fun (u : Rc × RcL) => [wModel K aM u.1 u.2]) (Wn := [wModel K aM z8.2.1 z8.2.2]) hP hD hS hA [0] [] [0] 1 rfl rfl (by decide) rfl rfl (by decide) (fun hPc hDc hFc => va_runV (As := []) (rest := []) C0.1 (ctX6_readStation l D K N aM M ML H.size z8 hz8) (cwV 0 C0.1.2.2.2.2 (gdV wd18_2 wd18_3 wd18_4 wd1_5 wd18_5) rfl rfl rfl (by decide +kernel) ⟨Nat.le_of_ble_eq_true rfl, Nat.le_of_ble_eq_true rfl⟩) ⟨pcW_blind, va_recv C0.2.2.2.1 hPc (ci := 6) (q0 := 0) rfl rfl, pcW_of hPc hDc C0.2.2.2⟩ rfl rfl hl.1 rfl (lv_room (Nat.le_of_ble_eq_true rfl)) dX6_readLine_37 ⟨Nat.zero_le _, Nat.zero_le _⟩) (fun H locs hP hD hS => ?_)
      exact r_zret h C0 (fun (u : Rc × RcL) => (fl [wModel K aM u.1 u.2])) hP hD hS dX6_readLine_40
  · refine r_aload_n C0 dX6_readLine_9 hl 0 rfl ?_
    obtain ⟨z9, hz9, h⟩ := bnd_some h
    have hPc := vaP_sel (Wc := [wModel K aM M ML]) hP [0] rfl
    refine r_cI (va_runV (As := []) (rest := []) C0.1 (ctX6_isWorks l D K aM M ML z9 hz9) (cwV 0 C0.1.2.2.2.2 (gdV wd16_16 wd16_17 wd16_18 wd1_5 wd16_19) rfl rfl rfl (by decide +kernel) ⟨Nat.le_of_ble_eq_true rfl, Nat.le_of_ble_eq_true rfl⟩) ⟨pcR_blind, va_recv C0.2.2.2.1 hPc (ci := 6) (q0 := 0) rfl rfl, pcR_of hPc C0.2.2.2⟩ rfl rfl hl.1 rfl (lv_room (Nat.le_of_ble_eq_true rfl)) dX6_readLine_10 ⟨Nat.zero_le _, Nat.zero_le _⟩).run ?_
    refine r_if_eq h C0 23 dX6_readLine_13 (by decide) (fun h => ?_) (fun h => ?_)
    · refine r_aload_n C0 dX6_readLine_23 hl 0 rfl ?_
      refine r_iconst C0 (nI 1) dX6_readLine_24 (by decide) ?_
      obtain ⟨z10, hz10, h⟩ := bnd_some h
      refine r_callIC (Wc := [wModel K aM M ML]) (wf := fun (u : Rc) => [wModel K aM u ML]) (Wn := [wModel K aM z10.2 ML]) hP hD hS hA [0] [] [0] 1 rfl rfl (by decide) rfl rfl (by decide) (fun hPc hDc hFc => va_runV (As := [.int (nI 1)]) (rest := []) C0.1 (ctX6_bad l D K aM M ML (nI 1) H.size z10 hz10) (cwV 1 C0.1.2.2.2.2 (gdV wd17_12 wd17_13 wd17_14 wd1_5 wd17_15) rfl rfl rfl (by decide +kernel) ⟨Nat.le_of_ble_eq_true rfl, Nat.le_of_ble_eq_true rfl⟩) ⟨pcW_blind, va_recv C0.2.2.2.1 hPc (ci := 6) (q0 := 0) rfl rfl, pcW_of hPc hDc C0.2.2.2⟩ rfl rfl hl.1 rfl (lv_room (Nat.le_of_ble_eq_true rfl)) dX6_readLine_25 ⟨Nat.zero_le _, Nat.zero_le _⟩) (fun H locs hP hD hS => ?_)
      exact r_zret h C0 (fun (u : Rc × RcL) => (fl [wModel K aM u.1 u.2])) hP hD hS dX6_readLine_28
    · refine r_aload_n C0 dX6_readLine_16 hl 0 rfl ?_
      obtain ⟨z11, hz11, h⟩ := bnd_some h
      refine r_callIC (Wc := [wModel K aM M ML]) (wf := fun (u : Rc × RcL) => [wModel K aM u.1 u.2]) (Wn := [wModel K aM z11.2.1 z11.2.2]) hP hD hS hA [0] [] [0] 1 rfl rfl (by decide) rfl rfl (by decide) (fun hPc hDc hFc => va_runV (As := []) (rest := []) C0.1 (ctX6_readWorks l D K N aM M ML H.size z11 hz11) (cwV 0 C0.1.2.2.2.2 (gdV wd17_4 wd17_5 wd17_6 wd1_5 wd17_7) rfl rfl rfl (by decide +kernel) ⟨Nat.le_of_ble_eq_true rfl, Nat.le_of_ble_eq_true rfl⟩) ⟨pcW_blind, va_recv C0.2.2.2.1 hPc (ci := 6) (q0 := 0) rfl rfl, pcW_of hPc hDc C0.2.2.2⟩ rfl rfl hl.1 rfl (lv_room (Nat.le_of_ble_eq_true rfl)) dX6_readLine_17 ⟨Nat.zero_le _, Nat.zero_le _⟩) (fun H locs hP hD hS => ?_)
      refine r_goto C0 28 dX6_readLine_20 (by decide) ?_
      exact r_zret h C0 (fun (u : Rc × RcL) => (fl [wModel K aM u.1 u.2])) hP hD hS dX6_readLine_28
set_option maxHeartbeats 1000000 in
set_option maxRecDepth 10000 in
theorem ctX6_readLine (l : Launch) (D : va_G) (K : Nat → ClassId) (N : Nat) (aM : Nat → Nat) (M : Rc) (ML : RcL) (sz : Nat) (z : Int32 × (Rc × RcL)) (hz : fX6_readLine N M ML = some z) : Met l yX6_readLine wsX6_readLine rmX6_readLine (pcW D K [.ref (aM 0)] (fl [wModel K aM M ML]) sz) (qcI D z (fun (u : Rc × RcL) => (fl [wModel K aM u.1 u.2])) (va_A (fl [wModel K aM M ML]) sz)) 0 0 (va_A (fl [wModel K aM M ML]) sz) := by
  refine Met.ofW (cc := cX6_readLine) (maxL := 1) (ret := (some .boolean)) (by decide) rfl ?_
  intro p e s m args below meth c s₁ B hml hv
  obtain ⟨rfl, hsz, hP, hK, hD0⟩ := hv
  subst hsz
  have C0 : cx p s m _ meth c cX6_readLine 1 RX6 wsX6_readLine (some .boolean) D K := ⟨⟨B.exec, B.bytes, hml, findClass_of_methodNamed B.named, atoms_spec (ws := wsX6_readLine) B.pre⟩, B.returns, B.notSynchronized, hK⟩
  have hD := hD0.self (sz := s.heap.size)
  generalize hAe : va_A (fl [wModel K aM M ML]) s.heap.size = A at hD ⊢
  have hA : ∀ q : Nat, s.heap.size ≤ q → A q := fun q h => by rw [← hAe]; exact Or.inr h
  have hl := lv_entry ([.ref (aM 0)]) (n := 1) (Nat.le_of_ble_eq_true rfl)
  rw [lg_entry_eq]
  generalize (lg_sl ([.ref (aM 0)]) ++ List.replicate (1 - (lg_sl ([.ref (aM 0)])).length) Slot.unset).toArray = ls at hl ⊢
  have hl : lv_has ls 1 [(0, .ref (aM 0))] := hl
  exact wX6_readLine_0 C0 hA M ML hz s.heap [] hP hD va_S.rf ls (lv_sub hl [0] rfl)
end SX6_readLine

section SX6_readEnd
/-! CardLoopsModel.readEnd()Z -/
abbrev wsX6_readEnd : List Cond := Cond.code yX6_readEnd cX6_readEnd 1 (some .boolean) :: wsL_law0
abbrev rmX6_readEnd : Room := { frames := 2, cells := 0, slots := 0, locals := 45 }
variable {p : Program} {l : Launch} {e : Env} {s : State} {m : MethodId} {args : Array Value} {below : List Frame} {meth : Method} {c : Code} {D : va_G} {K : Nat → ClassId} {A : Nat → Prop} {N : Nat} {aM : Nat → Nat} {z : Int32 × (Rc × RcL)}
set_option maxHeartbeats 1000000 in
set_option maxRecDepth 10000 in
theorem wX6_readEnd_0 (C0 : cx p s m args meth c cX6_readEnd 1 RX6 wsX6_readEnd (some .boolean) D K) (hA : ∀ q, s.heap.size ≤ q → A q) (M : Rc) (ML : RcL) (h : fX6_readEnd N M ML = some z) (H : Heap) (locs : List Loc) (hP : va_P D vwCl (fl [wModel K aM M ML]) H) (hD : va_D A (fl [wModel K aM M ML])) (hS : va_S A s.heap H locs) (ls : Array Slot) (hl : lv_has ls 1 [(0, .ref (aM 0))]) : W p l e rmX6_readEnd s m args below meth c H locs 0 0 (MQ below (qcI D z (fun (u : Rc × RcL) => (fl [wModel K aM u.1 u.2])) A) args s 0 0 A) (F0 m 0 ls []) := by
  unfold fX6_readEnd at h
  refine r_aload_n C0 dX6_readEnd_0 hl 0 rfl ?_
  refine r_get C0 6 inx6 hP 0 rfl rfl 6 (by decide) (mc wd15_13) (.int (M 6 0)) rfl dX6_readEnd_1 ?_
  refine r_iconst C0 (nI 4) dX6_readEnd_4 (by decide) ?_
  refine r_icmp_eq h C0 14 dX6_readEnd_5 (by decide) (fun h => ?_) (fun h => ?_)
  · refine r_aload_n C0 dX6_readEnd_14 hl 0 rfl ?_
    obtain ⟨z1, hz1, h⟩ := bnd_some h
    refine r_callVC (Wc := [wModel K aM M ML]) (wf := fun (u : Rc × RcL) => [wModel K aM u.1 u.2]) (Wn := [wModel K aM z1.1 z1.2]) hP hD hS hA [0] [] [0] 1 rfl rfl (by decide) rfl rfl (by decide) (fun hPc hDc hFc => va_runV (As := []) (rest := []) C0.1 (ctX6_go l D K N aM M ML H.size z1 hz1) (cwV 0 C0.1.2.2.2.2 (gdV wd15_16 wd15_17 wd15_18 wd1_5 wd15_19) rfl rfl rfl (by decide +kernel) ⟨Nat.le_of_ble_eq_true rfl, Nat.le_of_ble_eq_true rfl⟩) ⟨pcW_blind, va_recv C0.2.2.2.1 hPc (ci := 6) (q0 := 0) rfl rfl, pcW_of hPc hDc C0.2.2.2⟩ rfl rfl hl.1 rfl (lv_room (Nat.le_of_ble_eq_true rfl)) dX6_readEnd_15 ⟨Nat.zero_le _, Nat.zero_le _⟩) (fun H locs hP hD hS => ?_)
    refine r_iconst C0 (nI 1) dX6_readEnd_18 (by decide) ?_
    exact r_zretC h (by decide) C0 (fun (u : Rc × RcL) => (fl [wModel K aM u.1 u.2])) hP hD hS dX6_readEnd_19
  · refine r_aload_n C0 dX6_readEnd_8 hl 0 rfl ?_
    refine r_iconst C0 (nI 1) dX6_readEnd_9 (by decide) ?_
    obtain ⟨z2, hz2, h⟩ := bnd_some h
    refine r_callIC (Wc := [wModel K aM M ML]) (wf := fun (u : Rc) => [wModel K aM u ML]) (Wn := [wModel K aM z2.2 ML]) hP hD hS hA [0] [] [0] 1 rfl rfl (by decide) rfl rfl (by decide) (fun hPc hDc hFc => va_runV (As := [.int (nI 1)]) (rest := []) C0.1 (ctX6_bad l D K aM M ML (nI 1) H.size z2 hz2) (cwV 1 C0.1.2.2.2.2 (gdV wd17_12 wd17_13 wd17_14 wd1_5 wd17_15) rfl rfl rfl (by decide +kernel) ⟨Nat.le_of_ble_eq_true rfl, Nat.le_of_ble_eq_true rfl⟩) ⟨pcW_blind, va_recv C0.2.2.2.1 hPc (ci := 6) (q0 := 0) rfl rfl, pcW_of hPc hDc C0.2.2.2⟩ rfl rfl hl.1 rfl (lv_room (Nat.le_of_ble_eq_true rfl)) dX6_readEnd_10 ⟨Nat.zero_le _, Nat.zero_le _⟩) (fun H locs hP hD hS => ?_)
    exact r_zret h C0 (fun (u : Rc × RcL) => (fl [wModel K aM u.1 u.2])) hP hD hS dX6_readEnd_13
set_option maxHeartbeats 1000000 in
set_option maxRecDepth 10000 in
theorem ctX6_readEnd (l : Launch) (D : va_G) (K : Nat → ClassId) (N : Nat) (aM : Nat → Nat) (M : Rc) (ML : RcL) (sz : Nat) (z : Int32 × (Rc × RcL)) (hz : fX6_readEnd N M ML = some z) : Met l yX6_readEnd wsX6_readEnd rmX6_readEnd (pcW D K [.ref (aM 0)] (fl [wModel K aM M ML]) sz) (qcI D z (fun (u : Rc × RcL) => (fl [wModel K aM u.1 u.2])) (va_A (fl [wModel K aM M ML]) sz)) 0 0 (va_A (fl [wModel K aM M ML]) sz) := by
  refine Met.ofW (cc := cX6_readEnd) (maxL := 1) (ret := (some .boolean)) (by decide) rfl ?_
  intro p e s m args below meth c s₁ B hml hv
  obtain ⟨rfl, hsz, hP, hK, hD0⟩ := hv
  subst hsz
  have C0 : cx p s m _ meth c cX6_readEnd 1 RX6 wsX6_readEnd (some .boolean) D K := ⟨⟨B.exec, B.bytes, hml, findClass_of_methodNamed B.named, atoms_spec (ws := wsX6_readEnd) B.pre⟩, B.returns, B.notSynchronized, hK⟩
  have hD := hD0.self (sz := s.heap.size)
  generalize hAe : va_A (fl [wModel K aM M ML]) s.heap.size = A at hD ⊢
  have hA : ∀ q : Nat, s.heap.size ≤ q → A q := fun q h => by rw [← hAe]; exact Or.inr h
  have hl := lv_entry ([.ref (aM 0)]) (n := 1) (Nat.le_of_ble_eq_true rfl)
  rw [lg_entry_eq]
  generalize (lg_sl ([.ref (aM 0)]) ++ List.replicate (1 - (lg_sl ([.ref (aM 0)])).length) Slot.unset).toArray = ls at hl ⊢
  have hl : lv_has ls 1 [(0, .ref (aM 0))] := hl
  exact wX6_readEnd_0 C0 hA M ML hz s.heap [] hP hD va_S.rf ls (lv_sub hl [0] rfl)
end SX6_readEnd
