section SX6_copy
/-! CardLoopsModel.copy([II[II)V -/
abbrev wsX6_copy : List Cond := Cond.code yX6_copy cX6_copy 5 none :: wsL_law0
abbrev rmX6_copy : Room := { frames := 0, cells := 0, slots := 0, locals := 0 }
variable {p : Program} {l : Launch} {e : Env} {s : State} {m : MethodId} {args : Array Value} {below : List Frame} {meth : Method} {c : Code} {D : va_G} {K : Nat → ClassId} {A : Nat → Prop} {nU : Nat} {nV : Nat} {N : Nat} {aU : Nat} {aV : Nat} {z : (Nat → Int32)}
def IX6_copy_3 (p : Program) (l : Launch) (e : Env) (s : State) (m : MethodId) (args : Array Value) (below : List Frame) (meth : Method) (c : Code) (D : va_G) (K : Nat → ClassId) (nU : Nat) (nV : Nat) (aU : Nat) (aV : Nat) (A : Nat → Prop) (z : (Nat → Int32)) (k : (Nat → Int32) → (Nat → Int32) → Int32 → Int32 → Int32 → Option ((Nat → Int32))) : Prop := ∀ (U : Nat → Int32) (V : Nat → Int32) (x1 : Int32) (x3 : Int32) (x4 : Int32) (H : Heap) (locs : List Loc) (ls : Array Slot), k U V x1 x3 x4 = some z → va_P D vwCl (fl [wArr K aU nU U, wArr K aV nV V]) H → va_D A (fl [wArr K aU nU U, wArr K aV nV V]) → va_S A s.heap H locs → lv_has ls 5 [(0, .ref aU), (1, .int x1), (2, .ref aV), (3, .int x3), (4, .int x4)] → W p l e rmX6_copy s m args below meth c H locs 0 0 (MQ below (qcV D z (fun (u : (Nat → Int32)) => (fl [wArr K aU nU U, wArr K aV nV u])) A) args s 0 0 A) (F0 m 3 ls [])
set_option maxHeartbeats 1000000 in
set_option maxRecDepth 10000 in
theorem wX6_copy_3 (C0 : cx p s m args meth c cX6_copy 5 RX6 wsX6_copy none D K) (hA : ∀ q, s.heap.size ≤ q → A q) {k3 : (Nat → Int32) → (Nat → Int32) → Int32 → Int32 → Int32 → Option ((Nat → Int32))} (hk3 : IX6_copy_3 p l e s m args below meth c D K nU nV aU aV A z k3) (U : Nat → Int32) (V : Nat → Int32) (x1 : Int32) (x3 : Int32) (x4 : Int32) (h : fX6_copy_3b nU nV N k3 U V x1 x3 x4 = some z) (H : Heap) (locs : List Loc) (hP : va_P D vwCl (fl [wArr K aU nU U, wArr K aV nV V]) H) (hD : va_D A (fl [wArr K aU nU U, wArr K aV nV V])) (hS : va_S A s.heap H locs) (ls : Array Slot) (hl : lv_has ls 5 [(0, .ref aU), (1, .int x1), (2, .ref aV), (3, .int x3), (4, .int x4)]) : W p l e rmX6_copy s m args below meth c H locs 0 0 (MQ below (qcV D z (fun (u : (Nat → Int32)) => (fl [wArr K aU nU U, wArr K aV nV u])) A) args s 0 0 A) (F0 m 3 ls []) := by
  unfold fX6_copy_3b at h
  refine r_iload C0 dX6_copy_3 hl 4 rfl ?_
  refine r_sipush C0 (nI 353) dX6_copy_5 (by decide) ?_
  refine r_icmp_ge h C0 29 dX6_copy_8 (by decide) (fun h => ?_) (fun h => ?_)
  · exact r_vret h C0 (fun (u : (Nat → Int32)) => (fl [wArr K aU nU U, wArr K aV nV u])) hP hD hS dX6_copy_29
  · refine r_aload_n C0 dX6_copy_11 hl 2 rfl ?_
    refine r_iload_n C0 dX6_copy_12 hl 3 rfl ?_
    refine r_iload C0 dX6_copy_13 hl 4 rfl ?_
    refine r_iadd C0 dX6_copy_15 ?_
    refine r_aload_n C0 dX6_copy_16 hl 0 rfl ?_
    refine r_iload_n C0 dX6_copy_17 hl 1 rfl ?_
    refine r_iload C0 dX6_copy_18 hl 4 rfl ?_
    refine r_iadd C0 dX6_copy_20 ?_
    refine r_iald h C0 hP 0 rfl dX6_copy_21 (fun h => ?_)
    refine r_iast h C0 hP hD hS 1 (fun uu => (fl [wArr K aU nU U, wArr K aV nV uu])) rfl rfl dX6_copy_22 (fun V1 H locs h hP hD hS => ?_)
    refine r_iinc h C0 4 (fun v2 => [(4, .int v2), (0, .ref aU), (1, .int x1), (2, .ref aV), (3, .int x3)]) dX6_copy_23 hl rfl rfl (by decide) (fun _ => rfl) (fun v2 ls h hl => ?_)
    refine r_goto C0 3 dX6_copy_26 (by decide) ?_
    exact hk3 U V1 x1 x3 v2 _ _ _ h hP hD hS (lv_sub hl [1, 2, 3, 4, 0] rfl)
theorem wX6_copy_3L (C0 : cx p s m args meth c cX6_copy 5 RX6 wsX6_copy none D K) (hA : ∀ q, s.heap.size ≤ q → A q) : IX6_copy_3 p l e s m args below meth c D K nU nV aU aV A z (fX6_copy_3 nU nV N) := by
  refine itn_ind (IX6_copy_3 p l e s m args below meth c D K nU nV aU aV A z) ?_ ?_ N
  · intro _ _ _ _ _ _ _ _ h; cases h
  · intro k3 hk3 U V x1 x3 x4 H locs ls h hP hD hS hl
    exact wX6_copy_3 C0 hA hk3 U V x1 x3 x4 h H locs hP hD hS ls hl
set_option maxHeartbeats 1000000 in
set_option maxRecDepth 10000 in
theorem wX6_copy_0 (C0 : cx p s m args meth c cX6_copy 5 RX6 wsX6_copy none D K) (hA : ∀ q, s.heap.size ≤ q → A q) (U : Nat → Int32) (V : Nat → Int32) (x1 : Int32) (x3 : Int32) (h : fX6_copy nU nV N U V x1 x3 = some z) (H : Heap) (locs : List Loc) (hP : va_P D vwCl (fl [wArr K aU nU U, wArr K aV nV V]) H) (hD : va_D A (fl [wArr K aU nU U, wArr K aV nV V])) (hS : va_S A s.heap H locs) (ls : Array Slot) (hl : lv_has ls 5 [(0, .ref aU), (1, .int x1), (2, .ref aV), (3, .int x3)]) : W p l e rmX6_copy s m args below meth c H locs 0 0 (MQ below (qcV D z (fun (u : (Nat → Int32)) => (fl [wArr K aU nU U, wArr K aV nV u])) A) args s 0 0 A) (F0 m 0 ls []) := by
  unfold fX6_copy at h
  refine r_iconst C0 (nI 0) dX6_copy_0 (by decide) ?_
  refine r_istore h C0 (fun v1 => [(4, .int v1), (0, .ref aU), (1, .int x1), (2, .ref aV), (3, .int x3)]) dX6_copy_1 hl (by decide) (fun _ => rfl) (fun v1 ls h hl => ?_)
  exact wX6_copy_3L C0 hA U V x1 x3 v1 _ _ _ h hP hD hS (lv_sub hl [1, 2, 3, 4, 0] rfl)
set_option maxHeartbeats 1000000 in
set_option maxRecDepth 10000 in
theorem ctX6_copy (l : Launch) (D : va_G) (K : Nat → ClassId) (nU : Nat) (nV : Nat) (N : Nat) (aU : Nat) (aV : Nat) (U : Nat → Int32) (V : Nat → Int32) (p1 : Int32) (p3 : Int32) (sz : Nat) (z : (Nat → Int32)) (hz : fX6_copy nU nV N U V p1 p3 = some z) : Met l yX6_copy wsX6_copy rmX6_copy (pcW D K [.ref aU, .int p1, .ref aV, .int p3] (fl [wArr K aU nU U, wArr K aV nV V]) sz) (qcV D z (fun (u : (Nat → Int32)) => (fl [wArr K aU nU U, wArr K aV nV u])) (va_A (fl [wArr K aU nU U, wArr K aV nV V]) sz)) 0 0 (va_A (fl [wArr K aU nU U, wArr K aV nV V]) sz) := by
  refine Met.ofW (cc := cX6_copy) (maxL := 5) (ret := none) (by decide) rfl ?_
  intro p e s m args below meth c s₁ B hml hv
  obtain ⟨rfl, hsz, hP, hK, hD0⟩ := hv
  subst hsz
  have C0 : cx p s m _ meth c cX6_copy 5 RX6 wsX6_copy none D K := ⟨⟨B.exec, B.bytes, hml, findClass_of_methodNamed B.named, atoms_spec (ws := wsX6_copy) B.pre⟩, B.returns, B.notSynchronized, hK⟩
  have hD := hD0.self (sz := s.heap.size)
  generalize hAe : va_A (fl [wArr K aU nU U, wArr K aV nV V]) s.heap.size = A at hD ⊢
  have hA : ∀ q : Nat, s.heap.size ≤ q → A q := fun q h => by rw [← hAe]; exact Or.inr h
  have hl := lv_entry ([.ref aU, .int p1, .ref aV, .int p3]) (n := 5) (Nat.le_of_ble_eq_true rfl)
  rw [lg_entry_eq]
  generalize (lg_sl ([.ref aU, .int p1, .ref aV, .int p3]) ++ List.replicate (5 - (lg_sl ([.ref aU, .int p1, .ref aV, .int p3])).length) Slot.unset).toArray = ls at hl ⊢
  have hl : lv_has ls 5 [(0, .ref aU), (1, .int p1), (2, .ref aV), (3, .int p3)] := hl
  exact wX6_copy_0 C0 hA U V p1 p3 hz s.heap [] hP hD va_S.rf ls (lv_sub hl [0, 1, 2, 3] rfl)
end SX6_copy

section SX6_clears
/-! CardLoopsModel.clears([I)V -/
abbrev wsX6_clears : List Cond := Cond.code yX6_clears cX6_clears 2 none :: wsL_law0
abbrev rmX6_clears : Room := { frames := 0, cells := 0, slots := 0, locals := 0 }
variable {p : Program} {l : Launch} {e : Env} {s : State} {m : MethodId} {args : Array Value} {below : List Frame} {meth : Method} {c : Code} {D : va_G} {K : Nat → ClassId} {A : Nat → Prop} {N : Nat} {aS : Nat} {z : (Nat → Int32)}
def IX6_clears_70 (p : Program) (l : Launch) (e : Env) (s : State) (m : MethodId) (args : Array Value) (below : List Frame) (meth : Method) (c : Code) (D : va_G) (K : Nat → ClassId) (aS : Nat) (A : Nat → Prop) (z : (Nat → Int32)) (k : (Nat → Int32) → Int32 → Option ((Nat → Int32))) : Prop := ∀ (S : Nat → Int32) (x1 : Int32) (H : Heap) (locs : List Loc) (ls : Array Slot), k S x1 = some z → va_P D vwCl (fl [wArr K aS 353 S]) H → va_D A (fl [wArr K aS 353 S]) → va_S A s.heap H locs → lv_has ls 2 [(0, .ref aS), (1, .int x1)] → W p l e rmX6_clears s m args below meth c H locs 0 0 (MQ below (qcV D z (fun (u : (Nat → Int32)) => (fl [wArr K aS 353 u])) A) args s 0 0 A) (F0 m 70 ls [])
def IX6_clears_32 (p : Program) (l : Launch) (e : Env) (s : State) (m : MethodId) (args : Array Value) (below : List Frame) (meth : Method) (c : Code) (D : va_G) (K : Nat → ClassId) (aS : Nat) (A : Nat → Prop) (z : (Nat → Int32)) (k : (Nat → Int32) → Int32 → Option ((Nat → Int32))) : Prop := ∀ (S : Nat → Int32) (x1 : Int32) (H : Heap) (locs : List Loc) (ls : Array Slot), k S x1 = some z → va_P D vwCl (fl [wArr K aS 353 S]) H → va_D A (fl [wArr K aS 353 S]) → va_S A s.heap H locs → lv_has ls 2 [(0, .ref aS), (1, .int x1)] → W p l e rmX6_clears s m args below meth c H locs 0 0 (MQ below (qcV D z (fun (u : (Nat → Int32)) => (fl [wArr K aS 353 u])) A) args s 0 0 A) (F0 m 32 ls [])
def IX6_clears_3 (p : Program) (l : Launch) (e : Env) (s : State) (m : MethodId) (args : Array Value) (below : List Frame) (meth : Method) (c : Code) (D : va_G) (K : Nat → ClassId) (aS : Nat) (A : Nat → Prop) (z : (Nat → Int32)) (k : (Nat → Int32) → Int32 → Option ((Nat → Int32))) : Prop := ∀ (S : Nat → Int32) (x1 : Int32) (H : Heap) (locs : List Loc) (ls : Array Slot), k S x1 = some z → va_P D vwCl (fl [wArr K aS 353 S]) H → va_D A (fl [wArr K aS 353 S]) → va_S A s.heap H locs → lv_has ls 2 [(0, .ref aS), (1, .int x1)] → W p l e rmX6_clears s m args below meth c H locs 0 0 (MQ below (qcV D z (fun (u : (Nat → Int32)) => (fl [wArr K aS 353 u])) A) args s 0 0 A) (F0 m 3 ls [])
set_option maxHeartbeats 1000000 in
set_option maxRecDepth 10000 in
theorem wX6_clears_70 (C0 : cx p s m args meth c cX6_clears 2 RX6 wsX6_clears none D K) (hA : ∀ q, s.heap.size ≤ q → A q) {k70 : (Nat → Int32) → Int32 → Option ((Nat → Int32))} (hk70 : IX6_clears_70 p l e s m args below meth c D K aS A z k70) (S : Nat → Int32) (x1 : Int32) (h : fX6_clears_70b N k70 S x1 = some z) (H : Heap) (locs : List Loc) (hP : va_P D vwCl (fl [wArr K aS 353 S]) H) (hD : va_D A (fl [wArr K aS 353 S])) (hS : va_S A s.heap H locs) (ls : Array Slot) (hl : lv_has ls 2 [(0, .ref aS), (1, .int x1)]) : W p l e rmX6_clears s m args below meth c H locs 0 0 (MQ below (qcV D z (fun (u : (Nat → Int32)) => (fl [wArr K aS 353 u])) A) args s 0 0 A) (F0 m 70 ls []) := by
  unfold fX6_clears_70b at h
  refine r_iload_n C0 dX6_clears_70 hl 1 rfl ?_
  refine r_aload_n C0 dX6_clears_71 hl 0 rfl ?_
  refine r_bipush C0 (nI 14) dX6_clears_72 (by decide) ?_
  refine r_ialdC C0 hP 0 rfl 14 (by decide) dX6_clears_74 ?_
  refine r_icmp_ge h C0 104 dX6_clears_75 (by decide) (fun h => ?_) (fun h => ?_)
  · exact r_vret h C0 (fun (u : (Nat → Int32)) => (fl [wArr K aS 353 u])) hP hD hS dX6_clears_104
  · refine r_aload_n C0 dX6_clears_78 hl 0 rfl ?_
    refine r_bipush C0 (nI 15) dX6_clears_79 (by decide) ?_
    refine r_iconst C0 (nI 4) dX6_clears_81 (by decide) ?_
    refine r_iload_n C0 dX6_clears_82 hl 1 rfl ?_
    refine r_imul C0 dX6_clears_83 ?_
    refine r_iadd C0 dX6_clears_84 ?_
    refine r_iconst C0 (nI 3) dX6_clears_85 (by decide) ?_
    refine r_iadd C0 dX6_clears_86 ?_
    refine r_aload_n C0 dX6_clears_87 hl 0 rfl ?_
    refine r_bipush C0 (nI 15) dX6_clears_88 (by decide) ?_
    refine r_iconst C0 (nI 4) dX6_clears_90 (by decide) ?_
    refine r_iload_n C0 dX6_clears_91 hl 1 rfl ?_
    refine r_imul C0 dX6_clears_92 ?_
    refine r_iadd C0 dX6_clears_93 ?_
    refine r_iconst C0 (nI 2) dX6_clears_94 (by decide) ?_
    refine r_iadd C0 dX6_clears_95 ?_
    refine r_iald h C0 hP 0 rfl dX6_clears_96 (fun h => ?_)
    refine r_iast h C0 hP hD hS 0 (fun uu => (fl [wArr K aS 353 uu])) rfl rfl dX6_clears_97 (fun S1 H locs h hP hD hS => ?_)
    refine r_iinc h C0 1 (fun v2 => [(1, .int v2), (0, .ref aS)]) dX6_clears_98 hl rfl rfl (by decide) (fun _ => rfl) (fun v2 ls h hl => ?_)
    refine r_goto C0 70 dX6_clears_101 (by decide) ?_
    exact hk70 S1 v2 _ _ _ h hP hD hS (lv_sub hl [1, 0] rfl)
theorem wX6_clears_70L (C0 : cx p s m args meth c cX6_clears 2 RX6 wsX6_clears none D K) (hA : ∀ q, s.heap.size ≤ q → A q) : IX6_clears_70 p l e s m args below meth c D K aS A z (fX6_clears_70 N) := by
  refine itn_ind (IX6_clears_70 p l e s m args below meth c D K aS A z) ?_ ?_ N
  · intro _ _ _ _ _ h; cases h
  · intro k70 hk70 S x1 H locs ls h hP hD hS hl
    exact wX6_clears_70 C0 hA hk70 S x1 h H locs hP hD hS ls hl
set_option maxHeartbeats 1000000 in
set_option maxRecDepth 10000 in
theorem wX6_clears_32 (C0 : cx p s m args meth c cX6_clears 2 RX6 wsX6_clears none D K) (hA : ∀ q, s.heap.size ≤ q → A q) {k32 : (Nat → Int32) → Int32 → Option ((Nat → Int32))} (hk32 : IX6_clears_32 p l e s m args below meth c D K aS A z k32) (S : Nat → Int32) (x1 : Int32) (h : fX6_clears_32b N k32 S x1 = some z) (H : Heap) (locs : List Loc) (hP : va_P D vwCl (fl [wArr K aS 353 S]) H) (hD : va_D A (fl [wArr K aS 353 S])) (hS : va_S A s.heap H locs) (ls : Array Slot) (hl : lv_has ls 2 [(0, .ref aS), (1, .int x1)]) : W p l e rmX6_clears s m args below meth c H locs 0 0 (MQ below (qcV D z (fun (u : (Nat → Int32)) => (fl [wArr K aS 353 u])) A) args s 0 0 A) (F0 m 32 ls []) := by
  unfold fX6_clears_32b at h
  refine r_iload_n C0 dX6_clears_32 hl 1 rfl ?_
  refine r_bipush C0 (nI 6) dX6_clears_33 (by decide) ?_
  refine r_icmp_ge h C0 68 dX6_clears_35 (by decide) (fun h => ?_) (fun h => ?_)
  · refine r_iconst C0 (nI 0) dX6_clears_68 (by decide) ?_
    refine r_istore_n h C0 (fun v1 => [(1, .int v1), (0, .ref aS)]) dX6_clears_69 hl (by decide) (fun _ => rfl) (fun v1 ls h hl => ?_)
    exact wX6_clears_70L C0 hA S v1 _ _ _ h hP hD hS (lv_sub hl [1, 0] rfl)
  · refine r_aload_n C0 dX6_clears_38 hl 0 rfl ?_
    refine r_bipush C0 (nI 53) dX6_clears_39 (by decide) ?_
    refine r_bipush C0 (nI 9) dX6_clears_41 (by decide) ?_
    refine r_iload_n C0 dX6_clears_43 hl 1 rfl ?_
    refine r_imul C0 dX6_clears_44 ?_
    refine r_iadd C0 dX6_clears_45 ?_
    refine r_iconst C0 (nI 0) dX6_clears_46 (by decide) ?_
    refine r_iadd C0 dX6_clears_47 ?_
    refine r_iconst C0 (-1 : Int32) dX6_clears_48 (by decide) ?_
    refine r_iast h C0 hP hD hS 0 (fun uu => (fl [wArr K aS 353 uu])) rfl rfl dX6_clears_49 (fun S2 H locs h hP hD hS => ?_)
    refine r_aload_n C0 dX6_clears_50 hl 0 rfl ?_
    refine r_bipush C0 (nI 53) dX6_clears_51 (by decide) ?_
    refine r_bipush C0 (nI 9) dX6_clears_53 (by decide) ?_
    refine r_iload_n C0 dX6_clears_55 hl 1 rfl ?_
    refine r_imul C0 dX6_clears_56 ?_
    refine r_iadd C0 dX6_clears_57 ?_
    refine r_iconst C0 (nI 1) dX6_clears_58 (by decide) ?_
    refine r_iadd C0 dX6_clears_59 ?_
    refine r_iconst C0 (-1 : Int32) dX6_clears_60 (by decide) ?_
    refine r_iast h C0 hP hD hS 0 (fun uu => (fl [wArr K aS 353 uu])) rfl rfl dX6_clears_61 (fun S3 H locs h hP hD hS => ?_)
    refine r_iinc h C0 1 (fun v4 => [(1, .int v4), (0, .ref aS)]) dX6_clears_62 hl rfl rfl (by decide) (fun _ => rfl) (fun v4 ls h hl => ?_)
    refine r_goto C0 32 dX6_clears_65 (by decide) ?_
    exact hk32 S3 v4 _ _ _ h hP hD hS (lv_sub hl [1, 0] rfl)
theorem wX6_clears_32L (C0 : cx p s m args meth c cX6_clears 2 RX6 wsX6_clears none D K) (hA : ∀ q, s.heap.size ≤ q → A q) : IX6_clears_32 p l e s m args below meth c D K aS A z (fX6_clears_32 N) := by
  refine itn_ind (IX6_clears_32 p l e s m args below meth c D K aS A z) ?_ ?_ N
  · intro _ _ _ _ _ h; cases h
  · intro k32 hk32 S x1 H locs ls h hP hD hS hl
    exact wX6_clears_32 C0 hA hk32 S x1 h H locs hP hD hS ls hl
set_option maxHeartbeats 1000000 in
set_option maxRecDepth 10000 in
theorem wX6_clears_3 (C0 : cx p s m args meth c cX6_clears 2 RX6 wsX6_clears none D K) (hA : ∀ q, s.heap.size ≤ q → A q) {k3 : (Nat → Int32) → Int32 → Option ((Nat → Int32))} (hk3 : IX6_clears_3 p l e s m args below meth c D K aS A z k3) (S : Nat → Int32) (x1 : Int32) (h : fX6_clears_3b N k3 S x1 = some z) (H : Heap) (locs : List Loc) (hP : va_P D vwCl (fl [wArr K aS 353 S]) H) (hD : va_D A (fl [wArr K aS 353 S])) (hS : va_S A s.heap H locs) (ls : Array Slot) (hl : lv_has ls 2 [(0, .ref aS), (1, .int x1)]) : W p l e rmX6_clears s m args below meth c H locs 0 0 (MQ below (qcV D z (fun (u : (Nat → Int32)) => (fl [wArr K aS 353 u])) A) args s 0 0 A) (F0 m 3 ls []) := by
  unfold fX6_clears_3b at h
  refine r_iload_n C0 dX6_clears_3 hl 1 rfl ?_
  refine r_sipush C0 (nI 353) dX6_clears_4 (by decide) ?_
  refine r_icmp_ge h C0 20 dX6_clears_7 (by decide) (fun h => ?_) (fun h => ?_)
  · refine r_aload_n C0 dX6_clears_20 hl 0 rfl ?_
    refine r_bipush C0 (nI 51) dX6_clears_21 (by decide) ?_
    refine r_iconst C0 (-1 : Int32) dX6_clears_23 (by decide) ?_
    refine r_iastC h C0 hP hD hS 0 (fun uu => (fl [wArr K aS 353 uu])) rfl 51 (by decide) rfl dX6_clears_24 (fun S1 H locs h hP hD hS => ?_)
    refine r_aload_n C0 dX6_clears_25 hl 0 rfl ?_
    refine r_bipush C0 (nI 52) dX6_clears_26 (by decide) ?_
    refine r_iconst C0 (-1 : Int32) dX6_clears_28 (by decide) ?_
    refine r_iastC h C0 hP hD hS 0 (fun uu => (fl [wArr K aS 353 uu])) rfl 52 (by decide) rfl dX6_clears_29 (fun S2 H locs h hP hD hS => ?_)
    refine r_iconst C0 (nI 0) dX6_clears_30 (by decide) ?_
    refine r_istore_n h C0 (fun v3 => [(1, .int v3), (0, .ref aS)]) dX6_clears_31 hl (by decide) (fun _ => rfl) (fun v3 ls h hl => ?_)
    exact wX6_clears_32L C0 hA S2 v3 _ _ _ h hP hD hS (lv_sub hl [1, 0] rfl)
  · refine r_aload_n C0 dX6_clears_10 hl 0 rfl ?_
    refine r_iload_n C0 dX6_clears_11 hl 1 rfl ?_
    refine r_iconst C0 (nI 0) dX6_clears_12 (by decide) ?_
    refine r_iast h C0 hP hD hS 0 (fun uu => (fl [wArr K aS 353 uu])) rfl rfl dX6_clears_13 (fun S4 H locs h hP hD hS => ?_)
    refine r_iinc h C0 1 (fun v5 => [(1, .int v5), (0, .ref aS)]) dX6_clears_14 hl rfl rfl (by decide) (fun _ => rfl) (fun v5 ls h hl => ?_)
    refine r_goto C0 3 dX6_clears_17 (by decide) ?_
    exact hk3 S4 v5 _ _ _ h hP hD hS (lv_sub hl [1, 0] rfl)
theorem wX6_clears_3L (C0 : cx p s m args meth c cX6_clears 2 RX6 wsX6_clears none D K) (hA : ∀ q, s.heap.size ≤ q → A q) : IX6_clears_3 p l e s m args below meth c D K aS A z (fX6_clears_3 N) := by
  refine itn_ind (IX6_clears_3 p l e s m args below meth c D K aS A z) ?_ ?_ N
  · intro _ _ _ _ _ h; cases h
  · intro k3 hk3 S x1 H locs ls h hP hD hS hl
    exact wX6_clears_3 C0 hA hk3 S x1 h H locs hP hD hS ls hl
set_option maxHeartbeats 1000000 in
set_option maxRecDepth 10000 in
theorem wX6_clears_0 (C0 : cx p s m args meth c cX6_clears 2 RX6 wsX6_clears none D K) (hA : ∀ q, s.heap.size ≤ q → A q) (S : Nat → Int32) (h : fX6_clears N S = some z) (H : Heap) (locs : List Loc) (hP : va_P D vwCl (fl [wArr K aS 353 S]) H) (hD : va_D A (fl [wArr K aS 353 S])) (hS : va_S A s.heap H locs) (ls : Array Slot) (hl : lv_has ls 2 [(0, .ref aS)]) : W p l e rmX6_clears s m args below meth c H locs 0 0 (MQ below (qcV D z (fun (u : (Nat → Int32)) => (fl [wArr K aS 353 u])) A) args s 0 0 A) (F0 m 0 ls []) := by
  unfold fX6_clears at h
  refine r_bipush C0 (nI 48) dX6_clears_0 (by decide) ?_
  refine r_istore_n h C0 (fun v1 => [(1, .int v1), (0, .ref aS)]) dX6_clears_2 hl (by decide) (fun _ => rfl) (fun v1 ls h hl => ?_)
  exact wX6_clears_3L C0 hA S v1 _ _ _ h hP hD hS (lv_sub hl [1, 0] rfl)
set_option maxHeartbeats 1000000 in
set_option maxRecDepth 10000 in
theorem ctX6_clears (l : Launch) (D : va_G) (K : Nat → ClassId) (N : Nat) (aS : Nat) (S : Nat → Int32) (sz : Nat) (z : (Nat → Int32)) (hz : fX6_clears N S = some z) : Met l yX6_clears wsX6_clears rmX6_clears (pcW D K [.ref aS] (fl [wArr K aS 353 S]) sz) (qcV D z (fun (u : (Nat → Int32)) => (fl [wArr K aS 353 u])) (va_A (fl [wArr K aS 353 S]) sz)) 0 0 (va_A (fl [wArr K aS 353 S]) sz) := by
  refine Met.ofW (cc := cX6_clears) (maxL := 2) (ret := none) (by decide) rfl ?_
  intro p e s m args below meth c s₁ B hml hv
  obtain ⟨rfl, hsz, hP, hK, hD0⟩ := hv
  subst hsz
  have C0 : cx p s m _ meth c cX6_clears 2 RX6 wsX6_clears none D K := ⟨⟨B.exec, B.bytes, hml, findClass_of_methodNamed B.named, atoms_spec (ws := wsX6_clears) B.pre⟩, B.returns, B.notSynchronized, hK⟩
  have hD := hD0.self (sz := s.heap.size)
  generalize hAe : va_A (fl [wArr K aS 353 S]) s.heap.size = A at hD ⊢
  have hA : ∀ q : Nat, s.heap.size ≤ q → A q := fun q h => by rw [← hAe]; exact Or.inr h
  have hl := lv_entry ([.ref aS]) (n := 2) (Nat.le_of_ble_eq_true rfl)
  rw [lg_entry_eq]
  generalize (lg_sl ([.ref aS]) ++ List.replicate (2 - (lg_sl ([.ref aS])).length) Slot.unset).toArray = ls at hl ⊢
  have hl : lv_has ls 2 [(0, .ref aS)] := hl
  exact wX6_clears_0 C0 hA S hz s.heap [] hP hD va_S.rf ls (lv_sub hl [0] rfl)
end SX6_clears

section SX6_perRound
/-! CardLoopsModel.perRound([I)I -/
abbrev wsX6_perRound : List Cond := Cond.code yX6_perRound cX6_perRound 3 (some .int) :: wsL_law0
abbrev rmX6_perRound : Room := { frames := 0, cells := 0, slots := 0, locals := 0 }
variable {p : Program} {l : Launch} {e : Env} {s : State} {m : MethodId} {args : Array Value} {below : List Frame} {meth : Method} {c : Code} {D : va_G} {K : Nat → ClassId} {A : Nat → Prop} {N : Nat} {aS : Nat} {z : Int32}
def IX6_perRound_4 (p : Program) (l : Launch) (e : Env) (s : State) (m : MethodId) (args : Array Value) (below : List Frame) (meth : Method) (c : Code) (D : va_G) (K : Nat → ClassId) (aS : Nat) (z : Int32) (k : (Nat → Int32) → Int32 → Int32 → Option (Int32)) : Prop := ∀ (S : Nat → Int32) (x1 : Int32) (x2 : Int32) (ls : Array Slot), k S x1 x2 = some z → va_P D vwCl (fl [wArr K aS 353 S]) s.heap → lv_has ls 3 [(0, .ref aS), (1, .int x1), (2, .int x2)] → W p l e rmX6_perRound s m args below meth c s.heap [] 0 0 (MQ below (vp_Si (fun r => r = z)) args s 0 0 (fun _ => False)) (F0 m 4 ls [])
set_option maxHeartbeats 1000000 in
set_option maxRecDepth 10000 in
theorem wX6_perRound_4 (C0 : cx p s m args meth c cX6_perRound 3 RX6 wsX6_perRound (some .int) D K) {k4 : (Nat → Int32) → Int32 → Int32 → Option (Int32)} (hk4 : IX6_perRound_4 p l e s m args below meth c D K aS z k4) (S : Nat → Int32) (x1 : Int32) (x2 : Int32) (h : fX6_perRound_4b N k4 S x1 x2 = some z) (hP : va_P D vwCl (fl [wArr K aS 353 S]) s.heap) (ls : Array Slot) (hl : lv_has ls 3 [(0, .ref aS), (1, .int x1), (2, .int x2)]) : W p l e rmX6_perRound s m args below meth c s.heap [] 0 0 (MQ below (vp_Si (fun r => r = z)) args s 0 0 (fun _ => False)) (F0 m 4 ls []) := by
  unfold fX6_perRound_4b at h
  refine r_iload_n C0 dX6_perRound_4 hl 2 rfl ?_
  refine r_aload_n C0 dX6_perRound_5 hl 0 rfl ?_
  refine r_bipush C0 (nI 35) dX6_perRound_6 (by decide) ?_
  refine r_ialdC C0 hP 0 rfl 35 (by decide) dX6_perRound_8 ?_
  refine r_icmp_ge h C0 31 dX6_perRound_9 (by decide) (fun h => ?_) (fun h => ?_)
  · refine r_iload_n C0 dX6_perRound_31 hl 1 rfl ?_
    exact r_iretR C0 h dX6_perRound_32
  · refine r_iload_n C0 dX6_perRound_12 hl 1 rfl ?_
    refine r_aload_n C0 dX6_perRound_13 hl 0 rfl ?_
    refine r_bipush C0 (nI 36) dX6_perRound_14 (by decide) ?_
    refine r_iconst C0 (nI 2) dX6_perRound_16 (by decide) ?_
    refine r_iload_n C0 dX6_perRound_17 hl 2 rfl ?_
    refine r_imul C0 dX6_perRound_18 ?_
    refine r_iadd C0 dX6_perRound_19 ?_
    refine r_iconst C0 (nI 1) dX6_perRound_20 (by decide) ?_
    refine r_iadd C0 dX6_perRound_21 ?_
    refine r_iald h C0 hP 0 rfl dX6_perRound_22 (fun h => ?_)
    refine r_iadd C0 dX6_perRound_23 ?_
    refine r_istore_n h C0 (fun v1 => [(1, .int v1), (0, .ref aS), (2, .int x2)]) dX6_perRound_24 hl (by decide) (fun _ => rfl) (fun v1 ls h hl => ?_)
    refine r_iinc h C0 2 (fun v2 => [(2, .int v2), (1, .int v1), (0, .ref aS)]) dX6_perRound_25 hl rfl rfl (by decide) (fun _ => rfl) (fun v2 ls h hl => ?_)
    refine r_goto C0 4 dX6_perRound_28 (by decide) ?_
    exact hk4 S v1 v2 _ h hP (lv_sub hl [2, 1, 0] rfl)
theorem wX6_perRound_4L (C0 : cx p s m args meth c cX6_perRound 3 RX6 wsX6_perRound (some .int) D K) : IX6_perRound_4 p l e s m args below meth c D K aS z (fX6_perRound_4 N) := by
  refine itn_ind (IX6_perRound_4 p l e s m args below meth c D K aS z) ?_ ?_ N
  · intro _ _ _ _ h; cases h
  · intro k4 hk4 S x1 x2 ls h hP hl
    exact wX6_perRound_4 C0 hk4 S x1 x2 h hP ls hl
set_option maxHeartbeats 1000000 in
set_option maxRecDepth 10000 in
theorem wX6_perRound_0 (C0 : cx p s m args meth c cX6_perRound 3 RX6 wsX6_perRound (some .int) D K) (S : Nat → Int32) (h : fX6_perRound N S = some z) (hP : va_P D vwCl (fl [wArr K aS 353 S]) s.heap) (ls : Array Slot) (hl : lv_has ls 3 [(0, .ref aS)]) : W p l e rmX6_perRound s m args below meth c s.heap [] 0 0 (MQ below (vp_Si (fun r => r = z)) args s 0 0 (fun _ => False)) (F0 m 0 ls []) := by
  unfold fX6_perRound at h
  refine r_iconst C0 (nI 0) dX6_perRound_0 (by decide) ?_
  refine r_istore_n h C0 (fun v1 => [(1, .int v1), (0, .ref aS)]) dX6_perRound_1 hl (by decide) (fun _ => rfl) (fun v1 ls h hl => ?_)
  refine r_iconst C0 (nI 0) dX6_perRound_2 (by decide) ?_
  refine r_istore_n h C0 (fun v2 => [(2, .int v2), (1, .int v1), (0, .ref aS)]) dX6_perRound_3 hl (by decide) (fun _ => rfl) (fun v2 ls h hl => ?_)
  exact wX6_perRound_4L C0 S v1 v2 _ h hP (lv_sub hl [2, 1, 0] rfl)
set_option maxHeartbeats 1000000 in
set_option maxRecDepth 10000 in
theorem ctX6_perRound (l : Launch) (D : va_G) (K : Nat → ClassId) (N : Nat) (aS : Nat) (S : Nat → Int32) (z : Int32) (hz : fX6_perRound N S = some z) : Met l yX6_perRound wsX6_perRound rmX6_perRound (pcR D K [.ref aS] (fl [wArr K aS 353 S])) (vp_Si (fun r => r = z)) 0 0 (fun _ => False) := by
  refine Met.ofW (cc := cX6_perRound) (maxL := 3) (ret := (some .int)) (by decide) rfl ?_
  intro p e s m args below meth c s₁ B hml hv
  obtain ⟨rfl, hP, hK⟩ := hv
  have C0 : cx p s m _ meth c cX6_perRound 3 RX6 wsX6_perRound (some .int) D K := ⟨⟨B.exec, B.bytes, hml, findClass_of_methodNamed B.named, atoms_spec (ws := wsX6_perRound) B.pre⟩, B.returns, B.notSynchronized, hK⟩
  have hl := lv_entry ([.ref aS]) (n := 3) (Nat.le_of_ble_eq_true rfl)
  rw [lg_entry_eq]
  generalize (lg_sl ([.ref aS]) ++ List.replicate (3 - (lg_sl ([.ref aS])).length) Slot.unset).toArray = ls at hl ⊢
  have hl : lv_has ls 3 [(0, .ref aS)] := hl
  exact wX6_perRound_0 C0 S hz hP ls (lv_sub hl [0] rfl)
end SX6_perRound

section SX6_kindOf
/-! CardLoopsModel.kindOf([II)I -/
abbrev wsX6_kindOf : List Cond := Cond.code yX6_kindOf cX6_kindOf 4 (some .int) :: wsL_law0
abbrev rmX6_kindOf : Room := { frames := 1, cells := 0, slots := 0, locals := 22 }
variable {p : Program} {l : Launch} {e : Env} {s : State} {m : MethodId} {args : Array Value} {below : List Frame} {meth : Method} {c : Code} {D : va_G} {K : Nat → ClassId} {A : Nat → Prop} {N : Nat} {aS : Nat} {z : Int32}
def IX6_kindOf_18 (p : Program) (l : Launch) (e : Env) (s : State) (m : MethodId) (args : Array Value) (below : List Frame) (meth : Method) (c : Code) (D : va_G) (K : Nat → ClassId) (aS : Nat) (z : Int32) (k : (Nat → Int32) → Int32 → Int32 → Option (Int32)) : Prop := ∀ (S : Nat → Int32) (x2 : Int32) (x3 : Int32) (ls : Array Slot), k S x2 x3 = some z → va_P D vwCl (fl [wArr K aS 353 S]) s.heap → lv_has ls 4 [(0, .ref aS), (2, .int x2), (3, .int x3)] → W p l e rmX6_kindOf s m args below meth c s.heap [] 0 0 (MQ below (vp_Si (fun r => r = z)) args s 0 0 (fun _ => False)) (F0 m 18 ls [])
set_option maxHeartbeats 1000000 in
set_option maxRecDepth 10000 in
theorem wX6_kindOf_18 (C0 : cx p s m args meth c cX6_kindOf 4 RX6 wsX6_kindOf (some .int) D K) {k18 : (Nat → Int32) → Int32 → Int32 → Option (Int32)} (hk18 : IX6_kindOf_18 p l e s m args below meth c D K aS z k18) (S : Nat → Int32) (x2 : Int32) (x3 : Int32) (h : fX6_kindOf_18b N k18 S x2 x3 = some z) (hP : va_P D vwCl (fl [wArr K aS 353 S]) s.heap) (ls : Array Slot) (hl : lv_has ls 4 [(0, .ref aS), (2, .int x2), (3, .int x3)]) : W p l e rmX6_kindOf s m args below meth c s.heap [] 0 0 (MQ below (vp_Si (fun r => r = z)) args s 0 0 (fun _ => False)) (F0 m 18 ls []) := by
  unfold fX6_kindOf_18b at h
  refine r_iload_n C0 dX6_kindOf_18 hl 1 rfl ?_
  refine r_aload_n C0 dX6_kindOf_19 hl 0 rfl ?_
  refine r_bipush C0 (nI 36) dX6_kindOf_20 (by decide) ?_
  refine r_iconst C0 (nI 2) dX6_kindOf_22 (by decide) ?_
  refine r_iload_n C0 dX6_kindOf_23 hl 2 rfl ?_
  refine r_imul C0 dX6_kindOf_24 ?_
  refine r_iadd C0 dX6_kindOf_25 ?_
  refine r_iconst C0 (nI 1) dX6_kindOf_26 (by decide) ?_
  refine r_iadd C0 dX6_kindOf_27 ?_
  refine r_iald h C0 hP 0 rfl dX6_kindOf_28 (fun h => ?_)
  refine r_icmp_lt h C0 51 dX6_kindOf_29 (by decide) (fun h => ?_) (fun h => ?_)
  · refine r_aload_n C0 dX6_kindOf_51 hl 0 rfl ?_
    refine r_bipush C0 (nI 36) dX6_kindOf_52 (by decide) ?_
    refine r_iconst C0 (nI 2) dX6_kindOf_54 (by decide) ?_
    refine r_iload_n C0 dX6_kindOf_55 hl 2 rfl ?_
    refine r_imul C0 dX6_kindOf_56 ?_
    refine r_iadd C0 dX6_kindOf_57 ?_
    refine r_iald h C0 hP 0 rfl dX6_kindOf_58 (fun h => ?_)
    exact r_iretR C0 h dX6_kindOf_59
  · refine r_iload_n C0 dX6_kindOf_32 hl 1 rfl ?_
    refine r_aload_n C0 dX6_kindOf_33 hl 0 rfl ?_
    refine r_bipush C0 (nI 36) dX6_kindOf_34 (by decide) ?_
    refine r_iconst C0 (nI 2) dX6_kindOf_36 (by decide) ?_
    refine r_iload_n C0 dX6_kindOf_37 hl 2 rfl ?_
    refine r_imul C0 dX6_kindOf_38 ?_
    refine r_iadd C0 dX6_kindOf_39 ?_
    refine r_iconst C0 (nI 1) dX6_kindOf_40 (by decide) ?_
    refine r_iadd C0 dX6_kindOf_41 ?_
    refine r_iald h C0 hP 0 rfl dX6_kindOf_42 (fun h => ?_)
    refine r_isub C0 dX6_kindOf_43 ?_
    refine r_istore_n h C0 (fun v1 => [(2, .int v1), (0, .ref aS), (3, .int x3)]) dX6_kindOf_44 hl (by decide) (fun _ => rfl) (fun v1 ls h hl => ?_)
    refine r_iinc h C0 2 (fun v2 => [(3, .int v2), (2, .int v1), (0, .ref aS)]) dX6_kindOf_45 hl rfl rfl (by decide) (fun _ => rfl) (fun v2 ls h hl => ?_)
    refine r_goto C0 18 dX6_kindOf_48 (by decide) ?_
    exact hk18 S v1 v2 _ h hP (lv_sub hl [2, 1, 0] rfl)
theorem wX6_kindOf_18L (C0 : cx p s m args meth c cX6_kindOf 4 RX6 wsX6_kindOf (some .int) D K) : IX6_kindOf_18 p l e s m args below meth c D K aS z (fX6_kindOf_18 N) := by
  refine itn_ind (IX6_kindOf_18 p l e s m args below meth c D K aS z) ?_ ?_ N
  · intro _ _ _ _ h; cases h
  · intro k18 hk18 S x2 x3 ls h hP hl
    exact wX6_kindOf_18 C0 hk18 S x2 x3 h hP ls hl
set_option maxHeartbeats 1000000 in
set_option maxRecDepth 10000 in
theorem wX6_kindOf_0 (C0 : cx p s m args meth c cX6_kindOf 4 RX6 wsX6_kindOf (some .int) D K) (S : Nat → Int32) (x1 : Int32) (h : fX6_kindOf N S x1 = some z) (hP : va_P D vwCl (fl [wArr K aS 353 S]) s.heap) (ls : Array Slot) (hl : lv_has ls 4 [(0, .ref aS), (1, .int x1)]) : W p l e rmX6_kindOf s m args below meth c s.heap [] 0 0 (MQ below (vp_Si (fun r => r = z)) args s 0 0 (fun _ => False)) (F0 m 0 ls []) := by
  unfold fX6_kindOf at h
  refine r_aload_n C0 dX6_kindOf_0 hl 0 rfl ?_
  refine r_bipush C0 (nI 35) dX6_kindOf_1 (by decide) ?_
  refine r_ialdC C0 hP 0 rfl 35 (by decide) dX6_kindOf_3 ?_
  refine r_if_ne h C0 9 dX6_kindOf_4 (by decide) (fun h => ?_) (fun h => ?_)
  · refine r_iload_n C0 dX6_kindOf_9 hl 1 rfl ?_
    refine r_aload_n C0 dX6_kindOf_10 hl 0 rfl ?_
    obtain ⟨z1, hz1, h⟩ := bnd_some h
    have hPc := vaP_sel (Wc := [wArr K aS 353 S]) hP [0] rfl
    refine r_cI (va_runS (As := [.ref aS]) (rest := [.int x1]) C0.1 (ctX6_perRound l D K N aS S z1 hz1) (va_cwS 1 C0.1.2.2.2.2 (gdS wd19_21 wd19_22 wd1_5 wd19_23) rfl rfl rfl (by decide +kernel) ⟨Nat.le_of_ble_eq_true rfl, Nat.le_of_ble_eq_true rfl⟩) ⟨pcR_blind, pcR_of hPc C0.2.2.2⟩ rfl rfl hl.1 rfl (lv_room (Nat.le_of_ble_eq_true rfl)) dX6_kindOf_11 ⟨Nat.zero_le _, Nat.zero_le _⟩).run ?_
    refine r_irem h C0 dX6_kindOf_14 (fun h => ?_)
    refine r_istore_n h C0 (fun v2 => [(2, .int v2), (0, .ref aS), (1, .int x1)]) dX6_kindOf_15 hl (by decide) (fun _ => rfl) (fun v2 ls h hl => ?_)
    refine r_iconst C0 (nI 0) dX6_kindOf_16 (by decide) ?_
    refine r_istore_n h C0 (fun v3 => [(3, .int v3), (2, .int v2), (0, .ref aS), (1, .int x1)]) dX6_kindOf_17 hl (by decide) (fun _ => rfl) (fun v3 ls h hl => ?_)
    exact wX6_kindOf_18L C0 S v2 v3 _ h hP (lv_sub hl [2, 1, 0] rfl)
  · refine r_iconst C0 (nI 0) dX6_kindOf_7 (by decide) ?_
    exact r_iretR C0 h dX6_kindOf_8
set_option maxHeartbeats 1000000 in
set_option maxRecDepth 10000 in
theorem ctX6_kindOf (l : Launch) (D : va_G) (K : Nat → ClassId) (N : Nat) (aS : Nat) (S : Nat → Int32) (p1 : Int32) (z : Int32) (hz : fX6_kindOf N S p1 = some z) : Met l yX6_kindOf wsX6_kindOf rmX6_kindOf (pcR D K [.ref aS, .int p1] (fl [wArr K aS 353 S])) (vp_Si (fun r => r = z)) 0 0 (fun _ => False) := by
  refine Met.ofW (cc := cX6_kindOf) (maxL := 4) (ret := (some .int)) (by decide) rfl ?_
  intro p e s m args below meth c s₁ B hml hv
  obtain ⟨rfl, hP, hK⟩ := hv
  have C0 : cx p s m _ meth c cX6_kindOf 4 RX6 wsX6_kindOf (some .int) D K := ⟨⟨B.exec, B.bytes, hml, findClass_of_methodNamed B.named, atoms_spec (ws := wsX6_kindOf) B.pre⟩, B.returns, B.notSynchronized, hK⟩
  have hl := lv_entry ([.ref aS, .int p1]) (n := 4) (Nat.le_of_ble_eq_true rfl)
  rw [lg_entry_eq]
  generalize (lg_sl ([.ref aS, .int p1]) ++ List.replicate (4 - (lg_sl ([.ref aS, .int p1])).length) Slot.unset).toArray = ls at hl ⊢
  have hl : lv_has ls 4 [(0, .ref aS), (1, .int p1)] := hl
  exact wX6_kindOf_0 C0 S p1 hz hP ls (lv_sub hl [0, 1] rfl)
end SX6_kindOf

section SX6_its
/-! CardLoopsModel.its([III)I -/
abbrev wsX6_its : List Cond := Cond.code yX6_its cX6_its 3 (some .int) :: wsL_law0
abbrev rmX6_its : Room := { frames := 0, cells := 0, slots := 0, locals := 0 }
variable {p : Program} {l : Launch} {e : Env} {s : State} {m : MethodId} {args : Array Value} {below : List Frame} {meth : Method} {c : Code} {D : va_G} {K : Nat → ClassId} {A : Nat → Prop} {aS : Nat} {z : Int32}
set_option maxHeartbeats 1000000 in
set_option maxRecDepth 10000 in
theorem wX6_its_0 (C0 : cx p s m args meth c cX6_its 3 RX6 wsX6_its (some .int) D K) (S : Nat → Int32) (x1 : Int32) (x2 : Int32) (h : fX6_its S x1 x2 = some z) (hP : va_P D vwCl (fl [wArr K aS 353 S]) s.heap) (ls : Array Slot) (hl : lv_has ls 3 [(0, .ref aS), (1, .int x1), (2, .int x2)]) : W p l e rmX6_its s m args below meth c s.heap [] 0 0 (MQ below (vp_Si (fun r => r = z)) args s 0 0 (fun _ => False)) (F0 m 0 ls []) := by
  unfold fX6_its at h
  refine r_aload_n C0 dX6_its_0 hl 0 rfl ?_
  refine r_bipush C0 (nI 53) dX6_its_1 (by decide) ?_
  refine r_bipush C0 (nI 9) dX6_its_3 (by decide) ?_
  refine r_iload_n C0 dX6_its_5 hl 1 rfl ?_
  refine r_imul C0 dX6_its_6 ?_
  refine r_iadd C0 dX6_its_7 ?_
  refine r_iload_n C0 dX6_its_8 hl 2 rfl ?_
  refine r_iadd C0 dX6_its_9 ?_
  refine r_iald h C0 hP 0 rfl dX6_its_10 (fun h => ?_)
  exact r_iretR C0 h dX6_its_11
set_option maxHeartbeats 1000000 in
set_option maxRecDepth 10000 in
theorem ctX6_its (l : Launch) (D : va_G) (K : Nat → ClassId) (aS : Nat) (S : Nat → Int32) (p1 : Int32) (p2 : Int32) (z : Int32) (hz : fX6_its S p1 p2 = some z) : Met l yX6_its wsX6_its rmX6_its (pcR D K [.ref aS, .int p1, .int p2] (fl [wArr K aS 353 S])) (vp_Si (fun r => r = z)) 0 0 (fun _ => False) := by
  refine Met.ofW (cc := cX6_its) (maxL := 3) (ret := (some .int)) (by decide) rfl ?_
  intro p e s m args below meth c s₁ B hml hv
  obtain ⟨rfl, hP, hK⟩ := hv
  have C0 : cx p s m _ meth c cX6_its 3 RX6 wsX6_its (some .int) D K := ⟨⟨B.exec, B.bytes, hml, findClass_of_methodNamed B.named, atoms_spec (ws := wsX6_its) B.pre⟩, B.returns, B.notSynchronized, hK⟩
  have hl := lv_entry ([.ref aS, .int p1, .int p2]) (n := 3) (Nat.le_of_ble_eq_true rfl)
  rw [lg_entry_eq]
  generalize (lg_sl ([.ref aS, .int p1, .int p2]) ++ List.replicate (3 - (lg_sl ([.ref aS, .int p1, .int p2])).length) Slot.unset).toArray = ls at hl ⊢
  have hl : lv_has ls 3 [(0, .ref aS), (1, .int p1), (2, .int p2)] := hl
  exact wX6_its_0 C0 S p1 p2 hz hP ls (lv_sub hl [0, 1, 2] rfl)
end SX6_its

section SX6_isIdle
/-! CardLoopsModel.isIdle([II)Z -/
abbrev wsX6_isIdle : List Cond := Cond.code yX6_isIdle cX6_isIdle 2 (some .boolean) :: wsL_law0
abbrev rmX6_isIdle : Room := { frames := 1, cells := 0, slots := 0, locals := 22 }
variable {p : Program} {l : Launch} {e : Env} {s : State} {m : MethodId} {args : Array Value} {below : List Frame} {meth : Method} {c : Code} {D : va_G} {K : Nat → ClassId} {A : Nat → Prop} {aS : Nat} {z : Int32}
set_option maxHeartbeats 1000000 in
set_option maxRecDepth 10000 in
theorem wX6_isIdle_0 (C0 : cx p s m args meth c cX6_isIdle 2 RX6 wsX6_isIdle (some .boolean) D K) (S : Nat → Int32) (x1 : Int32) (h : fX6_isIdle S x1 = some z) (hP : va_P D vwCl (fl [wArr K aS 353 S]) s.heap) (ls : Array Slot) (hl : lv_has ls 2 [(0, .ref aS), (1, .int x1)]) : W p l e rmX6_isIdle s m args below meth c s.heap [] 0 0 (MQ below (vp_Si (fun r => r = z)) args s 0 0 (fun _ => False)) (F0 m 0 ls []) := by
  unfold fX6_isIdle at h
  refine r_aload_n C0 dX6_isIdle_0 hl 0 rfl ?_
  refine r_iload_n C0 dX6_isIdle_1 hl 1 rfl ?_
  refine r_iconst C0 (nI 0) dX6_isIdle_2 (by decide) ?_
  obtain ⟨z1, hz1, h⟩ := bnd_some h
  have hPc := vaP_sel (Wc := [wArr K aS 353 S]) hP [0] rfl
  refine r_cI (va_runS (As := [.ref aS, .int x1, .int (nI 0)]) (rest := []) C0.1 (ctX6_its l D K aS S x1 (nI 0) z1 hz1) (va_cwS 3 C0.1.2.2.2.2 (gdS wd19_3 wd19_4 wd1_5 wd19_5) rfl rfl rfl (by decide +kernel) ⟨Nat.le_of_ble_eq_true rfl, Nat.le_of_ble_eq_true rfl⟩) ⟨pcR_blind, pcR_of hPc C0.2.2.2⟩ rfl rfl hl.1 rfl (lv_room (Nat.le_of_ble_eq_true rfl)) dX6_isIdle_3 ⟨Nat.zero_le _, Nat.zero_le _⟩).run ?_
  refine r_iconst C0 (-1 : Int32) dX6_isIdle_6 (by decide) ?_
  refine r_icmp_ne h C0 14 dX6_isIdle_7 (by decide) (fun h => ?_) (fun h => ?_)
  · refine r_iconst C0 (nI 0) dX6_isIdle_14 (by decide) ?_
    exact r_zretRC C0 h (by decide) dX6_isIdle_15
  · refine r_iconst C0 (nI 1) dX6_isIdle_10 (by decide) ?_
    refine r_goto C0 15 dX6_isIdle_11 (by decide) ?_
    exact r_zretRC C0 h (by decide) dX6_isIdle_15
set_option maxHeartbeats 1000000 in
set_option maxRecDepth 10000 in
theorem ctX6_isIdle (l : Launch) (D : va_G) (K : Nat → ClassId) (aS : Nat) (S : Nat → Int32) (p1 : Int32) (z : Int32) (hz : fX6_isIdle S p1 = some z) : Met l yX6_isIdle wsX6_isIdle rmX6_isIdle (pcR D K [.ref aS, .int p1] (fl [wArr K aS 353 S])) (vp_Si (fun r => r = z)) 0 0 (fun _ => False) := by
  refine Met.ofW (cc := cX6_isIdle) (maxL := 2) (ret := (some .boolean)) (by decide) rfl ?_
  intro p e s m args below meth c s₁ B hml hv
  obtain ⟨rfl, hP, hK⟩ := hv
  have C0 : cx p s m _ meth c cX6_isIdle 2 RX6 wsX6_isIdle (some .boolean) D K := ⟨⟨B.exec, B.bytes, hml, findClass_of_methodNamed B.named, atoms_spec (ws := wsX6_isIdle) B.pre⟩, B.returns, B.notSynchronized, hK⟩
  have hl := lv_entry ([.ref aS, .int p1]) (n := 2) (Nat.le_of_ble_eq_true rfl)
  rw [lg_entry_eq]
  generalize (lg_sl ([.ref aS, .int p1]) ++ List.replicate (2 - (lg_sl ([.ref aS, .int p1])).length) Slot.unset).toArray = ls at hl ⊢
  have hl : lv_has ls 2 [(0, .ref aS), (1, .int p1)] := hl
  exact wX6_isIdle_0 C0 S p1 hz hP ls (lv_sub hl [0, 1] rfl)
end SX6_isIdle

section SX6_waiting
/-! CardLoopsModel.waiting([II)I -/
abbrev wsX6_waiting : List Cond := Cond.code yX6_waiting cX6_waiting 2 (some .int) :: wsL_law0
abbrev rmX6_waiting : Room := { frames := 0, cells := 0, slots := 0, locals := 0 }
variable {p : Program} {l : Launch} {e : Env} {s : State} {m : MethodId} {args : Array Value} {below : List Frame} {meth : Method} {c : Code} {D : va_G} {K : Nat → ClassId} {A : Nat → Prop} {aS : Nat} {z : Int32}
set_option maxHeartbeats 1000000 in
set_option maxRecDepth 10000 in
theorem wX6_waiting_0 (C0 : cx p s m args meth c cX6_waiting 2 RX6 wsX6_waiting (some .int) D K) (S : Nat → Int32) (x1 : Int32) (h : fX6_waiting S x1 = some z) (hP : va_P D vwCl (fl [wArr K aS 353 S]) s.heap) (ls : Array Slot) (hl : lv_has ls 2 [(0, .ref aS), (1, .int x1)]) : W p l e rmX6_waiting s m args below meth c s.heap [] 0 0 (MQ below (vp_Si (fun r => r = z)) args s 0 0 (fun _ => False)) (F0 m 0 ls []) := by
  unfold fX6_waiting at h
  refine r_aload_n C0 dX6_waiting_0 hl 0 rfl ?_
  refine r_bipush C0 (nI 107) dX6_waiting_1 (by decide) ?_
  refine r_bipush C0 (nI 41) dX6_waiting_3 (by decide) ?_
  refine r_iload_n C0 dX6_waiting_5 hl 1 rfl ?_
  refine r_imul C0 dX6_waiting_6 ?_
  refine r_iadd C0 dX6_waiting_7 ?_
  refine r_iald h C0 hP 0 rfl dX6_waiting_8 (fun h => ?_)
  exact r_iretR C0 h dX6_waiting_9
set_option maxHeartbeats 1000000 in
set_option maxRecDepth 10000 in
theorem ctX6_waiting (l : Launch) (D : va_G) (K : Nat → ClassId) (aS : Nat) (S : Nat → Int32) (p1 : Int32) (z : Int32) (hz : fX6_waiting S p1 = some z) : Met l yX6_waiting wsX6_waiting rmX6_waiting (pcR D K [.ref aS, .int p1] (fl [wArr K aS 353 S])) (vp_Si (fun r => r = z)) 0 0 (fun _ => False) := by
  refine Met.ofW (cc := cX6_waiting) (maxL := 2) (ret := (some .int)) (by decide) rfl ?_
  intro p e s m args below meth c s₁ B hml hv
  obtain ⟨rfl, hP, hK⟩ := hv
  have C0 : cx p s m _ meth c cX6_waiting 2 RX6 wsX6_waiting (some .int) D K := ⟨⟨B.exec, B.bytes, hml, findClass_of_methodNamed B.named, atoms_spec (ws := wsX6_waiting) B.pre⟩, B.returns, B.notSynchronized, hK⟩
  have hl := lv_entry ([.ref aS, .int p1]) (n := 2) (Nat.le_of_ble_eq_true rfl)
  rw [lg_entry_eq]
  generalize (lg_sl ([.ref aS, .int p1]) ++ List.replicate (2 - (lg_sl ([.ref aS, .int p1])).length) Slot.unset).toArray = ls at hl ⊢
  have hl : lv_has ls 2 [(0, .ref aS), (1, .int p1)] := hl
  exact wX6_waiting_0 C0 S p1 hz hP ls (lv_sub hl [0, 1] rfl)
end SX6_waiting

section SX6_goesOn
/-! CardLoopsModel.goesOn([II)I -/
abbrev wsX6_goesOn : List Cond := Cond.code yX6_goesOn cX6_goesOn 5 (some .int) :: wsL_law0
abbrev rmX6_goesOn : Room := { frames := 1, cells := 0, slots := 0, locals := 22 }
variable {p : Program} {l : Launch} {e : Env} {s : State} {m : MethodId} {args : Array Value} {below : List Frame} {meth : Method} {c : Code} {D : va_G} {K : Nat → ClassId} {A : Nat → Prop} {N : Nat} {aS : Nat} {z : Int32 × ((Nat → Int32))}
def IX6_goesOn_41 (p : Program) (l : Launch) (e : Env) (s : State) (m : MethodId) (args : Array Value) (below : List Frame) (meth : Method) (c : Code) (D : va_G) (K : Nat → ClassId) (aS : Nat) (A : Nat → Prop) (z : Int32 × ((Nat → Int32))) (k : (Nat → Int32) → Int32 → Int32 → Int32 → Int32 → Option (Int32 × ((Nat → Int32)))) : Prop := ∀ (S : Nat → Int32) (x1 : Int32) (x2 : Int32) (x3 : Int32) (x4 : Int32) (H : Heap) (locs : List Loc) (ls : Array Slot), k S x1 x2 x3 x4 = some z → va_P D vwCl (fl [wArr K aS 353 S]) H → va_D A (fl [wArr K aS 353 S]) → va_S A s.heap H locs → lv_has ls 5 [(0, .ref aS), (1, .int x1), (2, .int x2), (3, .int x3), (4, .int x4)] → W p l e rmX6_goesOn s m args below meth c H locs 0 0 (MQ below (qcI D z (fun (u : (Nat → Int32)) => (fl [wArr K aS 353 u])) A) args s 0 0 A) (F0 m 41 ls [])
set_option maxHeartbeats 1000000 in
set_option maxRecDepth 10000 in
theorem wX6_goesOn_181 (C0 : cx p s m args meth c cX6_goesOn 5 RX6 wsX6_goesOn (some .int) D K) (hA : ∀ q, s.heap.size ≤ q → A q) (S : Nat → Int32) (h : fX6_goesOn_181 N S = some z) (H : Heap) (locs : List Loc) (hP : va_P D vwCl (fl [wArr K aS 353 S]) H) (hD : va_D A (fl [wArr K aS 353 S])) (hS : va_S A s.heap H locs) (ls : Array Slot) (hl : lv_has ls 5 []) : W p l e rmX6_goesOn s m args below meth c H locs 0 0 (MQ below (qcI D z (fun (u : (Nat → Int32)) => (fl [wArr K aS 353 u])) A) args s 0 0 A) (F0 m 181 ls []) := by
  unfold fX6_goesOn_181 at h
  refine r_iconst C0 (nI 1) dX6_goesOn_181 (by decide) ?_
  exact r_iret h C0 (fun (u : (Nat → Int32)) => (fl [wArr K aS 353 u])) hP hD hS dX6_goesOn_182
set_option maxHeartbeats 1000000 in
set_option maxRecDepth 10000 in
theorem wX6_goesOn_80 (C0 : cx p s m args meth c cX6_goesOn 5 RX6 wsX6_goesOn (some .int) D K) (hA : ∀ q, s.heap.size ≤ q → A q) {k41 : (Nat → Int32) → Int32 → Int32 → Int32 → Int32 → Option (Int32 × ((Nat → Int32)))} (hk41 : IX6_goesOn_41 p l e s m args below meth c D K aS A z k41) (S : Nat → Int32) (x1 : Int32) (x2 : Int32) (x3 : Int32) (x4 : Int32) (h : fX6_goesOn_80 N k41 S x1 x2 x3 x4 = some z) (H : Heap) (locs : List Loc) (hP : va_P D vwCl (fl [wArr K aS 353 S]) H) (hD : va_D A (fl [wArr K aS 353 S])) (hS : va_S A s.heap H locs) (ls : Array Slot) (hl : lv_has ls 5 [(0, .ref aS), (1, .int x1), (2, .int x2), (3, .int x3), (4, .int x4)]) : W p l e rmX6_goesOn s m args below meth c H locs 0 0 (MQ below (qcI D z (fun (u : (Nat → Int32)) => (fl [wArr K aS 353 u])) A) args s 0 0 A) (F0 m 80 ls []) := by
  unfold fX6_goesOn_80 at h
  refine r_iinc h C0 4 (fun v1 => [(4, .int v1), (0, .ref aS), (1, .int x1), (2, .int x2), (3, .int x3)]) dX6_goesOn_80 hl rfl rfl (by decide) (fun _ => rfl) (fun v1 ls h hl => ?_)
  refine r_goto C0 41 dX6_goesOn_83 (by decide) ?_
  exact hk41 S x1 x2 x3 v1 _ _ _ h hP hD hS (lv_sub hl [1, 2, 3, 4, 0] rfl)
set_option maxHeartbeats 1000000 in
set_option maxRecDepth 10000 in
theorem wX6_goesOn_41 (C0 : cx p s m args meth c cX6_goesOn 5 RX6 wsX6_goesOn (some .int) D K) (hA : ∀ q, s.heap.size ≤ q → A q) {k41 : (Nat → Int32) → Int32 → Int32 → Int32 → Int32 → Option (Int32 × ((Nat → Int32)))} (hk41 : IX6_goesOn_41 p l e s m args below meth c D K aS A z k41) (S : Nat → Int32) (x1 : Int32) (x2 : Int32) (x3 : Int32) (x4 : Int32) (h : fX6_goesOn_41b N k41 S x1 x2 x3 x4 = some z) (H : Heap) (locs : List Loc) (hP : va_P D vwCl (fl [wArr K aS 353 S]) H) (hD : va_D A (fl [wArr K aS 353 S])) (hS : va_S A s.heap H locs) (ls : Array Slot) (hl : lv_has ls 5 [(0, .ref aS), (1, .int x1), (2, .int x2), (3, .int x3), (4, .int x4)]) : W p l e rmX6_goesOn s m args below meth c H locs 0 0 (MQ below (qcI D z (fun (u : (Nat → Int32)) => (fl [wArr K aS 353 u])) A) args s 0 0 A) (F0 m 41 ls []) := by
  unfold fX6_goesOn_41b at h
  refine r_iload C0 dX6_goesOn_41 hl 4 rfl ?_
  refine r_aload_n C0 dX6_goesOn_43 hl 0 rfl ?_
  refine r_bipush C0 (nI 14) dX6_goesOn_44 (by decide) ?_
  refine r_ialdC C0 hP 0 rfl 14 (by decide) dX6_goesOn_46 ?_
  refine r_icmp_ge h C0 86 dX6_goesOn_47 (by decide) (fun h => ?_) (fun h => ?_)
  · refine r_iload_n C0 dX6_goesOn_86 hl 1 rfl ?_
    refine r_iconst C0 (nI 1) dX6_goesOn_87 (by decide) ?_
    refine r_iadd C0 dX6_goesOn_88 ?_
    refine r_aload_n C0 dX6_goesOn_89 hl 0 rfl ?_
    refine r_iconst C0 (nI 1) dX6_goesOn_90 (by decide) ?_
    refine r_ialdC C0 hP 0 rfl 1 (by decide) dX6_goesOn_91 ?_
    refine r_icmp_ge h C0 144 dX6_goesOn_92 (by decide) (fun h => ?_) (fun h => ?_)
    · refine r_aload_n C0 dX6_goesOn_144 hl 0 rfl ?_
      refine r_bipush C0 (nI 49) dX6_goesOn_145 (by decide) ?_
      refine r_dup2 C0 dX6_goesOn_147 rfl rfl ?_
      refine r_ialdC C0 hP 0 rfl 49 (by decide) dX6_goesOn_148 ?_
      refine r_iconst C0 (nI 1) dX6_goesOn_149 (by decide) ?_
      refine r_iadd C0 dX6_goesOn_150 ?_
      refine r_iastC h C0 hP hD hS 0 (fun uu => (fl [wArr K aS 353 uu])) rfl 49 (by decide) rfl dX6_goesOn_151 (fun S1 H locs h hP hD hS => ?_)
      refine r_aload_n C0 dX6_goesOn_152 hl 0 rfl ?_
      refine r_bipush C0 (nI 51) dX6_goesOn_153 (by decide) ?_
      refine r_aload_n C0 dX6_goesOn_155 hl 0 rfl ?_
      refine r_bipush C0 (nI 48) dX6_goesOn_156 (by decide) ?_
      refine r_ialdC C0 hP 0 rfl 48 (by decide) dX6_goesOn_158 ?_
      refine r_iload_n C0 dX6_goesOn_159 hl 3 rfl ?_
      refine r_isub C0 dX6_goesOn_160 ?_
      refine r_iastC h C0 hP hD hS 0 (fun uu => (fl [wArr K aS 353 uu])) rfl 51 (by decide) rfl dX6_goesOn_161 (fun S2 H locs h hP hD hS => ?_)
      refine r_aload_n C0 dX6_goesOn_162 hl 0 rfl ?_
      refine r_bipush C0 (nI 51) dX6_goesOn_163 (by decide) ?_
      refine r_ialdC C0 hP 0 rfl 51 (by decide) dX6_goesOn_165 ?_
      refine r_aload_n C0 dX6_goesOn_166 hl 0 rfl ?_
      refine r_bipush C0 (nI 52) dX6_goesOn_167 (by decide) ?_
      refine r_ialdC C0 hP 0 rfl 52 (by decide) dX6_goesOn_169 ?_
      refine r_icmp_le h C0 181 dX6_goesOn_170 (by decide) (fun h => ?_) (fun h => ?_)
      · exact wX6_goesOn_181 C0 hA S2 h _ _ hP hD hS _ (lv_sub hl [] rfl)
      · refine r_aload_n C0 dX6_goesOn_173 hl 0 rfl ?_
        refine r_bipush C0 (nI 52) dX6_goesOn_174 (by decide) ?_
        refine r_aload_n C0 dX6_goesOn_176 hl 0 rfl ?_
        refine r_bipush C0 (nI 51) dX6_goesOn_177 (by decide) ?_
        refine r_ialdC C0 hP 0 rfl 51 (by decide) dX6_goesOn_179 ?_
        refine r_iastC h C0 hP hD hS 0 (fun uu => (fl [wArr K aS 353 uu])) rfl 52 (by decide) rfl dX6_goesOn_180 (fun S3 H locs h hP hD hS => ?_)
        exact wX6_goesOn_181 C0 hA S3 h _ _ hP hD hS _ (lv_sub hl [] rfl)
    · refine r_bipush C0 (nI 107) dX6_goesOn_95 (by decide) ?_
      refine r_bipush C0 (nI 41) dX6_goesOn_97 (by decide) ?_
      refine r_iload_n C0 dX6_goesOn_99 hl 1 rfl ?_
      refine r_iconst C0 (nI 1) dX6_goesOn_100 (by decide) ?_
      refine r_iadd C0 dX6_goesOn_101 ?_
      refine r_imul C0 dX6_goesOn_102 ?_
      refine r_iadd C0 dX6_goesOn_103 ?_
      refine r_istore h C0 (fun v4 => [(4, .int v4), (0, .ref aS), (1, .int x1), (2, .int x2), (3, .int x3)]) dX6_goesOn_104 hl (by decide) (fun _ => rfl) (fun v4 ls h hl => ?_)
      refine r_aload_n C0 dX6_goesOn_106 hl 1 rfl ?_
      refine r_iload C0 dX6_goesOn_107 hl 0 rfl ?_
      refine r_iconst C0 (nI 1) dX6_goesOn_109 (by decide) ?_
      refine r_iadd C0 dX6_goesOn_110 ?_
      refine r_iconst C0 (nI 2) dX6_goesOn_111 (by decide) ?_
      refine r_aload_n C0 dX6_goesOn_112 hl 1 rfl ?_
      refine r_iload C0 dX6_goesOn_113 hl 0 rfl ?_
      refine r_iald h C0 hP 0 rfl dX6_goesOn_115 (fun h => ?_)
      refine r_imul C0 dX6_goesOn_116 ?_
      refine r_iadd C0 dX6_goesOn_117 ?_
      refine r_iload_n C0 dX6_goesOn_118 hl 3 rfl ?_
      refine r_iast h C0 hP hD hS 0 (fun uu => (fl [wArr K aS 353 uu])) rfl rfl dX6_goesOn_119 (fun S5 H locs h hP hD hS => ?_)
      refine r_aload_n C0 dX6_goesOn_120 hl 1 rfl ?_
      refine r_iload C0 dX6_goesOn_121 hl 0 rfl ?_
      refine r_iconst C0 (nI 2) dX6_goesOn_123 (by decide) ?_
      refine r_iadd C0 dX6_goesOn_124 ?_
      refine r_iconst C0 (nI 2) dX6_goesOn_125 (by decide) ?_
      refine r_aload_n C0 dX6_goesOn_126 hl 1 rfl ?_
      refine r_iload C0 dX6_goesOn_127 hl 0 rfl ?_
      refine r_iald h C0 hP 0 rfl dX6_goesOn_129 (fun h => ?_)
      refine r_imul C0 dX6_goesOn_130 ?_
      refine r_iadd C0 dX6_goesOn_131 ?_
      refine r_iload_n C0 dX6_goesOn_132 hl 4 rfl ?_
      refine r_iast h C0 hP hD hS 0 (fun uu => (fl [wArr K aS 353 uu])) rfl rfl dX6_goesOn_133 (fun S6 H locs h hP hD hS => ?_)
      refine r_aload_n C0 dX6_goesOn_134 hl 1 rfl ?_
      refine r_iload C0 dX6_goesOn_135 hl 0 rfl ?_
      refine r_dup2 C0 dX6_goesOn_137 rfl rfl ?_
      refine r_iald h C0 hP 0 rfl dX6_goesOn_138 (fun h => ?_)
      refine r_iconst C0 (nI 1) dX6_goesOn_139 (by decide) ?_
      refine r_iadd C0 dX6_goesOn_140 ?_
      refine r_iast h C0 hP hD hS 0 (fun uu => (fl [wArr K aS 353 uu])) rfl rfl dX6_goesOn_141 (fun S7 H locs h hP hD hS => ?_)
      refine r_iconst C0 (nI 0) dX6_goesOn_142 (by decide) ?_
      exact r_iret h C0 (fun (u : (Nat → Int32)) => (fl [wArr K aS 353 u])) hP hD hS dX6_goesOn_143
  · refine r_aload_n C0 dX6_goesOn_50 hl 0 rfl ?_
    refine r_bipush C0 (nI 15) dX6_goesOn_51 (by decide) ?_
    refine r_iconst C0 (nI 4) dX6_goesOn_53 (by decide) ?_
    refine r_iload C0 dX6_goesOn_54 hl 4 rfl ?_
    refine r_imul C0 dX6_goesOn_56 ?_
    refine r_iadd C0 dX6_goesOn_57 ?_
    refine r_iconst C0 (nI 1) dX6_goesOn_58 (by decide) ?_
    refine r_iadd C0 dX6_goesOn_59 ?_
    refine r_iald h C0 hP 0 rfl dX6_goesOn_60 (fun h => ?_)
    refine r_iload_n C0 dX6_goesOn_61 hl 1 rfl ?_
    refine r_icmp_ne h C0 80 dX6_goesOn_62 (by decide) (fun h => ?_) (fun h => ?_)
    · exact wX6_goesOn_80 C0 hA hk41 S x1 x2 x3 x4 h _ _ hP hD hS _ (lv_sub hl [0, 1, 2, 3, 4] rfl)
    · refine r_aload_n C0 dX6_goesOn_65 hl 0 rfl ?_
      refine r_bipush C0 (nI 15) dX6_goesOn_66 (by decide) ?_
      refine r_iconst C0 (nI 4) dX6_goesOn_68 (by decide) ?_
      refine r_iload C0 dX6_goesOn_69 hl 4 rfl ?_
      refine r_imul C0 dX6_goesOn_71 ?_
      refine r_iadd C0 dX6_goesOn_72 ?_
      refine r_iconst C0 (nI 3) dX6_goesOn_73 (by decide) ?_
      refine r_iadd C0 dX6_goesOn_74 ?_
      refine r_dup2 C0 dX6_goesOn_75 rfl rfl ?_
      refine r_iald h C0 hP 0 rfl dX6_goesOn_76 (fun h => ?_)
      refine r_iconst C0 (nI 1) dX6_goesOn_77 (by decide) ?_
      refine r_iadd C0 dX6_goesOn_78 ?_
      refine r_iast h C0 hP hD hS 0 (fun uu => (fl [wArr K aS 353 uu])) rfl rfl dX6_goesOn_79 (fun S8 H locs h hP hD hS => ?_)
      exact wX6_goesOn_80 C0 hA hk41 S8 x1 x2 x3 x4 h _ _ hP hD hS _ (lv_sub hl [0, 1, 2, 3, 4] rfl)
theorem wX6_goesOn_41L (C0 : cx p s m args meth c cX6_goesOn 5 RX6 wsX6_goesOn (some .int) D K) (hA : ∀ q, s.heap.size ≤ q → A q) : IX6_goesOn_41 p l e s m args below meth c D K aS A z (fX6_goesOn_41 N) := by
  refine itn_ind (IX6_goesOn_41 p l e s m args below meth c D K aS A z) ?_ ?_ N
  · intro _ _ _ _ _ _ _ _ h; cases h
  · intro k41 hk41 S x1 x2 x3 x4 H locs ls h hP hD hS hl
    exact wX6_goesOn_41 C0 hA hk41 S x1 x2 x3 x4 h H locs hP hD hS ls hl
set_option maxHeartbeats 1000000 in
set_option maxRecDepth 10000 in
theorem wX6_goesOn_0 (C0 : cx p s m args meth c cX6_goesOn 5 RX6 wsX6_goesOn (some .int) D K) (hA : ∀ q, s.heap.size ≤ q → A q) (S : Nat → Int32) (x1 : Int32) (h : fX6_goesOn N S x1 = some z) (H : Heap) (locs : List Loc) (hP : va_P D vwCl (fl [wArr K aS 353 S]) H) (hD : va_D A (fl [wArr K aS 353 S])) (hS : va_S A s.heap H locs) (ls : Array Slot) (hl : lv_has ls 5 [(0, .ref aS), (1, .int x1)]) : W p l e rmX6_goesOn s m args below meth c H locs 0 0 (MQ below (qcI D z (fun (u : (Nat → Int32)) => (fl [wArr K aS 353 u])) A) args s 0 0 A) (F0 m 0 ls []) := by
  unfold fX6_goesOn at h
  refine r_aload_n C0 dX6_goesOn_0 hl 0 rfl ?_
  refine r_iload_n C0 dX6_goesOn_1 hl 1 rfl ?_
  refine r_iconst C0 (nI 0) dX6_goesOn_2 (by decide) ?_
  obtain ⟨z1, hz1, h⟩ := bnd_some h
  have hPc := vaP_sel (Wc := [wArr K aS 353 S]) hP [0] rfl
  refine r_cI (va_runS (As := [.ref aS, .int x1, .int (nI 0)]) (rest := []) C0.1 (ctX6_its l D K aS S x1 (nI 0) z1 hz1) (va_cwS 3 C0.1.2.2.2.2 (gdS wd19_3 wd19_4 wd1_5 wd19_5) rfl rfl rfl (by decide +kernel) ⟨Nat.le_of_ble_eq_true rfl, Nat.le_of_ble_eq_true rfl⟩) ⟨pcR_blind, pcR_of hPc C0.2.2.2⟩ rfl rfl hl.1 rfl (lv_room (Nat.le_of_ble_eq_true rfl)) dX6_goesOn_3 ⟨Nat.zero_le _, Nat.zero_le _⟩).run ?_
  refine r_istore_n h C0 (fun v2 => [(2, .int v2), (0, .ref aS), (1, .int x1)]) dX6_goesOn_6 hl (by decide) (fun _ => rfl) (fun v2 ls h hl => ?_)
  refine r_aload_n C0 dX6_goesOn_7 hl 1 rfl ?_
  refine r_iload_n C0 dX6_goesOn_8 hl 2 rfl ?_
  refine r_iconst C0 (nI 4) dX6_goesOn_9 (by decide) ?_
  obtain ⟨z3, hz3, h⟩ := bnd_some h
  have hPc := vaP_sel (Wc := [wArr K aS 353 S]) hP [0] rfl
  refine r_cI (va_runS (As := [.ref aS, .int x1, .int (nI 4)]) (rest := []) C0.1 (ctX6_its l D K aS S x1 (nI 4) z3 hz3) (va_cwS 3 C0.1.2.2.2.2 (gdS wd19_3 wd19_4 wd1_5 wd19_5) rfl rfl rfl (by decide +kernel) ⟨Nat.le_of_ble_eq_true rfl, Nat.le_of_ble_eq_true rfl⟩) ⟨pcR_blind, pcR_of hPc C0.2.2.2⟩ rfl rfl hl.1 rfl (lv_room (Nat.le_of_ble_eq_true rfl)) dX6_goesOn_10 ⟨Nat.zero_le _, Nat.zero_le _⟩).run ?_
  refine r_istore_n h C0 (fun v4 => [(3, .int v4), (2, .int v2), (0, .ref aS), (1, .int x1)]) dX6_goesOn_13 hl (by decide) (fun _ => rfl) (fun v4 ls h hl => ?_)
  refine r_aload_n C0 dX6_goesOn_14 hl 2 rfl ?_
  refine r_bipush C0 (nI 53) dX6_goesOn_15 (by decide) ?_
  refine r_bipush C0 (nI 9) dX6_goesOn_17 (by decide) ?_
  refine r_iload_n C0 dX6_goesOn_19 hl 3 rfl ?_
  refine r_imul C0 dX6_goesOn_20 ?_
  refine r_iadd C0 dX6_goesOn_21 ?_
  refine r_iconst C0 (nI 1) dX6_goesOn_22 (by decide) ?_
  refine r_iadd C0 dX6_goesOn_23 ?_
  refine r_iload_n C0 dX6_goesOn_24 hl 1 rfl ?_
  refine r_iast h C0 hP hD hS 0 (fun uu => (fl [wArr K aS 353 uu])) rfl rfl dX6_goesOn_25 (fun S5 H locs h hP hD hS => ?_)
  refine r_aload_n C0 dX6_goesOn_26 hl 2 rfl ?_
  refine r_bipush C0 (nI 53) dX6_goesOn_27 (by decide) ?_
  refine r_bipush C0 (nI 9) dX6_goesOn_29 (by decide) ?_
  refine r_iload_n C0 dX6_goesOn_31 hl 3 rfl ?_
  refine r_imul C0 dX6_goesOn_32 ?_
  refine r_iadd C0 dX6_goesOn_33 ?_
  refine r_iconst C0 (nI 0) dX6_goesOn_34 (by decide) ?_
  refine r_iadd C0 dX6_goesOn_35 ?_
  refine r_iconst C0 (-1 : Int32) dX6_goesOn_36 (by decide) ?_
  refine r_iast h C0 hP hD hS 0 (fun uu => (fl [wArr K aS 353 uu])) rfl rfl dX6_goesOn_37 (fun S6 H locs h hP hD hS => ?_)
  refine r_iconst C0 (nI 0) dX6_goesOn_38 (by decide) ?_
  refine r_istore h C0 (fun v7 => [(4, .int v7), (3, .int v4), (2, .int v2), (0, .ref aS), (1, .int x1)]) dX6_goesOn_39 hl (by decide) (fun _ => rfl) (fun v7 ls h hl => ?_)
  exact wX6_goesOn_41L C0 hA S6 x1 v2 v4 v7 _ _ _ h hP hD hS (lv_sub hl [3, 4, 2, 1, 0] rfl)
set_option maxHeartbeats 1000000 in
set_option maxRecDepth 10000 in
theorem ctX6_goesOn (l : Launch) (D : va_G) (K : Nat → ClassId) (N : Nat) (aS : Nat) (S : Nat → Int32) (p1 : Int32) (sz : Nat) (z : Int32 × ((Nat → Int32))) (hz : fX6_goesOn N S p1 = some z) : Met l yX6_goesOn wsX6_goesOn rmX6_goesOn (pcW D K [.ref aS, .int p1] (fl [wArr K aS 353 S]) sz) (qcI D z (fun (u : (Nat → Int32)) => (fl [wArr K aS 353 u])) (va_A (fl [wArr K aS 353 S]) sz)) 0 0 (va_A (fl [wArr K aS 353 S]) sz) := by
  refine Met.ofW (cc := cX6_goesOn) (maxL := 5) (ret := (some .int)) (by decide) rfl ?_
  intro p e s m args below meth c s₁ B hml hv
  obtain ⟨rfl, hsz, hP, hK, hD0⟩ := hv
  subst hsz
  have C0 : cx p s m _ meth c cX6_goesOn 5 RX6 wsX6_goesOn (some .int) D K := ⟨⟨B.exec, B.bytes, hml, findClass_of_methodNamed B.named, atoms_spec (ws := wsX6_goesOn) B.pre⟩, B.returns, B.notSynchronized, hK⟩
  have hD := hD0.self (sz := s.heap.size)
  generalize hAe : va_A (fl [wArr K aS 353 S]) s.heap.size = A at hD ⊢
  have hA : ∀ q : Nat, s.heap.size ≤ q → A q := fun q h => by rw [← hAe]; exact Or.inr h
  have hl := lv_entry ([.ref aS, .int p1]) (n := 5) (Nat.le_of_ble_eq_true rfl)
  rw [lg_entry_eq]
  generalize (lg_sl ([.ref aS, .int p1]) ++ List.replicate (5 - (lg_sl ([.ref aS, .int p1])).length) Slot.unset).toArray = ls at hl ⊢
  have hl : lv_has ls 5 [(0, .ref aS), (1, .int p1)] := hl
  exact wX6_goesOn_0 C0 hA S p1 hz s.heap [] hP hD va_S.rf ls (lv_sub hl [0, 1] rfl)
end SX6_goesOn

section SX6_hasCards
/-! CardLoopsModel.hasCards([II)Z -/
abbrev wsX6_hasCards : List Cond := Cond.code yX6_hasCards cX6_hasCards 3 (some .boolean) :: wsL_law0
abbrev rmX6_hasCards : Room := { frames := 0, cells := 0, slots := 0, locals := 0 }
variable {p : Program} {l : Launch} {e : Env} {s : State} {m : MethodId} {args : Array Value} {below : List Frame} {meth : Method} {c : Code} {D : va_G} {K : Nat → ClassId} {A : Nat → Prop} {N : Nat} {aS : Nat} {z : Int32}
def IX6_hasCards_2 (p : Program) (l : Launch) (e : Env) (s : State) (m : MethodId) (args : Array Value) (below : List Frame) (meth : Method) (c : Code) (D : va_G) (K : Nat → ClassId) (aS : Nat) (z : Int32) (k : (Nat → Int32) → Int32 → Int32 → Option (Int32)) : Prop := ∀ (S : Nat → Int32) (x1 : Int32) (x2 : Int32) (ls : Array Slot), k S x1 x2 = some z → va_P D vwCl (fl [wArr K aS 353 S]) s.heap → lv_has ls 3 [(0, .ref aS), (1, .int x1), (2, .int x2)] → W p l e rmX6_hasCards s m args below meth c s.heap [] 0 0 (MQ below (vp_Si (fun r => r = z)) args s 0 0 (fun _ => False)) (F0 m 2 ls [])
set_option maxHeartbeats 1000000 in
set_option maxRecDepth 10000 in
theorem wX6_hasCards_37 (C0 : cx p s m args meth c cX6_hasCards 3 RX6 wsX6_hasCards (some .boolean) D K) {k2 : (Nat → Int32) → Int32 → Int32 → Option (Int32)} (hk2 : IX6_hasCards_2 p l e s m args below meth c D K aS z k2) (S : Nat → Int32) (x1 : Int32) (x2 : Int32) (h : fX6_hasCards_37 N k2 S x1 x2 = some z) (hP : va_P D vwCl (fl [wArr K aS 353 S]) s.heap) (ls : Array Slot) (hl : lv_has ls 3 [(0, .ref aS), (1, .int x1), (2, .int x2)]) : W p l e rmX6_hasCards s m args below meth c s.heap [] 0 0 (MQ below (vp_Si (fun r => r = z)) args s 0 0 (fun _ => False)) (F0 m 37 ls []) := by
  unfold fX6_hasCards_37 at h
  refine r_iinc h C0 2 (fun v1 => [(2, .int v1), (0, .ref aS), (1, .int x1)]) dX6_hasCards_37 hl rfl rfl (by decide) (fun _ => rfl) (fun v1 ls h hl => ?_)
  refine r_goto C0 2 dX6_hasCards_40 (by decide) ?_
  exact hk2 S x1 v1 _ h hP (lv_sub hl [1, 2, 0] rfl)
set_option maxHeartbeats 1000000 in
set_option maxRecDepth 10000 in
theorem wX6_hasCards_2 (C0 : cx p s m args meth c cX6_hasCards 3 RX6 wsX6_hasCards (some .boolean) D K) {k2 : (Nat → Int32) → Int32 → Int32 → Option (Int32)} (hk2 : IX6_hasCards_2 p l e s m args below meth c D K aS z k2) (S : Nat → Int32) (x1 : Int32) (x2 : Int32) (h : fX6_hasCards_2b N k2 S x1 x2 = some z) (hP : va_P D vwCl (fl [wArr K aS 353 S]) s.heap) (ls : Array Slot) (hl : lv_has ls 3 [(0, .ref aS), (1, .int x1), (2, .int x2)]) : W p l e rmX6_hasCards s m args below meth c s.heap [] 0 0 (MQ below (vp_Si (fun r => r = z)) args s 0 0 (fun _ => False)) (F0 m 2 ls []) := by
  unfold fX6_hasCards_2b at h
  refine r_iload_n C0 dX6_hasCards_2 hl 2 rfl ?_
  refine r_aload_n C0 dX6_hasCards_3 hl 0 rfl ?_
  refine r_bipush C0 (nI 14) dX6_hasCards_4 (by decide) ?_
  refine r_ialdC C0 hP 0 rfl 14 (by decide) dX6_hasCards_6 ?_
  refine r_icmp_ge h C0 43 dX6_hasCards_7 (by decide) (fun h => ?_) (fun h => ?_)
  · refine r_iconst C0 (nI 1) dX6_hasCards_43 (by decide) ?_
    exact r_zretRC C0 h (by decide) dX6_hasCards_44
  · refine r_aload_n C0 dX6_hasCards_10 hl 0 rfl ?_
    refine r_bipush C0 (nI 15) dX6_hasCards_11 (by decide) ?_
    refine r_iconst C0 (nI 4) dX6_hasCards_13 (by decide) ?_
    refine r_iload_n C0 dX6_hasCards_14 hl 2 rfl ?_
    refine r_imul C0 dX6_hasCards_15 ?_
    refine r_iadd C0 dX6_hasCards_16 ?_
    refine r_iald h C0 hP 0 rfl dX6_hasCards_17 (fun h => ?_)
    refine r_iload_n C0 dX6_hasCards_18 hl 1 rfl ?_
    refine r_icmp_ne h C0 37 dX6_hasCards_19 (by decide) (fun h => ?_) (fun h => ?_)
    · exact wX6_hasCards_37 C0 hk2 S x1 x2 h hP _ (lv_sub hl [0, 1, 2] rfl)
    · refine r_aload_n C0 dX6_hasCards_22 hl 0 rfl ?_
      refine r_bipush C0 (nI 15) dX6_hasCards_23 (by decide) ?_
      refine r_iconst C0 (nI 4) dX6_hasCards_25 (by decide) ?_
      refine r_iload_n C0 dX6_hasCards_26 hl 2 rfl ?_
      refine r_imul C0 dX6_hasCards_27 ?_
      refine r_iadd C0 dX6_hasCards_28 ?_
      refine r_iconst C0 (nI 3) dX6_hasCards_29 (by decide) ?_
      refine r_iadd C0 dX6_hasCards_30 ?_
      refine r_iald h C0 hP 0 rfl dX6_hasCards_31 (fun h => ?_)
      refine r_if_ne h C0 37 dX6_hasCards_32 (by decide) (fun h => ?_) (fun h => ?_)
      · exact wX6_hasCards_37 C0 hk2 S x1 x2 h hP _ (lv_sub hl [0, 1, 2] rfl)
      · refine r_iconst C0 (nI 0) dX6_hasCards_35 (by decide) ?_
        exact r_zretRC C0 h (by decide) dX6_hasCards_36
theorem wX6_hasCards_2L (C0 : cx p s m args meth c cX6_hasCards 3 RX6 wsX6_hasCards (some .boolean) D K) : IX6_hasCards_2 p l e s m args below meth c D K aS z (fX6_hasCards_2 N) := by
  refine itn_ind (IX6_hasCards_2 p l e s m args below meth c D K aS z) ?_ ?_ N
  · intro _ _ _ _ h; cases h
  · intro k2 hk2 S x1 x2 ls h hP hl
    exact wX6_hasCards_2 C0 hk2 S x1 x2 h hP ls hl
set_option maxHeartbeats 1000000 in
set_option maxRecDepth 10000 in
theorem wX6_hasCards_0 (C0 : cx p s m args meth c cX6_hasCards 3 RX6 wsX6_hasCards (some .boolean) D K) (S : Nat → Int32) (x1 : Int32) (h : fX6_hasCards N S x1 = some z) (hP : va_P D vwCl (fl [wArr K aS 353 S]) s.heap) (ls : Array Slot) (hl : lv_has ls 3 [(0, .ref aS), (1, .int x1)]) : W p l e rmX6_hasCards s m args below meth c s.heap [] 0 0 (MQ below (vp_Si (fun r => r = z)) args s 0 0 (fun _ => False)) (F0 m 0 ls []) := by
  unfold fX6_hasCards at h
  refine r_iconst C0 (nI 0) dX6_hasCards_0 (by decide) ?_
  refine r_istore_n h C0 (fun v1 => [(2, .int v1), (0, .ref aS), (1, .int x1)]) dX6_hasCards_1 hl (by decide) (fun _ => rfl) (fun v1 ls h hl => ?_)
  exact wX6_hasCards_2L C0 S x1 v1 _ h hP (lv_sub hl [1, 2, 0] rfl)
set_option maxHeartbeats 1000000 in
set_option maxRecDepth 10000 in
theorem ctX6_hasCards (l : Launch) (D : va_G) (K : Nat → ClassId) (N : Nat) (aS : Nat) (S : Nat → Int32) (p1 : Int32) (z : Int32) (hz : fX6_hasCards N S p1 = some z) : Met l yX6_hasCards wsX6_hasCards rmX6_hasCards (pcR D K [.ref aS, .int p1] (fl [wArr K aS 353 S])) (vp_Si (fun r => r = z)) 0 0 (fun _ => False) := by
  refine Met.ofW (cc := cX6_hasCards) (maxL := 3) (ret := (some .boolean)) (by decide) rfl ?_
  intro p e s m args below meth c s₁ B hml hv
  obtain ⟨rfl, hP, hK⟩ := hv
  have C0 : cx p s m _ meth c cX6_hasCards 3 RX6 wsX6_hasCards (some .boolean) D K := ⟨⟨B.exec, B.bytes, hml, findClass_of_methodNamed B.named, atoms_spec (ws := wsX6_hasCards) B.pre⟩, B.returns, B.notSynchronized, hK⟩
  have hl := lv_entry ([.ref aS, .int p1]) (n := 3) (Nat.le_of_ble_eq_true rfl)
  rw [lg_entry_eq]
  generalize (lg_sl ([.ref aS, .int p1]) ++ List.replicate (3 - (lg_sl ([.ref aS, .int p1])).length) Slot.unset).toArray = ls at hl ⊢
  have hl : lv_has ls 3 [(0, .ref aS), (1, .int p1)] := hl
  exact wX6_hasCards_0 C0 S p1 hz hP ls (lv_sub hl [0, 1] rfl)
end SX6_hasCards

section SX6_tries
/-! CardLoopsModel.tries([II)V -/
abbrev wsX6_tries : List Cond := Cond.code yX6_tries cX6_tries 6 none :: wsL_law0
abbrev rmX6_tries : Room := { frames := 2, cells := 0, slots := 0, locals := 45 }
variable {p : Program} {l : Launch} {e : Env} {s : State} {m : MethodId} {args : Array Value} {below : List Frame} {meth : Method} {c : Code} {D : va_G} {K : Nat → ClassId} {A : Nat → Prop} {N : Nat} {aS : Nat} {z : (Nat → Int32)}
def IX6_tries_158 (p : Program) (l : Launch) (e : Env) (s : State) (m : MethodId) (args : Array Value) (below : List Frame) (meth : Method) (c : Code) (D : va_G) (K : Nat → ClassId) (aS : Nat) (A : Nat → Prop) (z : (Nat → Int32)) (k : (Nat → Int32) → Int32 → Int32 → Int32 → Int32 → Option ((Nat → Int32))) : Prop := ∀ (S : Nat → Int32) (x1 : Int32) (x2 : Int32) (x3 : Int32) (x4 : Int32) (H : Heap) (locs : List Loc) (ls : Array Slot), k S x1 x2 x3 x4 = some z → va_P D vwCl (fl [wArr K aS 353 S]) H → va_D A (fl [wArr K aS 353 S]) → va_S A s.heap H locs → lv_has ls 6 [(0, .ref aS), (1, .int x1), (2, .int x2), (3, .int x3), (4, .int x4)] → W p l e rmX6_tries s m args below meth c H locs 0 0 (MQ below (qcV D z (fun (u : (Nat → Int32)) => (fl [wArr K aS 353 u])) A) args s 0 0 A) (F0 m 158 ls [])
def IX6_tries_92 (p : Program) (l : Launch) (e : Env) (s : State) (m : MethodId) (args : Array Value) (below : List Frame) (meth : Method) (c : Code) (D : va_G) (K : Nat → ClassId) (aS : Nat) (A : Nat → Prop) (z : (Nat → Int32)) (k : (Nat → Int32) → Int32 → Int32 → Int32 → Int32 → Int32 → Option ((Nat → Int32))) : Prop := ∀ (S : Nat → Int32) (x1 : Int32) (x2 : Int32) (x3 : Int32) (x4 : Int32) (x5 : Int32) (H : Heap) (locs : List Loc) (ls : Array Slot), k S x1 x2 x3 x4 x5 = some z → va_P D vwCl (fl [wArr K aS 353 S]) H → va_D A (fl [wArr K aS 353 S]) → va_S A s.heap H locs → lv_has ls 6 [(0, .ref aS), (1, .int x1), (2, .int x2), (3, .int x3), (4, .int x4), (5, .int x5)] → W p l e rmX6_tries s m args below meth c H locs 0 0 (MQ below (qcV D z (fun (u : (Nat → Int32)) => (fl [wArr K aS 353 u])) A) args s 0 0 A) (F0 m 92 ls [])
set_option maxHeartbeats 1000000 in
set_option maxRecDepth 10000 in
theorem wX6_tries_257 (C0 : cx p s m args meth c cX6_tries 6 RX6 wsX6_tries none D K) (hA : ∀ q, s.heap.size ≤ q → A q) (S : Nat → Int32) (x1 : Int32) (x3 : Int32) (y1 : Int32) (y2 : Int32) (y3 : Int32) (h : fX6_tries_257 N S x1 x3 y1 y2 y3 = some z) (H : Heap) (locs : List Loc) (hP : va_P D vwCl (fl [wArr K aS 353 S]) H) (hD : va_D A (fl [wArr K aS 353 S])) (hS : va_S A s.heap H locs) (ls : Array Slot) (hl : lv_has ls 6 [(0, .ref aS), (1, .int x1), (3, .int x3)]) : W p l e rmX6_tries s m args below meth c H locs 0 0 (MQ below (qcV D z (fun (u : (Nat → Int32)) => (fl [wArr K aS 353 u])) A) args s 0 0 A) (F0 m 257 ls [.int y3, .int y2, .int y1, .ref aS]) := by
  unfold fX6_tries_257 at h
  refine r_iadd C0 dX6_tries_257 ?_
  refine r_iast h C0 hP hD hS 0 (fun uu => (fl [wArr K aS 353 uu])) rfl rfl dX6_tries_258 (fun S1 H locs h hP hD hS => ?_)
  refine r_aload_n C0 dX6_tries_259 hl 0 rfl ?_
  refine r_bipush C0 (nI 53) dX6_tries_260 (by decide) ?_
  refine r_bipush C0 (nI 9) dX6_tries_262 (by decide) ?_
  refine r_iload_n C0 dX6_tries_264 hl 1 rfl ?_
  refine r_imul C0 dX6_tries_265 ?_
  refine r_iadd C0 dX6_tries_266 ?_
  refine r_iconst C0 (nI 3) dX6_tries_267 (by decide) ?_
  refine r_iadd C0 dX6_tries_268 ?_
  refine r_aload_n C0 dX6_tries_269 hl 0 rfl ?_
  refine r_iload_n C0 dX6_tries_270 hl 1 rfl ?_
  refine r_iconst C0 (nI 2) dX6_tries_271 (by decide) ?_
  obtain ⟨z2, hz2, h⟩ := bnd_some h
  have hPc := vaP_sel (Wc := [wArr K aS 353 S1]) hP [0] rfl
  refine r_cI (va_runS (As := [.ref aS, .int x1, .int (nI 2)]) (rest := [.int (((nI 53) + ((nI 9) * x1)) + (nI 3)), .ref aS]) C0.1 (ctX6_its l D K aS S1 x1 (nI 2) z2 hz2) (va_cwS 3 C0.1.2.2.2.2 (gdS wd19_3 wd19_4 wd1_5 wd19_5) rfl rfl rfl (by decide +kernel) ⟨Nat.le_of_ble_eq_true rfl, Nat.le_of_ble_eq_true rfl⟩) ⟨pcR_blind, pcR_of hPc C0.2.2.2⟩ rfl rfl hl.1 rfl (lv_room (Nat.le_of_ble_eq_true rfl)) dX6_tries_272 ⟨Nat.zero_le _, Nat.zero_le _⟩).run ?_
  refine r_aload_n C0 dX6_tries_275 hl 0 rfl ?_
  refine r_iconst C0 (nI 2) dX6_tries_276 (by decide) ?_
  refine r_iload_n C0 dX6_tries_277 hl 1 rfl ?_
  refine r_iadd C0 dX6_tries_278 ?_
  refine r_iald h C0 hP 0 rfl dX6_tries_279 (fun h => ?_)
  refine r_iadd C0 dX6_tries_280 ?_
  refine r_iast h C0 hP hD hS 0 (fun uu => (fl [wArr K aS 353 uu])) rfl rfl dX6_tries_281 (fun S3 H locs h hP hD hS => ?_)
  refine r_aload_n C0 dX6_tries_282 hl 0 rfl ?_
  refine r_bipush C0 (nI 53) dX6_tries_283 (by decide) ?_
  refine r_bipush C0 (nI 9) dX6_tries_285 (by decide) ?_
  refine r_iload_n C0 dX6_tries_287 hl 1 rfl ?_
  refine r_imul C0 dX6_tries_288 ?_
  refine r_iadd C0 dX6_tries_289 ?_
  refine r_iconst C0 (nI 4) dX6_tries_290 (by decide) ?_
  refine r_iadd C0 dX6_tries_291 ?_
  refine r_iload_n C0 dX6_tries_292 hl 2 rfl ?_
  refine r_iast h C0 hP hD hS 0 (fun uu => (fl [wArr K aS 353 uu])) rfl rfl dX6_tries_293 (fun S4 H locs h hP hD hS => ?_)
  exact r_vret h C0 (fun (u : (Nat → Int32)) => (fl [wArr K aS 353 u])) hP hD hS dX6_tries_294
set_option maxHeartbeats 1000000 in
set_option maxRecDepth 10000 in
theorem wX6_tries_256 (C0 : cx p s m args meth c cX6_tries 6 RX6 wsX6_tries none D K) (hA : ∀ q, s.heap.size ≤ q → A q) (S : Nat → Int32) (x1 : Int32) (x3 : Int32) (y1 : Int32) (y2 : Int32) (h : fX6_tries_256 N S x1 x3 y1 y2 = some z) (H : Heap) (locs : List Loc) (hP : va_P D vwCl (fl [wArr K aS 353 S]) H) (hD : va_D A (fl [wArr K aS 353 S])) (hS : va_S A s.heap H locs) (ls : Array Slot) (hl : lv_has ls 6 [(0, .ref aS), (1, .int x1), (3, .int x3)]) : W p l e rmX6_tries s m args below meth c H locs 0 0 (MQ below (qcV D z (fun (u : (Nat → Int32)) => (fl [wArr K aS 353 u])) A) args s 0 0 A) (F0 m 256 ls [.int y2, .int y1, .ref aS]) := by
  unfold fX6_tries_256 at h
  refine r_iconst C0 (nI 0) dX6_tries_256 (by decide) ?_
  exact wX6_tries_257 C0 hA S x1 x3 y1 y2 (nI 0) h _ _ hP hD hS _ (lv_sub hl [0, 1, 2] rfl)
set_option maxHeartbeats 1000000 in
set_option maxRecDepth 10000 in
theorem wX6_tries_195 (C0 : cx p s m args meth c cX6_tries 6 RX6 wsX6_tries none D K) (hA : ∀ q, s.heap.size ≤ q → A q) {k158 : (Nat → Int32) → Int32 → Int32 → Int32 → Int32 → Option ((Nat → Int32))} (hk158 : IX6_tries_158 p l e s m args below meth c D K aS A z k158) (S : Nat → Int32) (x1 : Int32) (x2 : Int32) (x3 : Int32) (x4 : Int32) (h : fX6_tries_195 N k158 S x1 x2 x3 x4 = some z) (H : Heap) (locs : List Loc) (hP : va_P D vwCl (fl [wArr K aS 353 S]) H) (hD : va_D A (fl [wArr K aS 353 S])) (hS : va_S A s.heap H locs) (ls : Array Slot) (hl : lv_has ls 6 [(0, .ref aS), (1, .int x1), (2, .int x2), (3, .int x3), (4, .int x4)]) : W p l e rmX6_tries s m args below meth c H locs 0 0 (MQ below (qcV D z (fun (u : (Nat → Int32)) => (fl [wArr K aS 353 u])) A) args s 0 0 A) (F0 m 195 ls []) := by
  unfold fX6_tries_195 at h
  refine r_iinc h C0 4 (fun v1 => [(4, .int v1), (0, .ref aS), (1, .int x1), (2, .int x2), (3, .int x3)]) dX6_tries_195 hl rfl rfl (by decide) (fun _ => rfl) (fun v1 ls h hl => ?_)
  refine r_goto C0 158 dX6_tries_198 (by decide) ?_
  exact hk158 S x1 x2 x3 v1 _ _ _ h hP hD hS (lv_sub hl [1, 2, 3, 4, 0] rfl)
set_option maxHeartbeats 1000000 in
set_option maxRecDepth 10000 in
theorem wX6_tries_158 (C0 : cx p s m args meth c cX6_tries 6 RX6 wsX6_tries none D K) (hA : ∀ q, s.heap.size ≤ q → A q) {k158 : (Nat → Int32) → Int32 → Int32 → Int32 → Int32 → Option ((Nat → Int32))} (hk158 : IX6_tries_158 p l e s m args below meth c D K aS A z k158) (S : Nat → Int32) (x1 : Int32) (x2 : Int32) (x3 : Int32) (x4 : Int32) (h : fX6_tries_158b N k158 S x1 x2 x3 x4 = some z) (H : Heap) (locs : List Loc) (hP : va_P D vwCl (fl [wArr K aS 353 S]) H) (hD : va_D A (fl [wArr K aS 353 S])) (hS : va_S A s.heap H locs) (ls : Array Slot) (hl : lv_has ls 6 [(0, .ref aS), (1, .int x1), (2, .int x2), (3, .int x3), (4, .int x4)]) : W p l e rmX6_tries s m args below meth c H locs 0 0 (MQ below (qcV D z (fun (u : (Nat → Int32)) => (fl [wArr K aS 353 u])) A) args s 0 0 A) (F0 m 158 ls []) := by
  unfold fX6_tries_158b at h
  refine r_iload C0 dX6_tries_158 hl 4 rfl ?_
  refine r_aload_n C0 dX6_tries_160 hl 0 rfl ?_
  refine r_bipush C0 (nI 14) dX6_tries_161 (by decide) ?_
  refine r_ialdC C0 hP 0 rfl 14 (by decide) dX6_tries_163 ?_
  refine r_icmp_ge h C0 201 dX6_tries_164 (by decide) (fun h => ?_) (fun h => ?_)
  · refine r_aload_n C0 dX6_tries_201 hl 0 rfl ?_
    refine r_iload_n C0 dX6_tries_202 hl 1 rfl ?_
    refine r_iconst C0 (nI 1) dX6_tries_203 (by decide) ?_
    obtain ⟨z1, hz1, h⟩ := bnd_some h
    have hPc := vaP_sel (Wc := [wArr K aS 353 S]) hP [0] rfl
    refine r_cI (va_runS (As := [.ref aS, .int x1, .int (nI 1)]) (rest := []) C0.1 (ctX6_its l D K aS S x1 (nI 1) z1 hz1) (va_cwS 3 C0.1.2.2.2.2 (gdS wd19_3 wd19_4 wd1_5 wd19_5) rfl rfl rfl (by decide +kernel) ⟨Nat.le_of_ble_eq_true rfl, Nat.le_of_ble_eq_true rfl⟩) ⟨pcR_blind, pcR_of hPc C0.2.2.2⟩ rfl rfl hl.1 rfl (lv_room (Nat.le_of_ble_eq_true rfl)) dX6_tries_204 ⟨Nat.zero_le _, Nat.zero_le _⟩).run ?_
    refine r_istore h C0 (fun v2 => [(4, .int v2), (0, .ref aS), (1, .int x1), (2, .int x2), (3, .int x3)]) dX6_tries_207 hl (by decide) (fun _ => rfl) (fun v2 ls h hl => ?_)
    refine r_aload_n C0 dX6_tries_209 hl 1 rfl ?_
    refine r_bipush C0 (nI 53) dX6_tries_210 (by decide) ?_
    refine r_bipush C0 (nI 9) dX6_tries_212 (by decide) ?_
    refine r_iload_n C0 dX6_tries_214 hl 2 rfl ?_
    refine r_imul C0 dX6_tries_215 ?_
    refine r_iadd C0 dX6_tries_216 ?_
    refine r_iconst C0 (nI 0) dX6_tries_217 (by decide) ?_
    refine r_iadd C0 dX6_tries_218 ?_
    refine r_iload_n C0 dX6_tries_219 hl 3 rfl ?_
    refine r_iast h C0 hP hD hS 0 (fun uu => (fl [wArr K aS 353 uu])) rfl rfl dX6_tries_220 (fun S3 H locs h hP hD hS => ?_)
    refine r_aload_n C0 dX6_tries_221 hl 1 rfl ?_
    refine r_bipush C0 (nI 53) dX6_tries_222 (by decide) ?_
    refine r_bipush C0 (nI 9) dX6_tries_224 (by decide) ?_
    refine r_iload_n C0 dX6_tries_226 hl 2 rfl ?_
    refine r_imul C0 dX6_tries_227 ?_
    refine r_iadd C0 dX6_tries_228 ?_
    refine r_iconst C0 (nI 2) dX6_tries_229 (by decide) ?_
    refine r_iadd C0 dX6_tries_230 ?_
    refine r_aload_n C0 dX6_tries_231 hl 1 rfl ?_
    refine r_bipush C0 (nI 48) dX6_tries_232 (by decide) ?_
    refine r_ialdC C0 hP 0 rfl 48 (by decide) dX6_tries_234 ?_
    refine r_iload C0 dX6_tries_235 hl 0 rfl ?_
    refine r_iconst C0 (-1 : Int32) dX6_tries_237 (by decide) ?_
    refine r_icmp_eq h C0 256 dX6_tries_238 (by decide) (fun h => ?_) (fun h => ?_)
    · exact wX6_tries_256 C0 hA S3 x1 x3 (((nI 53) + ((nI 9) * x1)) + (nI 2)) (S3 48) h _ _ hP hD hS _ (lv_sub hl [1, 2, 4] rfl)
    · refine r_iload C0 dX6_tries_241 hl 0 rfl ?_
      refine r_iload_n C0 dX6_tries_243 hl 3 rfl ?_
      refine r_icmp_eq h C0 256 dX6_tries_244 (by decide) (fun h => ?_) (fun h => ?_)
      · exact wX6_tries_256 C0 hA S3 x1 x3 (((nI 53) + ((nI 9) * x1)) + (nI 2)) (S3 48) h _ _ hP hD hS _ (lv_sub hl [1, 2, 4] rfl)
      · refine r_aload_n C0 dX6_tries_247 hl 1 rfl ?_
        refine r_bipush C0 (nI 8) dX6_tries_248 (by decide) ?_
        refine r_iload_n C0 dX6_tries_250 hl 2 rfl ?_
        refine r_iadd C0 dX6_tries_251 ?_
        refine r_iald h C0 hP 0 rfl dX6_tries_252 (fun h => ?_)
        refine r_goto C0 257 dX6_tries_253 (by decide) ?_
        exact wX6_tries_257 C0 hA S3 x1 x3 (((nI 53) + ((nI 9) * x1)) + (nI 2)) (S3 48) (S3 ((nI 8) + x1).toNatClampNeg) h _ _ hP hD hS _ (lv_sub hl [1, 2, 4] rfl)
  · refine r_aload_n C0 dX6_tries_167 hl 0 rfl ?_
    refine r_bipush C0 (nI 15) dX6_tries_168 (by decide) ?_
    refine r_iconst C0 (nI 4) dX6_tries_170 (by decide) ?_
    refine r_iload C0 dX6_tries_171 hl 4 rfl ?_
    refine r_imul C0 dX6_tries_173 ?_
    refine r_iadd C0 dX6_tries_174 ?_
    refine r_iald h C0 hP 0 rfl dX6_tries_175 (fun h => ?_)
    refine r_iload_n C0 dX6_tries_176 hl 1 rfl ?_
    refine r_icmp_ne h C0 195 dX6_tries_177 (by decide) (fun h => ?_) (fun h => ?_)
    · exact wX6_tries_195 C0 hA hk158 S x1 x2 x3 x4 h _ _ hP hD hS _ (lv_sub hl [0, 1, 2, 3, 4] rfl)
    · refine r_aload_n C0 dX6_tries_180 hl 0 rfl ?_
      refine r_bipush C0 (nI 15) dX6_tries_181 (by decide) ?_
      refine r_iconst C0 (nI 4) dX6_tries_183 (by decide) ?_
      refine r_iload C0 dX6_tries_184 hl 4 rfl ?_
      refine r_imul C0 dX6_tries_186 ?_
      refine r_iadd C0 dX6_tries_187 ?_
      refine r_iconst C0 (nI 3) dX6_tries_188 (by decide) ?_
      refine r_iadd C0 dX6_tries_189 ?_
      refine r_dup2 C0 dX6_tries_190 rfl rfl ?_
      refine r_iald h C0 hP 0 rfl dX6_tries_191 (fun h => ?_)
      refine r_iconst C0 (nI 1) dX6_tries_192 (by decide) ?_
      refine r_isub C0 dX6_tries_193 ?_
      refine r_iast h C0 hP hD hS 0 (fun uu => (fl [wArr K aS 353 uu])) rfl rfl dX6_tries_194 (fun S4 H locs h hP hD hS => ?_)
      exact wX6_tries_195 C0 hA hk158 S4 x1 x2 x3 x4 h _ _ hP hD hS _ (lv_sub hl [0, 1, 2, 3, 4] rfl)
theorem wX6_tries_158L (C0 : cx p s m args meth c cX6_tries 6 RX6 wsX6_tries none D K) (hA : ∀ q, s.heap.size ≤ q → A q) : IX6_tries_158 p l e s m args below meth c D K aS A z (fX6_tries_158 N) := by
  refine itn_ind (IX6_tries_158 p l e s m args below meth c D K aS A z) ?_ ?_ N
  · intro _ _ _ _ _ _ _ _ h; cases h
  · intro k158 hk158 S x1 x2 x3 x4 H locs ls h hP hD hS hl
    exact wX6_tries_158 C0 hA hk158 S x1 x2 x3 x4 h H locs hP hD hS ls hl
set_option maxHeartbeats 1000000 in
set_option maxRecDepth 10000 in
theorem wX6_tries_155 (C0 : cx p s m args meth c cX6_tries 6 RX6 wsX6_tries none D K) (hA : ∀ q, s.heap.size ≤ q → A q) (S : Nat → Int32) (x1 : Int32) (x2 : Int32) (x3 : Int32) (h : fX6_tries_155 N S x1 x2 x3 = some z) (H : Heap) (locs : List Loc) (hP : va_P D vwCl (fl [wArr K aS 353 S]) H) (hD : va_D A (fl [wArr K aS 353 S])) (hS : va_S A s.heap H locs) (ls : Array Slot) (hl : lv_has ls 6 [(0, .ref aS), (1, .int x1), (2, .int x2), (3, .int x3)]) : W p l e rmX6_tries s m args below meth c H locs 0 0 (MQ below (qcV D z (fun (u : (Nat → Int32)) => (fl [wArr K aS 353 u])) A) args s 0 0 A) (F0 m 155 ls []) := by
  unfold fX6_tries_155 at h
  refine r_iconst C0 (nI 0) dX6_tries_155 (by decide) ?_
  refine r_istore h C0 (fun v1 => [(4, .int v1), (0, .ref aS), (1, .int x1), (2, .int x2), (3, .int x3)]) dX6_tries_156 hl (by decide) (fun _ => rfl) (fun v1 ls h hl => ?_)
  exact wX6_tries_158L C0 hA S x1 x2 x3 v1 _ _ _ h hP hD hS (lv_sub hl [1, 2, 3, 4, 0] rfl)
set_option maxHeartbeats 1000000 in
set_option maxRecDepth 10000 in
theorem wX6_tries_92 (C0 : cx p s m args meth c cX6_tries 6 RX6 wsX6_tries none D K) (hA : ∀ q, s.heap.size ≤ q → A q) {k92 : (Nat → Int32) → Int32 → Int32 → Int32 → Int32 → Int32 → Option ((Nat → Int32))} (hk92 : IX6_tries_92 p l e s m args below meth c D K aS A z k92) (S : Nat → Int32) (x1 : Int32) (x2 : Int32) (x3 : Int32) (x4 : Int32) (x5 : Int32) (h : fX6_tries_92b N k92 S x1 x2 x3 x4 x5 = some z) (H : Heap) (locs : List Loc) (hP : va_P D vwCl (fl [wArr K aS 353 S]) H) (hD : va_D A (fl [wArr K aS 353 S])) (hS : va_S A s.heap H locs) (ls : Array Slot) (hl : lv_has ls 6 [(0, .ref aS), (1, .int x1), (2, .int x2), (3, .int x3), (4, .int x4), (5, .int x5)]) : W p l e rmX6_tries s m args below meth c H locs 0 0 (MQ below (qcV D z (fun (u : (Nat → Int32)) => (fl [wArr K aS 353 u])) A) args s 0 0 A) (F0 m 92 ls []) := by
  unfold fX6_tries_92b at h
  refine r_iload C0 dX6_tries_92 hl 5 rfl ?_
  refine r_iconst C0 (nI 2) dX6_tries_94 (by decide) ?_
  refine r_aload_n C0 dX6_tries_95 hl 0 rfl ?_
  refine r_iload C0 dX6_tries_96 hl 4 rfl ?_
  refine r_iald h C0 hP 0 rfl dX6_tries_98 (fun h => ?_)
  refine r_imul C0 dX6_tries_99 ?_
  refine r_icmp_ge h C0 127 dX6_tries_100 (by decide) (fun h => ?_) (fun h => ?_)
  · refine r_aload_n C0 dX6_tries_127 hl 0 rfl ?_
    refine r_iload C0 dX6_tries_128 hl 4 rfl ?_
    refine r_iconst C0 (nI 1) dX6_tries_130 (by decide) ?_
    refine r_iadd C0 dX6_tries_131 ?_
    refine r_iconst C0 (nI 2) dX6_tries_132 (by decide) ?_
    refine r_aload_n C0 dX6_tries_133 hl 0 rfl ?_
    refine r_iload C0 dX6_tries_134 hl 4 rfl ?_
    refine r_iald h C0 hP 0 rfl dX6_tries_136 (fun h => ?_)
    refine r_imul C0 dX6_tries_137 ?_
    refine r_iadd C0 dX6_tries_138 ?_
    refine r_iconst C0 (nI 0) dX6_tries_139 (by decide) ?_
    refine r_iast h C0 hP hD hS 0 (fun uu => (fl [wArr K aS 353 uu])) rfl rfl dX6_tries_140 (fun S1 H locs h hP hD hS => ?_)
    refine r_aload_n C0 dX6_tries_141 hl 0 rfl ?_
    refine r_iload C0 dX6_tries_142 hl 4 rfl ?_
    refine r_iconst C0 (nI 2) dX6_tries_144 (by decide) ?_
    refine r_iadd C0 dX6_tries_145 ?_
    refine r_iconst C0 (nI 2) dX6_tries_146 (by decide) ?_
    refine r_aload_n C0 dX6_tries_147 hl 0 rfl ?_
    refine r_iload C0 dX6_tries_148 hl 4 rfl ?_
    refine r_iald h C0 hP 0 rfl dX6_tries_150 (fun h => ?_)
    refine r_imul C0 dX6_tries_151 ?_
    refine r_iadd C0 dX6_tries_152 ?_
    refine r_iconst C0 (nI 0) dX6_tries_153 (by decide) ?_
    refine r_iast h C0 hP hD hS 0 (fun uu => (fl [wArr K aS 353 uu])) rfl rfl dX6_tries_154 (fun S2 H locs h hP hD hS => ?_)
    exact wX6_tries_155 C0 hA S2 x1 x2 x3 h _ _ hP hD hS _ (lv_sub hl [0, 1, 2, 3] rfl)
  · refine r_aload_n C0 dX6_tries_103 hl 0 rfl ?_
    refine r_iload C0 dX6_tries_104 hl 4 rfl ?_
    refine r_iconst C0 (nI 1) dX6_tries_106 (by decide) ?_
    refine r_iadd C0 dX6_tries_107 ?_
    refine r_iload C0 dX6_tries_108 hl 5 rfl ?_
    refine r_iadd C0 dX6_tries_110 ?_
    refine r_aload_n C0 dX6_tries_111 hl 0 rfl ?_
    refine r_iload C0 dX6_tries_112 hl 4 rfl ?_
    refine r_iconst C0 (nI 3) dX6_tries_114 (by decide) ?_
    refine r_iadd C0 dX6_tries_115 ?_
    refine r_iload C0 dX6_tries_116 hl 5 rfl ?_
    refine r_iadd C0 dX6_tries_118 ?_
    refine r_iald h C0 hP 0 rfl dX6_tries_119 (fun h => ?_)
    refine r_iast h C0 hP hD hS 0 (fun uu => (fl [wArr K aS 353 uu])) rfl rfl dX6_tries_120 (fun S3 H locs h hP hD hS => ?_)
    refine r_iinc h C0 5 (fun v4 => [(5, .int v4), (0, .ref aS), (1, .int x1), (2, .int x2), (3, .int x3), (4, .int x4)]) dX6_tries_121 hl rfl rfl (by decide) (fun _ => rfl) (fun v4 ls h hl => ?_)
    refine r_goto C0 92 dX6_tries_124 (by decide) ?_
    exact hk92 S3 x1 x2 x3 x4 v4 _ _ _ h hP hD hS (lv_sub hl [1, 2, 3, 4, 5, 0] rfl)
theorem wX6_tries_92L (C0 : cx p s m args meth c cX6_tries 6 RX6 wsX6_tries none D K) (hA : ∀ q, s.heap.size ≤ q → A q) : IX6_tries_92 p l e s m args below meth c D K aS A z (fX6_tries_92 N) := by
  refine itn_ind (IX6_tries_92 p l e s m args below meth c D K aS A z) ?_ ?_ N
  · intro _ _ _ _ _ _ _ _ _ h; cases h
  · intro k92 hk92 S x1 x2 x3 x4 x5 H locs ls h hP hD hS hl
    exact wX6_tries_92 C0 hA hk92 S x1 x2 x3 x4 x5 h H locs hP hD hS ls hl
set_option maxHeartbeats 1000000 in
set_option maxRecDepth 10000 in
theorem wX6_tries_20 (C0 : cx p s m args meth c cX6_tries 6 RX6 wsX6_tries none D K) (hA : ∀ q, s.heap.size ≤ q → A q) (S : Nat → Int32) (x1 : Int32) (h : fX6_tries_20 N S x1 = some z) (H : Heap) (locs : List Loc) (hP : va_P D vwCl (fl [wArr K aS 353 S]) H) (hD : va_D A (fl [wArr K aS 353 S])) (hS : va_S A s.heap H locs) (ls : Array Slot) (hl : lv_has ls 6 [(0, .ref aS), (1, .int x1)]) : W p l e rmX6_tries s m args below meth c H locs 0 0 (MQ below (qcV D z (fun (u : (Nat → Int32)) => (fl [wArr K aS 353 u])) A) args s 0 0 A) (F0 m 20 ls []) := by
  unfold fX6_tries_20 at h
  refine r_aload_n C0 dX6_tries_20 hl 0 rfl ?_
  refine r_iload_n C0 dX6_tries_21 hl 1 rfl ?_
  obtain ⟨z1, hz1, h⟩ := bnd_some h
  have hPc := vaP_sel (Wc := [wArr K aS 353 S]) hP [0] rfl
  refine r_cI (va_runS (As := [.ref aS, .int x1]) (rest := []) C0.1 (ctX6_hasCards l D K N aS S x1 z1 hz1) (va_cwS 2 C0.1.2.2.2.2 (gdS wd19_15 wd19_16 wd1_5 wd19_17) rfl rfl rfl (by decide +kernel) ⟨Nat.le_of_ble_eq_true rfl, Nat.le_of_ble_eq_true rfl⟩) ⟨pcR_blind, pcR_of hPc C0.2.2.2⟩ rfl rfl hl.1 rfl (lv_room (Nat.le_of_ble_eq_true rfl)) dX6_tries_22 ⟨Nat.zero_le _, Nat.zero_le _⟩).run ?_
  refine r_if_ne h C0 29 dX6_tries_25 (by decide) (fun h => ?_) (fun h => ?_)
  · refine r_aload_n C0 dX6_tries_29 hl 0 rfl ?_
    refine r_bipush C0 (nI 48) dX6_tries_30 (by decide) ?_
    refine r_ialdC C0 hP 0 rfl 48 (by decide) dX6_tries_32 ?_
    refine r_istore_n h C0 (fun v2 => [(3, .int v2), (0, .ref aS), (1, .int x1)]) dX6_tries_33 hl (by decide) (fun _ => rfl) (fun v2 ls h hl => ?_)
    refine r_iload_n C0 dX6_tries_34 hl 2 rfl ?_
    refine r_if_ne h C0 58 dX6_tries_35 (by decide) (fun h => ?_) (fun h => ?_)
    · refine r_bipush C0 (nI 107) dX6_tries_58 (by decide) ?_
      refine r_bipush C0 (nI 41) dX6_tries_60 (by decide) ?_
      refine r_iload_n C0 dX6_tries_62 hl 2 rfl ?_
      refine r_imul C0 dX6_tries_63 ?_
      refine r_iadd C0 dX6_tries_64 ?_
      refine r_istore h C0 (fun v3 => [(4, .int v3), (3, .int v2), (0, .ref aS), (1, .int x1)]) dX6_tries_65 hl (by decide) (fun _ => rfl) (fun v3 ls h hl => ?_)
      refine r_aload_n C0 dX6_tries_67 hl 2 rfl ?_
      refine r_iload C0 dX6_tries_68 hl 0 rfl ?_
      refine r_iconst C0 (nI 1) dX6_tries_70 (by decide) ?_
      refine r_iadd C0 dX6_tries_71 ?_
      refine r_iald h C0 hP 0 rfl dX6_tries_72 (fun h => ?_)
      refine r_istore_n h C0 (fun v4 => [(2, .int v4), (4, .int v3), (3, .int v2), (0, .ref aS), (1, .int x1)]) dX6_tries_73 hl (by decide) (fun _ => rfl) (fun v4 ls h hl => ?_)
      refine r_aload_n C0 dX6_tries_74 hl 3 rfl ?_
      refine r_iload C0 dX6_tries_75 hl 1 rfl ?_
      refine r_iconst C0 (nI 2) dX6_tries_77 (by decide) ?_
      refine r_iadd C0 dX6_tries_78 ?_
      refine r_iald h C0 hP 0 rfl dX6_tries_79 (fun h => ?_)
      refine r_istore_n h C0 (fun v5 => [(3, .int v5), (2, .int v4), (4, .int v3), (0, .ref aS), (1, .int x1)]) dX6_tries_80 hl (by decide) (fun _ => rfl) (fun v5 ls h hl => ?_)
      refine r_aload_n C0 dX6_tries_81 hl 3 rfl ?_
      refine r_iload C0 dX6_tries_82 hl 2 rfl ?_
      refine r_dup2 C0 dX6_tries_84 rfl rfl ?_
      refine r_iald h C0 hP 0 rfl dX6_tries_85 (fun h => ?_)
      refine r_iconst C0 (nI 1) dX6_tries_86 (by decide) ?_
      refine r_isub C0 dX6_tries_87 ?_
      refine r_iast h C0 hP hD hS 0 (fun uu => (fl [wArr K aS 353 uu])) rfl rfl dX6_tries_88 (fun S6 H locs h hP hD hS => ?_)
      refine r_iconst C0 (nI 0) dX6_tries_89 (by decide) ?_
      refine r_istore h C0 (fun v7 => [(5, .int v7), (3, .int v5), (2, .int v4), (4, .int v3), (0, .ref aS), (1, .int x1)]) dX6_tries_90 hl (by decide) (fun _ => rfl) (fun v7 ls h hl => ?_)
      exact wX6_tries_92L C0 hA S6 x1 v4 v5 v3 v7 _ _ _ h hP hD hS (lv_sub hl [4, 5, 2, 1, 3, 0] rfl)
    · refine r_aload_n C0 dX6_tries_38 hl 1 rfl ?_
      refine r_aload_n C0 dX6_tries_39 hl 1 rfl ?_
      refine r_bipush C0 (nI 50) dX6_tries_40 (by decide) ?_
      refine r_ialdC C0 hP 0 rfl 50 (by decide) dX6_tries_42 ?_
      obtain ⟨z8, hz8, h⟩ := bnd_some h
      have hPc := vaP_sel (Wc := [wArr K aS 353 S]) hP [0] rfl
      refine r_cI (va_runS (As := [.ref aS, .int (S 50)]) (rest := []) C0.1 (ctX6_kindOf l D K N aS S (S 50) z8 hz8) (va_cwS 2 C0.1.2.2.2.2 (gdS wd19_18 wd19_19 wd1_5 wd19_20) rfl rfl rfl (by decide +kernel) ⟨Nat.le_of_ble_eq_true rfl, Nat.le_of_ble_eq_true rfl⟩) ⟨pcR_blind, pcR_of hPc C0.2.2.2⟩ rfl rfl hl.1 rfl (lv_room (Nat.le_of_ble_eq_true rfl)) dX6_tries_43 ⟨Nat.zero_le _, Nat.zero_le _⟩).run ?_
      refine r_istore_n h C0 (fun v9 => [(2, .int v9), (3, .int v2), (0, .ref aS), (1, .int x1)]) dX6_tries_46 hl (by decide) (fun _ => rfl) (fun v9 ls h hl => ?_)
      refine r_aload_n C0 dX6_tries_47 hl 2 rfl ?_
      refine r_bipush C0 (nI 50) dX6_tries_48 (by decide) ?_
      refine r_dup2 C0 dX6_tries_50 rfl rfl ?_
      refine r_ialdC C0 hP 0 rfl 50 (by decide) dX6_tries_51 ?_
      refine r_iconst C0 (nI 1) dX6_tries_52 (by decide) ?_
      refine r_iadd C0 dX6_tries_53 ?_
      refine r_iastC h C0 hP hD hS 0 (fun uu => (fl [wArr K aS 353 uu])) rfl 50 (by decide) rfl dX6_tries_54 (fun S10 H locs h hP hD hS => ?_)
      refine r_goto C0 155 dX6_tries_55 (by decide) ?_
      exact wX6_tries_155 C0 hA S10 x1 v9 v2 h _ _ hP hD hS _ (lv_sub hl [2, 3, 0, 1] rfl)
  · exact r_vret h C0 (fun (u : (Nat → Int32)) => (fl [wArr K aS 353 u])) hP hD hS dX6_tries_28
set_option maxHeartbeats 1000000 in
set_option maxRecDepth 10000 in
theorem wX6_tries_0 (C0 : cx p s m args meth c cX6_tries 6 RX6 wsX6_tries none D K) (hA : ∀ q, s.heap.size ≤ q → A q) (S : Nat → Int32) (x1 : Int32) (h : fX6_tries N S x1 = some z) (H : Heap) (locs : List Loc) (hP : va_P D vwCl (fl [wArr K aS 353 S]) H) (hD : va_D A (fl [wArr K aS 353 S])) (hS : va_S A s.heap H locs) (ls : Array Slot) (hl : lv_has ls 6 [(0, .ref aS), (1, .int x1)]) : W p l e rmX6_tries s m args below meth c H locs 0 0 (MQ below (qcV D z (fun (u : (Nat → Int32)) => (fl [wArr K aS 353 u])) A) args s 0 0 A) (F0 m 0 ls []) := by
  unfold fX6_tries at h
  refine r_aload_n C0 dX6_tries_0 hl 0 rfl ?_
  refine r_iload_n C0 dX6_tries_1 hl 1 rfl ?_
  obtain ⟨z1, hz1, h⟩ := bnd_some h
  have hPc := vaP_sel (Wc := [wArr K aS 353 S]) hP [0] rfl
  refine r_cI (va_runS (As := [.ref aS, .int x1]) (rest := []) C0.1 (ctX6_isIdle l D K aS S x1 z1 hz1) (va_cwS 2 C0.1.2.2.2.2 (gdS wd19_0 wd19_1 wd1_5 wd19_2) rfl rfl rfl (by decide +kernel) ⟨Nat.le_of_ble_eq_true rfl, Nat.le_of_ble_eq_true rfl⟩) ⟨pcR_blind, pcR_of hPc C0.2.2.2⟩ rfl rfl hl.1 rfl (lv_room (Nat.le_of_ble_eq_true rfl)) dX6_tries_2 ⟨Nat.zero_le _, Nat.zero_le _⟩).run ?_
  refine r_if_eq h C0 28 dX6_tries_5 (by decide) (fun h => ?_) (fun h => ?_)
  · exact r_vret h C0 (fun (u : (Nat → Int32)) => (fl [wArr K aS 353 u])) hP hD hS dX6_tries_28
  · refine r_iload_n C0 dX6_tries_8 hl 1 rfl ?_
    refine r_if_le h C0 20 dX6_tries_9 (by decide) (fun h => ?_) (fun h => ?_)
    · exact wX6_tries_20 C0 hA S x1 h _ _ hP hD hS _ (lv_sub hl [0, 1] rfl)
    · refine r_aload_n C0 dX6_tries_12 hl 0 rfl ?_
      refine r_iload_n C0 dX6_tries_13 hl 1 rfl ?_
      obtain ⟨z2, hz2, h⟩ := bnd_some h
      have hPc := vaP_sel (Wc := [wArr K aS 353 S]) hP [0] rfl
      refine r_cI (va_runS (As := [.ref aS, .int x1]) (rest := []) C0.1 (ctX6_waiting l D K aS S x1 z2 hz2) (va_cwS 2 C0.1.2.2.2.2 (gdS wd19_12 wd19_13 wd1_5 wd19_14) rfl rfl rfl (by decide +kernel) ⟨Nat.le_of_ble_eq_true rfl, Nat.le_of_ble_eq_true rfl⟩) ⟨pcR_blind, pcR_of hPc C0.2.2.2⟩ rfl rfl hl.1 rfl (lv_room (Nat.le_of_ble_eq_true rfl)) dX6_tries_14 ⟨Nat.zero_le _, Nat.zero_le _⟩).run ?_
      refine r_if_eq h C0 28 dX6_tries_17 (by decide) (fun h => ?_) (fun h => ?_)
      · exact r_vret h C0 (fun (u : (Nat → Int32)) => (fl [wArr K aS 353 u])) hP hD hS dX6_tries_28
      · exact wX6_tries_20 C0 hA S x1 h _ _ hP hD hS _ (lv_sub hl [0, 1] rfl)
set_option maxHeartbeats 1000000 in
set_option maxRecDepth 10000 in
theorem ctX6_tries (l : Launch) (D : va_G) (K : Nat → ClassId) (N : Nat) (aS : Nat) (S : Nat → Int32) (p1 : Int32) (sz : Nat) (z : (Nat → Int32)) (hz : fX6_tries N S p1 = some z) : Met l yX6_tries wsX6_tries rmX6_tries (pcW D K [.ref aS, .int p1] (fl [wArr K aS 353 S]) sz) (qcV D z (fun (u : (Nat → Int32)) => (fl [wArr K aS 353 u])) (va_A (fl [wArr K aS 353 S]) sz)) 0 0 (va_A (fl [wArr K aS 353 S]) sz) := by
  refine Met.ofW (cc := cX6_tries) (maxL := 6) (ret := none) (by decide) rfl ?_
  intro p e s m args below meth c s₁ B hml hv
  obtain ⟨rfl, hsz, hP, hK, hD0⟩ := hv
  subst hsz
  have C0 : cx p s m _ meth c cX6_tries 6 RX6 wsX6_tries none D K := ⟨⟨B.exec, B.bytes, hml, findClass_of_methodNamed B.named, atoms_spec (ws := wsX6_tries) B.pre⟩, B.returns, B.notSynchronized, hK⟩
  have hD := hD0.self (sz := s.heap.size)
  generalize hAe : va_A (fl [wArr K aS 353 S]) s.heap.size = A at hD ⊢
  have hA : ∀ q : Nat, s.heap.size ≤ q → A q := fun q h => by rw [← hAe]; exact Or.inr h
  have hl := lv_entry ([.ref aS, .int p1]) (n := 6) (Nat.le_of_ble_eq_true rfl)
  rw [lg_entry_eq]
  generalize (lg_sl ([.ref aS, .int p1]) ++ List.replicate (6 - (lg_sl ([.ref aS, .int p1])).length) Slot.unset).toArray = ls at hl ⊢
  have hl : lv_has ls 6 [(0, .ref aS), (1, .int p1)] := hl
  exact wX6_tries_0 C0 hA S p1 hz s.heap [] hP hD va_S.rf ls (lv_sub hl [0, 1] rfl)
end SX6_tries

section SX6_rounds
/-! CardLoopsModel.rounds([I)I -/
abbrev wsX6_rounds : List Cond := Cond.code yX6_rounds cX6_rounds 3 (some .int) :: wsL_law0
abbrev rmX6_rounds : Room := { frames := 3, cells := 0, slots := 0, locals := 70 }
variable {p : Program} {l : Launch} {e : Env} {s : State} {m : MethodId} {args : Array Value} {below : List Frame} {meth : Method} {c : Code} {D : va_G} {K : Nat → ClassId} {A : Nat → Prop} {N : Nat} {aS : Nat} {z : Int32 × ((Nat → Int32))}
def IX6_rounds_53 (p : Program) (l : Launch) (e : Env) (s : State) (m : MethodId) (args : Array Value) (below : List Frame) (meth : Method) (c : Code) (D : va_G) (K : Nat → ClassId) (aS : Nat) (A : Nat → Prop) (z : Int32 × ((Nat → Int32))) (k : (Nat → Int32) → Int32 → Int32 → Option (Int32 × ((Nat → Int32)))) : Prop := ∀ (S : Nat → Int32) (x1 : Int32) (x2 : Int32) (H : Heap) (locs : List Loc) (ls : Array Slot), k S x1 x2 = some z → va_P D vwCl (fl [wArr K aS 353 S]) H → va_D A (fl [wArr K aS 353 S]) → va_S A s.heap H locs → lv_has ls 3 [(0, .ref aS), (1, .int x1), (2, .int x2)] → W p l e rmX6_rounds s m args below meth c H locs 0 0 (MQ below (qcI D z (fun (u : (Nat → Int32)) => (fl [wArr K aS 353 u])) A) args s 0 0 A) (F0 m 53 ls [])
def IX6_rounds_8 (p : Program) (l : Launch) (e : Env) (s : State) (m : MethodId) (args : Array Value) (below : List Frame) (meth : Method) (c : Code) (D : va_G) (K : Nat → ClassId) (aS : Nat) (A : Nat → Prop) (z : Int32 × ((Nat → Int32))) (k : (Nat → Int32) → Int32 → Int32 → Option (Int32 × ((Nat → Int32)))) : Prop := ∀ (S : Nat → Int32) (x1 : Int32) (x2 : Int32) (H : Heap) (locs : List Loc) (ls : Array Slot), k S x1 x2 = some z → va_P D vwCl (fl [wArr K aS 353 S]) H → va_D A (fl [wArr K aS 353 S]) → va_S A s.heap H locs → lv_has ls 3 [(0, .ref aS), (1, .int x1), (2, .int x2)] → W p l e rmX6_rounds s m args below meth c H locs 0 0 (MQ below (qcI D z (fun (u : (Nat → Int32)) => (fl [wArr K aS 353 u])) A) args s 0 0 A) (F0 m 8 ls [])
set_option maxHeartbeats 1000000 in
set_option maxRecDepth 10000 in
theorem wX6_rounds_53 (C0 : cx p s m args meth c cX6_rounds 3 RX6 wsX6_rounds (some .int) D K) (hA : ∀ q, s.heap.size ≤ q → A q) {k53 : (Nat → Int32) → Int32 → Int32 → Option (Int32 × ((Nat → Int32)))} (hk53 : IX6_rounds_53 p l e s m args below meth c D K aS A z k53) (S : Nat → Int32) (x1 : Int32) (x2 : Int32) (h : fX6_rounds_53b N k53 S x1 x2 = some z) (H : Heap) (locs : List Loc) (hP : va_P D vwCl (fl [wArr K aS 353 S]) H) (hD : va_D A (fl [wArr K aS 353 S])) (hS : va_S A s.heap H locs) (ls : Array Slot) (hl : lv_has ls 3 [(0, .ref aS), (1, .int x1), (2, .int x2)]) : W p l e rmX6_rounds s m args below meth c H locs 0 0 (MQ below (qcI D z (fun (u : (Nat → Int32)) => (fl [wArr K aS 353 u])) A) args s 0 0 A) (F0 m 53 ls []) := by
  unfold fX6_rounds_53b at h
  refine r_iload_n C0 dX6_rounds_53 hl 2 rfl ?_
  refine r_if_lt h C0 68 dX6_rounds_54 (by decide) (fun h => ?_) (fun h => ?_)
  · refine r_iload_n C0 dX6_rounds_68 hl 1 rfl ?_
    exact r_iret h C0 (fun (u : (Nat → Int32)) => (fl [wArr K aS 353 u])) hP hD hS dX6_rounds_69
  · refine r_aload_n C0 dX6_rounds_57 hl 0 rfl ?_
    refine r_iload_n C0 dX6_rounds_58 hl 2 rfl ?_
    obtain ⟨z1, hz1, h⟩ := bnd_some h
    refine r_callVC (Wc := [wArr K aS 353 S]) (wf := fun (u : (Nat → Int32)) => [wArr K aS 353 u]) (Wn := [wArr K aS 353 z1]) hP hD hS hA [0] [] [0] 1 rfl rfl (by decide) rfl rfl (by decide) (fun hPc hDc hFc => va_runS (As := [.ref aS, .int x2]) (rest := []) C0.1 (ctX6_tries l D K N aS S x2 H.size z1 hz1) (va_cwS 2 C0.1.2.2.2.2 (gdS wd19_9 wd19_10 wd1_5 wd19_11) rfl rfl rfl (by decide +kernel) ⟨Nat.le_of_ble_eq_true rfl, Nat.le_of_ble_eq_true rfl⟩) ⟨pcW_blind, pcW_of hPc hDc C0.2.2.2⟩ rfl rfl hl.1 rfl (lv_room (Nat.le_of_ble_eq_true rfl)) dX6_rounds_59 ⟨Nat.zero_le _, Nat.zero_le _⟩) (fun H locs hP hD hS => ?_)
    refine r_iinc h C0 2 (fun v2 => [(2, .int v2), (0, .ref aS), (1, .int x1)]) dX6_rounds_62 hl rfl rfl (by decide) (fun _ => rfl) (fun v2 ls h hl => ?_)
    refine r_goto C0 53 dX6_rounds_65 (by decide) ?_
    exact hk53 z1 x1 v2 _ _ _ h hP hD hS (lv_sub hl [1, 2, 0] rfl)
theorem wX6_rounds_53L (C0 : cx p s m args meth c cX6_rounds 3 RX6 wsX6_rounds (some .int) D K) (hA : ∀ q, s.heap.size ≤ q → A q) : IX6_rounds_53 p l e s m args below meth c D K aS A z (fX6_rounds_53 N) := by
  refine itn_ind (IX6_rounds_53 p l e s m args below meth c D K aS A z) ?_ ?_ N
  · intro _ _ _ _ _ _ h; cases h
  · intro k53 hk53 S x1 x2 H locs ls h hP hD hS hl
    exact wX6_rounds_53 C0 hA hk53 S x1 x2 h H locs hP hD hS ls hl
set_option maxHeartbeats 1000000 in
set_option maxRecDepth 10000 in
theorem wX6_rounds_41 (C0 : cx p s m args meth c cX6_rounds 3 RX6 wsX6_rounds (some .int) D K) (hA : ∀ q, s.heap.size ≤ q → A q) {k8 : (Nat → Int32) → Int32 → Int32 → Option (Int32 × ((Nat → Int32)))} (hk8 : IX6_rounds_8 p l e s m args below meth c D K aS A z k8) (S : Nat → Int32) (x1 : Int32) (x2 : Int32) (h : fX6_rounds_41 N k8 S x1 x2 = some z) (H : Heap) (locs : List Loc) (hP : va_P D vwCl (fl [wArr K aS 353 S]) H) (hD : va_D A (fl [wArr K aS 353 S])) (hS : va_S A s.heap H locs) (ls : Array Slot) (hl : lv_has ls 3 [(0, .ref aS), (1, .int x1), (2, .int x2)]) : W p l e rmX6_rounds s m args below meth c H locs 0 0 (MQ below (qcI D z (fun (u : (Nat → Int32)) => (fl [wArr K aS 353 u])) A) args s 0 0 A) (F0 m 41 ls []) := by
  unfold fX6_rounds_41 at h
  refine r_iinc h C0 2 (fun v1 => [(2, .int v1), (0, .ref aS), (1, .int x1)]) dX6_rounds_41 hl rfl rfl (by decide) (fun _ => rfl) (fun v1 ls h hl => ?_)
  refine r_goto C0 8 dX6_rounds_44 (by decide) ?_
  exact hk8 S x1 v1 _ _ _ h hP hD hS (lv_sub hl [1, 2, 0] rfl)
set_option maxHeartbeats 1000000 in
set_option maxRecDepth 10000 in
theorem wX6_rounds_8 (C0 : cx p s m args meth c cX6_rounds 3 RX6 wsX6_rounds (some .int) D K) (hA : ∀ q, s.heap.size ≤ q → A q) {k8 : (Nat → Int32) → Int32 → Int32 → Option (Int32 × ((Nat → Int32)))} (hk8 : IX6_rounds_8 p l e s m args below meth c D K aS A z k8) (S : Nat → Int32) (x1 : Int32) (x2 : Int32) (h : fX6_rounds_8b N k8 S x1 x2 = some z) (H : Heap) (locs : List Loc) (hP : va_P D vwCl (fl [wArr K aS 353 S]) H) (hD : va_D A (fl [wArr K aS 353 S])) (hS : va_S A s.heap H locs) (ls : Array Slot) (hl : lv_has ls 3 [(0, .ref aS), (1, .int x1), (2, .int x2)]) : W p l e rmX6_rounds s m args below meth c H locs 0 0 (MQ below (qcI D z (fun (u : (Nat → Int32)) => (fl [wArr K aS 353 u])) A) args s 0 0 A) (F0 m 8 ls []) := by
  unfold fX6_rounds_8b at h
  refine r_iload_n C0 dX6_rounds_8 hl 2 rfl ?_
  refine r_if_lt h C0 47 dX6_rounds_9 (by decide) (fun h => ?_) (fun h => ?_)
  · refine r_aload_n C0 dX6_rounds_47 hl 0 rfl ?_
    refine r_iconst C0 (nI 1) dX6_rounds_48 (by decide) ?_
    refine r_ialdC C0 hP 0 rfl 1 (by decide) dX6_rounds_49 ?_
    refine r_iconst C0 (nI 1) dX6_rounds_50 (by decide) ?_
    refine r_isub C0 dX6_rounds_51 ?_
    refine r_istore_n h C0 (fun v1 => [(2, .int v1), (0, .ref aS), (1, .int x1)]) dX6_rounds_52 hl (by decide) (fun _ => rfl) (fun v1 ls h hl => ?_)
    exact wX6_rounds_53L C0 hA S x1 v1 _ _ _ h hP hD hS (lv_sub hl [1, 2, 0] rfl)
  · refine r_aload_n C0 dX6_rounds_12 hl 0 rfl ?_
    refine r_iload_n C0 dX6_rounds_13 hl 2 rfl ?_
    obtain ⟨z2, hz2, h⟩ := bnd_some h
    have hPc := vaP_sel (Wc := [wArr K aS 353 S]) hP [0] rfl
    refine r_cI (va_runS (As := [.ref aS, .int x2]) (rest := []) C0.1 (ctX6_isIdle l D K aS S x2 z2 hz2) (va_cwS 2 C0.1.2.2.2.2 (gdS wd19_0 wd19_1 wd1_5 wd19_2) rfl rfl rfl (by decide +kernel) ⟨Nat.le_of_ble_eq_true rfl, Nat.le_of_ble_eq_true rfl⟩) ⟨pcR_blind, pcR_of hPc C0.2.2.2⟩ rfl rfl hl.1 rfl (lv_room (Nat.le_of_ble_eq_true rfl)) dX6_rounds_14 ⟨Nat.zero_le _, Nat.zero_le _⟩).run ?_
    refine r_if_ne h C0 41 dX6_rounds_17 (by decide) (fun h => ?_) (fun h => ?_)
    · exact wX6_rounds_41 C0 hA hk8 S x1 x2 h _ _ hP hD hS _ (lv_sub hl [0, 1, 2] rfl)
    · refine r_aload_n C0 dX6_rounds_20 hl 0 rfl ?_
      refine r_iload_n C0 dX6_rounds_21 hl 2 rfl ?_
      refine r_iconst C0 (nI 3) dX6_rounds_22 (by decide) ?_
      obtain ⟨z3, hz3, h⟩ := bnd_some h
      have hPc := vaP_sel (Wc := [wArr K aS 353 S]) hP [0] rfl
      refine r_cI (va_runS (As := [.ref aS, .int x2, .int (nI 3)]) (rest := []) C0.1 (ctX6_its l D K aS S x2 (nI 3) z3 hz3) (va_cwS 3 C0.1.2.2.2.2 (gdS wd19_3 wd19_4 wd1_5 wd19_5) rfl rfl rfl (by decide +kernel) ⟨Nat.le_of_ble_eq_true rfl, Nat.le_of_ble_eq_true rfl⟩) ⟨pcR_blind, pcR_of hPc C0.2.2.2⟩ rfl rfl hl.1 rfl (lv_room (Nat.le_of_ble_eq_true rfl)) dX6_rounds_23 ⟨Nat.zero_le _, Nat.zero_le _⟩).run ?_
      refine r_aload_n C0 dX6_rounds_26 hl 0 rfl ?_
      refine r_bipush C0 (nI 48) dX6_rounds_27 (by decide) ?_
      refine r_ialdC C0 hP 0 rfl 48 (by decide) dX6_rounds_29 ?_
      refine r_icmp_ne h C0 41 dX6_rounds_30 (by decide) (fun h => ?_) (fun h => ?_)
      · exact wX6_rounds_41 C0 hA hk8 S x1 x2 h _ _ hP hD hS _ (lv_sub hl [0, 1, 2] rfl)
      · refine r_iload_n C0 dX6_rounds_33 hl 1 rfl ?_
        refine r_aload_n C0 dX6_rounds_34 hl 0 rfl ?_
        refine r_iload_n C0 dX6_rounds_35 hl 2 rfl ?_
        obtain ⟨z4, hz4, h⟩ := bnd_some h
        refine r_callIC (Wc := [wArr K aS 353 S]) (wf := fun (u : (Nat → Int32)) => [wArr K aS 353 u]) (Wn := [wArr K aS 353 z4.2]) hP hD hS hA [0] [] [0] 1 rfl rfl (by decide) rfl rfl (by decide) (fun hPc hDc hFc => va_runS (As := [.ref aS, .int x2]) (rest := [.int x1]) C0.1 (ctX6_goesOn l D K N aS S x2 H.size z4 hz4) (va_cwS 2 C0.1.2.2.2.2 (gdS wd19_6 wd19_7 wd1_5 wd19_8) rfl rfl rfl (by decide +kernel) ⟨Nat.le_of_ble_eq_true rfl, Nat.le_of_ble_eq_true rfl⟩) ⟨pcW_blind, pcW_of hPc hDc C0.2.2.2⟩ rfl rfl hl.1 rfl (lv_room (Nat.le_of_ble_eq_true rfl)) dX6_rounds_36 ⟨Nat.zero_le _, Nat.zero_le _⟩) (fun H locs hP hD hS => ?_)
        refine r_iadd C0 dX6_rounds_39 ?_
        refine r_istore_n h C0 (fun v5 => [(1, .int v5), (0, .ref aS), (2, .int x2)]) dX6_rounds_40 hl (by decide) (fun _ => rfl) (fun v5 ls h hl => ?_)
        exact wX6_rounds_41 C0 hA hk8 z4.2 v5 x2 h _ _ hP hD hS _ (lv_sub hl [1, 0, 2] rfl)
theorem wX6_rounds_8L (C0 : cx p s m args meth c cX6_rounds 3 RX6 wsX6_rounds (some .int) D K) (hA : ∀ q, s.heap.size ≤ q → A q) : IX6_rounds_8 p l e s m args below meth c D K aS A z (fX6_rounds_8 N) := by
  refine itn_ind (IX6_rounds_8 p l e s m args below meth c D K aS A z) ?_ ?_ N
  · intro _ _ _ _ _ _ h; cases h
  · intro k8 hk8 S x1 x2 H locs ls h hP hD hS hl
    exact wX6_rounds_8 C0 hA hk8 S x1 x2 h H locs hP hD hS ls hl
set_option maxHeartbeats 1000000 in
set_option maxRecDepth 10000 in
theorem wX6_rounds_0 (C0 : cx p s m args meth c cX6_rounds 3 RX6 wsX6_rounds (some .int) D K) (hA : ∀ q, s.heap.size ≤ q → A q) (S : Nat → Int32) (h : fX6_rounds N S = some z) (H : Heap) (locs : List Loc) (hP : va_P D vwCl (fl [wArr K aS 353 S]) H) (hD : va_D A (fl [wArr K aS 353 S])) (hS : va_S A s.heap H locs) (ls : Array Slot) (hl : lv_has ls 3 [(0, .ref aS)]) : W p l e rmX6_rounds s m args below meth c H locs 0 0 (MQ below (qcI D z (fun (u : (Nat → Int32)) => (fl [wArr K aS 353 u])) A) args s 0 0 A) (F0 m 0 ls []) := by
  unfold fX6_rounds at h
  refine r_iconst C0 (nI 0) dX6_rounds_0 (by decide) ?_
  refine r_istore_n h C0 (fun v1 => [(1, .int v1), (0, .ref aS)]) dX6_rounds_1 hl (by decide) (fun _ => rfl) (fun v1 ls h hl => ?_)
  refine r_aload_n C0 dX6_rounds_2 hl 1 rfl ?_
  refine r_iconst C0 (nI 1) dX6_rounds_3 (by decide) ?_
  refine r_ialdC C0 hP 0 rfl 1 (by decide) dX6_rounds_4 ?_
  refine r_iconst C0 (nI 1) dX6_rounds_5 (by decide) ?_
  refine r_isub C0 dX6_rounds_6 ?_
  refine r_istore_n h C0 (fun v2 => [(2, .int v2), (1, .int v1), (0, .ref aS)]) dX6_rounds_7 hl (by decide) (fun _ => rfl) (fun v2 ls h hl => ?_)
  exact wX6_rounds_8L C0 hA S v1 v2 _ _ _ h hP hD hS (lv_sub hl [2, 1, 0] rfl)
set_option maxHeartbeats 1000000 in
set_option maxRecDepth 10000 in
theorem ctX6_rounds (l : Launch) (D : va_G) (K : Nat → ClassId) (N : Nat) (aS : Nat) (S : Nat → Int32) (sz : Nat) (z : Int32 × ((Nat → Int32))) (hz : fX6_rounds N S = some z) : Met l yX6_rounds wsX6_rounds rmX6_rounds (pcW D K [.ref aS] (fl [wArr K aS 353 S]) sz) (qcI D z (fun (u : (Nat → Int32)) => (fl [wArr K aS 353 u])) (va_A (fl [wArr K aS 353 S]) sz)) 0 0 (va_A (fl [wArr K aS 353 S]) sz) := by
  refine Met.ofW (cc := cX6_rounds) (maxL := 3) (ret := (some .int)) (by decide) rfl ?_
  intro p e s m args below meth c s₁ B hml hv
  obtain ⟨rfl, hsz, hP, hK, hD0⟩ := hv
  subst hsz
  have C0 : cx p s m _ meth c cX6_rounds 3 RX6 wsX6_rounds (some .int) D K := ⟨⟨B.exec, B.bytes, hml, findClass_of_methodNamed B.named, atoms_spec (ws := wsX6_rounds) B.pre⟩, B.returns, B.notSynchronized, hK⟩
  have hD := hD0.self (sz := s.heap.size)
  generalize hAe : va_A (fl [wArr K aS 353 S]) s.heap.size = A at hD ⊢
  have hA : ∀ q : Nat, s.heap.size ≤ q → A q := fun q h => by rw [← hAe]; exact Or.inr h
  have hl := lv_entry ([.ref aS]) (n := 3) (Nat.le_of_ble_eq_true rfl)
  rw [lg_entry_eq]
  generalize (lg_sl ([.ref aS]) ++ List.replicate (3 - (lg_sl ([.ref aS])).length) Slot.unset).toArray = ls at hl ⊢
  have hl : lv_has ls 3 [(0, .ref aS)] := hl
  exact wX6_rounds_0 C0 hA S hz s.heap [] hP hD va_S.rf ls (lv_sub hl [0] rfl)
end SX6_rounds

section SX6_begins
/-! CardLoopsModel.begins([I)V -/
abbrev wsX6_begins : List Cond := Cond.code yX6_begins cX6_begins 1 none :: wsL_law0
abbrev rmX6_begins : Room := { frames := 4, cells := 0, slots := 0, locals := 92 }
variable {p : Program} {l : Launch} {e : Env} {s : State} {m : MethodId} {args : Array Value} {below : List Frame} {meth : Method} {c : Code} {D : va_G} {K : Nat → ClassId} {A : Nat → Prop} {N : Nat} {aS : Nat} {z : (Nat → Int32)}
set_option maxHeartbeats 1000000 in
set_option maxRecDepth 10000 in
theorem wX6_begins_0 (C0 : cx p s m args meth c cX6_begins 1 RX6 wsX6_begins none D K) (hA : ∀ q, s.heap.size ≤ q → A q) (S : Nat → Int32) (h : fX6_begins N S = some z) (H : Heap) (locs : List Loc) (hP : va_P D vwCl (fl [wArr K aS 353 S]) H) (hD : va_D A (fl [wArr K aS 353 S])) (hS : va_S A s.heap H locs) (ls : Array Slot) (hl : lv_has ls 1 [(0, .ref aS)]) : W p l e rmX6_begins s m args below meth c H locs 0 0 (MQ below (qcV D z (fun (u : (Nat → Int32)) => (fl [wArr K aS 353 u])) A) args s 0 0 A) (F0 m 0 ls []) := by
  unfold fX6_begins at h
  refine r_aload_n C0 dX6_begins_0 hl 0 rfl ?_
  obtain ⟨z1, hz1, h⟩ := bnd_some h
  refine r_callVC (Wc := [wArr K aS 353 S]) (wf := fun (u : (Nat → Int32)) => [wArr K aS 353 u]) (Wn := [wArr K aS 353 z1]) hP hD hS hA [0] [] [0] 1 rfl rfl (by decide) rfl rfl (by decide) (fun hPc hDc hFc => va_runS (As := [.ref aS]) (rest := []) C0.1 (ctX6_clears l D K N aS S H.size z1 hz1) (va_cwS 1 C0.1.2.2.2.2 (gdS wd5_19 wd5_20 wd1_5 wd5_21) rfl rfl rfl (by decide +kernel) ⟨Nat.le_of_ble_eq_true rfl, Nat.le_of_ble_eq_true rfl⟩) ⟨pcW_blind, pcW_of hPc hDc C0.2.2.2⟩ rfl rfl hl.1 rfl (lv_room (Nat.le_of_ble_eq_true rfl)) dX6_begins_1 ⟨Nat.zero_le _, Nat.zero_le _⟩) (fun H locs hP hD hS => ?_)
  refine r_aload_n C0 dX6_begins_4 hl 0 rfl ?_
  obtain ⟨z2, hz2, h⟩ := bnd_some h
  refine r_callIC (Wc := [wArr K aS 353 z1]) (wf := fun (u : (Nat → Int32)) => [wArr K aS 353 u]) (Wn := [wArr K aS 353 z2.2]) hP hD hS hA [0] [] [0] 1 rfl rfl (by decide) rfl rfl (by decide) (fun hPc hDc hFc => va_runS (As := [.ref aS]) (rest := []) C0.1 (ctX6_rounds l D K N aS z1 H.size z2 hz2) (va_cwS 1 C0.1.2.2.2.2 (gdS wd18_21 wd18_22 wd1_5 wd18_23) rfl rfl rfl (by decide +kernel) ⟨Nat.le_of_ble_eq_true rfl, Nat.le_of_ble_eq_true rfl⟩) ⟨pcW_blind, pcW_of hPc hDc C0.2.2.2⟩ rfl rfl hl.1 rfl (lv_room (Nat.le_of_ble_eq_true rfl)) dX6_begins_5 ⟨Nat.zero_le _, Nat.zero_le _⟩) (fun H locs hP hD hS => ?_)
  refine r_pop C0 dX6_begins_8 rfl ?_
  exact r_vret h C0 (fun (u : (Nat → Int32)) => (fl [wArr K aS 353 u])) hP hD hS dX6_begins_9
set_option maxHeartbeats 1000000 in
set_option maxRecDepth 10000 in
theorem ctX6_begins (l : Launch) (D : va_G) (K : Nat → ClassId) (N : Nat) (aS : Nat) (S : Nat → Int32) (sz : Nat) (z : (Nat → Int32)) (hz : fX6_begins N S = some z) : Met l yX6_begins wsX6_begins rmX6_begins (pcW D K [.ref aS] (fl [wArr K aS 353 S]) sz) (qcV D z (fun (u : (Nat → Int32)) => (fl [wArr K aS 353 u])) (va_A (fl [wArr K aS 353 S]) sz)) 0 0 (va_A (fl [wArr K aS 353 S]) sz) := by
  refine Met.ofW (cc := cX6_begins) (maxL := 1) (ret := none) (by decide) rfl ?_
  intro p e s m args below meth c s₁ B hml hv
  obtain ⟨rfl, hsz, hP, hK, hD0⟩ := hv
  subst hsz
  have C0 : cx p s m _ meth c cX6_begins 1 RX6 wsX6_begins none D K := ⟨⟨B.exec, B.bytes, hml, findClass_of_methodNamed B.named, atoms_spec (ws := wsX6_begins) B.pre⟩, B.returns, B.notSynchronized, hK⟩
  have hD := hD0.self (sz := s.heap.size)
  generalize hAe : va_A (fl [wArr K aS 353 S]) s.heap.size = A at hD ⊢
  have hA : ∀ q : Nat, s.heap.size ≤ q → A q := fun q h => by rw [← hAe]; exact Or.inr h
  have hl := lv_entry ([.ref aS]) (n := 1) (Nat.le_of_ble_eq_true rfl)
  rw [lg_entry_eq]
  generalize (lg_sl ([.ref aS]) ++ List.replicate (1 - (lg_sl ([.ref aS])).length) Slot.unset).toArray = ls at hl ⊢
  have hl : lv_has ls 1 [(0, .ref aS)] := hl
  exact wX6_begins_0 C0 hA S hz s.heap [] hP hD va_S.rf ls (lv_sub hl [0] rfl)
end SX6_begins

section SX6_doing
/-! CardLoopsModel.doing([II)I -/
abbrev wsX6_doing : List Cond := Cond.code yX6_doing cX6_doing 2 (some .int) :: wsL_law0
abbrev rmX6_doing : Room := { frames := 2, cells := 0, slots := 0, locals := 43 }
variable {p : Program} {l : Launch} {e : Env} {s : State} {m : MethodId} {args : Array Value} {below : List Frame} {meth : Method} {c : Code} {D : va_G} {K : Nat → ClassId} {A : Nat → Prop} {aS : Nat} {z : Int32}
set_option maxHeartbeats 1000000 in
set_option maxRecDepth 10000 in
theorem wX6_doing_24 (C0 : cx p s m args meth c cX6_doing 2 RX6 wsX6_doing (some .int) D K) (S : Nat → Int32) (h : fX6_doing_24 S = some z) (hP : va_P D vwCl (fl [wArr K aS 353 S]) s.heap) (ls : Array Slot) (hl : lv_has ls 2 []) : W p l e rmX6_doing s m args below meth c s.heap [] 0 0 (MQ below (vp_Si (fun r => r = z)) args s 0 0 (fun _ => False)) (F0 m 24 ls []) := by
  unfold fX6_doing_24 at h
  refine r_iconst C0 (nI 1) dX6_doing_24 (by decide) ?_
  exact r_iretR C0 h dX6_doing_25
set_option maxHeartbeats 1000000 in
set_option maxRecDepth 10000 in
theorem wX6_doing_0 (C0 : cx p s m args meth c cX6_doing 2 RX6 wsX6_doing (some .int) D K) (S : Nat → Int32) (x1 : Int32) (h : fX6_doing S x1 = some z) (hP : va_P D vwCl (fl [wArr K aS 353 S]) s.heap) (ls : Array Slot) (hl : lv_has ls 2 [(0, .ref aS), (1, .int x1)]) : W p l e rmX6_doing s m args below meth c s.heap [] 0 0 (MQ below (vp_Si (fun r => r = z)) args s 0 0 (fun _ => False)) (F0 m 0 ls []) := by
  unfold fX6_doing at h
  refine r_aload_n C0 dX6_doing_0 hl 0 rfl ?_
  refine r_iload_n C0 dX6_doing_1 hl 1 rfl ?_
  obtain ⟨z1, hz1, h⟩ := bnd_some h
  have hPc := vaP_sel (Wc := [wArr K aS 353 S]) hP [0] rfl
  refine r_cI (va_runS (As := [.ref aS, .int x1]) (rest := []) C0.1 (ctX6_isIdle l D K aS S x1 z1 hz1) (va_cwS 2 C0.1.2.2.2.2 (gdS wd19_0 wd19_1 wd1_5 wd19_2) rfl rfl rfl (by decide +kernel) ⟨Nat.le_of_ble_eq_true rfl, Nat.le_of_ble_eq_true rfl⟩) ⟨pcR_blind, pcR_of hPc C0.2.2.2⟩ rfl rfl hl.1 rfl (lv_room (Nat.le_of_ble_eq_true rfl)) dX6_doing_2 ⟨Nat.zero_le _, Nat.zero_le _⟩).run ?_
  refine r_if_eq h C0 26 dX6_doing_5 (by decide) (fun h => ?_) (fun h => ?_)
  · refine r_aload_n C0 dX6_doing_26 hl 0 rfl ?_
    refine r_bipush C0 (nI 48) dX6_doing_27 (by decide) ?_
    refine r_ialdC C0 hP 0 rfl 48 (by decide) dX6_doing_29 ?_
    refine r_aload_n C0 dX6_doing_30 hl 0 rfl ?_
    refine r_iload_n C0 dX6_doing_31 hl 1 rfl ?_
    refine r_iconst C0 (nI 2) dX6_doing_32 (by decide) ?_
    obtain ⟨z2, hz2, h⟩ := bnd_some h
    have hPc := vaP_sel (Wc := [wArr K aS 353 S]) hP [0] rfl
    refine r_cI (va_runS (As := [.ref aS, .int x1, .int (nI 2)]) (rest := [.int (S 48)]) C0.1 (ctX6_its l D K aS S x1 (nI 2) z2 hz2) (va_cwS 3 C0.1.2.2.2.2 (gdS wd19_3 wd19_4 wd1_5 wd19_5) rfl rfl rfl (by decide +kernel) ⟨Nat.le_of_ble_eq_true rfl, Nat.le_of_ble_eq_true rfl⟩) ⟨pcR_blind, pcR_of hPc C0.2.2.2⟩ rfl rfl hl.1 rfl (lv_room (Nat.le_of_ble_eq_true rfl)) dX6_doing_33 ⟨Nat.zero_le _, Nat.zero_le _⟩).run ?_
    refine r_icmp_ge h C0 43 dX6_doing_36 (by decide) (fun h => ?_) (fun h => ?_)
    · refine r_iconst C0 (nI 3) dX6_doing_43 (by decide) ?_
      exact r_iretR C0 h dX6_doing_44
    · refine r_iconst C0 (nI 2) dX6_doing_39 (by decide) ?_
      refine r_goto C0 44 dX6_doing_40 (by decide) ?_
      exact r_iretR C0 h dX6_doing_44
  · refine r_iload_n C0 dX6_doing_8 hl 1 rfl ?_
    refine r_if_le h C0 24 dX6_doing_9 (by decide) (fun h => ?_) (fun h => ?_)
    · exact wX6_doing_24 C0 S h hP _ (lv_sub hl [] rfl)
    · refine r_aload_n C0 dX6_doing_12 hl 0 rfl ?_
      refine r_iload_n C0 dX6_doing_13 hl 1 rfl ?_
      obtain ⟨z3, hz3, h⟩ := bnd_some h
      have hPc := vaP_sel (Wc := [wArr K aS 353 S]) hP [0] rfl
      refine r_cI (va_runS (As := [.ref aS, .int x1]) (rest := []) C0.1 (ctX6_waiting l D K aS S x1 z3 hz3) (va_cwS 2 C0.1.2.2.2.2 (gdS wd19_12 wd19_13 wd1_5 wd19_14) rfl rfl rfl (by decide +kernel) ⟨Nat.le_of_ble_eq_true rfl, Nat.le_of_ble_eq_true rfl⟩) ⟨pcR_blind, pcR_of hPc C0.2.2.2⟩ rfl rfl hl.1 rfl (lv_room (Nat.le_of_ble_eq_true rfl)) dX6_doing_14 ⟨Nat.zero_le _, Nat.zero_le _⟩).run ?_
      refine r_if_ne h C0 24 dX6_doing_17 (by decide) (fun h => ?_) (fun h => ?_)
      · exact wX6_doing_24 C0 S h hP _ (lv_sub hl [] rfl)
      · refine r_iconst C0 (nI 0) dX6_doing_20 (by decide) ?_
        refine r_goto C0 25 dX6_doing_21 (by decide) ?_
        exact r_iretR C0 h dX6_doing_25
set_option maxHeartbeats 1000000 in
set_option maxRecDepth 10000 in
theorem ctX6_doing (l : Launch) (D : va_G) (K : Nat → ClassId) (aS : Nat) (S : Nat → Int32) (p1 : Int32) (z : Int32) (hz : fX6_doing S p1 = some z) : Met l yX6_doing wsX6_doing rmX6_doing (pcR D K [.ref aS, .int p1] (fl [wArr K aS 353 S])) (vp_Si (fun r => r = z)) 0 0 (fun _ => False) := by
  refine Met.ofW (cc := cX6_doing) (maxL := 2) (ret := (some .int)) (by decide) rfl ?_
  intro p e s m args below meth c s₁ B hml hv
  obtain ⟨rfl, hP, hK⟩ := hv
  have C0 : cx p s m _ meth c cX6_doing 2 RX6 wsX6_doing (some .int) D K := ⟨⟨B.exec, B.bytes, hml, findClass_of_methodNamed B.named, atoms_spec (ws := wsX6_doing) B.pre⟩, B.returns, B.notSynchronized, hK⟩
  have hl := lv_entry ([.ref aS, .int p1]) (n := 2) (Nat.le_of_ble_eq_true rfl)
  rw [lg_entry_eq]
  generalize (lg_sl ([.ref aS, .int p1]) ++ List.replicate (2 - (lg_sl ([.ref aS, .int p1])).length) Slot.unset).toArray = ls at hl ⊢
  have hl : lv_has ls 2 [(0, .ref aS), (1, .int p1)] := hl
  exact wX6_doing_0 C0 S p1 hz hP ls (lv_sub hl [0, 1] rfl)
end SX6_doing

section SX6_waits
/-! CardLoopsModel.waits([II)V -/
abbrev wsX6_waits : List Cond := Cond.code yX6_waits cX6_waits 5 none :: wsL_law0
abbrev rmX6_waits : Room := { frames := 3, cells := 0, slots := 0, locals := 64 }
variable {p : Program} {l : Launch} {e : Env} {s : State} {m : MethodId} {args : Array Value} {below : List Frame} {meth : Method} {c : Code} {D : va_G} {K : Nat → ClassId} {A : Nat → Prop} {N : Nat} {aS : Nat} {z : (Nat → Int32)}
def IX6_waits_2 (p : Program) (l : Launch) (e : Env) (s : State) (m : MethodId) (args : Array Value) (below : List Frame) (meth : Method) (c : Code) (D : va_G) (K : Nat → ClassId) (aS : Nat) (A : Nat → Prop) (z : (Nat → Int32)) (k : (Nat → Int32) → Int32 → Int32 → Option ((Nat → Int32))) : Prop := ∀ (S : Nat → Int32) (x1 : Int32) (x2 : Int32) (H : Heap) (locs : List Loc) (ls : Array Slot), k S x1 x2 = some z → va_P D vwCl (fl [wArr K aS 353 S]) H → va_D A (fl [wArr K aS 353 S]) → va_S A s.heap H locs → lv_has ls 5 [(0, .ref aS), (1, .int x1), (2, .int x2)] → W p l e rmX6_waits s m args below meth c H locs 0 0 (MQ below (qcV D z (fun (u : (Nat → Int32)) => (fl [wArr K aS 353 u])) A) args s 0 0 A) (F0 m 2 ls [])
set_option maxHeartbeats 1000000 in
set_option maxRecDepth 10000 in
theorem wX6_waits_50 (C0 : cx p s m args meth c cX6_waits 5 RX6 wsX6_waits none D K) (hA : ∀ q, s.heap.size ≤ q → A q) {k2 : (Nat → Int32) → Int32 → Int32 → Option ((Nat → Int32))} (hk2 : IX6_waits_2 p l e s m args below meth c D K aS A z k2) (S : Nat → Int32) (x1 : Int32) (x2 : Int32) (x3 : Int32) (y0 : Int32) (h : fX6_waits_50 N k2 S x1 x2 x3 y0 = some z) (H : Heap) (locs : List Loc) (hP : va_P D vwCl (fl [wArr K aS 353 S]) H) (hD : va_D A (fl [wArr K aS 353 S])) (hS : va_S A s.heap H locs) (ls : Array Slot) (hl : lv_has ls 5 [(0, .ref aS), (1, .int x1), (2, .int x2), (3, .int x3)]) : W p l e rmX6_waits s m args below meth c H locs 0 0 (MQ below (qcV D z (fun (u : (Nat → Int32)) => (fl [wArr K aS 353 u])) A) args s 0 0 A) (F0 m 50 ls [.int y0]) := by
  unfold fX6_waits_50 at h
  refine r_istore h C0 (fun v1 => [(4, .int v1), (0, .ref aS), (1, .int x1), (2, .int x2), (3, .int x3)]) dX6_waits_50 hl (by decide) (fun _ => rfl) (fun v1 ls h hl => ?_)
  refine r_aload_n C0 dX6_waits_52 hl 1 rfl ?_
  refine r_bipush C0 (nI 53) dX6_waits_53 (by decide) ?_
  refine r_bipush C0 (nI 9) dX6_waits_55 (by decide) ?_
  refine r_iload_n C0 dX6_waits_57 hl 3 rfl ?_
  refine r_imul C0 dX6_waits_58 ?_
  refine r_iadd C0 dX6_waits_59 ?_
  refine r_iconst C0 (nI 5) dX6_waits_60 (by decide) ?_
  refine r_iadd C0 dX6_waits_61 ?_
  refine r_iload_n C0 dX6_waits_62 hl 4 rfl ?_
  refine r_iadd C0 dX6_waits_63 ?_
  refine r_dup2 C0 dX6_waits_64 rfl rfl ?_
  refine r_iald h C0 hP 0 rfl dX6_waits_65 (fun h => ?_)
  refine r_iload C0 dX6_waits_66 hl 0 rfl ?_
  refine r_iadd C0 dX6_waits_68 ?_
  refine r_iast h C0 hP hD hS 0 (fun uu => (fl [wArr K aS 353 uu])) rfl rfl dX6_waits_69 (fun S2 H locs h hP hD hS => ?_)
  refine r_aload_n C0 dX6_waits_70 hl 1 rfl ?_
  refine r_bipush C0 (nI 53) dX6_waits_71 (by decide) ?_
  refine r_bipush C0 (nI 9) dX6_waits_73 (by decide) ?_
  refine r_iload_n C0 dX6_waits_75 hl 3 rfl ?_
  refine r_imul C0 dX6_waits_76 ?_
  refine r_iadd C0 dX6_waits_77 ?_
  refine r_iconst C0 (nI 5) dX6_waits_78 (by decide) ?_
  refine r_iadd C0 dX6_waits_79 ?_
  refine r_iconst C0 (nI 3) dX6_waits_80 (by decide) ?_
  refine r_iadd C0 dX6_waits_81 ?_
  refine r_dup2 C0 dX6_waits_82 rfl rfl ?_
  refine r_iald h C0 hP 0 rfl dX6_waits_83 (fun h => ?_)
  refine r_iload_n C0 dX6_waits_84 hl 2 rfl ?_
  refine r_iload C0 dX6_waits_85 hl 0 rfl ?_
  refine r_isub C0 dX6_waits_87 ?_
  refine r_iadd C0 dX6_waits_88 ?_
  refine r_iast h C0 hP hD hS 0 (fun uu => (fl [wArr K aS 353 uu])) rfl rfl dX6_waits_89 (fun S3 H locs h hP hD hS => ?_)
  refine r_iinc h C0 3 (fun v4 => [(2, .int v4), (4, .int v1), (0, .ref aS), (1, .int x1), (3, .int x3)]) dX6_waits_90 hl rfl rfl (by decide) (fun _ => rfl) (fun v4 ls h hl => ?_)
  refine r_goto C0 2 dX6_waits_93 (by decide) ?_
  exact hk2 S3 x1 v4 _ _ _ h hP hD hS (lv_sub hl [2, 3, 0] rfl)
set_option maxHeartbeats 1000000 in
set_option maxRecDepth 10000 in
theorem wX6_waits_49 (C0 : cx p s m args meth c cX6_waits 5 RX6 wsX6_waits none D K) (hA : ∀ q, s.heap.size ≤ q → A q) {k2 : (Nat → Int32) → Int32 → Int32 → Option ((Nat → Int32))} (hk2 : IX6_waits_2 p l e s m args below meth c D K aS A z k2) (S : Nat → Int32) (x1 : Int32) (x2 : Int32) (x3 : Int32) (h : fX6_waits_49 N k2 S x1 x2 x3 = some z) (H : Heap) (locs : List Loc) (hP : va_P D vwCl (fl [wArr K aS 353 S]) H) (hD : va_D A (fl [wArr K aS 353 S])) (hS : va_S A s.heap H locs) (ls : Array Slot) (hl : lv_has ls 5 [(0, .ref aS), (1, .int x1), (2, .int x2), (3, .int x3)]) : W p l e rmX6_waits s m args below meth c H locs 0 0 (MQ below (qcV D z (fun (u : (Nat → Int32)) => (fl [wArr K aS 353 u])) A) args s 0 0 A) (F0 m 49 ls []) := by
  unfold fX6_waits_49 at h
  refine r_iload_n C0 dX6_waits_49 hl 1 rfl ?_
  exact wX6_waits_50 C0 hA hk2 S x1 x2 x3 x1 h _ _ hP hD hS _ (lv_sub hl [0, 1, 2, 3] rfl)
set_option maxHeartbeats 1000000 in
set_option maxRecDepth 10000 in
theorem wX6_waits_2 (C0 : cx p s m args meth c cX6_waits 5 RX6 wsX6_waits none D K) (hA : ∀ q, s.heap.size ≤ q → A q) {k2 : (Nat → Int32) → Int32 → Int32 → Option ((Nat → Int32))} (hk2 : IX6_waits_2 p l e s m args below meth c D K aS A z k2) (S : Nat → Int32) (x1 : Int32) (x2 : Int32) (h : fX6_waits_2b N k2 S x1 x2 = some z) (H : Heap) (locs : List Loc) (hP : va_P D vwCl (fl [wArr K aS 353 S]) H) (hD : va_D A (fl [wArr K aS 353 S])) (hS : va_S A s.heap H locs) (ls : Array Slot) (hl : lv_has ls 5 [(0, .ref aS), (1, .int x1), (2, .int x2)]) : W p l e rmX6_waits s m args below meth c H locs 0 0 (MQ below (qcV D z (fun (u : (Nat → Int32)) => (fl [wArr K aS 353 u])) A) args s 0 0 A) (F0 m 2 ls []) := by
  unfold fX6_waits_2b at h
  refine r_iload_n C0 dX6_waits_2 hl 2 rfl ?_
  refine r_aload_n C0 dX6_waits_3 hl 0 rfl ?_
  refine r_iconst C0 (nI 1) dX6_waits_4 (by decide) ?_
  refine r_ialdC C0 hP 0 rfl 1 (by decide) dX6_waits_5 ?_
  refine r_icmp_ge h C0 96 dX6_waits_6 (by decide) (fun h => ?_) (fun h => ?_)
  · refine r_aload_n C0 dX6_waits_96 hl 0 rfl ?_
    refine r_bipush C0 (nI 48) dX6_waits_97 (by decide) ?_
    refine r_dup2 C0 dX6_waits_99 rfl rfl ?_
    refine r_ialdC C0 hP 0 rfl 48 (by decide) dX6_waits_100 ?_
    refine r_iload_n C0 dX6_waits_101 hl 1 rfl ?_
    refine r_iadd C0 dX6_waits_102 ?_
    refine r_iastC h C0 hP hD hS 0 (fun uu => (fl [wArr K aS 353 uu])) rfl 48 (by decide) rfl dX6_waits_103 (fun S1 H locs h hP hD hS => ?_)
    exact r_vret h C0 (fun (u : (Nat → Int32)) => (fl [wArr K aS 353 u])) hP hD hS dX6_waits_104
  · refine r_aload_n C0 dX6_waits_9 hl 0 rfl ?_
    refine r_iload_n C0 dX6_waits_10 hl 2 rfl ?_
    obtain ⟨z2, hz2, h⟩ := bnd_some h
    have hPc := vaP_sel (Wc := [wArr K aS 353 S]) hP [0] rfl
    refine r_cI (va_runS (As := [.ref aS, .int x2]) (rest := []) C0.1 (ctX6_doing l D K aS S x2 z2 hz2) (va_cwS 2 C0.1.2.2.2.2 (gdS wd23_1 wd23_2 wd1_5 wd23_3) rfl rfl rfl (by decide +kernel) ⟨Nat.le_of_ble_eq_true rfl, Nat.le_of_ble_eq_true rfl⟩) ⟨pcR_blind, pcR_of hPc C0.2.2.2⟩ rfl rfl hl.1 rfl (lv_room (Nat.le_of_ble_eq_true rfl)) dX6_waits_11 ⟨Nat.zero_le _, Nat.zero_le _⟩).run ?_
    refine r_istore_n h C0 (fun v3 => [(3, .int v3), (0, .ref aS), (1, .int x1), (2, .int x2)]) dX6_waits_14 hl (by decide) (fun _ => rfl) (fun v3 ls h hl => ?_)
    refine r_iload_n C0 dX6_waits_15 hl 0 rfl ?_
    refine r_iconst C0 (nI 2) dX6_waits_16 (by decide) ?_
    refine r_icmp_ne h C0 49 dX6_waits_17 (by decide) (fun h => ?_) (fun h => ?_)
    · exact wX6_waits_49 C0 hA hk2 S x1 x2 v3 h _ _ hP hD hS _ (lv_sub hl [1, 2, 3, 0] rfl)
    · refine r_aload_n C0 dX6_waits_20 hl 1 rfl ?_
      refine r_iload_n C0 dX6_waits_21 hl 3 rfl ?_
      refine r_iconst C0 (nI 2) dX6_waits_22 (by decide) ?_
      obtain ⟨z4, hz4, h⟩ := bnd_some h
      have hPc := vaP_sel (Wc := [wArr K aS 353 S]) hP [0] rfl
      refine r_cI (va_runS (As := [.ref aS, .int x2, .int (nI 2)]) (rest := []) C0.1 (ctX6_its l D K aS S x2 (nI 2) z4 hz4) (va_cwS 3 C0.1.2.2.2.2 (gdS wd19_3 wd19_4 wd1_5 wd19_5) rfl rfl rfl (by decide +kernel) ⟨Nat.le_of_ble_eq_true rfl, Nat.le_of_ble_eq_true rfl⟩) ⟨pcR_blind, pcR_of hPc C0.2.2.2⟩ rfl rfl hl.1 rfl (lv_room (Nat.le_of_ble_eq_true rfl)) dX6_waits_23 ⟨Nat.zero_le _, Nat.zero_le _⟩).run ?_
      refine r_aload_n C0 dX6_waits_26 hl 1 rfl ?_
      refine r_bipush C0 (nI 48) dX6_waits_27 (by decide) ?_
      refine r_ialdC C0 hP 0 rfl 48 (by decide) dX6_waits_29 ?_
      refine r_isub C0 dX6_waits_30 ?_
      refine r_iload_n C0 dX6_waits_31 hl 2 rfl ?_
      refine r_icmp_ge h C0 49 dX6_waits_32 (by decide) (fun h => ?_) (fun h => ?_)
      · exact wX6_waits_49 C0 hA hk2 S x1 x2 v3 h _ _ hP hD hS _ (lv_sub hl [1, 2, 3, 0] rfl)
      · refine r_aload_n C0 dX6_waits_35 hl 1 rfl ?_
        refine r_iload_n C0 dX6_waits_36 hl 3 rfl ?_
        refine r_iconst C0 (nI 2) dX6_waits_37 (by decide) ?_
        obtain ⟨z5, hz5, h⟩ := bnd_some h
        have hPc := vaP_sel (Wc := [wArr K aS 353 S]) hP [0] rfl
        refine r_cI (va_runS (As := [.ref aS, .int x2, .int (nI 2)]) (rest := []) C0.1 (ctX6_its l D K aS S x2 (nI 2) z5 hz5) (va_cwS 3 C0.1.2.2.2.2 (gdS wd19_3 wd19_4 wd1_5 wd19_5) rfl rfl rfl (by decide +kernel) ⟨Nat.le_of_ble_eq_true rfl, Nat.le_of_ble_eq_true rfl⟩) ⟨pcR_blind, pcR_of hPc C0.2.2.2⟩ rfl rfl hl.1 rfl (lv_room (Nat.le_of_ble_eq_true rfl)) dX6_waits_38 ⟨Nat.zero_le _, Nat.zero_le _⟩).run ?_
        refine r_aload_n C0 dX6_waits_41 hl 1 rfl ?_
        refine r_bipush C0 (nI 48) dX6_waits_42 (by decide) ?_
        refine r_ialdC C0 hP 0 rfl 48 (by decide) dX6_waits_44 ?_
        refine r_isub C0 dX6_waits_45 ?_
        refine r_goto C0 50 dX6_waits_46 (by decide) ?_
        exact wX6_waits_50 C0 hA hk2 S x1 x2 v3 (z5 - (S 48)) h _ _ hP hD hS _ (lv_sub hl [1, 2, 3, 0] rfl)
theorem wX6_waits_2L (C0 : cx p s m args meth c cX6_waits 5 RX6 wsX6_waits none D K) (hA : ∀ q, s.heap.size ≤ q → A q) : IX6_waits_2 p l e s m args below meth c D K aS A z (fX6_waits_2 N) := by
  refine itn_ind (IX6_waits_2 p l e s m args below meth c D K aS A z) ?_ ?_ N
  · intro _ _ _ _ _ _ h; cases h
  · intro k2 hk2 S x1 x2 H locs ls h hP hD hS hl
    exact wX6_waits_2 C0 hA hk2 S x1 x2 h H locs hP hD hS ls hl
set_option maxHeartbeats 1000000 in
set_option maxRecDepth 10000 in
theorem wX6_waits_0 (C0 : cx p s m args meth c cX6_waits 5 RX6 wsX6_waits none D K) (hA : ∀ q, s.heap.size ≤ q → A q) (S : Nat → Int32) (x1 : Int32) (h : fX6_waits N S x1 = some z) (H : Heap) (locs : List Loc) (hP : va_P D vwCl (fl [wArr K aS 353 S]) H) (hD : va_D A (fl [wArr K aS 353 S])) (hS : va_S A s.heap H locs) (ls : Array Slot) (hl : lv_has ls 5 [(0, .ref aS), (1, .int x1)]) : W p l e rmX6_waits s m args below meth c H locs 0 0 (MQ below (qcV D z (fun (u : (Nat → Int32)) => (fl [wArr K aS 353 u])) A) args s 0 0 A) (F0 m 0 ls []) := by
  unfold fX6_waits at h
  refine r_iconst C0 (nI 0) dX6_waits_0 (by decide) ?_
  refine r_istore_n h C0 (fun v1 => [(2, .int v1), (0, .ref aS), (1, .int x1)]) dX6_waits_1 hl (by decide) (fun _ => rfl) (fun v1 ls h hl => ?_)
  exact wX6_waits_2L C0 hA S x1 v1 _ _ _ h hP hD hS (lv_sub hl [1, 2, 0] rfl)
set_option maxHeartbeats 1000000 in
set_option maxRecDepth 10000 in
theorem ctX6_waits (l : Launch) (D : va_G) (K : Nat → ClassId) (N : Nat) (aS : Nat) (S : Nat → Int32) (p1 : Int32) (sz : Nat) (z : (Nat → Int32)) (hz : fX6_waits N S p1 = some z) : Met l yX6_waits wsX6_waits rmX6_waits (pcW D K [.ref aS, .int p1] (fl [wArr K aS 353 S]) sz) (qcV D z (fun (u : (Nat → Int32)) => (fl [wArr K aS 353 u])) (va_A (fl [wArr K aS 353 S]) sz)) 0 0 (va_A (fl [wArr K aS 353 S]) sz) := by
  refine Met.ofW (cc := cX6_waits) (maxL := 5) (ret := none) (by decide) rfl ?_
  intro p e s m args below meth c s₁ B hml hv
  obtain ⟨rfl, hsz, hP, hK, hD0⟩ := hv
  subst hsz
  have C0 : cx p s m _ meth c cX6_waits 5 RX6 wsX6_waits none D K := ⟨⟨B.exec, B.bytes, hml, findClass_of_methodNamed B.named, atoms_spec (ws := wsX6_waits) B.pre⟩, B.returns, B.notSynchronized, hK⟩
  have hD := hD0.self (sz := s.heap.size)
  generalize hAe : va_A (fl [wArr K aS 353 S]) s.heap.size = A at hD ⊢
  have hA : ∀ q : Nat, s.heap.size ≤ q → A q := fun q h => by rw [← hAe]; exact Or.inr h
  have hl := lv_entry ([.ref aS, .int p1]) (n := 5) (Nat.le_of_ble_eq_true rfl)
  rw [lg_entry_eq]
  generalize (lg_sl ([.ref aS, .int p1]) ++ List.replicate (5 - (lg_sl ([.ref aS, .int p1])).length) Slot.unset).toArray = ls at hl ⊢
  have hl : lv_has ls 5 [(0, .ref aS), (1, .int p1)] := hl
  exact wX6_waits_0 C0 hA S p1 hz s.heap [] hP hD va_S.rf ls (lv_sub hl [0, 1] rfl)
end SX6_waits

section SX6_nextTime
/-! CardLoopsModel.nextTime([I)I -/
abbrev wsX6_nextTime : List Cond := Cond.code yX6_nextTime cX6_nextTime 3 (some .int) :: wsL_law0
abbrev rmX6_nextTime : Room := { frames := 2, cells := 0, slots := 0, locals := 43 }
variable {p : Program} {l : Launch} {e : Env} {s : State} {m : MethodId} {args : Array Value} {below : List Frame} {meth : Method} {c : Code} {D : va_G} {K : Nat → ClassId} {A : Nat → Prop} {N : Nat} {aS : Nat} {z : Int32}
def IX6_nextTime_4 (p : Program) (l : Launch) (e : Env) (s : State) (m : MethodId) (args : Array Value) (below : List Frame) (meth : Method) (c : Code) (D : va_G) (K : Nat → ClassId) (aS : Nat) (z : Int32) (k : (Nat → Int32) → Int32 → Int32 → Option (Int32)) : Prop := ∀ (S : Nat → Int32) (x1 : Int32) (x2 : Int32) (ls : Array Slot), k S x1 x2 = some z → va_P D vwCl (fl [wArr K aS 353 S]) s.heap → lv_has ls 3 [(0, .ref aS), (1, .int x1), (2, .int x2)] → W p l e rmX6_nextTime s m args below meth c s.heap [] 0 0 (MQ below (vp_Si (fun r => r = z)) args s 0 0 (fun _ => False)) (F0 m 4 ls [])
set_option maxHeartbeats 1000000 in
set_option maxRecDepth 10000 in
theorem wX6_nextTime_41 (C0 : cx p s m args meth c cX6_nextTime 3 RX6 wsX6_nextTime (some .int) D K) {k4 : (Nat → Int32) → Int32 → Int32 → Option (Int32)} (hk4 : IX6_nextTime_4 p l e s m args below meth c D K aS z k4) (S : Nat → Int32) (x1 : Int32) (x2 : Int32) (h : fX6_nextTime_41 N k4 S x1 x2 = some z) (hP : va_P D vwCl (fl [wArr K aS 353 S]) s.heap) (ls : Array Slot) (hl : lv_has ls 3 [(0, .ref aS), (1, .int x1), (2, .int x2)]) : W p l e rmX6_nextTime s m args below meth c s.heap [] 0 0 (MQ below (vp_Si (fun r => r = z)) args s 0 0 (fun _ => False)) (F0 m 41 ls []) := by
  unfold fX6_nextTime_41 at h
  refine r_iinc h C0 2 (fun v1 => [(2, .int v1), (0, .ref aS), (1, .int x1)]) dX6_nextTime_41 hl rfl rfl (by decide) (fun _ => rfl) (fun v1 ls h hl => ?_)
  refine r_goto C0 4 dX6_nextTime_44 (by decide) ?_
  exact hk4 S x1 v1 _ h hP (lv_sub hl [1, 2, 0] rfl)
set_option maxHeartbeats 1000000 in
set_option maxRecDepth 10000 in
theorem wX6_nextTime_34 (C0 : cx p s m args meth c cX6_nextTime 3 RX6 wsX6_nextTime (some .int) D K) {k4 : (Nat → Int32) → Int32 → Int32 → Option (Int32)} (hk4 : IX6_nextTime_4 p l e s m args below meth c D K aS z k4) (S : Nat → Int32) (x2 : Int32) (h : fX6_nextTime_34 N k4 S x2 = some z) (hP : va_P D vwCl (fl [wArr K aS 353 S]) s.heap) (ls : Array Slot) (hl : lv_has ls 3 [(0, .ref aS), (2, .int x2)]) : W p l e rmX6_nextTime s m args below meth c s.heap [] 0 0 (MQ below (vp_Si (fun r => r = z)) args s 0 0 (fun _ => False)) (F0 m 34 ls []) := by
  unfold fX6_nextTime_34 at h
  refine r_aload_n C0 dX6_nextTime_34 hl 0 rfl ?_
  refine r_iload_n C0 dX6_nextTime_35 hl 1 rfl ?_
  refine r_iconst C0 (nI 3) dX6_nextTime_36 (by decide) ?_
  obtain ⟨z1, hz1, h⟩ := bnd_some h
  have hPc := vaP_sel (Wc := [wArr K aS 353 S]) hP [0] rfl
  refine r_cI (va_runS (As := [.ref aS, .int x2, .int (nI 3)]) (rest := []) C0.1 (ctX6_its l D K aS S x2 (nI 3) z1 hz1) (va_cwS 3 C0.1.2.2.2.2 (gdS wd19_3 wd19_4 wd1_5 wd19_5) rfl rfl rfl (by decide +kernel) ⟨Nat.le_of_ble_eq_true rfl, Nat.le_of_ble_eq_true rfl⟩) ⟨pcR_blind, pcR_of hPc C0.2.2.2⟩ rfl rfl hl.1 rfl (lv_room (Nat.le_of_ble_eq_true rfl)) dX6_nextTime_37 ⟨Nat.zero_le _, Nat.zero_le _⟩).run ?_
  refine r_istore_n h C0 (fun v2 => [(1, .int v2), (0, .ref aS), (2, .int x2)]) dX6_nextTime_40 hl (by decide) (fun _ => rfl) (fun v2 ls h hl => ?_)
  exact wX6_nextTime_41 C0 hk4 S v2 x2 h hP _ (lv_sub hl [1, 0, 2] rfl)
set_option maxHeartbeats 1000000 in
set_option maxRecDepth 10000 in
theorem wX6_nextTime_4 (C0 : cx p s m args meth c cX6_nextTime 3 RX6 wsX6_nextTime (some .int) D K) {k4 : (Nat → Int32) → Int32 → Int32 → Option (Int32)} (hk4 : IX6_nextTime_4 p l e s m args below meth c D K aS z k4) (S : Nat → Int32) (x1 : Int32) (x2 : Int32) (h : fX6_nextTime_4b N k4 S x1 x2 = some z) (hP : va_P D vwCl (fl [wArr K aS 353 S]) s.heap) (ls : Array Slot) (hl : lv_has ls 3 [(0, .ref aS), (1, .int x1), (2, .int x2)]) : W p l e rmX6_nextTime s m args below meth c s.heap [] 0 0 (MQ below (vp_Si (fun r => r = z)) args s 0 0 (fun _ => False)) (F0 m 4 ls []) := by
  unfold fX6_nextTime_4b at h
  refine r_iload_n C0 dX6_nextTime_4 hl 2 rfl ?_
  refine r_aload_n C0 dX6_nextTime_5 hl 0 rfl ?_
  refine r_iconst C0 (nI 1) dX6_nextTime_6 (by decide) ?_
  refine r_ialdC C0 hP 0 rfl 1 (by decide) dX6_nextTime_7 ?_
  refine r_icmp_ge h C0 47 dX6_nextTime_8 (by decide) (fun h => ?_) (fun h => ?_)
  · refine r_iload_n C0 dX6_nextTime_47 hl 1 rfl ?_
    exact r_iretR C0 h dX6_nextTime_48
  · refine r_aload_n C0 dX6_nextTime_11 hl 0 rfl ?_
    refine r_iload_n C0 dX6_nextTime_12 hl 2 rfl ?_
    obtain ⟨z1, hz1, h⟩ := bnd_some h
    have hPc := vaP_sel (Wc := [wArr K aS 353 S]) hP [0] rfl
    refine r_cI (va_runS (As := [.ref aS, .int x2]) (rest := []) C0.1 (ctX6_isIdle l D K aS S x2 z1 hz1) (va_cwS 2 C0.1.2.2.2.2 (gdS wd19_0 wd19_1 wd1_5 wd19_2) rfl rfl rfl (by decide +kernel) ⟨Nat.le_of_ble_eq_true rfl, Nat.le_of_ble_eq_true rfl⟩) ⟨pcR_blind, pcR_of hPc C0.2.2.2⟩ rfl rfl hl.1 rfl (lv_room (Nat.le_of_ble_eq_true rfl)) dX6_nextTime_13 ⟨Nat.zero_le _, Nat.zero_le _⟩).run ?_
    refine r_if_ne h C0 41 dX6_nextTime_16 (by decide) (fun h => ?_) (fun h => ?_)
    · exact wX6_nextTime_41 C0 hk4 S x1 x2 h hP _ (lv_sub hl [0, 1, 2] rfl)
    · refine r_iload_n C0 dX6_nextTime_19 hl 1 rfl ?_
      refine r_iconst C0 (-1 : Int32) dX6_nextTime_20 (by decide) ?_
      refine r_icmp_eq h C0 34 dX6_nextTime_21 (by decide) (fun h => ?_) (fun h => ?_)
      · exact wX6_nextTime_34 C0 hk4 S x2 h hP _ (lv_sub hl [0, 2] rfl)
      · refine r_aload_n C0 dX6_nextTime_24 hl 0 rfl ?_
        refine r_iload_n C0 dX6_nextTime_25 hl 2 rfl ?_
        refine r_iconst C0 (nI 3) dX6_nextTime_26 (by decide) ?_
        obtain ⟨z2, hz2, h⟩ := bnd_some h
        have hPc := vaP_sel (Wc := [wArr K aS 353 S]) hP [0] rfl
        refine r_cI (va_runS (As := [.ref aS, .int x2, .int (nI 3)]) (rest := []) C0.1 (ctX6_its l D K aS S x2 (nI 3) z2 hz2) (va_cwS 3 C0.1.2.2.2.2 (gdS wd19_3 wd19_4 wd1_5 wd19_5) rfl rfl rfl (by decide +kernel) ⟨Nat.le_of_ble_eq_true rfl, Nat.le_of_ble_eq_true rfl⟩) ⟨pcR_blind, pcR_of hPc C0.2.2.2⟩ rfl rfl hl.1 rfl (lv_room (Nat.le_of_ble_eq_true rfl)) dX6_nextTime_27 ⟨Nat.zero_le _, Nat.zero_le _⟩).run ?_
        refine r_iload_n C0 dX6_nextTime_30 hl 1 rfl ?_
        refine r_icmp_ge h C0 41 dX6_nextTime_31 (by decide) (fun h => ?_) (fun h => ?_)
        · exact wX6_nextTime_41 C0 hk4 S x1 x2 h hP _ (lv_sub hl [0, 1, 2] rfl)
        · exact wX6_nextTime_34 C0 hk4 S x2 h hP _ (lv_sub hl [0, 2] rfl)
theorem wX6_nextTime_4L (C0 : cx p s m args meth c cX6_nextTime 3 RX6 wsX6_nextTime (some .int) D K) : IX6_nextTime_4 p l e s m args below meth c D K aS z (fX6_nextTime_4 N) := by
  refine itn_ind (IX6_nextTime_4 p l e s m args below meth c D K aS z) ?_ ?_ N
  · intro _ _ _ _ h; cases h
  · intro k4 hk4 S x1 x2 ls h hP hl
    exact wX6_nextTime_4 C0 hk4 S x1 x2 h hP ls hl
set_option maxHeartbeats 1000000 in
set_option maxRecDepth 10000 in
theorem wX6_nextTime_0 (C0 : cx p s m args meth c cX6_nextTime 3 RX6 wsX6_nextTime (some .int) D K) (S : Nat → Int32) (h : fX6_nextTime N S = some z) (hP : va_P D vwCl (fl [wArr K aS 353 S]) s.heap) (ls : Array Slot) (hl : lv_has ls 3 [(0, .ref aS)]) : W p l e rmX6_nextTime s m args below meth c s.heap [] 0 0 (MQ below (vp_Si (fun r => r = z)) args s 0 0 (fun _ => False)) (F0 m 0 ls []) := by
  unfold fX6_nextTime at h
  refine r_iconst C0 (-1 : Int32) dX6_nextTime_0 (by decide) ?_
  refine r_istore_n h C0 (fun v1 => [(1, .int v1), (0, .ref aS)]) dX6_nextTime_1 hl (by decide) (fun _ => rfl) (fun v1 ls h hl => ?_)
  refine r_iconst C0 (nI 0) dX6_nextTime_2 (by decide) ?_
  refine r_istore_n h C0 (fun v2 => [(2, .int v2), (1, .int v1), (0, .ref aS)]) dX6_nextTime_3 hl (by decide) (fun _ => rfl) (fun v2 ls h hl => ?_)
  exact wX6_nextTime_4L C0 S v1 v2 _ h hP (lv_sub hl [2, 1, 0] rfl)
set_option maxHeartbeats 1000000 in
set_option maxRecDepth 10000 in
theorem ctX6_nextTime (l : Launch) (D : va_G) (K : Nat → ClassId) (N : Nat) (aS : Nat) (S : Nat → Int32) (z : Int32) (hz : fX6_nextTime N S = some z) : Met l yX6_nextTime wsX6_nextTime rmX6_nextTime (pcR D K [.ref aS] (fl [wArr K aS 353 S])) (vp_Si (fun r => r = z)) 0 0 (fun _ => False) := by
  refine Met.ofW (cc := cX6_nextTime) (maxL := 3) (ret := (some .int)) (by decide) rfl ?_
  intro p e s m args below meth c s₁ B hml hv
  obtain ⟨rfl, hP, hK⟩ := hv
  have C0 : cx p s m _ meth c cX6_nextTime 3 RX6 wsX6_nextTime (some .int) D K := ⟨⟨B.exec, B.bytes, hml, findClass_of_methodNamed B.named, atoms_spec (ws := wsX6_nextTime) B.pre⟩, B.returns, B.notSynchronized, hK⟩
  have hl := lv_entry ([.ref aS]) (n := 3) (Nat.le_of_ble_eq_true rfl)
  rw [lg_entry_eq]
  generalize (lg_sl ([.ref aS]) ++ List.replicate (3 - (lg_sl ([.ref aS])).length) Slot.unset).toArray = ls at hl ⊢
  have hl : lv_has ls 3 [(0, .ref aS)] := hl
  exact wX6_nextTime_0 C0 S hz hP ls (lv_sub hl [0] rfl)
end SX6_nextTime

section SX6_steps
/-! CardLoopsModel.steps([I)I -/
abbrev wsX6_steps : List Cond := Cond.code yX6_steps cX6_steps 1 (some .int) :: wsL_law0
abbrev rmX6_steps : Room := { frames := 4, cells := 0, slots := 0, locals := 92 }
variable {p : Program} {l : Launch} {e : Env} {s : State} {m : MethodId} {args : Array Value} {below : List Frame} {meth : Method} {c : Code} {D : va_G} {K : Nat → ClassId} {A : Nat → Prop} {N : Nat} {aS : Nat} {z : Int32 × ((Nat → Int32))}
set_option maxHeartbeats 1000000 in
set_option maxRecDepth 10000 in
theorem wX6_steps_0 (C0 : cx p s m args meth c cX6_steps 1 RX6 wsX6_steps (some .int) D K) (hA : ∀ q, s.heap.size ≤ q → A q) (S : Nat → Int32) (h : fX6_steps N S = some z) (H : Heap) (locs : List Loc) (hP : va_P D vwCl (fl [wArr K aS 353 S]) H) (hD : va_D A (fl [wArr K aS 353 S])) (hS : va_S A s.heap H locs) (ls : Array Slot) (hl : lv_has ls 1 [(0, .ref aS)]) : W p l e rmX6_steps s m args below meth c H locs 0 0 (MQ below (qcI D z (fun (u : (Nat → Int32)) => (fl [wArr K aS 353 u])) A) args s 0 0 A) (F0 m 0 ls []) := by
  unfold fX6_steps at h
  refine r_aload_n C0 dX6_steps_0 hl 0 rfl ?_
  refine r_aload_n C0 dX6_steps_1 hl 0 rfl ?_
  obtain ⟨z1, hz1, h⟩ := bnd_some h
  have hPc := vaP_sel (Wc := [wArr K aS 353 S]) hP [0] rfl
  refine r_cI (va_runS (As := [.ref aS]) (rest := [.ref aS]) C0.1 (ctX6_nextTime l D K N aS S z1 hz1) (va_cwS 1 C0.1.2.2.2.2 (gdS wd26_7 wd26_8 wd1_5 wd26_9) rfl rfl rfl (by decide +kernel) ⟨Nat.le_of_ble_eq_true rfl, Nat.le_of_ble_eq_true rfl⟩) ⟨pcR_blind, pcR_of hPc C0.2.2.2⟩ rfl rfl hl.1 rfl (lv_room (Nat.le_of_ble_eq_true rfl)) dX6_steps_2 ⟨Nat.zero_le _, Nat.zero_le _⟩).run ?_
  refine r_aload_n C0 dX6_steps_5 hl 0 rfl ?_
  refine r_bipush C0 (nI 48) dX6_steps_6 (by decide) ?_
  refine r_ialdC C0 hP 0 rfl 48 (by decide) dX6_steps_8 ?_
  refine r_isub C0 dX6_steps_9 ?_
  obtain ⟨z2, hz2, h⟩ := bnd_some h
  refine r_callVC (Wc := [wArr K aS 353 S]) (wf := fun (u : (Nat → Int32)) => [wArr K aS 353 u]) (Wn := [wArr K aS 353 z2]) hP hD hS hA [0] [] [0] 1 rfl rfl (by decide) rfl rfl (by decide) (fun hPc hDc hFc => va_runS (As := [.ref aS, .int (z1 - (S 48))]) (rest := []) C0.1 (ctX6_waits l D K N aS S (z1 - (S 48)) H.size z2 hz2) (va_cwS 2 C0.1.2.2.2.2 (gdS wd26_10 wd26_11 wd1_5 wd26_12) rfl rfl rfl (by decide +kernel) ⟨Nat.le_of_ble_eq_true rfl, Nat.le_of_ble_eq_true rfl⟩) ⟨pcW_blind, pcW_of hPc hDc C0.2.2.2⟩ rfl rfl hl.1 rfl (lv_room (Nat.le_of_ble_eq_true rfl)) dX6_steps_10 ⟨Nat.zero_le _, Nat.zero_le _⟩) (fun H locs hP hD hS => ?_)
  refine r_aload_n C0 dX6_steps_13 hl 0 rfl ?_
  obtain ⟨z3, hz3, h⟩ := bnd_some h
  refine r_callIC (Wc := [wArr K aS 353 z2]) (wf := fun (u : (Nat → Int32)) => [wArr K aS 353 u]) (Wn := [wArr K aS 353 z3.2]) hP hD hS hA [0] [] [0] 1 rfl rfl (by decide) rfl rfl (by decide) (fun hPc hDc hFc => va_runS (As := [.ref aS]) (rest := []) C0.1 (ctX6_rounds l D K N aS z2 H.size z3 hz3) (va_cwS 1 C0.1.2.2.2.2 (gdS wd18_21 wd18_22 wd1_5 wd18_23) rfl rfl rfl (by decide +kernel) ⟨Nat.le_of_ble_eq_true rfl, Nat.le_of_ble_eq_true rfl⟩) ⟨pcW_blind, pcW_of hPc hDc C0.2.2.2⟩ rfl rfl hl.1 rfl (lv_room (Nat.le_of_ble_eq_true rfl)) dX6_steps_14 ⟨Nat.zero_le _, Nat.zero_le _⟩) (fun H locs hP hD hS => ?_)
  exact r_iret h C0 (fun (u : (Nat → Int32)) => (fl [wArr K aS 353 u])) hP hD hS dX6_steps_17
set_option maxHeartbeats 1000000 in
set_option maxRecDepth 10000 in
theorem ctX6_steps (l : Launch) (D : va_G) (K : Nat → ClassId) (N : Nat) (aS : Nat) (S : Nat → Int32) (sz : Nat) (z : Int32 × ((Nat → Int32))) (hz : fX6_steps N S = some z) : Met l yX6_steps wsX6_steps rmX6_steps (pcW D K [.ref aS] (fl [wArr K aS 353 S]) sz) (qcI D z (fun (u : (Nat → Int32)) => (fl [wArr K aS 353 u])) (va_A (fl [wArr K aS 353 S]) sz)) 0 0 (va_A (fl [wArr K aS 353 S]) sz) := by
  refine Met.ofW (cc := cX6_steps) (maxL := 1) (ret := (some .int)) (by decide) rfl ?_
  intro p e s m args below meth c s₁ B hml hv
  obtain ⟨rfl, hsz, hP, hK, hD0⟩ := hv
  subst hsz
  have C0 : cx p s m _ meth c cX6_steps 1 RX6 wsX6_steps (some .int) D K := ⟨⟨B.exec, B.bytes, hml, findClass_of_methodNamed B.named, atoms_spec (ws := wsX6_steps) B.pre⟩, B.returns, B.notSynchronized, hK⟩
  have hD := hD0.self (sz := s.heap.size)
  generalize hAe : va_A (fl [wArr K aS 353 S]) s.heap.size = A at hD ⊢
  have hA : ∀ q : Nat, s.heap.size ≤ q → A q := fun q h => by rw [← hAe]; exact Or.inr h
  have hl := lv_entry ([.ref aS]) (n := 1) (Nat.le_of_ble_eq_true rfl)
  rw [lg_entry_eq]
  generalize (lg_sl ([.ref aS]) ++ List.replicate (1 - (lg_sl ([.ref aS])).length) Slot.unset).toArray = ls at hl ⊢
  have hl : lv_has ls 1 [(0, .ref aS)] := hl
  exact wX6_steps_0 C0 hA S hz s.heap [] hP hD va_S.rf ls (lv_sub hl [0] rfl)
end SX6_steps
