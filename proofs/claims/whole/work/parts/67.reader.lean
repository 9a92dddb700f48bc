section SX4_fail
/-! CardLoops$Reader.fail(I)V -/
abbrev wsX4_fail : List Cond := Cond.code yX4_fail cX4_fail 2 none :: wsL_law0
abbrev rmX4_fail : Room := { frames := 0, cells := 0, slots := 0, locals := 0 }
variable {p : Program} {l : Launch} {e : Env} {s : State} {m : MethodId} {args : Array Value} {below : List Frame} {meth : Method} {c : Code} {D : va_G} {K : Nat → ClassId} {A : Nat → Prop} {aR : Nat → Nat} {rR0 : Nat} {rR1 : Nat} {z : Rc}
set_option maxHeartbeats 1000000 in
set_option maxRecDepth 10000 in
theorem wX4_fail_0 (C0 : cx p s m args meth c cX4_fail 2 RX4 wsX4_fail none D K) (hA : ∀ q, s.heap.size ≤ q → A q) (R : Rc) (x1 : Int32) (h : fX4_fail R x1 = some z) (H : Heap) (locs : List Loc) (hP : va_P D vwCl (fl [wReader K aR rR0 rR1 R]) H) (hD : va_D A (fl [wReader K aR rR0 rR1 R])) (hS : va_S A s.heap H locs) (ls : Array Slot) (hl : lv_has ls 2 [(0, .ref (aR 0)), (1, .int x1)]) : W p l e rmX4_fail s m args below meth c H locs 0 0 (MQ below (qcV D z (fun (u : Rc) => (fl [wReader K aR rR0 rR1 u])) A) args s 0 0 A) (F0 m 0 ls []) := by
  unfold fX4_fail at h
  refine r_aload_n C0 dX4_fail_0 hl 0 rfl ?_
  refine r_get C0 4 inx4 hP 0 rfl rfl 3 (by decide) (mc wd4_3) (.int (R 3 0)) rfl dX4_fail_1 ?_
  refine r_if_ne h C0 20 dX4_fail_4 (by decide) (fun h => ?_) (fun h => ?_)
  · exact r_vret h C0 (fun (u : Rc) => (fl [wReader K aR rR0 rR1 u])) hP hD hS dX4_fail_20
  · refine r_aload_n C0 dX4_fail_7 hl 0 rfl ?_
    refine r_iload_n C0 dX4_fail_8 hl 1 rfl ?_
    refine r_put (ty := .int) h C0 4 inx4 tyX4 tyX4_ok nmX4 hP hD hS 0 (fun uu => (fl [wReader K aR rR0 rR1 uu])) rfl rfl 3 (by decide) (mc wd4_3) rfl (by decide +kernel) rfl rfl (by simp) rfl dX4_fail_9 (fun R1 H locs h hP hD hS => ?_)
    refine r_aload_n C0 dX4_fail_12 hl 0 rfl ?_
    refine r_aload_n C0 dX4_fail_13 hl 0 rfl ?_
    refine r_get C0 4 inx4 hP 0 rfl rfl 7 (by decide) (mc wd4_7) (.int (R1 7 0)) rfl dX4_fail_14 ?_
    refine r_put (ty := .int) h C0 4 inx4 tyX4 tyX4_ok nmX4 hP hD hS 0 (fun uu => (fl [wReader K aR rR0 rR1 uu])) rfl rfl 4 (by decide) (mc wd4_4) rfl (by decide +kernel) rfl rfl (by simp) rfl dX4_fail_17 (fun R2 H locs h hP hD hS => ?_)
    exact r_vret h C0 (fun (u : Rc) => (fl [wReader K aR rR0 rR1 u])) hP hD hS dX4_fail_20
set_option maxHeartbeats 1000000 in
set_option maxRecDepth 10000 in
theorem ctX4_fail (l : Launch) (D : va_G) (K : Nat → ClassId) (aR : Nat → Nat) (rR0 : Nat) (rR1 : Nat) (R : Rc) (p1 : Int32) (sz : Nat) (z : Rc) (hz : fX4_fail R p1 = some z) : Met l yX4_fail wsX4_fail rmX4_fail (pcW D K [.ref (aR 0), .int p1] (fl [wReader K aR rR0 rR1 R]) sz) (qcV D z (fun (u : Rc) => (fl [wReader K aR rR0 rR1 u])) (va_A (fl [wReader K aR rR0 rR1 R]) sz)) 0 0 (va_A (fl [wReader K aR rR0 rR1 R]) sz) := by
  refine Met.ofW (cc := cX4_fail) (maxL := 2) (ret := none) (by decide) rfl ?_
  intro p e s m args below meth c s₁ B hml hv
  obtain ⟨rfl, hsz, hP, hK, hD0⟩ := hv
  subst hsz
  have C0 : cx p s m _ meth c cX4_fail 2 RX4 wsX4_fail none D K := ⟨⟨B.exec, B.bytes, hml, findClass_of_methodNamed B.named, atoms_spec (ws := wsX4_fail) B.pre⟩, B.returns, B.notSynchronized, hK⟩
  have hD := hD0.self (sz := s.heap.size)
  generalize hAe : va_A (fl [wReader K aR rR0 rR1 R]) s.heap.size = A at hD ⊢
  have hA : ∀ q : Nat, s.heap.size ≤ q → A q := fun q h => by rw [← hAe]; exact Or.inr h
  have hl := lv_entry ([.ref (aR 0), .int p1]) (n := 2) (Nat.le_of_ble_eq_true rfl)
  rw [lg_entry_eq]
  generalize (lg_sl ([.ref (aR 0), .int p1]) ++ List.replicate (2 - (lg_sl ([.ref (aR 0), .int p1])).length) Slot.unset).toArray = ls at hl ⊢
  have hl : lv_has ls 2 [(0, .ref (aR 0)), (1, .int p1)] := hl
  exact wX4_fail_0 C0 hA R p1 hz s.heap [] hP hD va_S.rf ls (lv_sub hl [0, 1] rfl)
end SX4_fail

section SX4_isBlank
/-! CardLoops$Reader.isBlank(I)Z -/
abbrev wsX4_isBlank : List Cond := Cond.code yX4_isBlank cX4_isBlank 1 (some .boolean) :: wsL_law0
abbrev rmX4_isBlank : Room := { frames := 0, cells := 0, slots := 0, locals := 0 }
variable {p : Program} {l : Launch} {e : Env} {s : State} {m : MethodId} {args : Array Value} {below : List Frame} {meth : Method} {c : Code} {D : va_G} {K : Nat → ClassId} {A : Nat → Prop} {z : Int32}
set_option maxHeartbeats 1000000 in
set_option maxRecDepth 10000 in
theorem wX4_isBlank_12 (C0 : cx p s m args meth c cX4_isBlank 1 RX4 wsX4_isBlank (some .boolean) D K) (h : fX4_isBlank_12 = some z) (ls : Array Slot) (hl : lv_has ls 1 []) : W p l e rmX4_isBlank s m args below meth c s.heap [] 0 0 (MQ below (vp_Si (fun r => r = z)) args s 0 0 (fun _ => False)) (F0 m 12 ls []) := by
  unfold fX4_isBlank_12 at h
  refine r_iconst C0 (nI 1) dX4_isBlank_12 (by decide) ?_
  refine r_goto C0 17 dX4_isBlank_13 (by decide) ?_
  exact r_zretRC C0 h (by decide) dX4_isBlank_17
set_option maxHeartbeats 1000000 in
set_option maxRecDepth 10000 in
theorem wX4_isBlank_0 (C0 : cx p s m args meth c cX4_isBlank 1 RX4 wsX4_isBlank (some .boolean) D K) (x0 : Int32) (h : fX4_isBlank x0 = some z) (ls : Array Slot) (hl : lv_has ls 1 [(0, .int x0)]) : W p l e rmX4_isBlank s m args below meth c s.heap [] 0 0 (MQ below (vp_Si (fun r => r = z)) args s 0 0 (fun _ => False)) (F0 m 0 ls []) := by
  unfold fX4_isBlank at h
  refine r_iload_n C0 dX4_isBlank_0 hl 0 rfl ?_
  refine r_bipush C0 (nI 32) dX4_isBlank_1 (by decide) ?_
  refine r_icmp_eq h C0 12 dX4_isBlank_3 (by decide) (fun h => ?_) (fun h => ?_)
  · exact wX4_isBlank_12 C0 h _ (lv_sub hl [] rfl)
  · refine r_iload_n C0 dX4_isBlank_6 hl 0 rfl ?_
    refine r_bipush C0 (nI 10) dX4_isBlank_7 (by decide) ?_
    refine r_icmp_ne h C0 16 dX4_isBlank_9 (by decide) (fun h => ?_) (fun h => ?_)
    · refine r_iconst C0 (nI 0) dX4_isBlank_16 (by decide) ?_
      exact r_zretRC C0 h (by decide) dX4_isBlank_17
    · exact wX4_isBlank_12 C0 h _ (lv_sub hl [] rfl)
set_option maxHeartbeats 1000000 in
set_option maxRecDepth 10000 in
theorem ctX4_isBlank (l : Launch) (D : va_G) (K : Nat → ClassId) (p0 : Int32) (z : Int32) (hz : fX4_isBlank p0 = some z) : Met l yX4_isBlank wsX4_isBlank rmX4_isBlank (pcR D K [.int p0] []) (vp_Si (fun r => r = z)) 0 0 (fun _ => False) := by
  refine Met.ofW (cc := cX4_isBlank) (maxL := 1) (ret := (some .boolean)) (by decide) rfl ?_
  intro p e s m args below meth c s₁ B hml hv
  obtain ⟨rfl, hP, hK⟩ := hv
  have C0 : cx p s m _ meth c cX4_isBlank 1 RX4 wsX4_isBlank (some .boolean) D K := ⟨⟨B.exec, B.bytes, hml, findClass_of_methodNamed B.named, atoms_spec (ws := wsX4_isBlank) B.pre⟩, B.returns, B.notSynchronized, hK⟩
  have hl := lv_entry ([.int p0]) (n := 1) (Nat.le_of_ble_eq_true rfl)
  rw [lg_entry_eq]
  generalize (lg_sl ([.int p0]) ++ List.replicate (1 - (lg_sl ([.int p0])).length) Slot.unset).toArray = ls at hl ⊢
  have hl : lv_has ls 1 [(0, .int p0)] := hl
  exact wX4_isBlank_0 C0 p0 hz ls (lv_sub hl [0] rfl)
end SX4_isBlank

section SX4_readLump
/-! CardLoops$Reader.readLump()V -/
abbrev wsX4_readLump : List Cond := Cond.code yX4_readLump cX4_readLump 4 none :: wsL_law0
abbrev rmX4_readLump : Room := { frames := 0, cells := 0, slots := 0, locals := 0 }
variable {p : Program} {l : Launch} {e : Env} {s : State} {m : MethodId} {args : Array Value} {below : List Frame} {meth : Method} {c : Code} {D : va_G} {K : Nat → ClassId} {A : Nat → Prop} {N : Nat} {aT : Nat} {aR : Nat → Nat} {rR0 : Nat} {z : Rc}
def IX4_readLump_4 (p : Program) (l : Launch) (e : Env) (s : State) (m : MethodId) (args : Array Value) (below : List Frame) (meth : Method) (c : Code) (D : va_G) (K : Nat → ClassId) (aT : Nat) (aR : Nat → Nat) (rR0 : Nat) (A : Nat → Prop) (z : Rc) (k : (Nat → Int32) → Rc → Int32 → Int32 → Option (Rc)) : Prop := ∀ (T : Nat → Int32) (R : Rc) (x1 : Int32) (x2 : Int32) (H : Heap) (locs : List Loc) (ls : Array Slot), k T R x1 x2 = some z → va_P D vwCl (fl [wArr K aT 440 T, wReader K aR rR0 aT R]) H → va_D A (fl [wArr K aT 440 T, wReader K aR rR0 aT R]) → va_S A s.heap H locs → lv_has ls 4 [(0, .ref (aR 0)), (1, .int x1), (2, .int x2)] → W p l e rmX4_readLump s m args below meth c H locs 0 0 (MQ below (qcV D z (fun (u : Rc) => (fl [wArr K aT 440 T, wReader K aR rR0 aT u])) A) args s 0 0 A) (F0 m 4 ls [])
set_option maxHeartbeats 1000000 in
set_option maxRecDepth 10000 in
theorem wX4_readLump_108 (C0 : cx p s m args meth c cX4_readLump 4 RX4 wsX4_readLump none D K) (hA : ∀ q, s.heap.size ≤ q → A q) (T : Nat → Int32) (R : Rc) (h : fX4_readLump_108 N T R = some z) (H : Heap) (locs : List Loc) (hP : va_P D vwCl (fl [wArr K aT 440 T, wReader K aR rR0 aT R]) H) (hD : va_D A (fl [wArr K aT 440 T, wReader K aR rR0 aT R])) (hS : va_S A s.heap H locs) (ls : Array Slot) (hl : lv_has ls 4 [(0, .ref (aR 0))]) : W p l e rmX4_readLump s m args below meth c H locs 0 0 (MQ below (qcV D z (fun (u : Rc) => (fl [wArr K aT 440 T, wReader K aR rR0 aT u])) A) args s 0 0 A) (F0 m 108 ls []) := by
  unfold fX4_readLump_108 at h
  refine r_aload_n C0 dX4_readLump_108 hl 0 rfl ?_
  refine r_iconst C0 (nI 0) dX4_readLump_109 (by decide) ?_
  refine r_put (ty := .int) h C0 4 inx4 tyX4 tyX4_ok nmX4 hP hD hS 1 (fun uu => (fl [wArr K aT 440 T, wReader K aR rR0 aT uu])) rfl rfl 6 (by decide) (mc wd4_6) rfl (by decide +kernel) rfl rfl (by simp) rfl dX4_readLump_110 (fun R1 H locs h hP hD hS => ?_)
  exact r_vret h C0 (fun (u : Rc) => (fl [wArr K aT 440 T, wReader K aR rR0 aT u])) hP hD hS dX4_readLump_113
set_option maxHeartbeats 1000000 in
set_option maxRecDepth 10000 in
theorem wX4_readLump_87 (C0 : cx p s m args meth c cX4_readLump 4 RX4 wsX4_readLump none D K) (hA : ∀ q, s.heap.size ≤ q → A q) (T : Nat → Int32) (R : Rc) (x1 : Int32) (x2 : Int32) (h : fX4_readLump_87 N T R x1 x2 = some z) (H : Heap) (locs : List Loc) (hP : va_P D vwCl (fl [wArr K aT 440 T, wReader K aR rR0 aT R]) H) (hD : va_D A (fl [wArr K aT 440 T, wReader K aR rR0 aT R])) (hS : va_S A s.heap H locs) (ls : Array Slot) (hl : lv_has ls 4 [(0, .ref (aR 0)), (1, .int x1), (2, .int x2)]) : W p l e rmX4_readLump s m args below meth c H locs 0 0 (MQ below (qcV D z (fun (u : Rc) => (fl [wArr K aT 440 T, wReader K aR rR0 aT u])) A) args s 0 0 A) (F0 m 87 ls []) := by
  unfold fX4_readLump_87 at h
  refine r_iload_n C0 dX4_readLump_87 hl 1 rfl ?_
  refine r_if_ne h C0 108 dX4_readLump_88 (by decide) (fun h => ?_) (fun h => ?_)
  · exact wX4_readLump_108 C0 hA T R h _ _ hP hD hS _ (lv_sub hl [0] rfl)
  · refine r_iload_n C0 dX4_readLump_91 hl 2 rfl ?_
    refine r_if_le h C0 108 dX4_readLump_92 (by decide) (fun h => ?_) (fun h => ?_)
    · exact wX4_readLump_108 C0 hA T R h _ _ hP hD hS _ (lv_sub hl [0] rfl)
    · refine r_iload_n C0 dX4_readLump_95 hl 2 rfl ?_
      refine r_iconst C0 (nI 2) dX4_readLump_96 (by decide) ?_
      refine r_icmp_gt h C0 108 dX4_readLump_97 (by decide) (fun h => ?_) (fun h => ?_)
      · exact wX4_readLump_108 C0 hA T R h _ _ hP hD hS _ (lv_sub hl [0] rfl)
      · refine r_aload_n C0 dX4_readLump_100 hl 0 rfl ?_
        refine r_iconst C0 (nI 3) dX4_readLump_101 (by decide) ?_
        refine r_put (ty := .int) h C0 4 inx4 tyX4 tyX4_ok nmX4 hP hD hS 1 (fun uu => (fl [wArr K aT 440 T, wReader K aR rR0 aT uu])) rfl rfl 6 (by decide) (mc wd4_6) rfl (by decide +kernel) rfl rfl (by simp) rfl dX4_readLump_102 (fun R1 H locs h hP hD hS => ?_)
        refine r_goto C0 113 dX4_readLump_105 (by decide) ?_
        exact r_vret h C0 (fun (u : Rc) => (fl [wArr K aT 440 T, wReader K aR rR0 aT u])) hP hD hS dX4_readLump_113
set_option maxHeartbeats 1000000 in
set_option maxRecDepth 10000 in
theorem wX4_readLump_71 (C0 : cx p s m args meth c cX4_readLump 4 RX4 wsX4_readLump none D K) (hA : ∀ q, s.heap.size ≤ q → A q) (T : Nat → Int32) (R : Rc) (x1 : Int32) (x2 : Int32) (h : fX4_readLump_71 N T R x1 x2 = some z) (H : Heap) (locs : List Loc) (hP : va_P D vwCl (fl [wArr K aT 440 T, wReader K aR rR0 aT R]) H) (hD : va_D A (fl [wArr K aT 440 T, wReader K aR rR0 aT R])) (hS : va_S A s.heap H locs) (ls : Array Slot) (hl : lv_has ls 4 [(0, .ref (aR 0)), (1, .int x1), (2, .int x2)]) : W p l e rmX4_readLump s m args below meth c H locs 0 0 (MQ below (qcV D z (fun (u : Rc) => (fl [wArr K aT 440 T, wReader K aR rR0 aT u])) A) args s 0 0 A) (F0 m 71 ls []) := by
  unfold fX4_readLump_71 at h
  refine r_iload_n C0 dX4_readLump_71 hl 2 rfl ?_
  refine r_if_ne h C0 87 dX4_readLump_72 (by decide) (fun h => ?_) (fun h => ?_)
  · exact wX4_readLump_87 C0 hA T R x1 x2 h _ _ hP hD hS _ (lv_sub hl [0, 1, 2] rfl)
  · refine r_iload_n C0 dX4_readLump_75 hl 1 rfl ?_
    refine r_if_le h C0 87 dX4_readLump_76 (by decide) (fun h => ?_) (fun h => ?_)
    · exact wX4_readLump_87 C0 hA T R x1 x2 h _ _ hP hD hS _ (lv_sub hl [0, 1, 2] rfl)
    · refine r_aload_n C0 dX4_readLump_79 hl 0 rfl ?_
      refine r_iconst C0 (nI 2) dX4_readLump_80 (by decide) ?_
      refine r_put (ty := .int) h C0 4 inx4 tyX4 tyX4_ok nmX4 hP hD hS 1 (fun uu => (fl [wArr K aT 440 T, wReader K aR rR0 aT uu])) rfl rfl 6 (by decide) (mc wd4_6) rfl (by decide +kernel) rfl rfl (by simp) rfl dX4_readLump_81 (fun R1 H locs h hP hD hS => ?_)
      refine r_goto C0 113 dX4_readLump_84 (by decide) ?_
      exact r_vret h C0 (fun (u : Rc) => (fl [wArr K aT 440 T, wReader K aR rR0 aT u])) hP hD hS dX4_readLump_113
set_option maxHeartbeats 1000000 in
set_option maxRecDepth 10000 in
theorem wX4_readLump_58 (C0 : cx p s m args meth c cX4_readLump 4 RX4 wsX4_readLump none D K) (hA : ∀ q, s.heap.size ≤ q → A q) {k4 : (Nat → Int32) → Rc → Int32 → Int32 → Option (Rc)} (hk4 : IX4_readLump_4 p l e s m args below meth c D K aT aR rR0 A z k4) (T : Nat → Int32) (R : Rc) (x1 : Int32) (x2 : Int32) (h : fX4_readLump_58 N k4 T R x1 x2 = some z) (H : Heap) (locs : List Loc) (hP : va_P D vwCl (fl [wArr K aT 440 T, wReader K aR rR0 aT R]) H) (hD : va_D A (fl [wArr K aT 440 T, wReader K aR rR0 aT R])) (hS : va_S A s.heap H locs) (ls : Array Slot) (hl : lv_has ls 4 [(0, .ref (aR 0)), (1, .int x1), (2, .int x2)]) : W p l e rmX4_readLump s m args below meth c H locs 0 0 (MQ below (qcV D z (fun (u : Rc) => (fl [wArr K aT 440 T, wReader K aR rR0 aT u])) A) args s 0 0 A) (F0 m 58 ls []) := by
  unfold fX4_readLump_58 at h
  refine r_aload_n C0 dX4_readLump_58 hl 0 rfl ?_
  refine r_dup C0 dX4_readLump_59 rfl ?_
  refine r_get C0 4 inx4 hP 1 rfl rfl 5 (by decide) (mc wd4_5) (.int (R 5 0)) rfl dX4_readLump_60 ?_
  refine r_iconst C0 (nI 1) dX4_readLump_63 (by decide) ?_
  refine r_iadd C0 dX4_readLump_64 ?_
  refine r_put (ty := .int) h C0 4 inx4 tyX4 tyX4_ok nmX4 hP hD hS 1 (fun uu => (fl [wArr K aT 440 T, wReader K aR rR0 aT uu])) rfl rfl 5 (by decide) (mc wd4_5) rfl (by decide +kernel) rfl rfl (by simp) rfl dX4_readLump_65 (fun R1 H locs h hP hD hS => ?_)
  refine r_goto C0 4 dX4_readLump_68 (by decide) ?_
  exact hk4 T R1 x1 x2 _ _ _ h hP hD hS (lv_sub hl [0, 1, 2] rfl)
set_option maxHeartbeats 1000000 in
set_option maxRecDepth 10000 in
theorem wX4_readLump_43 (C0 : cx p s m args meth c cX4_readLump 4 RX4 wsX4_readLump none D K) (hA : ∀ q, s.heap.size ≤ q → A q) {k4 : (Nat → Int32) → Rc → Int32 → Int32 → Option (Rc)} (hk4 : IX4_readLump_4 p l e s m args below meth c D K aT aR rR0 A z k4) (T : Nat → Int32) (R : Rc) (x1 : Int32) (x2 : Int32) (x3 : Int32) (h : fX4_readLump_43 N k4 T R x1 x2 x3 = some z) (H : Heap) (locs : List Loc) (hP : va_P D vwCl (fl [wArr K aT 440 T, wReader K aR rR0 aT R]) H) (hD : va_D A (fl [wArr K aT 440 T, wReader K aR rR0 aT R])) (hS : va_S A s.heap H locs) (ls : Array Slot) (hl : lv_has ls 4 [(0, .ref (aR 0)), (1, .int x1), (2, .int x2), (3, .int x3)]) : W p l e rmX4_readLump s m args below meth c H locs 0 0 (MQ below (qcV D z (fun (u : Rc) => (fl [wArr K aT 440 T, wReader K aR rR0 aT u])) A) args s 0 0 A) (F0 m 43 ls []) := by
  unfold fX4_readLump_43 at h
  refine r_iload_n C0 dX4_readLump_43 hl 3 rfl ?_
  refine r_bipush C0 (nI 48) dX4_readLump_44 (by decide) ?_
  refine r_icmp_lt h C0 71 dX4_readLump_46 (by decide) (fun h => ?_) (fun h => ?_)
  · exact wX4_readLump_71 C0 hA T R x1 x2 h _ _ hP hD hS _ (lv_sub hl [0, 1, 2] rfl)
  · refine r_iload_n C0 dX4_readLump_49 hl 3 rfl ?_
    refine r_bipush C0 (nI 57) dX4_readLump_50 (by decide) ?_
    refine r_icmp_gt h C0 71 dX4_readLump_52 (by decide) (fun h => ?_) (fun h => ?_)
    · exact wX4_readLump_71 C0 hA T R x1 x2 h _ _ hP hD hS _ (lv_sub hl [0, 1, 2] rfl)
    · refine r_iinc h C0 2 (fun v1 => [(2, .int v1), (0, .ref (aR 0)), (1, .int x1), (3, .int x3)]) dX4_readLump_55 hl rfl rfl (by decide) (fun _ => rfl) (fun v1 ls h hl => ?_)
      exact wX4_readLump_58 C0 hA hk4 T R x1 v1 h _ _ hP hD hS _ (lv_sub hl [1, 2, 0] rfl)
set_option maxHeartbeats 1000000 in
set_option maxRecDepth 10000 in
theorem wX4_readLump_4 (C0 : cx p s m args meth c cX4_readLump 4 RX4 wsX4_readLump none D K) (hA : ∀ q, s.heap.size ≤ q → A q) {k4 : (Nat → Int32) → Rc → Int32 → Int32 → Option (Rc)} (hk4 : IX4_readLump_4 p l e s m args below meth c D K aT aR rR0 A z k4) (T : Nat → Int32) (R : Rc) (x1 : Int32) (x2 : Int32) (h : fX4_readLump_4b N k4 T R x1 x2 = some z) (H : Heap) (locs : List Loc) (hP : va_P D vwCl (fl [wArr K aT 440 T, wReader K aR rR0 aT R]) H) (hD : va_D A (fl [wArr K aT 440 T, wReader K aR rR0 aT R])) (hS : va_S A s.heap H locs) (ls : Array Slot) (hl : lv_has ls 4 [(0, .ref (aR 0)), (1, .int x1), (2, .int x2)]) : W p l e rmX4_readLump s m args below meth c H locs 0 0 (MQ below (qcV D z (fun (u : Rc) => (fl [wArr K aT 440 T, wReader K aR rR0 aT u])) A) args s 0 0 A) (F0 m 4 ls []) := by
  unfold fX4_readLump_4b at h
  refine r_aload_n C0 dX4_readLump_4 hl 0 rfl ?_
  refine r_get C0 4 inx4 hP 1 rfl rfl 5 (by decide) (mc wd4_5) (.int (R 5 0)) rfl dX4_readLump_5 ?_
  refine r_aload_n C0 dX4_readLump_8 hl 0 rfl ?_
  refine r_get C0 4 inx4 hP 1 rfl rfl 2 (by decide) (mc wd4_2) (.int (R 2 0)) rfl dX4_readLump_9 ?_
  refine r_icmp_ge h C0 71 dX4_readLump_12 (by decide) (fun h => ?_) (fun h => ?_)
  · exact wX4_readLump_71 C0 hA T R x1 x2 h _ _ hP hD hS _ (lv_sub hl [0, 1, 2] rfl)
  · refine r_aload_n C0 dX4_readLump_15 hl 0 rfl ?_
    refine r_get C0 4 inx4 hP 1 rfl rfl 1 (by decide) (mc wd4_8) (.ref aT) rfl dX4_readLump_16 ?_
    refine r_aload_n C0 dX4_readLump_19 hl 0 rfl ?_
    refine r_get C0 4 inx4 hP 1 rfl rfl 5 (by decide) (mc wd4_5) (.int (R 5 0)) rfl dX4_readLump_20 ?_
    refine r_iald h C0 hP 0 rfl dX4_readLump_23 (fun h => ?_)
    refine r_istore_n h C0 (fun v1 => [(3, .int v1), (0, .ref (aR 0)), (1, .int x1), (2, .int x2)]) dX4_readLump_24 hl (by decide) (fun _ => rfl) (fun v1 ls h hl => ?_)
    refine r_iload_n C0 dX4_readLump_25 hl 0 rfl ?_
    refine r_bipush C0 (nI 97) dX4_readLump_26 (by decide) ?_
    refine r_icmp_lt h C0 43 dX4_readLump_28 (by decide) (fun h => ?_) (fun h => ?_)
    · exact wX4_readLump_43 C0 hA hk4 T R x1 x2 v1 h _ _ hP hD hS _ (lv_sub hl [1, 2, 3, 0] rfl)
    · refine r_iload_n C0 dX4_readLump_31 hl 0 rfl ?_
      refine r_bipush C0 (nI 122) dX4_readLump_32 (by decide) ?_
      refine r_icmp_gt h C0 43 dX4_readLump_34 (by decide) (fun h => ?_) (fun h => ?_)
      · exact wX4_readLump_43 C0 hA hk4 T R x1 x2 v1 h _ _ hP hD hS _ (lv_sub hl [1, 2, 3, 0] rfl)
      · refine r_iinc h C0 2 (fun v2 => [(1, .int v2), (3, .int v1), (0, .ref (aR 0)), (2, .int x2)]) dX4_readLump_37 hl rfl rfl (by decide) (fun _ => rfl) (fun v2 ls h hl => ?_)
        refine r_goto C0 58 dX4_readLump_40 (by decide) ?_
        exact wX4_readLump_58 C0 hA hk4 T R v2 x2 h _ _ hP hD hS _ (lv_sub hl [2, 0, 3] rfl)
theorem wX4_readLump_4L (C0 : cx p s m args meth c cX4_readLump 4 RX4 wsX4_readLump none D K) (hA : ∀ q, s.heap.size ≤ q → A q) : IX4_readLump_4 p l e s m args below meth c D K aT aR rR0 A z (fX4_readLump_4 N) := by
  refine itn_ind (IX4_readLump_4 p l e s m args below meth c D K aT aR rR0 A z) ?_ ?_ N
  · intro _ _ _ _ _ _ _ h; cases h
  · intro k4 hk4 T R x1 x2 H locs ls h hP hD hS hl
    exact wX4_readLump_4 C0 hA hk4 T R x1 x2 h H locs hP hD hS ls hl
set_option maxHeartbeats 1000000 in
set_option maxRecDepth 10000 in
theorem wX4_readLump_0 (C0 : cx p s m args meth c cX4_readLump 4 RX4 wsX4_readLump none D K) (hA : ∀ q, s.heap.size ≤ q → A q) (T : Nat → Int32) (R : Rc) (h : fX4_readLump N T R = some z) (H : Heap) (locs : List Loc) (hP : va_P D vwCl (fl [wArr K aT 440 T, wReader K aR rR0 aT R]) H) (hD : va_D A (fl [wArr K aT 440 T, wReader K aR rR0 aT R])) (hS : va_S A s.heap H locs) (ls : Array Slot) (hl : lv_has ls 4 [(0, .ref (aR 0))]) : W p l e rmX4_readLump s m args below meth c H locs 0 0 (MQ below (qcV D z (fun (u : Rc) => (fl [wArr K aT 440 T, wReader K aR rR0 aT u])) A) args s 0 0 A) (F0 m 0 ls []) := by
  unfold fX4_readLump at h
  refine r_iconst C0 (nI 0) dX4_readLump_0 (by decide) ?_
  refine r_istore_n h C0 (fun v1 => [(1, .int v1), (0, .ref (aR 0))]) dX4_readLump_1 hl (by decide) (fun _ => rfl) (fun v1 ls h hl => ?_)
  refine r_iconst C0 (nI 0) dX4_readLump_2 (by decide) ?_
  refine r_istore_n h C0 (fun v2 => [(2, .int v2), (1, .int v1), (0, .ref (aR 0))]) dX4_readLump_3 hl (by decide) (fun _ => rfl) (fun v2 ls h hl => ?_)
  exact wX4_readLump_4L C0 hA T R v1 v2 _ _ _ h hP hD hS (lv_sub hl [2, 1, 0] rfl)
set_option maxHeartbeats 1000000 in
set_option maxRecDepth 10000 in
theorem ctX4_readLump (l : Launch) (D : va_G) (K : Nat → ClassId) (N : Nat) (aT : Nat) (aR : Nat → Nat) (rR0 : Nat) (T : Nat → Int32) (R : Rc) (sz : Nat) (z : Rc) (hz : fX4_readLump N T R = some z) : Met l yX4_readLump wsX4_readLump rmX4_readLump (pcW D K [.ref (aR 0)] (fl [wArr K aT 440 T, wReader K aR rR0 aT R]) sz) (qcV D z (fun (u : Rc) => (fl [wArr K aT 440 T, wReader K aR rR0 aT u])) (va_A (fl [wArr K aT 440 T, wReader K aR rR0 aT R]) sz)) 0 0 (va_A (fl [wArr K aT 440 T, wReader K aR rR0 aT R]) sz) := by
  refine Met.ofW (cc := cX4_readLump) (maxL := 4) (ret := none) (by decide) rfl ?_
  intro p e s m args below meth c s₁ B hml hv
  obtain ⟨rfl, hsz, hP, hK, hD0⟩ := hv
  subst hsz
  have C0 : cx p s m _ meth c cX4_readLump 4 RX4 wsX4_readLump none D K := ⟨⟨B.exec, B.bytes, hml, findClass_of_methodNamed B.named, atoms_spec (ws := wsX4_readLump) B.pre⟩, B.returns, B.notSynchronized, hK⟩
  have hD := hD0.self (sz := s.heap.size)
  generalize hAe : va_A (fl [wArr K aT 440 T, wReader K aR rR0 aT R]) s.heap.size = A at hD ⊢
  have hA : ∀ q : Nat, s.heap.size ≤ q → A q := fun q h => by rw [← hAe]; exact Or.inr h
  have hl := lv_entry ([.ref (aR 0)]) (n := 4) (Nat.le_of_ble_eq_true rfl)
  rw [lg_entry_eq]
  generalize (lg_sl ([.ref (aR 0)]) ++ List.replicate (4 - (lg_sl ([.ref (aR 0)])).length) Slot.unset).toArray = ls at hl ⊢
  have hl : lv_has ls 4 [(0, .ref (aR 0))] := hl
  exact wX4_readLump_0 C0 hA T R hz s.heap [] hP hD va_S.rf ls (lv_sub hl [0] rfl)
end SX4_readLump

section SX4_readToken
/-! CardLoops$Reader.readToken()V -/
abbrev wsX4_readToken : List Cond := Cond.code yX4_readToken cX4_readToken 1 none :: wsL_law0
abbrev rmX4_readToken : Room := { frames := 1, cells := 0, slots := 0, locals := 23 }
variable {p : Program} {l : Launch} {e : Env} {s : State} {m : MethodId} {args : Array Value} {below : List Frame} {meth : Method} {c : Code} {D : va_G} {K : Nat → ClassId} {A : Nat → Prop} {N : Nat} {aT : Nat} {aR : Nat → Nat} {rR0 : Nat} {z : Rc}
def IX4_readToken_0 (p : Program) (l : Launch) (e : Env) (s : State) (m : MethodId) (args : Array Value) (below : List Frame) (meth : Method) (c : Code) (D : va_G) (K : Nat → ClassId) (aT : Nat) (aR : Nat → Nat) (rR0 : Nat) (A : Nat → Prop) (z : Rc) (k : (Nat → Int32) → Rc → Option (Rc)) : Prop := ∀ (T : Nat → Int32) (R : Rc) (H : Heap) (locs : List Loc) (ls : Array Slot), k T R = some z → va_P D vwCl (fl [wArr K aT 440 T, wReader K aR rR0 aT R]) H → va_D A (fl [wArr K aT 440 T, wReader K aR rR0 aT R]) → va_S A s.heap H locs → lv_has ls 1 [(0, .ref (aR 0))] → W p l e rmX4_readToken s m args below meth c H locs 0 0 (MQ below (qcV D z (fun (u : Rc) => (fl [wArr K aT 440 T, wReader K aR rR0 aT u])) A) args s 0 0 A) (F0 m 0 ls [])
set_option maxHeartbeats 1000000 in
set_option maxRecDepth 10000 in
theorem wX4_readToken_82 (C0 : cx p s m args meth c cX4_readToken 1 RX4 wsX4_readToken none D K) (hA : ∀ q, s.heap.size ≤ q → A q) (T : Nat → Int32) (R : Rc) (h : fX4_readToken_82 N T R = some z) (H : Heap) (locs : List Loc) (hP : va_P D vwCl (fl [wArr K aT 440 T, wReader K aR rR0 aT R]) H) (hD : va_D A (fl [wArr K aT 440 T, wReader K aR rR0 aT R])) (hS : va_S A s.heap H locs) (ls : Array Slot) (hl : lv_has ls 1 [(0, .ref (aR 0))]) : W p l e rmX4_readToken s m args below meth c H locs 0 0 (MQ below (qcV D z (fun (u : Rc) => (fl [wArr K aT 440 T, wReader K aR rR0 aT u])) A) args s 0 0 A) (F0 m 82 ls []) := by
  unfold fX4_readToken_82 at h
  refine r_aload_n C0 dX4_readToken_82 hl 0 rfl ?_
  refine r_get C0 4 inx4 hP 1 rfl rfl 5 (by decide) (mc wd4_5) (.int (R 5 0)) rfl dX4_readToken_83 ?_
  refine r_aload_n C0 dX4_readToken_86 hl 0 rfl ?_
  refine r_get C0 4 inx4 hP 1 rfl rfl 2 (by decide) (mc wd4_2) (.int (R 2 0)) rfl dX4_readToken_87 ?_
  refine r_icmp_lt h C0 101 dX4_readToken_90 (by decide) (fun h => ?_) (fun h => ?_)
  · refine r_aload_n C0 dX4_readToken_101 hl 0 rfl ?_
    refine r_get C0 4 inx4 hP 1 rfl rfl 1 (by decide) (mc wd4_8) (.ref aT) rfl dX4_readToken_102 ?_
    refine r_aload_n C0 dX4_readToken_105 hl 0 rfl ?_
    refine r_get C0 4 inx4 hP 1 rfl rfl 5 (by decide) (mc wd4_5) (.int (R 5 0)) rfl dX4_readToken_106 ?_
    refine r_iald h C0 hP 0 rfl dX4_readToken_109 (fun h => ?_)
    refine r_bipush C0 (nI 59) dX4_readToken_110 (by decide) ?_
    refine r_icmp_ne h C0 133 dX4_readToken_112 (by decide) (fun h => ?_) (fun h => ?_)
    · refine r_aload_n C0 dX4_readToken_133 hl 0 rfl ?_
      obtain ⟨z1, hz1, h⟩ := bnd_some h
      refine r_callVC (Wc := [wArr K aT 440 T, wReader K aR rR0 aT R]) (wf := fun (u : Rc) => [wArr K aT 440 T, wReader K aR rR0 aT u]) (Wn := [wArr K aT 440 T, wReader K aR rR0 aT z1]) hP hD hS hA [0, 1] [] [0, 1] 2 rfl rfl (by decide) rfl rfl (by decide) (fun hPc hDc hFc => va_runV (As := []) (rest := []) C0.1 (ctX4_readLump l D K N aT aR rR0 T R H.size z1 hz1) (cwV 0 C0.1.2.2.2.2 (gdV wd8_2 wd8_3 wd8_4 wd2_4 wd8_5) rfl rfl rfl (by decide +kernel) ⟨Nat.le_of_ble_eq_true rfl, Nat.le_of_ble_eq_true rfl⟩) ⟨pcW_blind, va_recv C0.2.2.2.1 hPc (ci := 4) (q0 := 1) rfl rfl, pcW_of hPc hDc C0.2.2.2⟩ rfl rfl hl.1 rfl (lv_room (Nat.le_of_ble_eq_true rfl)) dX4_readToken_134 ⟨Nat.zero_le _, Nat.zero_le _⟩) (fun H locs hP hD hS => ?_)
      exact r_vret h C0 (fun (u : Rc) => (fl [wArr K aT 440 T, wReader K aR rR0 aT u])) hP hD hS dX4_readToken_137
    · refine r_aload_n C0 dX4_readToken_115 hl 0 rfl ?_
      refine r_dup C0 dX4_readToken_116 rfl ?_
      refine r_get C0 4 inx4 hP 1 rfl rfl 5 (by decide) (mc wd4_5) (.int (R 5 0)) rfl dX4_readToken_117 ?_
      refine r_iconst C0 (nI 1) dX4_readToken_120 (by decide) ?_
      refine r_iadd C0 dX4_readToken_121 ?_
      refine r_put (ty := .int) h C0 4 inx4 tyX4 tyX4_ok nmX4 hP hD hS 1 (fun uu => (fl [wArr K aT 440 T, wReader K aR rR0 aT uu])) rfl rfl 5 (by decide) (mc wd4_5) rfl (by decide +kernel) rfl rfl (by simp) rfl dX4_readToken_122 (fun R2 H locs h hP hD hS => ?_)
      refine r_aload_n C0 dX4_readToken_125 hl 0 rfl ?_
      refine r_iconst C0 (nI 4) dX4_readToken_126 (by decide) ?_
      refine r_put (ty := .int) h C0 4 inx4 tyX4 tyX4_ok nmX4 hP hD hS 1 (fun uu => (fl [wArr K aT 440 T, wReader K aR rR0 aT uu])) rfl rfl 6 (by decide) (mc wd4_6) rfl (by decide +kernel) rfl rfl (by simp) rfl dX4_readToken_127 (fun R3 H locs h hP hD hS => ?_)
      refine r_goto C0 137 dX4_readToken_130 (by decide) ?_
      exact r_vret h C0 (fun (u : Rc) => (fl [wArr K aT 440 T, wReader K aR rR0 aT u])) hP hD hS dX4_readToken_137
  · refine r_aload_n C0 dX4_readToken_93 hl 0 rfl ?_
    refine r_iconst C0 (nI 1) dX4_readToken_94 (by decide) ?_
    refine r_put (ty := .int) h C0 4 inx4 tyX4 tyX4_ok nmX4 hP hD hS 1 (fun uu => (fl [wArr K aT 440 T, wReader K aR rR0 aT uu])) rfl rfl 6 (by decide) (mc wd4_6) rfl (by decide +kernel) rfl rfl (by simp) rfl dX4_readToken_95 (fun R4 H locs h hP hD hS => ?_)
    refine r_goto C0 137 dX4_readToken_98 (by decide) ?_
    exact r_vret h C0 (fun (u : Rc) => (fl [wArr K aT 440 T, wReader K aR rR0 aT u])) hP hD hS dX4_readToken_137
set_option maxHeartbeats 1000000 in
set_option maxRecDepth 10000 in
theorem wX4_readToken_39 (C0 : cx p s m args meth c cX4_readToken 1 RX4 wsX4_readToken none D K) (hA : ∀ q, s.heap.size ≤ q → A q) (T : Nat → Int32) (R : Rc) (h : fX4_readToken_39 N T R = some z) (H : Heap) (locs : List Loc) (hP : va_P D vwCl (fl [wArr K aT 440 T, wReader K aR rR0 aT R]) H) (hD : va_D A (fl [wArr K aT 440 T, wReader K aR rR0 aT R])) (hS : va_S A s.heap H locs) (ls : Array Slot) (hl : lv_has ls 1 [(0, .ref (aR 0))]) : W p l e rmX4_readToken s m args below meth c H locs 0 0 (MQ below (qcV D z (fun (u : Rc) => (fl [wArr K aT 440 T, wReader K aR rR0 aT u])) A) args s 0 0 A) (F0 m 39 ls []) := by
  unfold fX4_readToken_39 at h
  refine r_aload_n C0 dX4_readToken_39 hl 0 rfl ?_
  refine r_aload_n C0 dX4_readToken_40 hl 0 rfl ?_
  refine r_get C0 4 inx4 hP 1 rfl rfl 5 (by decide) (mc wd4_5) (.int (R 5 0)) rfl dX4_readToken_41 ?_
  refine r_put (ty := .int) h C0 4 inx4 tyX4 tyX4_ok nmX4 hP hD hS 1 (fun uu => (fl [wArr K aT 440 T, wReader K aR rR0 aT uu])) rfl rfl 7 (by decide) (mc wd4_7) rfl (by decide +kernel) rfl rfl (by simp) rfl dX4_readToken_44 (fun R1 H locs h hP hD hS => ?_)
  refine r_aload_n C0 dX4_readToken_47 hl 0 rfl ?_
  refine r_get C0 4 inx4 hP 1 rfl rfl 5 (by decide) (mc wd4_5) (.int (R1 5 0)) rfl dX4_readToken_48 ?_
  refine r_sipush C0 (nI 400) dX4_readToken_51 (by decide) ?_
  refine r_icmp_lt h C0 82 dX4_readToken_54 (by decide) (fun h => ?_) (fun h => ?_)
  · exact wX4_readToken_82 C0 hA T R1 h _ _ hP hD hS _ (lv_sub hl [0] rfl)
  · refine r_aload_n C0 dX4_readToken_57 hl 0 rfl ?_
    refine r_get C0 4 inx4 hP 1 rfl rfl 2 (by decide) (mc wd4_2) (.int (R1 2 0)) rfl dX4_readToken_58 ?_
    refine r_sipush C0 (nI 400) dX4_readToken_61 (by decide) ?_
    refine r_icmp_le h C0 82 dX4_readToken_64 (by decide) (fun h => ?_) (fun h => ?_)
    · exact wX4_readToken_82 C0 hA T R1 h _ _ hP hD hS _ (lv_sub hl [0] rfl)
    · refine r_aload_n C0 dX4_readToken_67 hl 0 rfl ?_
      refine r_sipush C0 (nI 400) dX4_readToken_68 (by decide) ?_
      refine r_put (ty := .int) h C0 4 inx4 tyX4 tyX4_ok nmX4 hP hD hS 1 (fun uu => (fl [wArr K aT 440 T, wReader K aR rR0 aT uu])) rfl rfl 7 (by decide) (mc wd4_7) rfl (by decide +kernel) rfl rfl (by simp) rfl dX4_readToken_71 (fun R2 H locs h hP hD hS => ?_)
      refine r_aload_n C0 dX4_readToken_74 hl 0 rfl ?_
      refine r_iconst C0 (nI 0) dX4_readToken_75 (by decide) ?_
      refine r_put (ty := .int) h C0 4 inx4 tyX4 tyX4_ok nmX4 hP hD hS 1 (fun uu => (fl [wArr K aT 440 T, wReader K aR rR0 aT uu])) rfl rfl 6 (by decide) (mc wd4_6) rfl (by decide +kernel) rfl rfl (by simp) rfl dX4_readToken_76 (fun R3 H locs h hP hD hS => ?_)
      refine r_goto C0 137 dX4_readToken_79 (by decide) ?_
      exact r_vret h C0 (fun (u : Rc) => (fl [wArr K aT 440 T, wReader K aR rR0 aT u])) hP hD hS dX4_readToken_137
set_option maxHeartbeats 1000000 in
set_option maxRecDepth 10000 in
theorem wX4_readToken_0 (C0 : cx p s m args meth c cX4_readToken 1 RX4 wsX4_readToken none D K) (hA : ∀ q, s.heap.size ≤ q → A q) {k0 : (Nat → Int32) → Rc → Option (Rc)} (hk0 : IX4_readToken_0 p l e s m args below meth c D K aT aR rR0 A z k0) (T : Nat → Int32) (R : Rc) (h : fX4_readTokenb N k0 T R = some z) (H : Heap) (locs : List Loc) (hP : va_P D vwCl (fl [wArr K aT 440 T, wReader K aR rR0 aT R]) H) (hD : va_D A (fl [wArr K aT 440 T, wReader K aR rR0 aT R])) (hS : va_S A s.heap H locs) (ls : Array Slot) (hl : lv_has ls 1 [(0, .ref (aR 0))]) : W p l e rmX4_readToken s m args below meth c H locs 0 0 (MQ below (qcV D z (fun (u : Rc) => (fl [wArr K aT 440 T, wReader K aR rR0 aT u])) A) args s 0 0 A) (F0 m 0 ls []) := by
  unfold fX4_readTokenb at h
  refine r_aload_n C0 dX4_readToken_0 hl 0 rfl ?_
  refine r_get C0 4 inx4 hP 1 rfl rfl 5 (by decide) (mc wd4_5) (.int (R 5 0)) rfl dX4_readToken_1 ?_
  refine r_aload_n C0 dX4_readToken_4 hl 0 rfl ?_
  refine r_get C0 4 inx4 hP 1 rfl rfl 2 (by decide) (mc wd4_2) (.int (R 2 0)) rfl dX4_readToken_5 ?_
  refine r_icmp_ge h C0 39 dX4_readToken_8 (by decide) (fun h => ?_) (fun h => ?_)
  · exact wX4_readToken_39 C0 hA T R h _ _ hP hD hS _ (lv_sub hl [0] rfl)
  · refine r_aload_n C0 dX4_readToken_11 hl 0 rfl ?_
    refine r_get C0 4 inx4 hP 1 rfl rfl 1 (by decide) (mc wd4_8) (.ref aT) rfl dX4_readToken_12 ?_
    refine r_aload_n C0 dX4_readToken_15 hl 0 rfl ?_
    refine r_get C0 4 inx4 hP 1 rfl rfl 5 (by decide) (mc wd4_5) (.int (R 5 0)) rfl dX4_readToken_16 ?_
    refine r_iald h C0 hP 0 rfl dX4_readToken_19 (fun h => ?_)
    obtain ⟨z1, hz1, h⟩ := bnd_some h
    have hPc : va_P D vwCl [] H := va_P_nil
    refine r_cI (va_runS (As := [.int (T (R 5 0).toNatClampNeg)]) (rest := []) C0.1 (ctX4_isBlank l D K (T (R 5 0).toNatClampNeg) z1 hz1) (va_cwS 1 C0.1.2.2.2.2 (gdS wd7_23 wd8_0 wd2_4 wd8_1) rfl rfl rfl (by decide +kernel) ⟨Nat.le_of_ble_eq_true rfl, Nat.le_of_ble_eq_true rfl⟩) ⟨pcR_blind, pcR_of hPc C0.2.2.2⟩ rfl rfl hl.1 rfl (lv_room (Nat.le_of_ble_eq_true rfl)) dX4_readToken_20 ⟨Nat.zero_le _, Nat.zero_le _⟩).run ?_
    refine r_if_eq h C0 39 dX4_readToken_23 (by decide) (fun h => ?_) (fun h => ?_)
    · exact wX4_readToken_39 C0 hA T R h _ _ hP hD hS _ (lv_sub hl [0] rfl)
    · refine r_aload_n C0 dX4_readToken_26 hl 0 rfl ?_
      refine r_dup C0 dX4_readToken_27 rfl ?_
      refine r_get C0 4 inx4 hP 1 rfl rfl 5 (by decide) (mc wd4_5) (.int (R 5 0)) rfl dX4_readToken_28 ?_
      refine r_iconst C0 (nI 1) dX4_readToken_31 (by decide) ?_
      refine r_iadd C0 dX4_readToken_32 ?_
      refine r_put (ty := .int) h C0 4 inx4 tyX4 tyX4_ok nmX4 hP hD hS 1 (fun uu => (fl [wArr K aT 440 T, wReader K aR rR0 aT uu])) rfl rfl 5 (by decide) (mc wd4_5) rfl (by decide +kernel) rfl rfl (by simp) rfl dX4_readToken_33 (fun R2 H locs h hP hD hS => ?_)
      refine r_goto C0 0 dX4_readToken_36 (by decide) ?_
      exact hk0 T R2 _ _ _ h hP hD hS (lv_sub hl [0] rfl)
theorem wX4_readToken_0L (C0 : cx p s m args meth c cX4_readToken 1 RX4 wsX4_readToken none D K) (hA : ∀ q, s.heap.size ≤ q → A q) : IX4_readToken_0 p l e s m args below meth c D K aT aR rR0 A z (fX4_readToken N) := by
  refine itn_ind (IX4_readToken_0 p l e s m args below meth c D K aT aR rR0 A z) ?_ ?_ N
  · intro _ _ _ _ _ h; cases h
  · intro k0 hk0 T R H locs ls h hP hD hS hl
    exact wX4_readToken_0 C0 hA hk0 T R h H locs hP hD hS ls hl
set_option maxHeartbeats 1000000 in
set_option maxRecDepth 10000 in
theorem ctX4_readToken (l : Launch) (D : va_G) (K : Nat → ClassId) (N : Nat) (aT : Nat) (aR : Nat → Nat) (rR0 : Nat) (T : Nat → Int32) (R : Rc) (sz : Nat) (z : Rc) (hz : fX4_readToken N T R = some z) : Met l yX4_readToken wsX4_readToken rmX4_readToken (pcW D K [.ref (aR 0)] (fl [wArr K aT 440 T, wReader K aR rR0 aT R]) sz) (qcV D z (fun (u : Rc) => (fl [wArr K aT 440 T, wReader K aR rR0 aT u])) (va_A (fl [wArr K aT 440 T, wReader K aR rR0 aT R]) sz)) 0 0 (va_A (fl [wArr K aT 440 T, wReader K aR rR0 aT R]) sz) := by
  refine Met.ofW (cc := cX4_readToken) (maxL := 1) (ret := none) (by decide) rfl ?_
  intro p e s m args below meth c s₁ B hml hv
  obtain ⟨rfl, hsz, hP, hK, hD0⟩ := hv
  subst hsz
  have C0 : cx p s m _ meth c cX4_readToken 1 RX4 wsX4_readToken none D K := ⟨⟨B.exec, B.bytes, hml, findClass_of_methodNamed B.named, atoms_spec (ws := wsX4_readToken) B.pre⟩, B.returns, B.notSynchronized, hK⟩
  have hD := hD0.self (sz := s.heap.size)
  generalize hAe : va_A (fl [wArr K aT 440 T, wReader K aR rR0 aT R]) s.heap.size = A at hD ⊢
  have hA : ∀ q : Nat, s.heap.size ≤ q → A q := fun q h => by rw [← hAe]; exact Or.inr h
  have hl := lv_entry ([.ref (aR 0)]) (n := 1) (Nat.le_of_ble_eq_true rfl)
  rw [lg_entry_eq]
  generalize (lg_sl ([.ref (aR 0)]) ++ List.replicate (1 - (lg_sl ([.ref (aR 0)])).length) Slot.unset).toArray = ls at hl ⊢
  have hl : lv_has ls 1 [(0, .ref (aR 0))] := hl
  exact wX4_readToken_0L C0 hA T R s.heap [] ls hz hP hD va_S.rf (lv_sub hl [0] rfl)
end SX4_readToken

section SX4_readNumber
/-! CardLoops$Reader.readNumber(II)I -/
abbrev wsX4_readNumber : List Cond := Cond.code yX4_readNumber cX4_readNumber 5 (some .int) :: wsL_law0
abbrev rmX4_readNumber : Room := { frames := 2, cells := 0, slots := 0, locals := 43 }
variable {p : Program} {l : Launch} {e : Env} {s : State} {m : MethodId} {args : Array Value} {below : List Frame} {meth : Method} {c : Code} {D : va_G} {K : Nat → ClassId} {A : Nat → Prop} {N : Nat} {aT : Nat} {aR : Nat → Nat} {rR0 : Nat} {z : Int32 × (Rc)}
def IX4_readNumber_27 (p : Program) (l : Launch) (e : Env) (s : State) (m : MethodId) (args : Array Value) (below : List Frame) (meth : Method) (c : Code) (D : va_G) (K : Nat → ClassId) (aT : Nat) (aR : Nat → Nat) (rR0 : Nat) (A : Nat → Prop) (z : Int32 × (Rc)) (k : (Nat → Int32) → Rc → Int32 → Int32 → Int32 → Int32 → Option (Int32 × (Rc))) : Prop := ∀ (T : Nat → Int32) (R : Rc) (x1 : Int32) (x2 : Int32) (x3 : Int32) (x4 : Int32) (H : Heap) (locs : List Loc) (ls : Array Slot), k T R x1 x2 x3 x4 = some z → va_P D vwCl (fl [wArr K aT 440 T, wReader K aR rR0 aT R]) H → va_D A (fl [wArr K aT 440 T, wReader K aR rR0 aT R]) → va_S A s.heap H locs → lv_has ls 5 [(0, .ref (aR 0)), (1, .int x1), (2, .int x2), (3, .int x3), (4, .int x4)] → W p l e rmX4_readNumber s m args below meth c H locs 0 0 (MQ below (qcI D z (fun (u : Rc) => (fl [wArr K aT 440 T, wReader K aR rR0 aT u])) A) args s 0 0 A) (F0 m 27 ls [])
set_option maxHeartbeats 1000000 in
set_option maxRecDepth 10000 in
theorem wX4_readNumber_73 (C0 : cx p s m args meth c cX4_readNumber 5 RX4 wsX4_readNumber (some .int) D K) (hA : ∀ q, s.heap.size ≤ q → A q) (T : Nat → Int32) (R : Rc) (x3 : Int32) (h : fX4_readNumber_73 N T R x3 = some z) (H : Heap) (locs : List Loc) (hP : va_P D vwCl (fl [wArr K aT 440 T, wReader K aR rR0 aT R]) H) (hD : va_D A (fl [wArr K aT 440 T, wReader K aR rR0 aT R])) (hS : va_S A s.heap H locs) (ls : Array Slot) (hl : lv_has ls 5 [(3, .int x3)]) : W p l e rmX4_readNumber s m args below meth c H locs 0 0 (MQ below (qcI D z (fun (u : Rc) => (fl [wArr K aT 440 T, wReader K aR rR0 aT u])) A) args s 0 0 A) (F0 m 73 ls []) := by
  unfold fX4_readNumber_73 at h
  refine r_iload_n C0 dX4_readNumber_73 hl 0 rfl ?_
  exact r_iret h C0 (fun (u : Rc) => (fl [wArr K aT 440 T, wReader K aR rR0 aT u])) hP hD hS dX4_readNumber_74
set_option maxHeartbeats 1000000 in
set_option maxRecDepth 10000 in
theorem wX4_readNumber_68 (C0 : cx p s m args meth c cX4_readNumber 5 RX4 wsX4_readNumber (some .int) D K) (hA : ∀ q, s.heap.size ≤ q → A q) (T : Nat → Int32) (R : Rc) (x3 : Int32) (h : fX4_readNumber_68 N T R x3 = some z) (H : Heap) (locs : List Loc) (hP : va_P D vwCl (fl [wArr K aT 440 T, wReader K aR rR0 aT R]) H) (hD : va_D A (fl [wArr K aT 440 T, wReader K aR rR0 aT R])) (hS : va_S A s.heap H locs) (ls : Array Slot) (hl : lv_has ls 5 [(0, .ref (aR 0)), (3, .int x3)]) : W p l e rmX4_readNumber s m args below meth c H locs 0 0 (MQ below (qcI D z (fun (u : Rc) => (fl [wArr K aT 440 T, wReader K aR rR0 aT u])) A) args s 0 0 A) (F0 m 68 ls []) := by
  unfold fX4_readNumber_68 at h
  refine r_aload_n C0 dX4_readNumber_68 hl 0 rfl ?_
  refine r_iconst C0 (nI 2) dX4_readNumber_69 (by decide) ?_
  obtain ⟨z1, hz1, h⟩ := bnd_some h
  refine r_callVC (Wc := [wReader K aR rR0 aT R]) (wf := fun (u : Rc) => [wReader K aR rR0 aT u]) (Wn := [wArr K aT 440 T, wReader K aR rR0 aT z1]) hP hD hS hA [1] [0] [0, 1] 2 rfl rfl (by decide) rfl rfl (by decide) (fun hPc hDc hFc => va_runV (As := [.int (nI 2)]) (rest := []) C0.1 (ctX4_fail l D K aR rR0 aT R (nI 2) H.size z1 hz1) (cwV 1 C0.1.2.2.2.2 (gdV wd10_23 wd11_0 wd11_1 wd2_4 wd11_2) rfl rfl rfl (by decide +kernel) ⟨Nat.le_of_ble_eq_true rfl, Nat.le_of_ble_eq_true rfl⟩) ⟨pcW_blind, va_recv C0.2.2.2.1 hPc (ci := 4) (q0 := 0) rfl rfl, pcW_of hPc hDc C0.2.2.2⟩ rfl rfl hl.1 rfl (lv_room (Nat.le_of_ble_eq_true rfl)) dX4_readNumber_70 ⟨Nat.zero_le _, Nat.zero_le _⟩) (fun H locs hP hD hS => ?_)
  exact wX4_readNumber_73 C0 hA T z1 x3 h _ _ hP hD hS _ (lv_sub hl [1] rfl)
set_option maxHeartbeats 1000000 in
set_option maxRecDepth 10000 in
theorem wX4_readNumber_27 (C0 : cx p s m args meth c cX4_readNumber 5 RX4 wsX4_readNumber (some .int) D K) (hA : ∀ q, s.heap.size ≤ q → A q) {k27 : (Nat → Int32) → Rc → Int32 → Int32 → Int32 → Int32 → Option (Int32 × (Rc))} (hk27 : IX4_readNumber_27 p l e s m args below meth c D K aT aR rR0 A z k27) (T : Nat → Int32) (R : Rc) (x1 : Int32) (x2 : Int32) (x3 : Int32) (x4 : Int32) (h : fX4_readNumber_27b N k27 T R x1 x2 x3 x4 = some z) (H : Heap) (locs : List Loc) (hP : va_P D vwCl (fl [wArr K aT 440 T, wReader K aR rR0 aT R]) H) (hD : va_D A (fl [wArr K aT 440 T, wReader K aR rR0 aT R])) (hS : va_S A s.heap H locs) (ls : Array Slot) (hl : lv_has ls 5 [(0, .ref (aR 0)), (1, .int x1), (2, .int x2), (3, .int x3), (4, .int x4)]) : W p l e rmX4_readNumber s m args below meth c H locs 0 0 (MQ below (qcI D z (fun (u : Rc) => (fl [wArr K aT 440 T, wReader K aR rR0 aT u])) A) args s 0 0 A) (F0 m 27 ls []) := by
  unfold fX4_readNumber_27b at h
  refine r_iload C0 dX4_readNumber_27 hl 4 rfl ?_
  refine r_aload_n C0 dX4_readNumber_29 hl 0 rfl ?_
  refine r_get C0 4 inx4 hP 1 rfl rfl 5 (by decide) (mc wd4_5) (.int (R 5 0)) rfl dX4_readNumber_30 ?_
  refine r_icmp_ge h C0 58 dX4_readNumber_33 (by decide) (fun h => ?_) (fun h => ?_)
  · refine r_iload_n C0 dX4_readNumber_58 hl 3 rfl ?_
    refine r_iload_n C0 dX4_readNumber_59 hl 1 rfl ?_
    refine r_icmp_lt h C0 68 dX4_readNumber_60 (by decide) (fun h => ?_) (fun h => ?_)
    · exact wX4_readNumber_68 C0 hA T R x3 h _ _ hP hD hS _ (lv_sub hl [0, 3] rfl)
    · refine r_iload_n C0 dX4_readNumber_63 hl 3 rfl ?_
      refine r_iload_n C0 dX4_readNumber_64 hl 2 rfl ?_
      refine r_icmp_le h C0 73 dX4_readNumber_65 (by decide) (fun h => ?_) (fun h => ?_)
      · exact wX4_readNumber_73 C0 hA T R x3 h _ _ hP hD hS _ (lv_sub hl [3] rfl)
      · exact wX4_readNumber_68 C0 hA T R x3 h _ _ hP hD hS _ (lv_sub hl [0, 3] rfl)
  · refine r_iload_n C0 dX4_readNumber_36 hl 3 rfl ?_
    refine r_bipush C0 (nI 10) dX4_readNumber_37 (by decide) ?_
    refine r_imul C0 dX4_readNumber_39 ?_
    refine r_aload_n C0 dX4_readNumber_40 hl 0 rfl ?_
    refine r_get C0 4 inx4 hP 1 rfl rfl 1 (by decide) (mc wd4_8) (.ref aT) rfl dX4_readNumber_41 ?_
    refine r_iload C0 dX4_readNumber_44 hl 4 rfl ?_
    refine r_iald h C0 hP 0 rfl dX4_readNumber_46 (fun h => ?_)
    refine r_iadd C0 dX4_readNumber_47 ?_
    refine r_bipush C0 (nI 48) dX4_readNumber_48 (by decide) ?_
    refine r_isub C0 dX4_readNumber_50 ?_
    refine r_istore_n h C0 (fun v1 => [(3, .int v1), (0, .ref (aR 0)), (1, .int x1), (2, .int x2), (4, .int x4)]) dX4_readNumber_51 hl (by decide) (fun _ => rfl) (fun v1 ls h hl => ?_)
    refine r_iinc h C0 4 (fun v2 => [(4, .int v2), (3, .int v1), (0, .ref (aR 0)), (1, .int x1), (2, .int x2)]) dX4_readNumber_52 hl rfl rfl (by decide) (fun _ => rfl) (fun v2 ls h hl => ?_)
    refine r_goto C0 27 dX4_readNumber_55 (by decide) ?_
    exact hk27 T R x1 x2 v1 v2 _ _ _ h hP hD hS (lv_sub hl [2, 3, 4, 1, 0] rfl)
theorem wX4_readNumber_27L (C0 : cx p s m args meth c cX4_readNumber 5 RX4 wsX4_readNumber (some .int) D K) (hA : ∀ q, s.heap.size ≤ q → A q) : IX4_readNumber_27 p l e s m args below meth c D K aT aR rR0 A z (fX4_readNumber_27 N) := by
  refine itn_ind (IX4_readNumber_27 p l e s m args below meth c D K aT aR rR0 A z) ?_ ?_ N
  · intro _ _ _ _ _ _ _ _ _ h; cases h
  · intro k27 hk27 T R x1 x2 x3 x4 H locs ls h hP hD hS hl
    exact wX4_readNumber_27 C0 hA hk27 T R x1 x2 x3 x4 h H locs hP hD hS ls hl
set_option maxHeartbeats 1000000 in
set_option maxRecDepth 10000 in
theorem wX4_readNumber_0 (C0 : cx p s m args meth c cX4_readNumber 5 RX4 wsX4_readNumber (some .int) D K) (hA : ∀ q, s.heap.size ≤ q → A q) (T : Nat → Int32) (R : Rc) (x1 : Int32) (x2 : Int32) (h : fX4_readNumber N T R x1 x2 = some z) (H : Heap) (locs : List Loc) (hP : va_P D vwCl (fl [wArr K aT 440 T, wReader K aR rR0 aT R]) H) (hD : va_D A (fl [wArr K aT 440 T, wReader K aR rR0 aT R])) (hS : va_S A s.heap H locs) (ls : Array Slot) (hl : lv_has ls 5 [(0, .ref (aR 0)), (1, .int x1), (2, .int x2)]) : W p l e rmX4_readNumber s m args below meth c H locs 0 0 (MQ below (qcI D z (fun (u : Rc) => (fl [wArr K aT 440 T, wReader K aR rR0 aT u])) A) args s 0 0 A) (F0 m 0 ls []) := by
  unfold fX4_readNumber at h
  refine r_aload_n C0 dX4_readNumber_0 hl 0 rfl ?_
  obtain ⟨z1, hz1, h⟩ := bnd_some h
  refine r_callVC (Wc := [wArr K aT 440 T, wReader K aR rR0 aT R]) (wf := fun (u : Rc) => [wArr K aT 440 T, wReader K aR rR0 aT u]) (Wn := [wArr K aT 440 T, wReader K aR rR0 aT z1]) hP hD hS hA [0, 1] [] [0, 1] 2 rfl rfl (by decide) rfl rfl (by decide) (fun hPc hDc hFc => va_runV (As := []) (rest := []) C0.1 (ctX4_readToken l D K N aT aR rR0 T R H.size z1 hz1) (cwV 0 C0.1.2.2.2.2 (gdV wd7_19 wd7_20 wd7_21 wd2_4 wd7_22) rfl rfl rfl (by decide +kernel) ⟨Nat.le_of_ble_eq_true rfl, Nat.le_of_ble_eq_true rfl⟩) ⟨pcW_blind, va_recv C0.2.2.2.1 hPc (ci := 4) (q0 := 1) rfl rfl, pcW_of hPc hDc C0.2.2.2⟩ rfl rfl hl.1 rfl (lv_room (Nat.le_of_ble_eq_true rfl)) dX4_readNumber_1 ⟨Nat.zero_le _, Nat.zero_le _⟩) (fun H locs hP hD hS => ?_)
  refine r_aload_n C0 dX4_readNumber_4 hl 0 rfl ?_
  refine r_get C0 4 inx4 hP 1 rfl rfl 6 (by decide) (mc wd4_6) (.int (z1 6 0)) rfl dX4_readNumber_5 ?_
  refine r_iconst C0 (nI 3) dX4_readNumber_8 (by decide) ?_
  refine r_icmp_eq h C0 19 dX4_readNumber_9 (by decide) (fun h => ?_) (fun h => ?_)
  · refine r_iconst C0 (nI 0) dX4_readNumber_19 (by decide) ?_
    refine r_istore_n h C0 (fun v2 => [(3, .int v2), (0, .ref (aR 0)), (1, .int x1), (2, .int x2)]) dX4_readNumber_20 hl (by decide) (fun _ => rfl) (fun v2 ls h hl => ?_)
    refine r_aload_n C0 dX4_readNumber_21 hl 1 rfl ?_
    refine r_get C0 4 inx4 hP 1 rfl rfl 7 (by decide) (mc wd4_7) (.int (z1 7 0)) rfl dX4_readNumber_22 ?_
    refine r_istore h C0 (fun v3 => [(4, .int v3), (3, .int v2), (0, .ref (aR 0)), (1, .int x1), (2, .int x2)]) dX4_readNumber_25 hl (by decide) (fun _ => rfl) (fun v3 ls h hl => ?_)
    exact wX4_readNumber_27L C0 hA T z1 x1 x2 v2 v3 _ _ _ h hP hD hS (lv_sub hl [2, 3, 4, 1, 0] rfl)
  · refine r_aload_n C0 dX4_readNumber_12 hl 0 rfl ?_
    refine r_iconst C0 (nI 1) dX4_readNumber_13 (by decide) ?_
    obtain ⟨z4, hz4, h⟩ := bnd_some h
    refine r_callVC (Wc := [wReader K aR rR0 aT z1]) (wf := fun (u : Rc) => [wReader K aR rR0 aT u]) (Wn := [wArr K aT 440 T, wReader K aR rR0 aT z4]) hP hD hS hA [1] [0] [0, 1] 2 rfl rfl (by decide) rfl rfl (by decide) (fun hPc hDc hFc => va_runV (As := [.int (nI 1)]) (rest := []) C0.1 (ctX4_fail l D K aR rR0 aT z1 (nI 1) H.size z4 hz4) (cwV 1 C0.1.2.2.2.2 (gdV wd10_23 wd11_0 wd11_1 wd2_4 wd11_2) rfl rfl rfl (by decide +kernel) ⟨Nat.le_of_ble_eq_true rfl, Nat.le_of_ble_eq_true rfl⟩) ⟨pcW_blind, va_recv C0.2.2.2.1 hPc (ci := 4) (q0 := 0) rfl rfl, pcW_of hPc hDc C0.2.2.2⟩ rfl rfl hl.1 rfl (lv_room (Nat.le_of_ble_eq_true rfl)) dX4_readNumber_14 ⟨Nat.zero_le _, Nat.zero_le _⟩) (fun H locs hP hD hS => ?_)
    refine r_iload_n C0 dX4_readNumber_17 hl 1 rfl ?_
    exact r_iret h C0 (fun (u : Rc) => (fl [wArr K aT 440 T, wReader K aR rR0 aT u])) hP hD hS dX4_readNumber_18
set_option maxHeartbeats 1000000 in
set_option maxRecDepth 10000 in
theorem ctX4_readNumber (l : Launch) (D : va_G) (K : Nat → ClassId) (N : Nat) (aT : Nat) (aR : Nat → Nat) (rR0 : Nat) (T : Nat → Int32) (R : Rc) (p1 : Int32) (p2 : Int32) (sz : Nat) (z : Int32 × (Rc)) (hz : fX4_readNumber N T R p1 p2 = some z) : Met l yX4_readNumber wsX4_readNumber rmX4_readNumber (pcW D K [.ref (aR 0), .int p1, .int p2] (fl [wArr K aT 440 T, wReader K aR rR0 aT R]) sz) (qcI D z (fun (u : Rc) => (fl [wArr K aT 440 T, wReader K aR rR0 aT u])) (va_A (fl [wArr K aT 440 T, wReader K aR rR0 aT R]) sz)) 0 0 (va_A (fl [wArr K aT 440 T, wReader K aR rR0 aT R]) sz) := by
  refine Met.ofW (cc := cX4_readNumber) (maxL := 5) (ret := (some .int)) (by decide) rfl ?_
  intro p e s m args below meth c s₁ B hml hv
  obtain ⟨rfl, hsz, hP, hK, hD0⟩ := hv
  subst hsz
  have C0 : cx p s m _ meth c cX4_readNumber 5 RX4 wsX4_readNumber (some .int) D K := ⟨⟨B.exec, B.bytes, hml, findClass_of_methodNamed B.named, atoms_spec (ws := wsX4_readNumber) B.pre⟩, B.returns, B.notSynchronized, hK⟩
  have hD := hD0.self (sz := s.heap.size)
  generalize hAe : va_A (fl [wArr K aT 440 T, wReader K aR rR0 aT R]) s.heap.size = A at hD ⊢
  have hA : ∀ q : Nat, s.heap.size ≤ q → A q := fun q h => by rw [← hAe]; exact Or.inr h
  have hl := lv_entry ([.ref (aR 0), .int p1, .int p2]) (n := 5) (Nat.le_of_ble_eq_true rfl)
  rw [lg_entry_eq]
  generalize (lg_sl ([.ref (aR 0), .int p1, .int p2]) ++ List.replicate (5 - (lg_sl ([.ref (aR 0), .int p1, .int p2])).length) Slot.unset).toArray = ls at hl ⊢
  have hl : lv_has ls 5 [(0, .ref (aR 0)), (1, .int p1), (2, .int p2)] := hl
  exact wX4_readNumber_0 C0 hA T R p1 p2 hz s.heap [] hP hD va_S.rf ls (lv_sub hl [0, 1, 2] rfl)
end SX4_readNumber

section SX4_readSign
/-! CardLoops$Reader.readSign()V -/
abbrev wsX4_readSign : List Cond := Cond.code yX4_readSign cX4_readSign 1 none :: wsL_law0
abbrev rmX4_readSign : Room := { frames := 2, cells := 0, slots := 0, locals := 43 }
variable {p : Program} {l : Launch} {e : Env} {s : State} {m : MethodId} {args : Array Value} {below : List Frame} {meth : Method} {c : Code} {D : va_G} {K : Nat → ClassId} {A : Nat → Prop} {N : Nat} {aT : Nat} {aR : Nat → Nat} {rR0 : Nat} {z : Rc}
set_option maxHeartbeats 1000000 in
set_option maxRecDepth 10000 in
theorem wX4_readSign_0 (C0 : cx p s m args meth c cX4_readSign 1 RX4 wsX4_readSign none D K) (hA : ∀ q, s.heap.size ≤ q → A q) (T : Nat → Int32) (R : Rc) (h : fX4_readSign N T R = some z) (H : Heap) (locs : List Loc) (hP : va_P D vwCl (fl [wArr K aT 440 T, wReader K aR rR0 aT R]) H) (hD : va_D A (fl [wArr K aT 440 T, wReader K aR rR0 aT R])) (hS : va_S A s.heap H locs) (ls : Array Slot) (hl : lv_has ls 1 [(0, .ref (aR 0))]) : W p l e rmX4_readSign s m args below meth c H locs 0 0 (MQ below (qcV D z (fun (u : Rc) => (fl [wArr K aT 440 T, wReader K aR rR0 aT u])) A) args s 0 0 A) (F0 m 0 ls []) := by
  unfold fX4_readSign at h
  refine r_aload_n C0 dX4_readSign_0 hl 0 rfl ?_
  obtain ⟨z1, hz1, h⟩ := bnd_some h
  refine r_callVC (Wc := [wArr K aT 440 T, wReader K aR rR0 aT R]) (wf := fun (u : Rc) => [wArr K aT 440 T, wReader K aR rR0 aT u]) (Wn := [wArr K aT 440 T, wReader K aR rR0 aT z1]) hP hD hS hA [0, 1] [] [0, 1] 2 rfl rfl (by decide) rfl rfl (by decide) (fun hPc hDc hFc => va_runV (As := []) (rest := []) C0.1 (ctX4_readToken l D K N aT aR rR0 T R H.size z1 hz1) (cwV 0 C0.1.2.2.2.2 (gdV wd7_19 wd7_20 wd7_21 wd2_4 wd7_22) rfl rfl rfl (by decide +kernel) ⟨Nat.le_of_ble_eq_true rfl, Nat.le_of_ble_eq_true rfl⟩) ⟨pcW_blind, va_recv C0.2.2.2.1 hPc (ci := 4) (q0 := 1) rfl rfl, pcW_of hPc hDc C0.2.2.2⟩ rfl rfl hl.1 rfl (lv_room (Nat.le_of_ble_eq_true rfl)) dX4_readSign_1 ⟨Nat.zero_le _, Nat.zero_le _⟩) (fun H locs hP hD hS => ?_)
  refine r_aload_n C0 dX4_readSign_4 hl 0 rfl ?_
  refine r_get C0 4 inx4 hP 1 rfl rfl 6 (by decide) (mc wd4_6) (.int (z1 6 0)) rfl dX4_readSign_5 ?_
  refine r_iconst C0 (nI 4) dX4_readSign_8 (by decide) ?_
  refine r_icmp_eq h C0 17 dX4_readSign_9 (by decide) (fun h => ?_) (fun h => ?_)
  · exact r_vret h C0 (fun (u : Rc) => (fl [wArr K aT 440 T, wReader K aR rR0 aT u])) hP hD hS dX4_readSign_17
  · refine r_aload_n C0 dX4_readSign_12 hl 0 rfl ?_
    refine r_iconst C0 (nI 1) dX4_readSign_13 (by decide) ?_
    obtain ⟨z2, hz2, h⟩ := bnd_some h
    refine r_callVC (Wc := [wReader K aR rR0 aT z1]) (wf := fun (u : Rc) => [wReader K aR rR0 aT u]) (Wn := [wArr K aT 440 T, wReader K aR rR0 aT z2]) hP hD hS hA [1] [0] [0, 1] 2 rfl rfl (by decide) rfl rfl (by decide) (fun hPc hDc hFc => va_runV (As := [.int (nI 1)]) (rest := []) C0.1 (ctX4_fail l D K aR rR0 aT z1 (nI 1) H.size z2 hz2) (cwV 1 C0.1.2.2.2.2 (gdV wd10_23 wd11_0 wd11_1 wd2_4 wd11_2) rfl rfl rfl (by decide +kernel) ⟨Nat.le_of_ble_eq_true rfl, Nat.le_of_ble_eq_true rfl⟩) ⟨pcW_blind, va_recv C0.2.2.2.1 hPc (ci := 4) (q0 := 0) rfl rfl, pcW_of hPc hDc C0.2.2.2⟩ rfl rfl hl.1 rfl (lv_room (Nat.le_of_ble_eq_true rfl)) dX4_readSign_14 ⟨Nat.zero_le _, Nat.zero_le _⟩) (fun H locs hP hD hS => ?_)
    exact r_vret h C0 (fun (u : Rc) => (fl [wArr K aT 440 T, wReader K aR rR0 aT u])) hP hD hS dX4_readSign_17
set_option maxHeartbeats 1000000 in
set_option maxRecDepth 10000 in
theorem ctX4_readSign (l : Launch) (D : va_G) (K : Nat → ClassId) (N : Nat) (aT : Nat) (aR : Nat → Nat) (rR0 : Nat) (T : Nat → Int32) (R : Rc) (sz : Nat) (z : Rc) (hz : fX4_readSign N T R = some z) : Met l yX4_readSign wsX4_readSign rmX4_readSign (pcW D K [.ref (aR 0)] (fl [wArr K aT 440 T, wReader K aR rR0 aT R]) sz) (qcV D z (fun (u : Rc) => (fl [wArr K aT 440 T, wReader K aR rR0 aT u])) (va_A (fl [wArr K aT 440 T, wReader K aR rR0 aT R]) sz)) 0 0 (va_A (fl [wArr K aT 440 T, wReader K aR rR0 aT R]) sz) := by
  refine Met.ofW (cc := cX4_readSign) (maxL := 1) (ret := none) (by decide) rfl ?_
  intro p e s m args below meth c s₁ B hml hv
  obtain ⟨rfl, hsz, hP, hK, hD0⟩ := hv
  subst hsz
  have C0 : cx p s m _ meth c cX4_readSign 1 RX4 wsX4_readSign none D K := ⟨⟨B.exec, B.bytes, hml, findClass_of_methodNamed B.named, atoms_spec (ws := wsX4_readSign) B.pre⟩, B.returns, B.notSynchronized, hK⟩
  have hD := hD0.self (sz := s.heap.size)
  generalize hAe : va_A (fl [wArr K aT 440 T, wReader K aR rR0 aT R]) s.heap.size = A at hD ⊢
  have hA : ∀ q : Nat, s.heap.size ≤ q → A q := fun q h => by rw [← hAe]; exact Or.inr h
  have hl := lv_entry ([.ref (aR 0)]) (n := 1) (Nat.le_of_ble_eq_true rfl)
  rw [lg_entry_eq]
  generalize (lg_sl ([.ref (aR 0)]) ++ List.replicate (1 - (lg_sl ([.ref (aR 0)])).length) Slot.unset).toArray = ls at hl ⊢
  have hl : lv_has ls 1 [(0, .ref (aR 0))] := hl
  exact wX4_readSign_0 C0 hA T R hz s.heap [] hP hD va_S.rf ls (lv_sub hl [0] rfl)
end SX4_readSign

section SX4_readWorks
/-! CardLoops$Reader.readWorks()V -/
abbrev wsX4_readWorks : List Cond := Cond.code yX4_readWorks cX4_readWorks 2 none :: wsL_law0
abbrev rmX4_readWorks : Room := { frames := 3, cells := 0, slots := 0, locals := 67 }
variable {p : Program} {l : Launch} {e : Env} {s : State} {m : MethodId} {args : Array Value} {below : List Frame} {meth : Method} {c : Code} {D : va_G} {K : Nat → ClassId} {A : Nat → Prop} {N : Nat} {aT : Nat} {aQ : Nat → Nat} {aR : Nat → Nat} {z : Rc × Rc}
set_option maxHeartbeats 1000000 in
set_option maxRecDepth 10000 in
theorem wX4_readWorks_0 (C0 : cx p s m args meth c cX4_readWorks 2 RX4 wsX4_readWorks none D K) (hA : ∀ q, s.heap.size ≤ q → A q) (T : Nat → Int32) (Q : Rc) (R : Rc) (h : fX4_readWorks N T Q R = some z) (H : Heap) (locs : List Loc) (hP : va_P D vwCl (fl [wArr K aT 440 T, wPlan K aQ Q, wReader K aR (aQ 0) aT R]) H) (hD : va_D A (fl [wArr K aT 440 T, wPlan K aQ Q, wReader K aR (aQ 0) aT R])) (hS : va_S A s.heap H locs) (ls : Array Slot) (hl : lv_has ls 2 [(0, .ref (aR 0))]) : W p l e rmX4_readWorks s m args below meth c H locs 0 0 (MQ below (qcV D z (fun (u : Rc × Rc) => (fl [wArr K aT 440 T, wPlan K aQ u.1, wReader K aR (aQ 0) aT u.2])) A) args s 0 0 A) (F0 m 0 ls []) := by
  unfold fX4_readWorks at h
  refine r_aload_n C0 dX4_readWorks_0 hl 0 rfl ?_
  refine r_iconst C0 (nI 1) dX4_readWorks_1 (by decide) ?_
  refine r_bipush C0 (nI 20) dX4_readWorks_2 (by decide) ?_
  obtain ⟨z1, hz1, h⟩ := bnd_some h
  refine r_callIC (Wc := [wArr K aT 440 T, wReader K aR (aQ 0) aT R]) (wf := fun (u : Rc) => [wArr K aT 440 T, wReader K aR (aQ 0) aT u]) (Wn := [wArr K aT 440 T, wPlan K aQ Q, wReader K aR (aQ 0) aT z1.2]) hP hD hS hA [0, 2] [1] [1, 0, 2] 3 rfl rfl (by decide) rfl rfl (by decide) (fun hPc hDc hFc => va_runV (As := [.int (nI 1), .int (nI 20)]) (rest := []) C0.1 (ctX4_readNumber l D K N aT aR (aQ 0) T R (nI 1) (nI 20) H.size z1 hz1) (cwV 2 C0.1.2.2.2.2 (gdV wd10_19 wd10_20 wd10_21 wd2_4 wd10_22) rfl rfl rfl (by decide +kernel) ⟨Nat.le_of_ble_eq_true rfl, Nat.le_of_ble_eq_true rfl⟩) ⟨pcW_blind, va_recv C0.2.2.2.1 hPc (ci := 4) (q0 := 1) rfl rfl, pcW_of hPc hDc C0.2.2.2⟩ rfl rfl hl.1 rfl (lv_room (Nat.le_of_ble_eq_true rfl)) dX4_readWorks_4 ⟨Nat.zero_le _, Nat.zero_le _⟩) (fun H locs hP hD hS => ?_)
  refine r_istore_n h C0 (fun v2 => [(1, .int v2), (0, .ref (aR 0))]) dX4_readWorks_7 hl (by decide) (fun _ => rfl) (fun v2 ls h hl => ?_)
  refine r_aload_n C0 dX4_readWorks_8 hl 1 rfl ?_
  obtain ⟨z3, hz3, h⟩ := bnd_some h
  refine r_callVC (Wc := [wArr K aT 440 T, wReader K aR (aQ 0) aT z1.2]) (wf := fun (u : Rc) => [wArr K aT 440 T, wReader K aR (aQ 0) aT u]) (Wn := [wArr K aT 440 T, wPlan K aQ Q, wReader K aR (aQ 0) aT z3]) hP hD hS hA [0, 2] [1] [1, 0, 2] 3 rfl rfl (by decide) rfl rfl (by decide) (fun hPc hDc hFc => va_runV (As := []) (rest := []) C0.1 (ctX4_readSign l D K N aT aR (aQ 0) T z1.2 H.size z3 hz3) (cwV 0 C0.1.2.2.2.2 (gdV wd11_3 wd11_4 wd11_5 wd2_4 wd11_6) rfl rfl rfl (by decide +kernel) ⟨Nat.le_of_ble_eq_true rfl, Nat.le_of_ble_eq_true rfl⟩) ⟨pcW_blind, va_recv C0.2.2.2.1 hPc (ci := 4) (q0 := 1) rfl rfl, pcW_of hPc hDc C0.2.2.2⟩ rfl rfl hl.1 rfl (lv_room (Nat.le_of_ble_eq_true rfl)) dX4_readWorks_9 ⟨Nat.zero_le _, Nat.zero_le _⟩) (fun H locs hP hD hS => ?_)
  refine r_aload_n C0 dX4_readWorks_12 hl 1 rfl ?_
  refine r_get C0 4 inx4 hP 8 rfl rfl 3 (by decide) (mc wd4_3) (.int (z3 3 0)) rfl dX4_readWorks_13 ?_
  refine r_if_ne h C0 29 dX4_readWorks_16 (by decide) (fun h => ?_) (fun h => ?_)
  · exact r_vret h C0 (fun (u : Rc × Rc) => (fl [wArr K aT 440 T, wPlan K aQ u.1, wReader K aR (aQ 0) aT u.2])) hP hD hS dX4_readWorks_29
  · refine r_aload_n C0 dX4_readWorks_19 hl 1 rfl ?_
    refine r_get C0 4 inx4 hP 8 rfl rfl 0 (by decide) (mc wd4_1) (.ref (aQ 0)) rfl dX4_readWorks_20 ?_
    refine r_iconst C0 (nI 0) dX4_readWorks_23 (by decide) ?_
    refine r_iconst C0 (nI 0) dX4_readWorks_24 (by decide) ?_
    refine r_iload_n C0 dX4_readWorks_25 hl 0 rfl ?_
    obtain ⟨z4, hz4, h⟩ := bnd_some h
    refine r_callVC (Wc := [wPlan K aQ Q]) (wf := fun (u : Rc) => [wPlan K aQ u]) (Wn := [wArr K aT 440 T, wPlan K aQ z4, wReader K aR (aQ 0) aT z3]) hP hD hS hA [1] [0, 2] [0, 2, 1] 3 rfl rfl (by decide) rfl rfl (by decide) (fun hPc hDc hFc => va_runV (As := [.int (nI 0), .int (nI 0), .int v2]) (rest := []) C0.1 (ctX3_addLoop l D K aQ Q (nI 0) (nI 0) v2 H.size z4 hz4) (cwV 3 C0.1.2.2.2.2 (gdV wd11_7 wd11_8 wd11_9 wd1_20 wd11_10) rfl rfl rfl (by decide +kernel) ⟨Nat.le_of_ble_eq_true rfl, Nat.le_of_ble_eq_true rfl⟩) ⟨pcW_blind, va_recv C0.2.2.2.1 hPc (ci := 3) (q0 := 0) rfl rfl, pcW_of hPc hDc C0.2.2.2⟩ rfl rfl hl.1 rfl (lv_room (Nat.le_of_ble_eq_true rfl)) dX4_readWorks_26 ⟨Nat.zero_le _, Nat.zero_le _⟩) (fun H locs hP hD hS => ?_)
    exact r_vret h C0 (fun (u : Rc × Rc) => (fl [wArr K aT 440 T, wPlan K aQ u.1, wReader K aR (aQ 0) aT u.2])) hP hD hS dX4_readWorks_29
set_option maxHeartbeats 1000000 in
set_option maxRecDepth 10000 in
theorem ctX4_readWorks (l : Launch) (D : va_G) (K : Nat → ClassId) (N : Nat) (aT : Nat) (aQ : Nat → Nat) (aR : Nat → Nat) (T : Nat → Int32) (Q : Rc) (R : Rc) (sz : Nat) (z : Rc × Rc) (hz : fX4_readWorks N T Q R = some z) : Met l yX4_readWorks wsX4_readWorks rmX4_readWorks (pcW D K [.ref (aR 0)] (fl [wArr K aT 440 T, wPlan K aQ Q, wReader K aR (aQ 0) aT R]) sz) (qcV D z (fun (u : Rc × Rc) => (fl [wArr K aT 440 T, wPlan K aQ u.1, wReader K aR (aQ 0) aT u.2])) (va_A (fl [wArr K aT 440 T, wPlan K aQ Q, wReader K aR (aQ 0) aT R]) sz)) 0 0 (va_A (fl [wArr K aT 440 T, wPlan K aQ Q, wReader K aR (aQ 0) aT R]) sz) := by
  refine Met.ofW (cc := cX4_readWorks) (maxL := 2) (ret := none) (by decide) rfl ?_
  intro p e s m args below meth c s₁ B hml hv
  obtain ⟨rfl, hsz, hP, hK, hD0⟩ := hv
  subst hsz
  have C0 : cx p s m _ meth c cX4_readWorks 2 RX4 wsX4_readWorks none D K := ⟨⟨B.exec, B.bytes, hml, findClass_of_methodNamed B.named, atoms_spec (ws := wsX4_readWorks) B.pre⟩, B.returns, B.notSynchronized, hK⟩
  have hD := hD0.self (sz := s.heap.size)
  generalize hAe : va_A (fl [wArr K aT 440 T, wPlan K aQ Q, wReader K aR (aQ 0) aT R]) s.heap.size = A at hD ⊢
  have hA : ∀ q : Nat, s.heap.size ≤ q → A q := fun q h => by rw [← hAe]; exact Or.inr h
  have hl := lv_entry ([.ref (aR 0)]) (n := 2) (Nat.le_of_ble_eq_true rfl)
  rw [lg_entry_eq]
  generalize (lg_sl ([.ref (aR 0)]) ++ List.replicate (2 - (lg_sl ([.ref (aR 0)])).length) Slot.unset).toArray = ls at hl ⊢
  have hl : lv_has ls 2 [(0, .ref (aR 0))] := hl
  exact wX4_readWorks_0 C0 hA T Q R hz s.heap [] hP hD va_S.rf ls (lv_sub hl [0] rfl)
end SX4_readWorks

section SX4_readStation
/-! CardLoops$Reader.readStation()V -/
abbrev wsX4_readStation : List Cond := Cond.code yX4_readStation cX4_readStation 3 none :: wsL_law0
abbrev rmX4_readStation : Room := { frames := 3, cells := 0, slots := 0, locals := 67 }
variable {p : Program} {l : Launch} {e : Env} {s : State} {m : MethodId} {args : Array Value} {below : List Frame} {meth : Method} {c : Code} {D : va_G} {K : Nat → ClassId} {A : Nat → Prop} {N : Nat} {aT : Nat} {aQ : Nat → Nat} {aR : Nat → Nat} {z : Rc × Rc}
set_option maxHeartbeats 1000000 in
set_option maxRecDepth 10000 in
theorem wX4_readStation_17 (C0 : cx p s m args meth c cX4_readStation 3 RX4 wsX4_readStation none D K) (hA : ∀ q, s.heap.size ≤ q → A q) (T : Nat → Int32) (Q : Rc) (R : Rc) (h : fX4_readStation_17 N T Q R = some z) (H : Heap) (locs : List Loc) (hP : va_P D vwCl (fl [wArr K aT 440 T, wPlan K aQ Q, wReader K aR (aQ 0) aT R]) H) (hD : va_D A (fl [wArr K aT 440 T, wPlan K aQ Q, wReader K aR (aQ 0) aT R])) (hS : va_S A s.heap H locs) (ls : Array Slot) (hl : lv_has ls 3 [(0, .ref (aR 0))]) : W p l e rmX4_readStation s m args below meth c H locs 0 0 (MQ below (qcV D z (fun (u : Rc × Rc) => (fl [wArr K aT 440 T, wPlan K aQ u.1, wReader K aR (aQ 0) aT u.2])) A) args s 0 0 A) (F0 m 17 ls []) := by
  unfold fX4_readStation_17 at h
  refine r_aload_n C0 dX4_readStation_17 hl 0 rfl ?_
  refine r_iconst C0 (nI 1) dX4_readStation_18 (by decide) ?_
  refine r_bipush C0 (nI 60) dX4_readStation_19 (by decide) ?_
  obtain ⟨z1, hz1, h⟩ := bnd_some h
  refine r_callIC (Wc := [wArr K aT 440 T, wReader K aR (aQ 0) aT R]) (wf := fun (u : Rc) => [wArr K aT 440 T, wReader K aR (aQ 0) aT u]) (Wn := [wArr K aT 440 T, wPlan K aQ Q, wReader K aR (aQ 0) aT z1.2]) hP hD hS hA [0, 2] [1] [1, 0, 2] 3 rfl rfl (by decide) rfl rfl (by decide) (fun hPc hDc hFc => va_runV (As := [.int (nI 1), .int (nI 60)]) (rest := []) C0.1 (ctX4_readNumber l D K N aT aR (aQ 0) T R (nI 1) (nI 60) H.size z1 hz1) (cwV 2 C0.1.2.2.2.2 (gdV wd10_19 wd10_20 wd10_21 wd2_4 wd10_22) rfl rfl rfl (by decide +kernel) ⟨Nat.le_of_ble_eq_true rfl, Nat.le_of_ble_eq_true rfl⟩) ⟨pcW_blind, va_recv C0.2.2.2.1 hPc (ci := 4) (q0 := 1) rfl rfl, pcW_of hPc hDc C0.2.2.2⟩ rfl rfl hl.1 rfl (lv_room (Nat.le_of_ble_eq_true rfl)) dX4_readStation_21 ⟨Nat.zero_le _, Nat.zero_le _⟩) (fun H locs hP hD hS => ?_)
  refine r_istore_n h C0 (fun v2 => [(1, .int v2), (0, .ref (aR 0))]) dX4_readStation_24 hl (by decide) (fun _ => rfl) (fun v2 ls h hl => ?_)
  refine r_aload_n C0 dX4_readStation_25 hl 1 rfl ?_
  refine r_iconst C0 (nI 0) dX4_readStation_26 (by decide) ?_
  refine r_bipush C0 (nI 60) dX4_readStation_27 (by decide) ?_
  obtain ⟨z3, hz3, h⟩ := bnd_some h
  refine r_callIC (Wc := [wArr K aT 440 T, wReader K aR (aQ 0) aT z1.2]) (wf := fun (u : Rc) => [wArr K aT 440 T, wReader K aR (aQ 0) aT u]) (Wn := [wArr K aT 440 T, wPlan K aQ Q, wReader K aR (aQ 0) aT z3.2]) hP hD hS hA [0, 2] [1] [1, 0, 2] 3 rfl rfl (by decide) rfl rfl (by decide) (fun hPc hDc hFc => va_runV (As := [.int (nI 0), .int (nI 60)]) (rest := []) C0.1 (ctX4_readNumber l D K N aT aR (aQ 0) T z1.2 (nI 0) (nI 60) H.size z3 hz3) (cwV 2 C0.1.2.2.2.2 (gdV wd10_19 wd10_20 wd10_21 wd2_4 wd10_22) rfl rfl rfl (by decide +kernel) ⟨Nat.le_of_ble_eq_true rfl, Nat.le_of_ble_eq_true rfl⟩) ⟨pcW_blind, va_recv C0.2.2.2.1 hPc (ci := 4) (q0 := 1) rfl rfl, pcW_of hPc hDc C0.2.2.2⟩ rfl rfl hl.1 rfl (lv_room (Nat.le_of_ble_eq_true rfl)) dX4_readStation_29 ⟨Nat.zero_le _, Nat.zero_le _⟩) (fun H locs hP hD hS => ?_)
  refine r_istore_n h C0 (fun v4 => [(2, .int v4), (1, .int v2), (0, .ref (aR 0))]) dX4_readStation_32 hl (by decide) (fun _ => rfl) (fun v4 ls h hl => ?_)
  refine r_aload_n C0 dX4_readStation_33 hl 2 rfl ?_
  obtain ⟨z5, hz5, h⟩ := bnd_some h
  refine r_callVC (Wc := [wArr K aT 440 T, wReader K aR (aQ 0) aT z3.2]) (wf := fun (u : Rc) => [wArr K aT 440 T, wReader K aR (aQ 0) aT u]) (Wn := [wArr K aT 440 T, wPlan K aQ Q, wReader K aR (aQ 0) aT z5]) hP hD hS hA [0, 2] [1] [1, 0, 2] 3 rfl rfl (by decide) rfl rfl (by decide) (fun hPc hDc hFc => va_runV (As := []) (rest := []) C0.1 (ctX4_readSign l D K N aT aR (aQ 0) T z3.2 H.size z5 hz5) (cwV 0 C0.1.2.2.2.2 (gdV wd11_3 wd11_4 wd11_5 wd2_4 wd11_6) rfl rfl rfl (by decide +kernel) ⟨Nat.le_of_ble_eq_true rfl, Nat.le_of_ble_eq_true rfl⟩) ⟨pcW_blind, va_recv C0.2.2.2.1 hPc (ci := 4) (q0 := 1) rfl rfl, pcW_of hPc hDc C0.2.2.2⟩ rfl rfl hl.1 rfl (lv_room (Nat.le_of_ble_eq_true rfl)) dX4_readStation_34 ⟨Nat.zero_le _, Nat.zero_le _⟩) (fun H locs hP hD hS => ?_)
  refine r_aload_n C0 dX4_readStation_37 hl 2 rfl ?_
  refine r_get C0 4 inx4 hP 8 rfl rfl 3 (by decide) (mc wd4_3) (.int (z5 3 0)) rfl dX4_readStation_38 ?_
  refine r_if_ne h C0 53 dX4_readStation_41 (by decide) (fun h => ?_) (fun h => ?_)
  · exact r_vret h C0 (fun (u : Rc × Rc) => (fl [wArr K aT 440 T, wPlan K aQ u.1, wReader K aR (aQ 0) aT u.2])) hP hD hS dX4_readStation_53
  · refine r_aload_n C0 dX4_readStation_44 hl 2 rfl ?_
    refine r_get C0 4 inx4 hP 8 rfl rfl 0 (by decide) (mc wd4_1) (.ref (aQ 0)) rfl dX4_readStation_45 ?_
    refine r_iload_n C0 dX4_readStation_48 hl 1 rfl ?_
    refine r_iload_n C0 dX4_readStation_49 hl 0 rfl ?_
    obtain ⟨z6, hz6, h⟩ := bnd_some h
    refine r_callVC (Wc := [wPlan K aQ Q]) (wf := fun (u : Rc) => [wPlan K aQ u]) (Wn := [wArr K aT 440 T, wPlan K aQ z6, wReader K aR (aQ 0) aT z5]) hP hD hS hA [1] [0, 2] [0, 2, 1] 3 rfl rfl (by decide) rfl rfl (by decide) (fun hPc hDc hFc => va_runV (As := [.int v2, .int v4]) (rest := []) C0.1 (ctX3_addStation l D K aQ Q v2 v4 H.size z6 hz6) (cwV 2 C0.1.2.2.2.2 (gdV wd11_15 wd11_16 wd11_17 wd1_20 wd11_18) rfl rfl rfl (by decide +kernel) ⟨Nat.le_of_ble_eq_true rfl, Nat.le_of_ble_eq_true rfl⟩) ⟨pcW_blind, va_recv C0.2.2.2.1 hPc (ci := 3) (q0 := 0) rfl rfl, pcW_of hPc hDc C0.2.2.2⟩ rfl rfl hl.1 rfl (lv_room (Nat.le_of_ble_eq_true rfl)) dX4_readStation_50 ⟨Nat.zero_le _, Nat.zero_le _⟩) (fun H locs hP hD hS => ?_)
    exact r_vret h C0 (fun (u : Rc × Rc) => (fl [wArr K aT 440 T, wPlan K aQ u.1, wReader K aR (aQ 0) aT u.2])) hP hD hS dX4_readStation_53
set_option maxHeartbeats 1000000 in
set_option maxRecDepth 10000 in
theorem wX4_readStation_0 (C0 : cx p s m args meth c cX4_readStation 3 RX4 wsX4_readStation none D K) (hA : ∀ q, s.heap.size ≤ q → A q) (T : Nat → Int32) (Q : Rc) (R : Rc) (h : fX4_readStation N T Q R = some z) (H : Heap) (locs : List Loc) (hP : va_P D vwCl (fl [wArr K aT 440 T, wPlan K aQ Q, wReader K aR (aQ 0) aT R]) H) (hD : va_D A (fl [wArr K aT 440 T, wPlan K aQ Q, wReader K aR (aQ 0) aT R])) (hS : va_S A s.heap H locs) (ls : Array Slot) (hl : lv_has ls 3 [(0, .ref (aR 0))]) : W p l e rmX4_readStation s m args below meth c H locs 0 0 (MQ below (qcV D z (fun (u : Rc × Rc) => (fl [wArr K aT 440 T, wPlan K aQ u.1, wReader K aR (aQ 0) aT u.2])) A) args s 0 0 A) (F0 m 0 ls []) := by
  unfold fX4_readStation at h
  refine r_aload_n C0 dX4_readStation_0 hl 0 rfl ?_
  refine r_get C0 4 inx4 hP 8 rfl rfl 0 (by decide) (mc wd4_1) (.ref (aQ 0)) rfl dX4_readStation_1 ?_
  refine r_get C0 3 inx3 hP 1 rfl rfl 6 (by decide) (mc wd7_14) (.int (Q 6 0)) rfl dX4_readStation_4 ?_
  refine r_bipush C0 (nI 6) dX4_readStation_7 (by decide) ?_
  refine r_icmp_lt h C0 17 dX4_readStation_9 (by decide) (fun h => ?_) (fun h => ?_)
  · exact wX4_readStation_17 C0 hA T Q R h _ _ hP hD hS _ (lv_sub hl [0] rfl)
  · refine r_aload_n C0 dX4_readStation_12 hl 0 rfl ?_
    refine r_iconst C0 (nI 3) dX4_readStation_13 (by decide) ?_
    obtain ⟨z1, hz1, h⟩ := bnd_some h
    refine r_callVC (Wc := [wReader K aR (aQ 0) aT R]) (wf := fun (u : Rc) => [wReader K aR (aQ 0) aT u]) (Wn := [wArr K aT 440 T, wPlan K aQ Q, wReader K aR (aQ 0) aT z1]) hP hD hS hA [2] [0, 1] [0, 1, 2] 3 rfl rfl (by decide) rfl rfl (by decide) (fun hPc hDc hFc => va_runV (As := [.int (nI 3)]) (rest := []) C0.1 (ctX4_fail l D K aR (aQ 0) aT R (nI 3) H.size z1 hz1) (cwV 1 C0.1.2.2.2.2 (gdV wd10_23 wd11_0 wd11_1 wd2_4 wd11_2) rfl rfl rfl (by decide +kernel) ⟨Nat.le_of_ble_eq_true rfl, Nat.le_of_ble_eq_true rfl⟩) ⟨pcW_blind, va_recv C0.2.2.2.1 hPc (ci := 4) (q0 := 0) rfl rfl, pcW_of hPc hDc C0.2.2.2⟩ rfl rfl hl.1 rfl (lv_room (Nat.le_of_ble_eq_true rfl)) dX4_readStation_14 ⟨Nat.zero_le _, Nat.zero_le _⟩) (fun H locs hP hD hS => ?_)
    exact wX4_readStation_17 C0 hA T Q z1 h _ _ hP hD hS _ (lv_sub hl [0] rfl)
set_option maxHeartbeats 1000000 in
set_option maxRecDepth 10000 in
theorem ctX4_readStation (l : Launch) (D : va_G) (K : Nat → ClassId) (N : Nat) (aT : Nat) (aQ : Nat → Nat) (aR : Nat → Nat) (T : Nat → Int32) (Q : Rc) (R : Rc) (sz : Nat) (z : Rc × Rc) (hz : fX4_readStation N T Q R = some z) : Met l yX4_readStation wsX4_readStation rmX4_readStation (pcW D K [.ref (aR 0)] (fl [wArr K aT 440 T, wPlan K aQ Q, wReader K aR (aQ 0) aT R]) sz) (qcV D z (fun (u : Rc × Rc) => (fl [wArr K aT 440 T, wPlan K aQ u.1, wReader K aR (aQ 0) aT u.2])) (va_A (fl [wArr K aT 440 T, wPlan K aQ Q, wReader K aR (aQ 0) aT R]) sz)) 0 0 (va_A (fl [wArr K aT 440 T, wPlan K aQ Q, wReader K aR (aQ 0) aT R]) sz) := by
  refine Met.ofW (cc := cX4_readStation) (maxL := 3) (ret := none) (by decide) rfl ?_
  intro p e s m args below meth c s₁ B hml hv
  obtain ⟨rfl, hsz, hP, hK, hD0⟩ := hv
  subst hsz
  have C0 : cx p s m _ meth c cX4_readStation 3 RX4 wsX4_readStation none D K := ⟨⟨B.exec, B.bytes, hml, findClass_of_methodNamed B.named, atoms_spec (ws := wsX4_readStation) B.pre⟩, B.returns, B.notSynchronized, hK⟩
  have hD := hD0.self (sz := s.heap.size)
  generalize hAe : va_A (fl [wArr K aT 440 T, wPlan K aQ Q, wReader K aR (aQ 0) aT R]) s.heap.size = A at hD ⊢
  have hA : ∀ q : Nat, s.heap.size ≤ q → A q := fun q h => by rw [← hAe]; exact Or.inr h
  have hl := lv_entry ([.ref (aR 0)]) (n := 3) (Nat.le_of_ble_eq_true rfl)
  rw [lg_entry_eq]
  generalize (lg_sl ([.ref (aR 0)]) ++ List.replicate (3 - (lg_sl ([.ref (aR 0)])).length) Slot.unset).toArray = ls at hl ⊢
  have hl : lv_has ls 3 [(0, .ref (aR 0))] := hl
  exact wX4_readStation_0 C0 hA T Q R hz s.heap [] hP hD va_S.rf ls (lv_sub hl [0] rfl)
end SX4_readStation

section SX4_readLoop
/-! CardLoops$Reader.readLoop()V -/
abbrev wsX4_readLoop : List Cond := Cond.code yX4_readLoop cX4_readLoop 4 none :: wsL_law0
abbrev rmX4_readLoop : Room := { frames := 3, cells := 0, slots := 0, locals := 67 }
variable {p : Program} {l : Launch} {e : Env} {s : State} {m : MethodId} {args : Array Value} {below : List Frame} {meth : Method} {c : Code} {D : va_G} {K : Nat → ClassId} {A : Nat → Prop} {N : Nat} {aT : Nat} {aQ : Nat → Nat} {aR : Nat → Nat} {z : Rc × Rc}
set_option maxHeartbeats 1000000 in
set_option maxRecDepth 10000 in
theorem wX4_readLoop_16 (C0 : cx p s m args meth c cX4_readLoop 4 RX4 wsX4_readLoop none D K) (hA : ∀ q, s.heap.size ≤ q → A q) (T : Nat → Int32) (Q : Rc) (R : Rc) (h : fX4_readLoop_16 N T Q R = some z) (H : Heap) (locs : List Loc) (hP : va_P D vwCl (fl [wArr K aT 440 T, wPlan K aQ Q, wReader K aR (aQ 0) aT R]) H) (hD : va_D A (fl [wArr K aT 440 T, wPlan K aQ Q, wReader K aR (aQ 0) aT R])) (hS : va_S A s.heap H locs) (ls : Array Slot) (hl : lv_has ls 4 [(0, .ref (aR 0))]) : W p l e rmX4_readLoop s m args below meth c H locs 0 0 (MQ below (qcV D z (fun (u : Rc × Rc) => (fl [wArr K aT 440 T, wPlan K aQ u.1, wReader K aR (aQ 0) aT u.2])) A) args s 0 0 A) (F0 m 16 ls []) := by
  unfold fX4_readLoop_16 at h
  refine r_aload_n C0 dX4_readLoop_16 hl 0 rfl ?_
  refine r_iconst C0 (nI 0) dX4_readLoop_17 (by decide) ?_
  refine r_aload_n C0 dX4_readLoop_18 hl 0 rfl ?_
  refine r_get C0 4 inx4 hP 8 rfl rfl 0 (by decide) (mc wd4_1) (.ref (aQ 0)) rfl dX4_readLoop_19 ?_
  refine r_get C0 3 inx3 hP 1 rfl rfl 6 (by decide) (mc wd7_14) (.int (Q 6 0)) rfl dX4_readLoop_22 ?_
  refine r_iconst C0 (nI 1) dX4_readLoop_25 (by decide) ?_
  refine r_isub C0 dX4_readLoop_26 ?_
  obtain ⟨z1, hz1, h⟩ := bnd_some h
  refine r_callIC (Wc := [wArr K aT 440 T, wReader K aR (aQ 0) aT R]) (wf := fun (u : Rc) => [wArr K aT 440 T, wReader K aR (aQ 0) aT u]) (Wn := [wArr K aT 440 T, wPlan K aQ Q, wReader K aR (aQ 0) aT z1.2]) hP hD hS hA [0, 2] [1] [1, 0, 2] 3 rfl rfl (by decide) rfl rfl (by decide) (fun hPc hDc hFc => va_runV (As := [.int (nI 0), .int ((Q 6 0) - (nI 1))]) (rest := []) C0.1 (ctX4_readNumber l D K N aT aR (aQ 0) T R (nI 0) ((Q 6 0) - (nI 1)) H.size z1 hz1) (cwV 2 C0.1.2.2.2.2 (gdV wd10_19 wd10_20 wd10_21 wd2_4 wd10_22) rfl rfl rfl (by decide +kernel) ⟨Nat.le_of_ble_eq_true rfl, Nat.le_of_ble_eq_true rfl⟩) ⟨pcW_blind, va_recv C0.2.2.2.1 hPc (ci := 4) (q0 := 1) rfl rfl, pcW_of hPc hDc C0.2.2.2⟩ rfl rfl hl.1 rfl (lv_room (Nat.le_of_ble_eq_true rfl)) dX4_readLoop_27 ⟨Nat.zero_le _, Nat.zero_le _⟩) (fun H locs hP hD hS => ?_)
  refine r_istore_n h C0 (fun v2 => [(1, .int v2), (0, .ref (aR 0))]) dX4_readLoop_30 hl (by decide) (fun _ => rfl) (fun v2 ls h hl => ?_)
  refine r_aload_n C0 dX4_readLoop_31 hl 1 rfl ?_
  refine r_iload_n C0 dX4_readLoop_32 hl 0 rfl ?_
  refine r_aload_n C0 dX4_readLoop_33 hl 1 rfl ?_
  refine r_get C0 4 inx4 hP 8 rfl rfl 0 (by decide) (mc wd4_1) (.ref (aQ 0)) rfl dX4_readLoop_34 ?_
  refine r_get C0 3 inx3 hP 1 rfl rfl 6 (by decide) (mc wd7_14) (.int (Q 6 0)) rfl dX4_readLoop_37 ?_
  refine r_iconst C0 (nI 1) dX4_readLoop_40 (by decide) ?_
  refine r_isub C0 dX4_readLoop_41 ?_
  obtain ⟨z3, hz3, h⟩ := bnd_some h
  refine r_callIC (Wc := [wArr K aT 440 T, wReader K aR (aQ 0) aT z1.2]) (wf := fun (u : Rc) => [wArr K aT 440 T, wReader K aR (aQ 0) aT u]) (Wn := [wArr K aT 440 T, wPlan K aQ Q, wReader K aR (aQ 0) aT z3.2]) hP hD hS hA [0, 2] [1] [1, 0, 2] 3 rfl rfl (by decide) rfl rfl (by decide) (fun hPc hDc hFc => va_runV (As := [.int v2, .int ((Q 6 0) - (nI 1))]) (rest := []) C0.1 (ctX4_readNumber l D K N aT aR (aQ 0) T z1.2 v2 ((Q 6 0) - (nI 1)) H.size z3 hz3) (cwV 2 C0.1.2.2.2.2 (gdV wd10_19 wd10_20 wd10_21 wd2_4 wd10_22) rfl rfl rfl (by decide +kernel) ⟨Nat.le_of_ble_eq_true rfl, Nat.le_of_ble_eq_true rfl⟩) ⟨pcW_blind, va_recv C0.2.2.2.1 hPc (ci := 4) (q0 := 1) rfl rfl, pcW_of hPc hDc C0.2.2.2⟩ rfl rfl hl.1 rfl (lv_room (Nat.le_of_ble_eq_true rfl)) dX4_readLoop_42 ⟨Nat.zero_le _, Nat.zero_le _⟩) (fun H locs hP hD hS => ?_)
  refine r_istore_n h C0 (fun v4 => [(2, .int v4), (1, .int v2), (0, .ref (aR 0))]) dX4_readLoop_45 hl (by decide) (fun _ => rfl) (fun v4 ls h hl => ?_)
  refine r_aload_n C0 dX4_readLoop_46 hl 2 rfl ?_
  refine r_iconst C0 (nI 1) dX4_readLoop_47 (by decide) ?_
  refine r_bipush C0 (nI 20) dX4_readLoop_48 (by decide) ?_
  obtain ⟨z5, hz5, h⟩ := bnd_some h
  refine r_callIC (Wc := [wArr K aT 440 T, wReader K aR (aQ 0) aT z3.2]) (wf := fun (u : Rc) => [wArr K aT 440 T, wReader K aR (aQ 0) aT u]) (Wn := [wArr K aT 440 T, wPlan K aQ Q, wReader K aR (aQ 0) aT z5.2]) hP hD hS hA [0, 2] [1] [1, 0, 2] 3 rfl rfl (by decide) rfl rfl (by decide) (fun hPc hDc hFc => va_runV (As := [.int (nI 1), .int (nI 20)]) (rest := []) C0.1 (ctX4_readNumber l D K N aT aR (aQ 0) T z3.2 (nI 1) (nI 20) H.size z5 hz5) (cwV 2 C0.1.2.2.2.2 (gdV wd10_19 wd10_20 wd10_21 wd2_4 wd10_22) rfl rfl rfl (by decide +kernel) ⟨Nat.le_of_ble_eq_true rfl, Nat.le_of_ble_eq_true rfl⟩) ⟨pcW_blind, va_recv C0.2.2.2.1 hPc (ci := 4) (q0 := 1) rfl rfl, pcW_of hPc hDc C0.2.2.2⟩ rfl rfl hl.1 rfl (lv_room (Nat.le_of_ble_eq_true rfl)) dX4_readLoop_50 ⟨Nat.zero_le _, Nat.zero_le _⟩) (fun H locs hP hD hS => ?_)
  refine r_istore_n h C0 (fun v6 => [(3, .int v6), (2, .int v4), (1, .int v2), (0, .ref (aR 0))]) dX4_readLoop_53 hl (by decide) (fun _ => rfl) (fun v6 ls h hl => ?_)
  refine r_aload_n C0 dX4_readLoop_54 hl 3 rfl ?_
  obtain ⟨z7, hz7, h⟩ := bnd_some h
  refine r_callVC (Wc := [wArr K aT 440 T, wReader K aR (aQ 0) aT z5.2]) (wf := fun (u : Rc) => [wArr K aT 440 T, wReader K aR (aQ 0) aT u]) (Wn := [wArr K aT 440 T, wPlan K aQ Q, wReader K aR (aQ 0) aT z7]) hP hD hS hA [0, 2] [1] [1, 0, 2] 3 rfl rfl (by decide) rfl rfl (by decide) (fun hPc hDc hFc => va_runV (As := []) (rest := []) C0.1 (ctX4_readSign l D K N aT aR (aQ 0) T z5.2 H.size z7 hz7) (cwV 0 C0.1.2.2.2.2 (gdV wd11_3 wd11_4 wd11_5 wd2_4 wd11_6) rfl rfl rfl (by decide +kernel) ⟨Nat.le_of_ble_eq_true rfl, Nat.le_of_ble_eq_true rfl⟩) ⟨pcW_blind, va_recv C0.2.2.2.1 hPc (ci := 4) (q0 := 1) rfl rfl, pcW_of hPc hDc C0.2.2.2⟩ rfl rfl hl.1 rfl (lv_room (Nat.le_of_ble_eq_true rfl)) dX4_readLoop_55 ⟨Nat.zero_le _, Nat.zero_le _⟩) (fun H locs hP hD hS => ?_)
  refine r_aload_n C0 dX4_readLoop_58 hl 3 rfl ?_
  refine r_get C0 4 inx4 hP 8 rfl rfl 3 (by decide) (mc wd4_3) (.int (z7 3 0)) rfl dX4_readLoop_59 ?_
  refine r_if_ne h C0 75 dX4_readLoop_62 (by decide) (fun h => ?_) (fun h => ?_)
  · exact r_vret h C0 (fun (u : Rc × Rc) => (fl [wArr K aT 440 T, wPlan K aQ u.1, wReader K aR (aQ 0) aT u.2])) hP hD hS dX4_readLoop_75
  · refine r_aload_n C0 dX4_readLoop_65 hl 3 rfl ?_
    refine r_get C0 4 inx4 hP 8 rfl rfl 0 (by decide) (mc wd4_1) (.ref (aQ 0)) rfl dX4_readLoop_66 ?_
    refine r_iload_n C0 dX4_readLoop_69 hl 2 rfl ?_
    refine r_iload_n C0 dX4_readLoop_70 hl 1 rfl ?_
    refine r_iload_n C0 dX4_readLoop_71 hl 0 rfl ?_
    obtain ⟨z8, hz8, h⟩ := bnd_some h
    refine r_callVC (Wc := [wPlan K aQ Q]) (wf := fun (u : Rc) => [wPlan K aQ u]) (Wn := [wArr K aT 440 T, wPlan K aQ z8, wReader K aR (aQ 0) aT z7]) hP hD hS hA [1] [0, 2] [0, 2, 1] 3 rfl rfl (by decide) rfl rfl (by decide) (fun hPc hDc hFc => va_runV (As := [.int v2, .int v4, .int v6]) (rest := []) C0.1 (ctX3_addLoop l D K aQ Q v2 v4 v6 H.size z8 hz8) (cwV 3 C0.1.2.2.2.2 (gdV wd11_7 wd11_8 wd11_9 wd1_20 wd11_10) rfl rfl rfl (by decide +kernel) ⟨Nat.le_of_ble_eq_true rfl, Nat.le_of_ble_eq_true rfl⟩) ⟨pcW_blind, va_recv C0.2.2.2.1 hPc (ci := 3) (q0 := 0) rfl rfl, pcW_of hPc hDc C0.2.2.2⟩ rfl rfl hl.1 rfl (lv_room (Nat.le_of_ble_eq_true rfl)) dX4_readLoop_72 ⟨Nat.zero_le _, Nat.zero_le _⟩) (fun H locs hP hD hS => ?_)
    exact r_vret h C0 (fun (u : Rc × Rc) => (fl [wArr K aT 440 T, wPlan K aQ u.1, wReader K aR (aQ 0) aT u.2])) hP hD hS dX4_readLoop_75
set_option maxHeartbeats 1000000 in
set_option maxRecDepth 10000 in
theorem wX4_readLoop_0 (C0 : cx p s m args meth c cX4_readLoop 4 RX4 wsX4_readLoop none D K) (hA : ∀ q, s.heap.size ≤ q → A q) (T : Nat → Int32) (Q : Rc) (R : Rc) (h : fX4_readLoop N T Q R = some z) (H : Heap) (locs : List Loc) (hP : va_P D vwCl (fl [wArr K aT 440 T, wPlan K aQ Q, wReader K aR (aQ 0) aT R]) H) (hD : va_D A (fl [wArr K aT 440 T, wPlan K aQ Q, wReader K aR (aQ 0) aT R])) (hS : va_S A s.heap H locs) (ls : Array Slot) (hl : lv_has ls 4 [(0, .ref (aR 0))]) : W p l e rmX4_readLoop s m args below meth c H locs 0 0 (MQ below (qcV D z (fun (u : Rc × Rc) => (fl [wArr K aT 440 T, wPlan K aQ u.1, wReader K aR (aQ 0) aT u.2])) A) args s 0 0 A) (F0 m 0 ls []) := by
  unfold fX4_readLoop at h
  refine r_aload_n C0 dX4_readLoop_0 hl 0 rfl ?_
  refine r_get C0 4 inx4 hP 8 rfl rfl 0 (by decide) (mc wd4_1) (.ref (aQ 0)) rfl dX4_readLoop_1 ?_
  refine r_get C0 3 inx3 hP 1 rfl rfl 7 (by decide) (mc wd11_23) (.int (Q 7 0)) rfl dX4_readLoop_4 ?_
  refine r_iconst C0 (nI 5) dX4_readLoop_7 (by decide) ?_
  refine r_icmp_lt h C0 16 dX4_readLoop_8 (by decide) (fun h => ?_) (fun h => ?_)
  · exact wX4_readLoop_16 C0 hA T Q R h _ _ hP hD hS _ (lv_sub hl [0] rfl)
  · refine r_aload_n C0 dX4_readLoop_11 hl 0 rfl ?_
    refine r_iconst C0 (nI 3) dX4_readLoop_12 (by decide) ?_
    obtain ⟨z1, hz1, h⟩ := bnd_some h
    refine r_callVC (Wc := [wReader K aR (aQ 0) aT R]) (wf := fun (u : Rc) => [wReader K aR (aQ 0) aT u]) (Wn := [wArr K aT 440 T, wPlan K aQ Q, wReader K aR (aQ 0) aT z1]) hP hD hS hA [2] [0, 1] [0, 1, 2] 3 rfl rfl (by decide) rfl rfl (by decide) (fun hPc hDc hFc => va_runV (As := [.int (nI 3)]) (rest := []) C0.1 (ctX4_fail l D K aR (aQ 0) aT R (nI 3) H.size z1 hz1) (cwV 1 C0.1.2.2.2.2 (gdV wd10_23 wd11_0 wd11_1 wd2_4 wd11_2) rfl rfl rfl (by decide +kernel) ⟨Nat.le_of_ble_eq_true rfl, Nat.le_of_ble_eq_true rfl⟩) ⟨pcW_blind, va_recv C0.2.2.2.1 hPc (ci := 4) (q0 := 0) rfl rfl, pcW_of hPc hDc C0.2.2.2⟩ rfl rfl hl.1 rfl (lv_room (Nat.le_of_ble_eq_true rfl)) dX4_readLoop_13 ⟨Nat.zero_le _, Nat.zero_le _⟩) (fun H locs hP hD hS => ?_)
    exact wX4_readLoop_16 C0 hA T Q z1 h _ _ hP hD hS _ (lv_sub hl [0] rfl)
set_option maxHeartbeats 1000000 in
set_option maxRecDepth 10000 in
theorem ctX4_readLoop (l : Launch) (D : va_G) (K : Nat → ClassId) (N : Nat) (aT : Nat) (aQ : Nat → Nat) (aR : Nat → Nat) (T : Nat → Int32) (Q : Rc) (R : Rc) (sz : Nat) (z : Rc × Rc) (hz : fX4_readLoop N T Q R = some z) : Met l yX4_readLoop wsX4_readLoop rmX4_readLoop (pcW D K [.ref (aR 0)] (fl [wArr K aT 440 T, wPlan K aQ Q, wReader K aR (aQ 0) aT R]) sz) (qcV D z (fun (u : Rc × Rc) => (fl [wArr K aT 440 T, wPlan K aQ u.1, wReader K aR (aQ 0) aT u.2])) (va_A (fl [wArr K aT 440 T, wPlan K aQ Q, wReader K aR (aQ 0) aT R]) sz)) 0 0 (va_A (fl [wArr K aT 440 T, wPlan K aQ Q, wReader K aR (aQ 0) aT R]) sz) := by
  refine Met.ofW (cc := cX4_readLoop) (maxL := 4) (ret := none) (by decide) rfl ?_
  intro p e s m args below meth c s₁ B hml hv
  obtain ⟨rfl, hsz, hP, hK, hD0⟩ := hv
  subst hsz
  have C0 : cx p s m _ meth c cX4_readLoop 4 RX4 wsX4_readLoop none D K := ⟨⟨B.exec, B.bytes, hml, findClass_of_methodNamed B.named, atoms_spec (ws := wsX4_readLoop) B.pre⟩, B.returns, B.notSynchronized, hK⟩
  have hD := hD0.self (sz := s.heap.size)
  generalize hAe : va_A (fl [wArr K aT 440 T, wPlan K aQ Q, wReader K aR (aQ 0) aT R]) s.heap.size = A at hD ⊢
  have hA : ∀ q : Nat, s.heap.size ≤ q → A q := fun q h => by rw [← hAe]; exact Or.inr h
  have hl := lv_entry ([.ref (aR 0)]) (n := 4) (Nat.le_of_ble_eq_true rfl)
  rw [lg_entry_eq]
  generalize (lg_sl ([.ref (aR 0)]) ++ List.replicate (4 - (lg_sl ([.ref (aR 0)])).length) Slot.unset).toArray = ls at hl ⊢
  have hl : lv_has ls 4 [(0, .ref (aR 0))] := hl
  exact wX4_readLoop_0 C0 hA T Q R hz s.heap [] hP hD va_S.rf ls (lv_sub hl [0] rfl)
end SX4_readLoop

section SX4_readRun
/-! CardLoops$Reader.readRun()V -/
abbrev wsX4_readRun : List Cond := Cond.code yX4_readRun cX4_readRun 3 none :: wsL_law0
abbrev rmX4_readRun : Room := { frames := 3, cells := 0, slots := 0, locals := 67 }
variable {p : Program} {l : Launch} {e : Env} {s : State} {m : MethodId} {args : Array Value} {below : List Frame} {meth : Method} {c : Code} {D : va_G} {K : Nat → ClassId} {A : Nat → Prop} {N : Nat} {aT : Nat} {aQ : Nat → Nat} {aR : Nat → Nat} {z : Rc × Rc}
set_option maxHeartbeats 1000000 in
set_option maxRecDepth 10000 in
theorem wX4_readRun_17 (C0 : cx p s m args meth c cX4_readRun 3 RX4 wsX4_readRun none D K) (hA : ∀ q, s.heap.size ≤ q → A q) (T : Nat → Int32) (Q : Rc) (R : Rc) (h : fX4_readRun_17 N T Q R = some z) (H : Heap) (locs : List Loc) (hP : va_P D vwCl (fl [wArr K aT 440 T, wPlan K aQ Q, wReader K aR (aQ 0) aT R]) H) (hD : va_D A (fl [wArr K aT 440 T, wPlan K aQ Q, wReader K aR (aQ 0) aT R])) (hS : va_S A s.heap H locs) (ls : Array Slot) (hl : lv_has ls 3 [(0, .ref (aR 0))]) : W p l e rmX4_readRun s m args below meth c H locs 0 0 (MQ below (qcV D z (fun (u : Rc × Rc) => (fl [wArr K aT 440 T, wPlan K aQ u.1, wReader K aR (aQ 0) aT u.2])) A) args s 0 0 A) (F0 m 17 ls []) := by
  unfold fX4_readRun_17 at h
  refine r_aload_n C0 dX4_readRun_17 hl 0 rfl ?_
  refine r_iconst C0 (nI 0) dX4_readRun_18 (by decide) ?_
  refine r_iconst C0 (nI 3) dX4_readRun_19 (by decide) ?_
  obtain ⟨z1, hz1, h⟩ := bnd_some h
  refine r_callIC (Wc := [wArr K aT 440 T, wReader K aR (aQ 0) aT R]) (wf := fun (u : Rc) => [wArr K aT 440 T, wReader K aR (aQ 0) aT u]) (Wn := [wArr K aT 440 T, wPlan K aQ Q, wReader K aR (aQ 0) aT z1.2]) hP hD hS hA [0, 2] [1] [1, 0, 2] 3 rfl rfl (by decide) rfl rfl (by decide) (fun hPc hDc hFc => va_runV (As := [.int (nI 0), .int (nI 3)]) (rest := []) C0.1 (ctX4_readNumber l D K N aT aR (aQ 0) T R (nI 0) (nI 3) H.size z1 hz1) (cwV 2 C0.1.2.2.2.2 (gdV wd10_19 wd10_20 wd10_21 wd2_4 wd10_22) rfl rfl rfl (by decide +kernel) ⟨Nat.le_of_ble_eq_true rfl, Nat.le_of_ble_eq_true rfl⟩) ⟨pcW_blind, va_recv C0.2.2.2.1 hPc (ci := 4) (q0 := 1) rfl rfl, pcW_of hPc hDc C0.2.2.2⟩ rfl rfl hl.1 rfl (lv_room (Nat.le_of_ble_eq_true rfl)) dX4_readRun_20 ⟨Nat.zero_le _, Nat.zero_le _⟩) (fun H locs hP hD hS => ?_)
  refine r_istore_n h C0 (fun v2 => [(1, .int v2), (0, .ref (aR 0))]) dX4_readRun_23 hl (by decide) (fun _ => rfl) (fun v2 ls h hl => ?_)
  refine r_aload_n C0 dX4_readRun_24 hl 1 rfl ?_
  refine r_iconst C0 (nI 1) dX4_readRun_25 (by decide) ?_
  refine r_bipush C0 (nI 20) dX4_readRun_26 (by decide) ?_
  obtain ⟨z3, hz3, h⟩ := bnd_some h
  refine r_callIC (Wc := [wArr K aT 440 T, wReader K aR (aQ 0) aT z1.2]) (wf := fun (u : Rc) => [wArr K aT 440 T, wReader K aR (aQ 0) aT u]) (Wn := [wArr K aT 440 T, wPlan K aQ Q, wReader K aR (aQ 0) aT z3.2]) hP hD hS hA [0, 2] [1] [1, 0, 2] 3 rfl rfl (by decide) rfl rfl (by decide) (fun hPc hDc hFc => va_runV (As := [.int (nI 1), .int (nI 20)]) (rest := []) C0.1 (ctX4_readNumber l D K N aT aR (aQ 0) T z1.2 (nI 1) (nI 20) H.size z3 hz3) (cwV 2 C0.1.2.2.2.2 (gdV wd10_19 wd10_20 wd10_21 wd2_4 wd10_22) rfl rfl rfl (by decide +kernel) ⟨Nat.le_of_ble_eq_true rfl, Nat.le_of_ble_eq_true rfl⟩) ⟨pcW_blind, va_recv C0.2.2.2.1 hPc (ci := 4) (q0 := 1) rfl rfl, pcW_of hPc hDc C0.2.2.2⟩ rfl rfl hl.1 rfl (lv_room (Nat.le_of_ble_eq_true rfl)) dX4_readRun_28 ⟨Nat.zero_le _, Nat.zero_le _⟩) (fun H locs hP hD hS => ?_)
  refine r_istore_n h C0 (fun v4 => [(2, .int v4), (1, .int v2), (0, .ref (aR 0))]) dX4_readRun_31 hl (by decide) (fun _ => rfl) (fun v4 ls h hl => ?_)
  refine r_aload_n C0 dX4_readRun_32 hl 2 rfl ?_
  obtain ⟨z5, hz5, h⟩ := bnd_some h
  refine r_callVC (Wc := [wArr K aT 440 T, wReader K aR (aQ 0) aT z3.2]) (wf := fun (u : Rc) => [wArr K aT 440 T, wReader K aR (aQ 0) aT u]) (Wn := [wArr K aT 440 T, wPlan K aQ Q, wReader K aR (aQ 0) aT z5]) hP hD hS hA [0, 2] [1] [1, 0, 2] 3 rfl rfl (by decide) rfl rfl (by decide) (fun hPc hDc hFc => va_runV (As := []) (rest := []) C0.1 (ctX4_readSign l D K N aT aR (aQ 0) T z3.2 H.size z5 hz5) (cwV 0 C0.1.2.2.2.2 (gdV wd11_3 wd11_4 wd11_5 wd2_4 wd11_6) rfl rfl rfl (by decide +kernel) ⟨Nat.le_of_ble_eq_true rfl, Nat.le_of_ble_eq_true rfl⟩) ⟨pcW_blind, va_recv C0.2.2.2.1 hPc (ci := 4) (q0 := 1) rfl rfl, pcW_of hPc hDc C0.2.2.2⟩ rfl rfl hl.1 rfl (lv_room (Nat.le_of_ble_eq_true rfl)) dX4_readRun_33 ⟨Nat.zero_le _, Nat.zero_le _⟩) (fun H locs hP hD hS => ?_)
  refine r_aload_n C0 dX4_readRun_36 hl 2 rfl ?_
  refine r_get C0 4 inx4 hP 8 rfl rfl 3 (by decide) (mc wd4_3) (.int (z5 3 0)) rfl dX4_readRun_37 ?_
  refine r_if_ne h C0 52 dX4_readRun_40 (by decide) (fun h => ?_) (fun h => ?_)
  · exact r_vret h C0 (fun (u : Rc × Rc) => (fl [wArr K aT 440 T, wPlan K aQ u.1, wReader K aR (aQ 0) aT u.2])) hP hD hS dX4_readRun_52
  · refine r_aload_n C0 dX4_readRun_43 hl 2 rfl ?_
    refine r_get C0 4 inx4 hP 8 rfl rfl 0 (by decide) (mc wd4_1) (.ref (aQ 0)) rfl dX4_readRun_44 ?_
    refine r_iload_n C0 dX4_readRun_47 hl 1 rfl ?_
    refine r_iload_n C0 dX4_readRun_48 hl 0 rfl ?_
    obtain ⟨z6, hz6, h⟩ := bnd_some h
    refine r_callVC (Wc := [wPlan K aQ Q]) (wf := fun (u : Rc) => [wPlan K aQ u]) (Wn := [wArr K aT 440 T, wPlan K aQ z6, wReader K aR (aQ 0) aT z5]) hP hD hS hA [1] [0, 2] [0, 2, 1] 3 rfl rfl (by decide) rfl rfl (by decide) (fun hPc hDc hFc => va_runV (As := [.int v2, .int v4]) (rest := []) C0.1 (ctX3_addRun l D K N aQ Q v2 v4 H.size z6 hz6) (cwV 2 C0.1.2.2.2.2 (gdV wd12_5 wd12_6 wd12_7 wd1_20 wd12_8) rfl rfl rfl (by decide +kernel) ⟨Nat.le_of_ble_eq_true rfl, Nat.le_of_ble_eq_true rfl⟩) ⟨pcW_blind, va_recv C0.2.2.2.1 hPc (ci := 3) (q0 := 0) rfl rfl, pcW_of hPc hDc C0.2.2.2⟩ rfl rfl hl.1 rfl (lv_room (Nat.le_of_ble_eq_true rfl)) dX4_readRun_49 ⟨Nat.zero_le _, Nat.zero_le _⟩) (fun H locs hP hD hS => ?_)
    exact r_vret h C0 (fun (u : Rc × Rc) => (fl [wArr K aT 440 T, wPlan K aQ u.1, wReader K aR (aQ 0) aT u.2])) hP hD hS dX4_readRun_52
set_option maxHeartbeats 1000000 in
set_option maxRecDepth 10000 in
theorem wX4_readRun_0 (C0 : cx p s m args meth c cX4_readRun 3 RX4 wsX4_readRun none D K) (hA : ∀ q, s.heap.size ≤ q → A q) (T : Nat → Int32) (Q : Rc) (R : Rc) (h : fX4_readRun N T Q R = some z) (H : Heap) (locs : List Loc) (hP : va_P D vwCl (fl [wArr K aT 440 T, wPlan K aQ Q, wReader K aR (aQ 0) aT R]) H) (hD : va_D A (fl [wArr K aT 440 T, wPlan K aQ Q, wReader K aR (aQ 0) aT R])) (hS : va_S A s.heap H locs) (ls : Array Slot) (hl : lv_has ls 3 [(0, .ref (aR 0))]) : W p l e rmX4_readRun s m args below meth c H locs 0 0 (MQ below (qcV D z (fun (u : Rc × Rc) => (fl [wArr K aT 440 T, wPlan K aQ u.1, wReader K aR (aQ 0) aT u.2])) A) args s 0 0 A) (F0 m 0 ls []) := by
  unfold fX4_readRun at h
  refine r_aload_n C0 dX4_readRun_0 hl 0 rfl ?_
  refine r_get C0 4 inx4 hP 8 rfl rfl 0 (by decide) (mc wd4_1) (.ref (aQ 0)) rfl dX4_readRun_1 ?_
  refine r_get C0 3 inx3 hP 1 rfl rfl 8 (by decide) (mc wd12_4) (.int (Q 8 0)) rfl dX4_readRun_4 ?_
  refine r_bipush C0 (nI 6) dX4_readRun_7 (by decide) ?_
  refine r_icmp_lt h C0 17 dX4_readRun_9 (by decide) (fun h => ?_) (fun h => ?_)
  · exact wX4_readRun_17 C0 hA T Q R h _ _ hP hD hS _ (lv_sub hl [0] rfl)
  · refine r_aload_n C0 dX4_readRun_12 hl 0 rfl ?_
    refine r_iconst C0 (nI 3) dX4_readRun_13 (by decide) ?_
    obtain ⟨z1, hz1, h⟩ := bnd_some h
    refine r_callVC (Wc := [wReader K aR (aQ 0) aT R]) (wf := fun (u : Rc) => [wReader K aR (aQ 0) aT u]) (Wn := [wArr K aT 440 T, wPlan K aQ Q, wReader K aR (aQ 0) aT z1]) hP hD hS hA [2] [0, 1] [0, 1, 2] 3 rfl rfl (by decide) rfl rfl (by decide) (fun hPc hDc hFc => va_runV (As := [.int (nI 3)]) (rest := []) C0.1 (ctX4_fail l D K aR (aQ 0) aT R (nI 3) H.size z1 hz1) (cwV 1 C0.1.2.2.2.2 (gdV wd10_23 wd11_0 wd11_1 wd2_4 wd11_2) rfl rfl rfl (by decide +kernel) ⟨Nat.le_of_ble_eq_true rfl, Nat.le_of_ble_eq_true rfl⟩) ⟨pcW_blind, va_recv C0.2.2.2.1 hPc (ci := 4) (q0 := 0) rfl rfl, pcW_of hPc hDc C0.2.2.2⟩ rfl rfl hl.1 rfl (lv_room (Nat.le_of_ble_eq_true rfl)) dX4_readRun_14 ⟨Nat.zero_le _, Nat.zero_le _⟩) (fun H locs hP hD hS => ?_)
    exact wX4_readRun_17 C0 hA T Q z1 h _ _ hP hD hS _ (lv_sub hl [0] rfl)
set_option maxHeartbeats 1000000 in
set_option maxRecDepth 10000 in
theorem ctX4_readRun (l : Launch) (D : va_G) (K : Nat → ClassId) (N : Nat) (aT : Nat) (aQ : Nat → Nat) (aR : Nat → Nat) (T : Nat → Int32) (Q : Rc) (R : Rc) (sz : Nat) (z : Rc × Rc) (hz : fX4_readRun N T Q R = some z) : Met l yX4_readRun wsX4_readRun rmX4_readRun (pcW D K [.ref (aR 0)] (fl [wArr K aT 440 T, wPlan K aQ Q, wReader K aR (aQ 0) aT R]) sz) (qcV D z (fun (u : Rc × Rc) => (fl [wArr K aT 440 T, wPlan K aQ u.1, wReader K aR (aQ 0) aT u.2])) (va_A (fl [wArr K aT 440 T, wPlan K aQ Q, wReader K aR (aQ 0) aT R]) sz)) 0 0 (va_A (fl [wArr K aT 440 T, wPlan K aQ Q, wReader K aR (aQ 0) aT R]) sz) := by
  refine Met.ofW (cc := cX4_readRun) (maxL := 3) (ret := none) (by decide) rfl ?_
  intro p e s m args below meth c s₁ B hml hv
  obtain ⟨rfl, hsz, hP, hK, hD0⟩ := hv
  subst hsz
  have C0 : cx p s m _ meth c cX4_readRun 3 RX4 wsX4_readRun none D K := ⟨⟨B.exec, B.bytes, hml, findClass_of_methodNamed B.named, atoms_spec (ws := wsX4_readRun) B.pre⟩, B.returns, B.notSynchronized, hK⟩
  have hD := hD0.self (sz := s.heap.size)
  generalize hAe : va_A (fl [wArr K aT 440 T, wPlan K aQ Q, wReader K aR (aQ 0) aT R]) s.heap.size = A at hD ⊢
  have hA : ∀ q : Nat, s.heap.size ≤ q → A q := fun q h => by rw [← hAe]; exact Or.inr h
  have hl := lv_entry ([.ref (aR 0)]) (n := 3) (Nat.le_of_ble_eq_true rfl)
  rw [lg_entry_eq]
  generalize (lg_sl ([.ref (aR 0)]) ++ List.replicate (3 - (lg_sl ([.ref (aR 0)])).length) Slot.unset).toArray = ls at hl ⊢
  have hl : lv_has ls 3 [(0, .ref (aR 0))] := hl
  exact wX4_readRun_0 C0 hA T Q R hz s.heap [] hP hD va_S.rf ls (lv_sub hl [0] rfl)
end SX4_readRun

section SX4_isWord
/-! CardLoops$Reader.isWord(Ljava/lang/String;)Z -/
abbrev wsX4_isWord : List Cond := Cond.code yX4_isWord cX4_isWord 3 (some .boolean) :: wsL_law0
abbrev rmX4_isWord : Room := { frames := 4, cells := 0, slots := 0, locals := 85 }
variable {p : Program} {l : Launch} {e : Env} {s : State} {m : MethodId} {args : Array Value} {below : List Frame} {meth : Method} {c : Code} {D : va_G} {K : Nat → ClassId} {A : Nat → Prop} {wi : Nat} {N : Nat} {aT : Nat} {aR : Nat → Nat} {adK : Nat → Nat} {adV : Nat → Nat} {rR0 : Nat} {z : Int32}
def IX4_isWord_28 (p : Program) (l : Launch) (e : Env) (s : State) (m : MethodId) (args : Array Value) (below : List Frame) (meth : Method) (c : Code) (D : va_G) (K : Nat → ClassId) (wi : Nat) (aT : Nat) (aR : Nat → Nat) (adK : Nat → Nat) (adV : Nat → Nat) (rR0 : Nat) (z : Int32) (k : (Nat → Int32) → Rc → Int32 → Option (Int32)) : Prop := ∀ (T : Nat → Int32) (R : Rc) (x2 : Int32) (ls : Array Slot), k T R x2 = some z → va_P D vwCl (fl [wArr K aT 440 T, wReader K aR rR0 aT R]) s.heap → lv_has ls 3 [(0, .ref (aR 0)), (1, .ref (adK wi)), (2, .int x2)] → W p l e rmX4_isWord s m args below meth c s.heap [] 0 0 (MQ below (vp_Si (fun r => r = z)) args s 0 0 (fun _ => False)) (F0 m 28 ls [])
set_option maxHeartbeats 1000000 in
set_option maxRecDepth 10000 in
theorem wX4_isWord_28 (C0 : cx p s m args meth c cX4_isWord 3 RX4 wsX4_isWord (some .boolean) D K) (hwi : wi < 4) (hE : SK adK adV (fun _ => False) s s.heap) {k28 : (Nat → Int32) → Rc → Int32 → Option (Int32)} (hk28 : IX4_isWord_28 p l e s m args below meth c D K wi aT aR adK adV rR0 z k28) (T : Nat → Int32) (R : Rc) (x2 : Int32) (h : fX4_isWord_28b wi N k28 T R x2 = some z) (hP : va_P D vwCl (fl [wArr K aT 440 T, wReader K aR rR0 aT R]) s.heap) (ls : Array Slot) (hl : lv_has ls 3 [(0, .ref (aR 0)), (1, .ref (adK wi)), (2, .int x2)]) : W p l e rmX4_isWord s m args below meth c s.heap [] 0 0 (MQ below (vp_Si (fun r => r = z)) args s 0 0 (fun _ => False)) (F0 m 28 ls []) := by
  unfold fX4_isWord_28b at h
  refine r_iload_n C0 dX4_isWord_28 hl 2 rfl ?_
  refine r_aload_n C0 dX4_isWord_29 hl 1 rfl ?_
  refine r_slen C0 hE va_S.rf hwi hl ⟨Nat.le_of_ble_eq_true rfl, Nat.le_of_ble_eq_true rfl⟩ ⟨Nat.zero_le _, Nat.zero_le _⟩ (Nat.le_of_ble_eq_true rfl) dX4_isWord_30 ?_
  refine r_icmp_ge h C0 63 dX4_isWord_33 (by decide) (fun h => ?_) (fun h => ?_)
  · refine r_iconst C0 (nI 1) dX4_isWord_63 (by decide) ?_
    exact r_zretRC C0 h (by decide) dX4_isWord_64
  · refine r_aload_n C0 dX4_isWord_36 hl 0 rfl ?_
    refine r_get C0 4 inx4 hP 1 rfl rfl 1 (by decide) (mc wd4_8) (.ref aT) rfl dX4_isWord_37 ?_
    refine r_aload_n C0 dX4_isWord_40 hl 0 rfl ?_
    refine r_get C0 4 inx4 hP 1 rfl rfl 7 (by decide) (mc wd4_7) (.int (R 7 0)) rfl dX4_isWord_41 ?_
    refine r_iload_n C0 dX4_isWord_44 hl 2 rfl ?_
    refine r_iadd C0 dX4_isWord_45 ?_
    refine r_iald h C0 hP 0 rfl dX4_isWord_46 (fun h => ?_)
    refine r_aload_n C0 dX4_isWord_47 hl 1 rfl ?_
    refine r_iload_n C0 dX4_isWord_48 hl 2 rfl ?_
    refine r_sat h C0 hE va_S.rf hwi hl ⟨Nat.le_of_ble_eq_true rfl, Nat.le_of_ble_eq_true rfl⟩ ⟨Nat.zero_le _, Nat.zero_le _⟩ (Nat.le_of_ble_eq_true rfl) dX4_isWord_49 (fun h => ?_)
    refine r_icmp_eq h C0 57 dX4_isWord_52 (by decide) (fun h => ?_) (fun h => ?_)
    · refine r_iinc h C0 2 (fun v1 => [(2, .int v1), (0, .ref (aR 0)), (1, .ref (adK wi))]) dX4_isWord_57 hl rfl rfl (by decide) (fun _ => rfl) (fun v1 ls h hl => ?_)
      refine r_goto C0 28 dX4_isWord_60 (by decide) ?_
      exact hk28 T R v1 _ h hP (lv_sub hl [1, 2, 0] rfl)
    · refine r_iconst C0 (nI 0) dX4_isWord_55 (by decide) ?_
      exact r_zretRC C0 h (by decide) dX4_isWord_56
theorem wX4_isWord_28L (C0 : cx p s m args meth c cX4_isWord 3 RX4 wsX4_isWord (some .boolean) D K) (hwi : wi < 4) (hE : SK adK adV (fun _ => False) s s.heap) : IX4_isWord_28 p l e s m args below meth c D K wi aT aR adK adV rR0 z (fX4_isWord_28 wi N) := by
  refine itn_ind (IX4_isWord_28 p l e s m args below meth c D K wi aT aR adK adV rR0 z) ?_ ?_ N
  · intro _ _ _ _ h; cases h
  · intro k28 hk28 T R x2 ls h hP hl
    exact wX4_isWord_28 C0 hwi hE hk28 T R x2 h hP ls hl
set_option maxHeartbeats 1000000 in
set_option maxRecDepth 10000 in
theorem wX4_isWord_24 (C0 : cx p s m args meth c cX4_isWord 3 RX4 wsX4_isWord (some .boolean) D K) (hwi : wi < 4) (hE : SK adK adV (fun _ => False) s s.heap) (T : Nat → Int32) (R : Rc) (h : fX4_isWord_24 wi N T R = some z) (hP : va_P D vwCl (fl [wArr K aT 440 T, wReader K aR rR0 aT R]) s.heap) (ls : Array Slot) (hl : lv_has ls 3 []) : W p l e rmX4_isWord s m args below meth c s.heap [] 0 0 (MQ below (vp_Si (fun r => r = z)) args s 0 0 (fun _ => False)) (F0 m 24 ls []) := by
  unfold fX4_isWord_24 at h
  refine r_iconst C0 (nI 0) dX4_isWord_24 (by decide) ?_
  exact r_zretRC C0 h (by decide) dX4_isWord_25
set_option maxHeartbeats 1000000 in
set_option maxRecDepth 10000 in
theorem wX4_isWord_0 (C0 : cx p s m args meth c cX4_isWord 3 RX4 wsX4_isWord (some .boolean) D K) (hwi : wi < 4) (hE : SK adK adV (fun _ => False) s s.heap) (T : Nat → Int32) (R : Rc) (h : fX4_isWord wi N T R = some z) (hP : va_P D vwCl (fl [wArr K aT 440 T, wReader K aR rR0 aT R]) s.heap) (ls : Array Slot) (hl : lv_has ls 3 [(0, .ref (aR 0)), (1, .ref (adK wi))]) : W p l e rmX4_isWord s m args below meth c s.heap [] 0 0 (MQ below (vp_Si (fun r => r = z)) args s 0 0 (fun _ => False)) (F0 m 0 ls []) := by
  unfold fX4_isWord at h
  refine r_aload_n C0 dX4_isWord_0 hl 0 rfl ?_
  refine r_get C0 4 inx4 hP 1 rfl rfl 6 (by decide) (mc wd4_6) (.int (R 6 0)) rfl dX4_isWord_1 ?_
  refine r_iconst C0 (nI 2) dX4_isWord_4 (by decide) ?_
  refine r_icmp_ne h C0 24 dX4_isWord_5 (by decide) (fun h => ?_) (fun h => ?_)
  · exact wX4_isWord_24 C0 hwi hE T R h hP _ (lv_sub hl [] rfl)
  · refine r_aload_n C0 dX4_isWord_8 hl 0 rfl ?_
    refine r_get C0 4 inx4 hP 1 rfl rfl 5 (by decide) (mc wd4_5) (.int (R 5 0)) rfl dX4_isWord_9 ?_
    refine r_aload_n C0 dX4_isWord_12 hl 0 rfl ?_
    refine r_get C0 4 inx4 hP 1 rfl rfl 7 (by decide) (mc wd4_7) (.int (R 7 0)) rfl dX4_isWord_13 ?_
    refine r_isub C0 dX4_isWord_16 ?_
    refine r_aload_n C0 dX4_isWord_17 hl 1 rfl ?_
    refine r_slen C0 hE va_S.rf hwi hl ⟨Nat.le_of_ble_eq_true rfl, Nat.le_of_ble_eq_true rfl⟩ ⟨Nat.zero_le _, Nat.zero_le _⟩ (Nat.le_of_ble_eq_true rfl) dX4_isWord_18 ?_
    refine r_icmp_eq h C0 26 dX4_isWord_21 (by decide) (fun h => ?_) (fun h => ?_)
    · refine r_iconst C0 (nI 0) dX4_isWord_26 (by decide) ?_
      refine r_istore_n h C0 (fun v1 => [(2, .int v1), (0, .ref (aR 0)), (1, .ref (adK wi))]) dX4_isWord_27 hl (by decide) (fun _ => rfl) (fun v1 ls h hl => ?_)
      exact wX4_isWord_28L C0 hwi hE T R v1 _ h hP (lv_sub hl [1, 2, 0] rfl)
    · exact wX4_isWord_24 C0 hwi hE T R h hP _ (lv_sub hl [] rfl)
set_option maxHeartbeats 1000000 in
set_option maxRecDepth 10000 in
theorem ctX4_isWord (l : Launch) (D : va_G) (K : Nat → ClassId) (wi : Nat) (N : Nat) (aT : Nat) (aR : Nat → Nat) (adK : Nat → Nat) (adV : Nat → Nat) (rR0 : Nat) (hwi : wi < 4) (T : Nat → Int32) (R : Rc) (z : Int32) (hz : fX4_isWord wi N T R = some z) : Met l yX4_isWord wsX4_isWord rmX4_isWord (pcRS D K [.ref (aR 0), .ref (adK wi)] (fl [wArr K aT 440 T, wReader K aR rR0 aT R]) adK adV) (vp_Si (fun r => r = z)) 0 0 (fun _ => False) := by
  refine Met.ofW (cc := cX4_isWord) (maxL := 3) (ret := (some .boolean)) (by decide) rfl ?_
  intro p e s m args below meth c s₁ B hml hv
  obtain ⟨rfl, hP, hK, hE⟩ := hv
  have C0 : cx p s m _ meth c cX4_isWord 3 RX4 wsX4_isWord (some .boolean) D K := ⟨⟨B.exec, B.bytes, hml, findClass_of_methodNamed B.named, atoms_spec (ws := wsX4_isWord) B.pre⟩, B.returns, B.notSynchronized, hK⟩
  have hl := lv_entry ([.ref (aR 0), .ref (adK wi)]) (n := 3) (Nat.le_of_ble_eq_true rfl)
  rw [lg_entry_eq]
  generalize (lg_sl ([.ref (aR 0), .ref (adK wi)]) ++ List.replicate (3 - (lg_sl ([.ref (aR 0), .ref (adK wi)])).length) Slot.unset).toArray = ls at hl ⊢
  have hl : lv_has ls 3 [(0, .ref (aR 0)), (1, .ref (adK wi))] := hl
  exact wX4_isWord_0 C0 hwi hE T R hz hP ls (lv_sub hl [0, 1] rfl)
end SX4_isWord

section SX4_readLine
/-! CardLoops$Reader.readLine(Z)V -/
abbrev wsX4_readLine : List Cond := Cond.code yX4_readLine cX4_readLine 2 none :: wsL_law0
abbrev rmX4_readLine : Room := { frames := 5, cells := 0, slots := 0, locals := 107 }
variable {p : Program} {l : Launch} {e : Env} {s : State} {m : MethodId} {args : Array Value} {below : List Frame} {meth : Method} {c : Code} {D : va_G} {K : Nat → ClassId} {A : Nat → Prop} {N : Nat} {aT : Nat} {aQ : Nat → Nat} {aR : Nat → Nat} {adK : Nat → Nat} {adV : Nat → Nat} {z : Rc × Rc}
set_option maxHeartbeats 1000000 in
set_option maxRecDepth 10000 in
theorem wX4_readLine_0 (C0 : cx p s m args meth c cX4_readLine 2 RX4 wsX4_readLine none D K) (hA : ∀ q, s.heap.size ≤ q → A q) (hE : SK adK adV A s s.heap) (T : Nat → Int32) (Q : Rc) (R : Rc) (x1 : Int32) (h : fX4_readLine N T Q R x1 = some z) (H : Heap) (locs : List Loc) (hP : va_P D vwCl (fl [wArr K aT 440 T, wPlan K aQ Q, wReader K aR (aQ 0) aT R]) H) (hD : va_D A (fl [wArr K aT 440 T, wPlan K aQ Q, wReader K aR (aQ 0) aT R])) (hS : va_S A s.heap H locs) (ls : Array Slot) (hl : lv_has ls 2 [(0, .ref (aR 0)), (1, .int x1)]) : W p l e rmX4_readLine s m args below meth c H locs 0 0 (MQ below (qcV D z (fun (u : Rc × Rc) => (fl [wArr K aT 440 T, wPlan K aQ u.1, wReader K aR (aQ 0) aT u.2])) A) args s 0 0 A) (F0 m 0 ls []) := by
  unfold fX4_readLine at h
  refine r_iload_n C0 dX4_readLine_0 hl 1 rfl ?_
  refine r_if_eq h C0 28 dX4_readLine_1 (by decide) (fun h => ?_) (fun h => ?_)
  · refine r_aload_n C0 dX4_readLine_28 hl 0 rfl ?_
    refine va_ldcS C0.1.1 C0.1.2.1 C0.1.2.2.2.1 hE.2.2.2.2.1 dX4_readLine_29 ?_
    obtain ⟨z1, hz1, h⟩ := bnd_some h
    have hPc := vaP_sel (Wc := [wArr K aT 440 T, wReader K aR (aQ 0) aT R]) hP [0, 2] rfl
    refine r_cI (va_runV (As := [.ref (adK 1)]) (rest := []) C0.1 (ctX4_isWord l D K 1 N aT aR adK adV (aQ 0) (by decide) T R z1 hz1) (cwV 1 C0.1.2.2.2.2 (gdV wd8_10 wd8_11 wd8_12 wd2_4 wd8_13) rfl rfl rfl (by decide +kernel) ⟨Nat.le_of_ble_eq_true rfl, Nat.le_of_ble_eq_true rfl⟩) ⟨pcRS_blind, va_recv C0.2.2.2.1 hPc (ci := 4) (q0 := 1) rfl rfl, pcRS_of hPc C0.2.2.2 ((hE.kept hS.2.1).narrow (fun _ x => x.elim))⟩ rfl rfl hl.1 rfl (lv_room (Nat.le_of_ble_eq_true rfl)) dX4_readLine_31 ⟨Nat.zero_le _, Nat.zero_le _⟩).run ?_
    refine r_if_eq h C0 44 dX4_readLine_34 (by decide) (fun h => ?_) (fun h => ?_)
    · refine r_aload_n C0 dX4_readLine_44 hl 0 rfl ?_
      refine va_ldcS C0.1.1 C0.1.2.1 C0.1.2.2.2.1 hE.2.2.2.2.2.1 dX4_readLine_45 ?_
      obtain ⟨z2, hz2, h⟩ := bnd_some h
      have hPc := vaP_sel (Wc := [wArr K aT 440 T, wReader K aR (aQ 0) aT R]) hP [0, 2] rfl
      refine r_cI (va_runV (As := [.ref (adK 2)]) (rest := []) C0.1 (ctX4_isWord l D K 2 N aT aR adK adV (aQ 0) (by decide) T R z2 hz2) (cwV 1 C0.1.2.2.2.2 (gdV wd8_10 wd8_11 wd8_12 wd2_4 wd8_13) rfl rfl rfl (by decide +kernel) ⟨Nat.le_of_ble_eq_true rfl, Nat.le_of_ble_eq_true rfl⟩) ⟨pcRS_blind, va_recv C0.2.2.2.1 hPc (ci := 4) (q0 := 1) rfl rfl, pcRS_of hPc C0.2.2.2 ((hE.kept hS.2.1).narrow (fun _ x => x.elim))⟩ rfl rfl hl.1 rfl (lv_room (Nat.le_of_ble_eq_true rfl)) dX4_readLine_47 ⟨Nat.zero_le _, Nat.zero_le _⟩).run ?_
      refine r_if_eq h C0 60 dX4_readLine_50 (by decide) (fun h => ?_) (fun h => ?_)
      · refine r_aload_n C0 dX4_readLine_60 hl 0 rfl ?_
        refine va_ldcS C0.1.1 C0.1.2.1 C0.1.2.2.2.1 hE.2.2.2.2.2.2 dX4_readLine_61 ?_
        obtain ⟨z3, hz3, h⟩ := bnd_some h
        have hPc := vaP_sel (Wc := [wArr K aT 440 T, wReader K aR (aQ 0) aT R]) hP [0, 2] rfl
        refine r_cI (va_runV (As := [.ref (adK 3)]) (rest := []) C0.1 (ctX4_isWord l D K 3 N aT aR adK adV (aQ 0) (by decide) T R z3 hz3) (cwV 1 C0.1.2.2.2.2 (gdV wd8_10 wd8_11 wd8_12 wd2_4 wd8_13) rfl rfl rfl (by decide +kernel) ⟨Nat.le_of_ble_eq_true rfl, Nat.le_of_ble_eq_true rfl⟩) ⟨pcRS_blind, va_recv C0.2.2.2.1 hPc (ci := 4) (q0 := 1) rfl rfl, pcRS_of hPc C0.2.2.2 ((hE.kept hS.2.1).narrow (fun _ x => x.elim))⟩ rfl rfl hl.1 rfl (lv_room (Nat.le_of_ble_eq_true rfl)) dX4_readLine_63 ⟨Nat.zero_le _, Nat.zero_le _⟩).run ?_
        refine r_if_eq h C0 76 dX4_readLine_66 (by decide) (fun h => ?_) (fun h => ?_)
        · refine r_aload_n C0 dX4_readLine_76 hl 0 rfl ?_
          refine r_iconst C0 (nI 1) dX4_readLine_77 (by decide) ?_
          obtain ⟨z4, hz4, h⟩ := bnd_some h
          refine r_callVC (Wc := [wReader K aR (aQ 0) aT R]) (wf := fun (u : Rc) => [wReader K aR (aQ 0) aT u]) (Wn := [wArr K aT 440 T, wPlan K aQ Q, wReader K aR (aQ 0) aT z4]) hP hD hS hA [2] [0, 1] [0, 1, 2] 3 rfl rfl (by decide) rfl rfl (by decide) (fun hPc hDc hFc => va_runV (As := [.int (nI 1)]) (rest := []) C0.1 (ctX4_fail l D K aR (aQ 0) aT R (nI 1) H.size z4 hz4) (cwV 1 C0.1.2.2.2.2 (gdV wd10_23 wd11_0 wd11_1 wd2_4 wd11_2) rfl rfl rfl (by decide +kernel) ⟨Nat.le_of_ble_eq_true rfl, Nat.le_of_ble_eq_true rfl⟩) ⟨pcW_blind, va_recv C0.2.2.2.1 hPc (ci := 4) (q0 := 0) rfl rfl, pcW_of hPc hDc C0.2.2.2⟩ rfl rfl hl.1 rfl (lv_room (Nat.le_of_ble_eq_true rfl)) dX4_readLine_78 ⟨Nat.zero_le _, Nat.zero_le _⟩) (fun H locs hP hD hS => ?_)
          exact r_vret h C0 (fun (u : Rc × Rc) => (fl [wArr K aT 440 T, wPlan K aQ u.1, wReader K aR (aQ 0) aT u.2])) hP hD hS dX4_readLine_81
        · refine r_aload_n C0 dX4_readLine_69 hl 0 rfl ?_
          obtain ⟨z5, hz5, h⟩ := bnd_some h
          refine r_callVC (Wc := [wArr K aT 440 T, wPlan K aQ Q, wReader K aR (aQ 0) aT R]) (wf := fun (u : Rc × Rc) => [wArr K aT 440 T, wPlan K aQ u.1, wReader K aR (aQ 0) aT u.2]) (Wn := [wArr K aT 440 T, wPlan K aQ z5.1, wReader K aR (aQ 0) aT z5.2]) hP hD hS hA [0, 1, 2] [] [0, 1, 2] 3 rfl rfl (by decide) rfl rfl (by decide) (fun hPc hDc hFc => va_runV (As := []) (rest := []) C0.1 (ctX4_readRun l D K N aT aQ aR T Q R H.size z5 hz5) (cwV 0 C0.1.2.2.2.2 (gdV wd12_0 wd12_1 wd12_2 wd2_4 wd12_3) rfl rfl rfl (by decide +kernel) ⟨Nat.le_of_ble_eq_true rfl, Nat.le_of_ble_eq_true rfl⟩) ⟨pcW_blind, va_recv C0.2.2.2.1 hPc (ci := 4) (q0 := 8) rfl rfl, pcW_of hPc hDc C0.2.2.2⟩ rfl rfl hl.1 rfl (lv_room (Nat.le_of_ble_eq_true rfl)) dX4_readLine_70 ⟨Nat.zero_le _, Nat.zero_le _⟩) (fun H locs hP hD hS => ?_)
          refine r_goto C0 81 dX4_readLine_73 (by decide) ?_
          exact r_vret h C0 (fun (u : Rc × Rc) => (fl [wArr K aT 440 T, wPlan K aQ u.1, wReader K aR (aQ 0) aT u.2])) hP hD hS dX4_readLine_81
      · refine r_aload_n C0 dX4_readLine_53 hl 0 rfl ?_
        obtain ⟨z6, hz6, h⟩ := bnd_some h
        refine r_callVC (Wc := [wArr K aT 440 T, wPlan K aQ Q, wReader K aR (aQ 0) aT R]) (wf := fun (u : Rc × Rc) => [wArr K aT 440 T, wPlan K aQ u.1, wReader K aR (aQ 0) aT u.2]) (Wn := [wArr K aT 440 T, wPlan K aQ z6.1, wReader K aR (aQ 0) aT z6.2]) hP hD hS hA [0, 1, 2] [] [0, 1, 2] 3 rfl rfl (by decide) rfl rfl (by decide) (fun hPc hDc hFc => va_runV (As := []) (rest := []) C0.1 (ctX4_readLoop l D K N aT aQ aR T Q R H.size z6 hz6) (cwV 0 C0.1.2.2.2.2 (gdV wd11_19 wd11_20 wd11_21 wd2_4 wd11_22) rfl rfl rfl (by decide +kernel) ⟨Nat.le_of_ble_eq_true rfl, Nat.le_of_ble_eq_true rfl⟩) ⟨pcW_blind, va_recv C0.2.2.2.1 hPc (ci := 4) (q0 := 8) rfl rfl, pcW_of hPc hDc C0.2.2.2⟩ rfl rfl hl.1 rfl (lv_room (Nat.le_of_ble_eq_true rfl)) dX4_readLine_54 ⟨Nat.zero_le _, Nat.zero_le _⟩) (fun H locs hP hD hS => ?_)
        refine r_goto C0 81 dX4_readLine_57 (by decide) ?_
        exact r_vret h C0 (fun (u : Rc × Rc) => (fl [wArr K aT 440 T, wPlan K aQ u.1, wReader K aR (aQ 0) aT u.2])) hP hD hS dX4_readLine_81
    · refine r_aload_n C0 dX4_readLine_37 hl 0 rfl ?_
      obtain ⟨z7, hz7, h⟩ := bnd_some h
      refine r_callVC (Wc := [wArr K aT 440 T, wPlan K aQ Q, wReader K aR (aQ 0) aT R]) (wf := fun (u : Rc × Rc) => [wArr K aT 440 T, wPlan K aQ u.1, wReader K aR (aQ 0) aT u.2]) (Wn := [wArr K aT 440 T, wPlan K aQ z7.1, wReader K aR (aQ 0) aT z7.2]) hP hD hS hA [0, 1, 2] [] [0, 1, 2] 3 rfl rfl (by decide) rfl rfl (by decide) (fun hPc hDc hFc => va_runV (As := []) (rest := []) C0.1 (ctX4_readStation l D K N aT aQ aR T Q R H.size z7 hz7) (cwV 0 C0.1.2.2.2.2 (gdV wd11_11 wd11_12 wd11_13 wd2_4 wd11_14) rfl rfl rfl (by decide +kernel) ⟨Nat.le_of_ble_eq_true rfl, Nat.le_of_ble_eq_true rfl⟩) ⟨pcW_blind, va_recv C0.2.2.2.1 hPc (ci := 4) (q0 := 8) rfl rfl, pcW_of hPc hDc C0.2.2.2⟩ rfl rfl hl.1 rfl (lv_room (Nat.le_of_ble_eq_true rfl)) dX4_readLine_38 ⟨Nat.zero_le _, Nat.zero_le _⟩) (fun H locs hP hD hS => ?_)
      refine r_goto C0 81 dX4_readLine_41 (by decide) ?_
      exact r_vret h C0 (fun (u : Rc × Rc) => (fl [wArr K aT 440 T, wPlan K aQ u.1, wReader K aR (aQ 0) aT u.2])) hP hD hS dX4_readLine_81
  · refine r_aload_n C0 dX4_readLine_4 hl 0 rfl ?_
    refine va_ldcS C0.1.1 C0.1.2.1 C0.1.2.2.2.1 hE.2.2.2.1 dX4_readLine_5 ?_
    obtain ⟨z8, hz8, h⟩ := bnd_some h
    have hPc := vaP_sel (Wc := [wArr K aT 440 T, wReader K aR (aQ 0) aT R]) hP [0, 2] rfl
    refine r_cI (va_runV (As := [.ref (adK 0)]) (rest := []) C0.1 (ctX4_isWord l D K 0 N aT aR adK adV (aQ 0) (by decide) T R z8 hz8) (cwV 1 C0.1.2.2.2.2 (gdV wd8_10 wd8_11 wd8_12 wd2_4 wd8_13) rfl rfl rfl (by decide +kernel) ⟨Nat.le_of_ble_eq_true rfl, Nat.le_of_ble_eq_true rfl⟩) ⟨pcRS_blind, va_recv C0.2.2.2.1 hPc (ci := 4) (q0 := 1) rfl rfl, pcRS_of hPc C0.2.2.2 ((hE.kept hS.2.1).narrow (fun _ x => x.elim))⟩ rfl rfl hl.1 rfl (lv_room (Nat.le_of_ble_eq_true rfl)) dX4_readLine_7 ⟨Nat.zero_le _, Nat.zero_le _⟩).run ?_
    refine r_if_eq h C0 20 dX4_readLine_10 (by decide) (fun h => ?_) (fun h => ?_)
    · refine r_aload_n C0 dX4_readLine_20 hl 0 rfl ?_
      refine r_iconst C0 (nI 1) dX4_readLine_21 (by decide) ?_
      obtain ⟨z9, hz9, h⟩ := bnd_some h
      refine r_callVC (Wc := [wReader K aR (aQ 0) aT R]) (wf := fun (u : Rc) => [wReader K aR (aQ 0) aT u]) (Wn := [wArr K aT 440 T, wPlan K aQ Q, wReader K aR (aQ 0) aT z9]) hP hD hS hA [2] [0, 1] [0, 1, 2] 3 rfl rfl (by decide) rfl rfl (by decide) (fun hPc hDc hFc => va_runV (As := [.int (nI 1)]) (rest := []) C0.1 (ctX4_fail l D K aR (aQ 0) aT R (nI 1) H.size z9 hz9) (cwV 1 C0.1.2.2.2.2 (gdV wd10_23 wd11_0 wd11_1 wd2_4 wd11_2) rfl rfl rfl (by decide +kernel) ⟨Nat.le_of_ble_eq_true rfl, Nat.le_of_ble_eq_true rfl⟩) ⟨pcW_blind, va_recv C0.2.2.2.1 hPc (ci := 4) (q0 := 0) rfl rfl, pcW_of hPc hDc C0.2.2.2⟩ rfl rfl hl.1 rfl (lv_room (Nat.le_of_ble_eq_true rfl)) dX4_readLine_22 ⟨Nat.zero_le _, Nat.zero_le _⟩) (fun H locs hP hD hS => ?_)
      refine r_goto C0 81 dX4_readLine_25 (by decide) ?_
      exact r_vret h C0 (fun (u : Rc × Rc) => (fl [wArr K aT 440 T, wPlan K aQ u.1, wReader K aR (aQ 0) aT u.2])) hP hD hS dX4_readLine_81
    · refine r_aload_n C0 dX4_readLine_13 hl 0 rfl ?_
      obtain ⟨z10, hz10, h⟩ := bnd_some h
      refine r_callVC (Wc := [wArr K aT 440 T, wPlan K aQ Q, wReader K aR (aQ 0) aT R]) (wf := fun (u : Rc × Rc) => [wArr K aT 440 T, wPlan K aQ u.1, wReader K aR (aQ 0) aT u.2]) (Wn := [wArr K aT 440 T, wPlan K aQ z10.1, wReader K aR (aQ 0) aT z10.2]) hP hD hS hA [0, 1, 2] [] [0, 1, 2] 3 rfl rfl (by decide) rfl rfl (by decide) (fun hPc hDc hFc => va_runV (As := []) (rest := []) C0.1 (ctX4_readWorks l D K N aT aQ aR T Q R H.size z10 hz10) (cwV 0 C0.1.2.2.2.2 (gdV wd10_15 wd10_16 wd10_17 wd2_4 wd10_18) rfl rfl rfl (by decide +kernel) ⟨Nat.le_of_ble_eq_true rfl, Nat.le_of_ble_eq_true rfl⟩) ⟨pcW_blind, va_recv C0.2.2.2.1 hPc (ci := 4) (q0 := 8) rfl rfl, pcW_of hPc hDc C0.2.2.2⟩ rfl rfl hl.1 rfl (lv_room (Nat.le_of_ble_eq_true rfl)) dX4_readLine_14 ⟨Nat.zero_le _, Nat.zero_le _⟩) (fun H locs hP hD hS => ?_)
      refine r_goto C0 81 dX4_readLine_17 (by decide) ?_
      exact r_vret h C0 (fun (u : Rc × Rc) => (fl [wArr K aT 440 T, wPlan K aQ u.1, wReader K aR (aQ 0) aT u.2])) hP hD hS dX4_readLine_81
set_option maxHeartbeats 1000000 in
set_option maxRecDepth 10000 in
theorem ctX4_readLine (l : Launch) (D : va_G) (K : Nat → ClassId) (N : Nat) (aT : Nat) (aQ : Nat → Nat) (aR : Nat → Nat) (adK : Nat → Nat) (adV : Nat → Nat) (T : Nat → Int32) (Q : Rc) (R : Rc) (p1 : Int32) (sz : Nat) (z : Rc × Rc) (hz : fX4_readLine N T Q R p1 = some z) : Met l yX4_readLine wsX4_readLine rmX4_readLine (pcWS D K [.ref (aR 0), .int p1] (fl [wArr K aT 440 T, wPlan K aQ Q, wReader K aR (aQ 0) aT R]) sz adK adV) (qcV D z (fun (u : Rc × Rc) => (fl [wArr K aT 440 T, wPlan K aQ u.1, wReader K aR (aQ 0) aT u.2])) (va_A (fl [wArr K aT 440 T, wPlan K aQ Q, wReader K aR (aQ 0) aT R]) sz)) 0 0 (va_A (fl [wArr K aT 440 T, wPlan K aQ Q, wReader K aR (aQ 0) aT R]) sz) := by
  refine Met.ofW (cc := cX4_readLine) (maxL := 2) (ret := none) (by decide) rfl ?_
  intro p e s m args below meth c s₁ B hml hv
  obtain ⟨rfl, hsz, hP, hK, hD0, hE⟩ := hv
  subst hsz
  have C0 : cx p s m _ meth c cX4_readLine 2 RX4 wsX4_readLine none D K := ⟨⟨B.exec, B.bytes, hml, findClass_of_methodNamed B.named, atoms_spec (ws := wsX4_readLine) B.pre⟩, B.returns, B.notSynchronized, hK⟩
  have hD := hD0.self (sz := s.heap.size)
  generalize hAe : va_A (fl [wArr K aT 440 T, wPlan K aQ Q, wReader K aR (aQ 0) aT R]) s.heap.size = A at hD hE ⊢
  have hA : ∀ q : Nat, s.heap.size ≤ q → A q := fun q h => by rw [← hAe]; exact Or.inr h
  have hl := lv_entry ([.ref (aR 0), .int p1]) (n := 2) (Nat.le_of_ble_eq_true rfl)
  rw [lg_entry_eq]
  generalize (lg_sl ([.ref (aR 0), .int p1]) ++ List.replicate (2 - (lg_sl ([.ref (aR 0), .int p1])).length) Slot.unset).toArray = ls at hl ⊢
  have hl : lv_has ls 2 [(0, .ref (aR 0)), (1, .int p1)] := hl
  exact wX4_readLine_0 C0 hA hE T Q R p1 hz s.heap [] hP hD va_S.rf ls (lv_sub hl [0, 1] rfl)
end SX4_readLine

section SX4_read
/-! CardLoops$Reader.read(I)I -/
abbrev wsX4_read : List Cond := Cond.code yX4_read cX4_read 3 (some .int) :: wsL_law0
abbrev rmX4_read : Room := { frames := 6, cells := 0, slots := 0, locals := 128 }
variable {p : Program} {l : Launch} {e : Env} {s : State} {m : MethodId} {args : Array Value} {below : List Frame} {meth : Method} {c : Code} {D : va_G} {K : Nat → ClassId} {A : Nat → Prop} {N : Nat} {aT : Nat} {aQ : Nat → Nat} {aR : Nat → Nat} {adK : Nat → Nat} {adV : Nat → Nat} {z : Int32 × (Rc × Rc)}
def IX4_read_36 (p : Program) (l : Launch) (e : Env) (s : State) (m : MethodId) (args : Array Value) (below : List Frame) (meth : Method) (c : Code) (D : va_G) (K : Nat → ClassId) (aT : Nat) (aQ : Nat → Nat) (aR : Nat → Nat) (adK : Nat → Nat) (adV : Nat → Nat) (A : Nat → Prop) (z : Int32 × (Rc × Rc)) (k : (Nat → Int32) → Rc → Rc → Int32 → Option (Int32 × (Rc × Rc))) : Prop := ∀ (T : Nat → Int32) (Q : Rc) (R : Rc) (x2 : Int32) (H : Heap) (locs : List Loc) (ls : Array Slot), k T Q R x2 = some z → va_P D vwCl (fl [wArr K aT 440 T, wPlan K aQ Q, wReader K aR (aQ 0) aT R]) H → va_D A (fl [wArr K aT 440 T, wPlan K aQ Q, wReader K aR (aQ 0) aT R]) → va_S A s.heap H locs → lv_has ls 3 [(0, .ref (aR 0)), (2, .int x2)] → W p l e rmX4_read s m args below meth c H locs 0 0 (MQ below (qcI D z (fun (u : Rc × Rc) => (fl [wArr K aT 440 T, wPlan K aQ u.1, wReader K aR (aQ 0) aT u.2])) A) args s 0 0 A) (F0 m 36 ls [])
set_option maxHeartbeats 1000000 in
set_option maxRecDepth 10000 in
theorem wX4_read_107 (C0 : cx p s m args meth c cX4_read 3 RX4 wsX4_read (some .int) D K) (hA : ∀ q, s.heap.size ≤ q → A q) (hE : SK adK adV A s s.heap) (T : Nat → Int32) (Q : Rc) (R : Rc) (x2 : Int32) (h : fX4_read_107 N T Q R x2 = some z) (H : Heap) (locs : List Loc) (hP : va_P D vwCl (fl [wArr K aT 440 T, wPlan K aQ Q, wReader K aR (aQ 0) aT R]) H) (hD : va_D A (fl [wArr K aT 440 T, wPlan K aQ Q, wReader K aR (aQ 0) aT R])) (hS : va_S A s.heap H locs) (ls : Array Slot) (hl : lv_has ls 3 [(0, .ref (aR 0)), (2, .int x2)]) : W p l e rmX4_read s m args below meth c H locs 0 0 (MQ below (qcI D z (fun (u : Rc × Rc) => (fl [wArr K aT 440 T, wPlan K aQ u.1, wReader K aR (aQ 0) aT u.2])) A) args s 0 0 A) (F0 m 107 ls []) := by
  unfold fX4_read_107 at h
  refine r_aload_n C0 dX4_read_107 hl 0 rfl ?_
  refine r_get C0 4 inx4 hP 8 rfl rfl 3 (by decide) (mc wd4_3) (.int (R 3 0)) rfl dX4_read_108 ?_
  refine r_if_ne h C0 118 dX4_read_111 (by decide) (fun h => ?_) (fun h => ?_)
  · refine r_iconst C0 (-1 : Int32) dX4_read_118 (by decide) ?_
    refine r_aload_n C0 dX4_read_119 hl 0 rfl ?_
    refine r_get C0 4 inx4 hP 8 rfl rfl 4 (by decide) (mc wd4_4) (.int (R 4 0)) rfl dX4_read_120 ?_
    refine r_isub C0 dX4_read_123 ?_
    exact r_iret h C0 (fun (u : Rc × Rc) => (fl [wArr K aT 440 T, wPlan K aQ u.1, wReader K aR (aQ 0) aT u.2])) hP hD hS dX4_read_124
  · refine r_iload_n C0 dX4_read_114 hl 1 rfl ?_
    refine r_goto C0 124 dX4_read_115 (by decide) ?_
    exact r_iret h C0 (fun (u : Rc × Rc) => (fl [wArr K aT 440 T, wPlan K aQ u.1, wReader K aR (aQ 0) aT u.2])) hP hD hS dX4_read_124
set_option maxHeartbeats 1000000 in
set_option maxRecDepth 10000 in
theorem wX4_read_81 (C0 : cx p s m args meth c cX4_read 3 RX4 wsX4_read (some .int) D K) (hA : ∀ q, s.heap.size ≤ q → A q) (hE : SK adK adV A s s.heap) (T : Nat → Int32) (Q : Rc) (R : Rc) (x2 : Int32) (h : fX4_read_81 N T Q R x2 = some z) (H : Heap) (locs : List Loc) (hP : va_P D vwCl (fl [wArr K aT 440 T, wPlan K aQ Q, wReader K aR (aQ 0) aT R]) H) (hD : va_D A (fl [wArr K aT 440 T, wPlan K aQ Q, wReader K aR (aQ 0) aT R])) (hS : va_S A s.heap H locs) (ls : Array Slot) (hl : lv_has ls 3 [(0, .ref (aR 0)), (2, .int x2)]) : W p l e rmX4_read s m args below meth c H locs 0 0 (MQ below (qcI D z (fun (u : Rc × Rc) => (fl [wArr K aT 440 T, wPlan K aQ u.1, wReader K aR (aQ 0) aT u.2])) A) args s 0 0 A) (F0 m 81 ls []) := by
  unfold fX4_read_81 at h
  refine r_aload_n C0 dX4_read_81 hl 0 rfl ?_
  refine r_get C0 4 inx4 hP 8 rfl rfl 3 (by decide) (mc wd4_3) (.int (R 3 0)) rfl dX4_read_82 ?_
  refine r_if_ne h C0 107 dX4_read_85 (by decide) (fun h => ?_) (fun h => ?_)
  · exact wX4_read_107 C0 hA hE T Q R x2 h _ _ hP hD hS _ (lv_sub hl [0, 1] rfl)
  · refine r_iload_n C0 dX4_read_88 hl 1 rfl ?_
    refine r_if_le h C0 107 dX4_read_89 (by decide) (fun h => ?_) (fun h => ?_)
    · exact wX4_read_107 C0 hA hE T Q R x2 h _ _ hP hD hS _ (lv_sub hl [0, 1] rfl)
    · refine r_aload_n C0 dX4_read_92 hl 0 rfl ?_
      refine r_get C0 4 inx4 hP 8 rfl rfl 0 (by decide) (mc wd4_1) (.ref (aQ 0)) rfl dX4_read_93 ?_
      refine r_get C0 3 inx3 hP 1 rfl rfl 6 (by decide) (mc wd7_14) (.int (Q 6 0)) rfl dX4_read_96 ?_
      refine r_if_ne h C0 107 dX4_read_99 (by decide) (fun h => ?_) (fun h => ?_)
      · exact wX4_read_107 C0 hA hE T Q R x2 h _ _ hP hD hS _ (lv_sub hl [0, 1] rfl)
      · refine r_aload_n C0 dX4_read_102 hl 0 rfl ?_
        refine r_iconst C0 (nI 1) dX4_read_103 (by decide) ?_
        obtain ⟨z1, hz1, h⟩ := bnd_some h
        refine r_callVC (Wc := [wReader K aR (aQ 0) aT R]) (wf := fun (u : Rc) => [wReader K aR (aQ 0) aT u]) (Wn := [wArr K aT 440 T, wPlan K aQ Q, wReader K aR (aQ 0) aT z1]) hP hD hS hA [2] [0, 1] [0, 1, 2] 3 rfl rfl (by decide) rfl rfl (by decide) (fun hPc hDc hFc => va_runV (As := [.int (nI 1)]) (rest := []) C0.1 (ctX4_fail l D K aR (aQ 0) aT R (nI 1) H.size z1 hz1) (cwV 1 C0.1.2.2.2.2 (gdV wd10_23 wd11_0 wd11_1 wd2_4 wd11_2) rfl rfl rfl (by decide +kernel) ⟨Nat.le_of_ble_eq_true rfl, Nat.le_of_ble_eq_true rfl⟩) ⟨pcW_blind, va_recv C0.2.2.2.1 hPc (ci := 4) (q0 := 0) rfl rfl, pcW_of hPc hDc C0.2.2.2⟩ rfl rfl hl.1 rfl (lv_room (Nat.le_of_ble_eq_true rfl)) dX4_read_104 ⟨Nat.zero_le _, Nat.zero_le _⟩) (fun H locs hP hD hS => ?_)
        exact wX4_read_107 C0 hA hE T Q z1 x2 h _ _ hP hD hS _ (lv_sub hl [0, 1] rfl)
set_option maxHeartbeats 1000000 in
set_option maxRecDepth 10000 in
theorem wX4_read_68 (C0 : cx p s m args meth c cX4_read 3 RX4 wsX4_read (some .int) D K) (hA : ∀ q, s.heap.size ≤ q → A q) (hE : SK adK adV A s s.heap) {k36 : (Nat → Int32) → Rc → Rc → Int32 → Option (Int32 × (Rc × Rc))} (hk36 : IX4_read_36 p l e s m args below meth c D K aT aQ aR adK adV A z k36) (T : Nat → Int32) (Q : Rc) (R : Rc) (x2 : Int32) (y1 : Int32) (h : fX4_read_68 N k36 T Q R x2 y1 = some z) (H : Heap) (locs : List Loc) (hP : va_P D vwCl (fl [wArr K aT 440 T, wPlan K aQ Q, wReader K aR (aQ 0) aT R]) H) (hD : va_D A (fl [wArr K aT 440 T, wPlan K aQ Q, wReader K aR (aQ 0) aT R])) (hS : va_S A s.heap H locs) (ls : Array Slot) (hl : lv_has ls 3 [(0, .ref (aR 0)), (2, .int x2)]) : W p l e rmX4_read s m args below meth c H locs 0 0 (MQ below (qcI D z (fun (u : Rc × Rc) => (fl [wArr K aT 440 T, wPlan K aQ u.1, wReader K aR (aQ 0) aT u.2])) A) args s 0 0 A) (F0 m 68 ls [.int y1, .ref (aR 0)]) := by
  unfold fX4_read_68 at h
  obtain ⟨z1, hz1, h⟩ := bnd_some h
  refine r_callVC (Wc := [wArr K aT 440 T, wPlan K aQ Q, wReader K aR (aQ 0) aT R]) (wf := fun (u : Rc × Rc) => [wArr K aT 440 T, wPlan K aQ u.1, wReader K aR (aQ 0) aT u.2]) (Wn := [wArr K aT 440 T, wPlan K aQ z1.1, wReader K aR (aQ 0) aT z1.2]) hP hD hS hA [0, 1, 2] [] [0, 1, 2] 3 rfl rfl (by decide) rfl rfl (by decide) (fun hPc hDc hFc => va_runV (As := [.int y1]) (rest := []) C0.1 (ctX4_readLine l D K N aT aQ aR adK adV T Q R y1 H.size z1 hz1) (cwV 1 C0.1.2.2.2.2 (gdV wd8_6 wd8_7 wd8_8 wd2_4 wd8_9) rfl rfl rfl (by decide +kernel) ⟨Nat.le_of_ble_eq_true rfl, Nat.le_of_ble_eq_true rfl⟩) ⟨pcWS_blind, va_recv C0.2.2.2.1 hPc (ci := 4) (q0 := 8) rfl rfl, pcWS_of hPc hDc C0.2.2.2 ((hE.kept hS.2.1).narrow hFc)⟩ rfl rfl hl.1 rfl (lv_room (Nat.le_of_ble_eq_true rfl)) dX4_read_68 ⟨Nat.zero_le _, Nat.zero_le _⟩) (fun H locs hP hD hS => ?_)
  refine r_iinc h C0 1 (fun v2 => [(2, .int v2), (0, .ref (aR 0))]) dX4_read_71 hl rfl rfl (by decide) (fun _ => rfl) (fun v2 ls h hl => ?_)
  refine r_aload_n C0 dX4_read_74 hl 1 rfl ?_
  obtain ⟨z3, hz3, h⟩ := bnd_some h
  refine r_callVC (Wc := [wArr K aT 440 T, wReader K aR (aQ 0) aT z1.2]) (wf := fun (u : Rc) => [wArr K aT 440 T, wReader K aR (aQ 0) aT u]) (Wn := [wArr K aT 440 T, wPlan K aQ z1.1, wReader K aR (aQ 0) aT z3]) hP hD hS hA [0, 2] [1] [1, 0, 2] 3 rfl rfl (by decide) rfl rfl (by decide) (fun hPc hDc hFc => va_runV (As := []) (rest := []) C0.1 (ctX4_readToken l D K N aT aR (aQ 0) T z1.2 H.size z3 hz3) (cwV 0 C0.1.2.2.2.2 (gdV wd7_19 wd7_20 wd7_21 wd2_4 wd7_22) rfl rfl rfl (by decide +kernel) ⟨Nat.le_of_ble_eq_true rfl, Nat.le_of_ble_eq_true rfl⟩) ⟨pcW_blind, va_recv C0.2.2.2.1 hPc (ci := 4) (q0 := 1) rfl rfl, pcW_of hPc hDc C0.2.2.2⟩ rfl rfl hl.1 rfl (lv_room (Nat.le_of_ble_eq_true rfl)) dX4_read_75 ⟨Nat.zero_le _, Nat.zero_le _⟩) (fun H locs hP hD hS => ?_)
  refine r_goto C0 36 dX4_read_78 (by decide) ?_
  exact hk36 T z1.1 z3 v2 _ _ _ h hP hD hS (lv_sub hl [1, 0] rfl)
set_option maxHeartbeats 1000000 in
set_option maxRecDepth 10000 in
theorem wX4_read_36 (C0 : cx p s m args meth c cX4_read 3 RX4 wsX4_read (some .int) D K) (hA : ∀ q, s.heap.size ≤ q → A q) (hE : SK adK adV A s s.heap) {k36 : (Nat → Int32) → Rc → Rc → Int32 → Option (Int32 × (Rc × Rc))} (hk36 : IX4_read_36 p l e s m args below meth c D K aT aQ aR adK adV A z k36) (T : Nat → Int32) (Q : Rc) (R : Rc) (x2 : Int32) (h : fX4_read_36b N k36 T Q R x2 = some z) (H : Heap) (locs : List Loc) (hP : va_P D vwCl (fl [wArr K aT 440 T, wPlan K aQ Q, wReader K aR (aQ 0) aT R]) H) (hD : va_D A (fl [wArr K aT 440 T, wPlan K aQ Q, wReader K aR (aQ 0) aT R])) (hS : va_S A s.heap H locs) (ls : Array Slot) (hl : lv_has ls 3 [(0, .ref (aR 0)), (2, .int x2)]) : W p l e rmX4_read s m args below meth c H locs 0 0 (MQ below (qcI D z (fun (u : Rc × Rc) => (fl [wArr K aT 440 T, wPlan K aQ u.1, wReader K aR (aQ 0) aT u.2])) A) args s 0 0 A) (F0 m 36 ls []) := by
  unfold fX4_read_36b at h
  refine r_aload_n C0 dX4_read_36 hl 0 rfl ?_
  refine r_get C0 4 inx4 hP 8 rfl rfl 3 (by decide) (mc wd4_3) (.int (R 3 0)) rfl dX4_read_37 ?_
  refine r_if_ne h C0 81 dX4_read_40 (by decide) (fun h => ?_) (fun h => ?_)
  · exact wX4_read_81 C0 hA hE T Q R x2 h _ _ hP hD hS _ (lv_sub hl [0, 1] rfl)
  · refine r_aload_n C0 dX4_read_43 hl 0 rfl ?_
    refine r_get C0 4 inx4 hP 8 rfl rfl 6 (by decide) (mc wd4_6) (.int (R 6 0)) rfl dX4_read_44 ?_
    refine r_iconst C0 (nI 1) dX4_read_47 (by decide) ?_
    refine r_icmp_eq h C0 81 dX4_read_48 (by decide) (fun h => ?_) (fun h => ?_)
    · exact wX4_read_81 C0 hA hE T Q R x2 h _ _ hP hD hS _ (lv_sub hl [0, 1] rfl)
    · refine r_iload_n C0 dX4_read_51 hl 1 rfl ?_
      refine r_sipush C0 (nI 440) dX4_read_52 (by decide) ?_
      refine r_icmp_ge h C0 81 dX4_read_55 (by decide) (fun h => ?_) (fun h => ?_)
      · exact wX4_read_81 C0 hA hE T Q R x2 h _ _ hP hD hS _ (lv_sub hl [0, 1] rfl)
      · refine r_aload_n C0 dX4_read_58 hl 0 rfl ?_
        refine r_iload_n C0 dX4_read_59 hl 1 rfl ?_
        refine r_if_ne h C0 67 dX4_read_60 (by decide) (fun h => ?_) (fun h => ?_)
        · refine r_iconst C0 (nI 0) dX4_read_67 (by decide) ?_
          exact wX4_read_68 C0 hA hE hk36 T Q R x2 (nI 0) h _ _ hP hD hS _ (lv_sub hl [0, 1] rfl)
        · refine r_iconst C0 (nI 1) dX4_read_63 (by decide) ?_
          refine r_goto C0 68 dX4_read_64 (by decide) ?_
          exact wX4_read_68 C0 hA hE hk36 T Q R x2 (nI 1) h _ _ hP hD hS _ (lv_sub hl [0, 1] rfl)
theorem wX4_read_36L (C0 : cx p s m args meth c cX4_read 3 RX4 wsX4_read (some .int) D K) (hA : ∀ q, s.heap.size ≤ q → A q) (hE : SK adK adV A s s.heap) : IX4_read_36 p l e s m args below meth c D K aT aQ aR adK adV A z (fX4_read_36 N) := by
  refine itn_ind (IX4_read_36 p l e s m args below meth c D K aT aQ aR adK adV A z) ?_ ?_ N
  · intro _ _ _ _ _ _ _ h; cases h
  · intro k36 hk36 T Q R x2 H locs ls h hP hD hS hl
    exact wX4_read_36 C0 hA hE hk36 T Q R x2 h H locs hP hD hS ls hl
set_option maxHeartbeats 1000000 in
set_option maxRecDepth 10000 in
theorem wX4_read_0 (C0 : cx p s m args meth c cX4_read 3 RX4 wsX4_read (some .int) D K) (hA : ∀ q, s.heap.size ≤ q → A q) (hE : SK adK adV A s s.heap) (T : Nat → Int32) (Q : Rc) (R : Rc) (x1 : Int32) (h : fX4_read N T Q R x1 = some z) (H : Heap) (locs : List Loc) (hP : va_P D vwCl (fl [wArr K aT 440 T, wPlan K aQ Q, wReader K aR (aQ 0) aT R]) H) (hD : va_D A (fl [wArr K aT 440 T, wPlan K aQ Q, wReader K aR (aQ 0) aT R])) (hS : va_S A s.heap H locs) (ls : Array Slot) (hl : lv_has ls 3 [(0, .ref (aR 0)), (1, .int x1)]) : W p l e rmX4_read s m args below meth c H locs 0 0 (MQ below (qcI D z (fun (u : Rc × Rc) => (fl [wArr K aT 440 T, wPlan K aQ u.1, wReader K aR (aQ 0) aT u.2])) A) args s 0 0 A) (F0 m 0 ls []) := by
  unfold fX4_read at h
  refine r_aload_n C0 dX4_read_0 hl 0 rfl ?_
  refine r_iload_n C0 dX4_read_1 hl 1 rfl ?_
  refine r_aload_n C0 dX4_read_2 hl 0 rfl ?_
  refine r_get C0 4 inx4 hP 8 rfl rfl 1 (by decide) (mc wd4_8) (.ref aT) rfl dX4_read_3 ?_
  refine r_alen C0 hP 0 rfl dX4_read_6 ?_
  refine r_mmin C0 ⟨(mc wd7_10), (mc wd7_11), (mc wd7_12), (mc wd7_13)⟩ hl ⟨Nat.le_of_ble_eq_true rfl, Nat.le_of_ble_eq_true rfl⟩ ⟨Nat.zero_le _, Nat.zero_le _⟩ dX4_read_7 ?_
  refine r_put (ty := .int) h C0 4 inx4 tyX4 tyX4_ok nmX4 hP hD hS 8 (fun uu => (fl [wArr K aT 440 T, wPlan K aQ Q, wReader K aR (aQ 0) aT uu])) rfl rfl 2 (by decide) (mc wd4_2) rfl (by decide +kernel) rfl rfl (by simp) rfl dX4_read_10 (fun R1 H locs h hP hD hS => ?_)
  refine r_aload_n C0 dX4_read_13 hl 0 rfl ?_
  refine r_iconst C0 (nI 0) dX4_read_14 (by decide) ?_
  refine r_put (ty := .int) h C0 4 inx4 tyX4 tyX4_ok nmX4 hP hD hS 8 (fun uu => (fl [wArr K aT 440 T, wPlan K aQ Q, wReader K aR (aQ 0) aT uu])) rfl rfl 5 (by decide) (mc wd4_5) rfl (by decide +kernel) rfl rfl (by simp) rfl dX4_read_15 (fun R2 H locs h hP hD hS => ?_)
  refine r_aload_n C0 dX4_read_18 hl 0 rfl ?_
  refine r_iconst C0 (nI 0) dX4_read_19 (by decide) ?_
  refine r_put (ty := .int) h C0 4 inx4 tyX4 tyX4_ok nmX4 hP hD hS 8 (fun uu => (fl [wArr K aT 440 T, wPlan K aQ Q, wReader K aR (aQ 0) aT uu])) rfl rfl 3 (by decide) (mc wd4_3) rfl (by decide +kernel) rfl rfl (by simp) rfl dX4_read_20 (fun R3 H locs h hP hD hS => ?_)
  refine r_aload_n C0 dX4_read_23 hl 0 rfl ?_
  refine r_get C0 4 inx4 hP 8 rfl rfl 0 (by decide) (mc wd4_1) (.ref (aQ 0)) rfl dX4_read_24 ?_
  obtain ⟨z4, hz4, h⟩ := bnd_some h
  refine r_callVC (Wc := [wPlan K aQ Q]) (wf := fun (u : Rc) => [wPlan K aQ u]) (Wn := [wArr K aT 440 T, wPlan K aQ z4, wReader K aR (aQ 0) aT R3]) hP hD hS hA [1] [0, 2] [0, 2, 1] 3 rfl rfl (by decide) rfl rfl (by decide) (fun hPc hDc hFc => va_runV (As := []) (rest := []) C0.1 (ctX3_clear l D K aQ Q H.size z4 hz4) (cwV 0 C0.1.2.2.2.2 (gdV wd7_15 wd7_16 wd7_17 wd1_20 wd7_18) rfl rfl rfl (by decide +kernel) ⟨Nat.le_of_ble_eq_true rfl, Nat.le_of_ble_eq_true rfl⟩) ⟨pcW_blind, va_recv C0.2.2.2.1 hPc (ci := 3) (q0 := 0) rfl rfl, pcW_of hPc hDc C0.2.2.2⟩ rfl rfl hl.1 rfl (lv_room (Nat.le_of_ble_eq_true rfl)) dX4_read_27 ⟨Nat.zero_le _, Nat.zero_le _⟩) (fun H locs hP hD hS => ?_)
  refine r_iconst C0 (nI 0) dX4_read_30 (by decide) ?_
  refine r_istore_n h C0 (fun v5 => [(2, .int v5), (0, .ref (aR 0)), (1, .int x1)]) dX4_read_31 hl (by decide) (fun _ => rfl) (fun v5 ls h hl => ?_)
  refine r_aload_n C0 dX4_read_32 hl 1 rfl ?_
  obtain ⟨z6, hz6, h⟩ := bnd_some h
  refine r_callVC (Wc := [wArr K aT 440 T, wReader K aR (aQ 0) aT R3]) (wf := fun (u : Rc) => [wArr K aT 440 T, wReader K aR (aQ 0) aT u]) (Wn := [wArr K aT 440 T, wPlan K aQ z4, wReader K aR (aQ 0) aT z6]) hP hD hS hA [0, 2] [1] [1, 0, 2] 3 rfl rfl (by decide) rfl rfl (by decide) (fun hPc hDc hFc => va_runV (As := []) (rest := []) C0.1 (ctX4_readToken l D K N aT aR (aQ 0) T R3 H.size z6 hz6) (cwV 0 C0.1.2.2.2.2 (gdV wd7_19 wd7_20 wd7_21 wd2_4 wd7_22) rfl rfl rfl (by decide +kernel) ⟨Nat.le_of_ble_eq_true rfl, Nat.le_of_ble_eq_true rfl⟩) ⟨pcW_blind, va_recv C0.2.2.2.1 hPc (ci := 4) (q0 := 1) rfl rfl, pcW_of hPc hDc C0.2.2.2⟩ rfl rfl hl.1 rfl (lv_room (Nat.le_of_ble_eq_true rfl)) dX4_read_33 ⟨Nat.zero_le _, Nat.zero_le _⟩) (fun H locs hP hD hS => ?_)
  exact wX4_read_36L C0 hA hE T z4 z6 v5 _ _ _ h hP hD hS (lv_sub hl [1, 0] rfl)
set_option maxHeartbeats 1000000 in
set_option maxRecDepth 10000 in
theorem ctX4_read (l : Launch) (D : va_G) (K : Nat → ClassId) (N : Nat) (aT : Nat) (aQ : Nat → Nat) (aR : Nat → Nat) (adK : Nat → Nat) (adV : Nat → Nat) (T : Nat → Int32) (Q : Rc) (R : Rc) (p1 : Int32) (sz : Nat) (z : Int32 × (Rc × Rc)) (hz : fX4_read N T Q R p1 = some z) : Met l yX4_read wsX4_read rmX4_read (pcWS D K [.ref (aR 0), .int p1] (fl [wArr K aT 440 T, wPlan K aQ Q, wReader K aR (aQ 0) aT R]) sz adK adV) (qcI D z (fun (u : Rc × Rc) => (fl [wArr K aT 440 T, wPlan K aQ u.1, wReader K aR (aQ 0) aT u.2])) (va_A (fl [wArr K aT 440 T, wPlan K aQ Q, wReader K aR (aQ 0) aT R]) sz)) 0 0 (va_A (fl [wArr K aT 440 T, wPlan K aQ Q, wReader K aR (aQ 0) aT R]) sz) := by
  refine Met.ofW (cc := cX4_read) (maxL := 3) (ret := (some .int)) (by decide) rfl ?_
  intro p e s m args below meth c s₁ B hml hv
  obtain ⟨rfl, hsz, hP, hK, hD0, hE⟩ := hv
  subst hsz
  have C0 : cx p s m _ meth c cX4_read 3 RX4 wsX4_read (some .int) D K := ⟨⟨B.exec, B.bytes, hml, findClass_of_methodNamed B.named, atoms_spec (ws := wsX4_read) B.pre⟩, B.returns, B.notSynchronized, hK⟩
  have hD := hD0.self (sz := s.heap.size)
  generalize hAe : va_A (fl [wArr K aT 440 T, wPlan K aQ Q, wReader K aR (aQ 0) aT R]) s.heap.size = A at hD hE ⊢
  have hA : ∀ q : Nat, s.heap.size ≤ q → A q := fun q h => by rw [← hAe]; exact Or.inr h
  have hl := lv_entry ([.ref (aR 0), .int p1]) (n := 3) (Nat.le_of_ble_eq_true rfl)
  rw [lg_entry_eq]
  generalize (lg_sl ([.ref (aR 0), .int p1]) ++ List.replicate (3 - (lg_sl ([.ref (aR 0), .int p1])).length) Slot.unset).toArray = ls at hl ⊢
  have hl : lv_has ls 3 [(0, .ref (aR 0)), (1, .int p1)] := hl
  exact wX4_read_0 C0 hA hE T Q R p1 hz s.heap [] hP hD va_S.rf ls (lv_sub hl [0, 1] rfl)
end SX4_read
