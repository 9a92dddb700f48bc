section SX2_lookAround
/-! CardLoops$PaceFinder.lookAround(I)V -/
abbrev wsX2_lookAround : List Cond := Cond.code yX2_lookAround cX2_lookAround 7 none :: wsL_law0
abbrev rmX2_lookAround : Room := { frames := 1, cells := 0, slots := 0, locals := 21 }
variable {p : Program} {l : Launch} {e : Env} {s : State} {m : MethodId} {args : Array Value} {below : List Frame} {meth : Method} {c : Code} {D : va_G} {K : Nat → ClassId} {A : Nat → Prop} {N : Nat} {aP : Nat → Nat} {aJ : Nat → Nat} {aF : Nat → Nat} {z : Rc × RcL}
def IX2_lookAround_15 (p : Program) (l : Launch) (e : Env) (s : State) (m : MethodId) (args : Array Value) (below : List Frame) (meth : Method) (c : Code) (D : va_G) (K : Nat → ClassId) (aP : Nat → Nat) (aJ : Nat → Nat) (aF : Nat → Nat) (A : Nat → Prop) (z : Rc × RcL) (k : Rc → Rc → Rc → RcL → Int32 → Int64 → Int32 → Int32 → Option (Rc × RcL)) : Prop := ∀ (P : Rc) (J : Rc) (F : Rc) (FL : RcL) (x1 : Int32) (x2 : Int64) (x4 : Int32) (x5 : Int32) (H : Heap) (locs : List Loc) (ls : Array Slot), k P J F FL x1 x2 x4 x5 = some z → va_P D vwCl (fl [wPlan K aP P, wLine K aJ (aP 0) J, wFinder K aF (aJ 0) F FL]) H → va_D A (fl [wPlan K aP P, wLine K aJ (aP 0) J, wFinder K aF (aJ 0) F FL]) → va_S A s.heap H locs → lv_has ls 7 [(0, .ref (aF 0)), (1, .int x1), (2, .long x2), (4, .int x4), (5, .int x5)] → W p l e rmX2_lookAround s m args below meth c H locs 0 0 (MQ below (qcV D z (fun (u : Rc × RcL) => (fl [wPlan K aP P, wLine K aJ (aP 0) J, wFinder K aF (aJ 0) u.1 u.2])) A) args s 0 0 A) (F0 m 15 ls [])
set_option maxHeartbeats 1000000 in
set_option maxRecDepth 10000 in
theorem wX2_lookAround_64 (C0 : cx p s m args meth c cX2_lookAround 7 RX2 wsX2_lookAround none D K) (hA : ∀ q, s.heap.size ≤ q → A q) {k15 : Rc → Rc → Rc → RcL → Int32 → Int64 → Int32 → Int32 → Option (Rc × RcL)} (hk15 : IX2_lookAround_15 p l e s m args below meth c D K aP aJ aF A z k15) (P : Rc) (J : Rc) (F : Rc) (FL : RcL) (x1 : Int32) (x2 : Int64) (x4 : Int32) (x5 : Int32) (y0 : Int32) (h : fX2_lookAround_64 N k15 P J F FL x1 x2 x4 x5 y0 = some z) (H : Heap) (locs : List Loc) (hP : va_P D vwCl (fl [wPlan K aP P, wLine K aJ (aP 0) J, wFinder K aF (aJ 0) F FL]) H) (hD : va_D A (fl [wPlan K aP P, wLine K aJ (aP 0) J, wFinder K aF (aJ 0) F FL])) (hS : va_S A s.heap H locs) (ls : Array Slot) (hl : lv_has ls 7 [(0, .ref (aF 0)), (1, .int x1), (2, .long x2), (4, .int x4), (5, .int x5)]) : W p l e rmX2_lookAround s m args below meth c H locs 0 0 (MQ below (qcV D z (fun (u : Rc × RcL) => (fl [wPlan K aP P, wLine K aJ (aP 0) J, wFinder K aF (aJ 0) u.1 u.2])) A) args s 0 0 A) (F0 m 64 ls [.int y0]) := by
  unfold fX2_lookAround_64 at h
  refine r_istore h C0 (fun v1 => [(6, .int v1), (0, .ref (aF 0)), (1, .int x1), (2, .long x2), (4, .int x4), (5, .int x5)]) dX2_lookAround_64 hl (by decide) (fun _ => rfl) (fun v1 ls h hl => ?_)
  refine r_lload_n C0 dX2_lookAround_66 hl 3 rfl ?_
  refine r_bipush C0 (nI 7) dX2_lookAround_67 (by decide) ?_
  refine r_lshl C0 dX2_lookAround_69 ?_
  refine r_iload C0 dX2_lookAround_70 hl 0 rfl ?_
  refine r_i2l C0 dX2_lookAround_72 ?_
  refine r_ladd C0 dX2_lookAround_73 ?_
  refine r_lstore_n h C0 (fun v2 => [(2, .long v2), (6, .int v1), (0, .ref (aF 0)), (1, .int x1), (4, .int x4), (5, .int x5)]) dX2_lookAround_74 hl (by decide) (fun _ => rfl) (fun v2 ls h hl => ?_)
  refine r_iload C0 dX2_lookAround_75 hl 4 rfl ?_
  refine r_iconst C0 (nI 5) dX2_lookAround_77 (by decide) ?_
  refine r_ishl C0 dX2_lookAround_78 ?_
  refine r_aload_n C0 dX2_lookAround_79 hl 2 rfl ?_
  refine r_get C0 2 inx2 hP 14 rfl rfl 0 (by decide) (mc wd4_20) (.ref (aJ 0)) rfl dX2_lookAround_80 ?_
  refine r_iload C0 dX2_lookAround_83 hl 5 rfl ?_
  obtain ⟨z3, hz3, h⟩ := bnd_some h
  have hPc := vaP_sel (Wc := [wLine K aJ (aP 0) J]) hP [1] rfl
  refine r_cI (va_runV (As := [.int x5]) (rest := [.int (x4 <<< ((nI 5) &&& 31))]) C0.1 (ctX1_waiting l D K aJ (aP 0) J x5 z3 hz3) (cwV 1 C0.1.2.2.2.2 (gdV wd27_23 wd14_1 wd14_2 wd1_23 wd14_3) rfl rfl rfl (by decide +kernel) ⟨Nat.le_of_ble_eq_true rfl, Nat.le_of_ble_eq_true rfl⟩) ⟨pcR_blind, va_recv C0.2.2.2.1 hPc (ci := 1) (q0 := 0) rfl rfl, pcR_of hPc C0.2.2.2⟩ rfl rfl hl.1 rfl (lv_room (Nat.le_of_ble_eq_true rfl)) dX2_lookAround_85 ⟨Nat.zero_le _, Nat.zero_le _⟩).run ?_
  refine r_iadd C0 dX2_lookAround_88 ?_
  refine r_istore h C0 (fun v4 => [(4, .int v4), (2, .long v2), (6, .int v1), (0, .ref (aF 0)), (1, .int x1), (5, .int x5)]) dX2_lookAround_89 hl (by decide) (fun _ => rfl) (fun v4 ls h hl => ?_)
  refine r_iinc h C0 5 (fun v5 => [(5, .int v5), (4, .int v4), (2, .long v2), (6, .int v1), (0, .ref (aF 0)), (1, .int x1)]) dX2_lookAround_91 hl rfl rfl (by decide) (fun _ => rfl) (fun v5 ls h hl => ?_)
  refine r_goto C0 15 dX2_lookAround_94 (by decide) ?_
  exact hk15 P J F FL x1 v2 v4 v5 _ _ _ h hP hD hS (lv_sub hl [4, 5, 2, 1, 0] rfl)
set_option maxHeartbeats 1000000 in
set_option maxRecDepth 10000 in
theorem wX2_lookAround_15 (C0 : cx p s m args meth c cX2_lookAround 7 RX2 wsX2_lookAround none D K) (hA : ∀ q, s.heap.size ≤ q → A q) {k15 : Rc → Rc → Rc → RcL → Int32 → Int64 → Int32 → Int32 → Option (Rc × RcL)} (hk15 : IX2_lookAround_15 p l e s m args below meth c D K aP aJ aF A z k15) (P : Rc) (J : Rc) (F : Rc) (FL : RcL) (x1 : Int32) (x2 : Int64) (x4 : Int32) (x5 : Int32) (h : fX2_lookAround_15b N k15 P J F FL x1 x2 x4 x5 = some z) (H : Heap) (locs : List Loc) (hP : va_P D vwCl (fl [wPlan K aP P, wLine K aJ (aP 0) J, wFinder K aF (aJ 0) F FL]) H) (hD : va_D A (fl [wPlan K aP P, wLine K aJ (aP 0) J, wFinder K aF (aJ 0) F FL])) (hS : va_S A s.heap H locs) (ls : Array Slot) (hl : lv_has ls 7 [(0, .ref (aF 0)), (1, .int x1), (2, .long x2), (4, .int x4), (5, .int x5)]) : W p l e rmX2_lookAround s m args below meth c H locs 0 0 (MQ below (qcV D z (fun (u : Rc × RcL) => (fl [wPlan K aP P, wLine K aJ (aP 0) J, wFinder K aF (aJ 0) u.1 u.2])) A) args s 0 0 A) (F0 m 15 ls []) := by
  unfold fX2_lookAround_15b at h
  refine r_iload C0 dX2_lookAround_15 hl 4 rfl ?_
  refine r_aload_n C0 dX2_lookAround_17 hl 0 rfl ?_
  refine r_get C0 2 inx2 hP 14 rfl rfl 0 (by decide) (mc wd4_20) (.ref (aJ 0)) rfl dX2_lookAround_18 ?_
  refine r_get C0 1 inx1 hP 7 rfl rfl 0 (by decide) (mc wd27_14) (.ref (aP 0)) rfl dX2_lookAround_21 ?_
  refine r_get C0 3 inx3 hP 0 rfl rfl 6 (by decide) (mc wd27_15) (.int (P 6 0)) rfl dX2_lookAround_24 ?_
  refine r_icmp_ge h C0 97 dX2_lookAround_27 (by decide) (fun h => ?_) (fun h => ?_)
  · refine r_aload_n C0 dX2_lookAround_97 hl 0 rfl ?_
    refine r_get C0 2 inx2 hP 14 rfl rfl 1 (by decide) (mc wd4_13) (.ref (aF 2)) rfl dX2_lookAround_98 ?_
    refine r_iload_n C0 dX2_lookAround_101 hl 1 rfl ?_
    refine r_lload_n C0 dX2_lookAround_102 hl 2 rfl ?_
    refine r_last h C0 hP hD hS 15 (fun uu => (fl [wPlan K aP P, wLine K aJ (aP 0) J, wFinder K aF (aJ 0) F uu])) rfl rfl dX2_lookAround_103 (fun FL1 H locs h hP hD hS => ?_)
    refine r_aload_n C0 dX2_lookAround_104 hl 0 rfl ?_
    refine r_get C0 2 inx2 hP 14 rfl rfl 2 (by decide) (mc wd4_14) (.ref (aF 3)) rfl dX2_lookAround_105 ?_
    refine r_iload_n C0 dX2_lookAround_108 hl 1 rfl ?_
    refine r_iload C0 dX2_lookAround_109 hl 3 rfl ?_
    refine r_iast h C0 hP hD hS 16 (fun uu => (fl [wPlan K aP P, wLine K aJ (aP 0) J, wFinder K aF (aJ 0) uu FL1])) rfl rfl dX2_lookAround_111 (fun F2 H locs h hP hD hS => ?_)
    refine r_aload_n C0 dX2_lookAround_112 hl 0 rfl ?_
    refine r_get C0 2 inx2 hP 14 rfl rfl 3 (by decide) (mc wd4_15) (.ref (aF 4)) rfl dX2_lookAround_113 ?_
    refine r_iload_n C0 dX2_lookAround_116 hl 1 rfl ?_
    refine r_aload_n C0 dX2_lookAround_117 hl 0 rfl ?_
    refine r_get C0 2 inx2 hP 14 rfl rfl 0 (by decide) (mc wd4_20) (.ref (aJ 0)) rfl dX2_lookAround_118 ?_
    refine r_get C0 1 inx1 hP 7 rfl rfl 8 (by decide) (mc wd27_17) (.int (J 8 0)) rfl dX2_lookAround_121 ?_
    refine r_iast h C0 hP hD hS 17 (fun uu => (fl [wPlan K aP P, wLine K aJ (aP 0) J, wFinder K aF (aJ 0) uu FL1])) rfl rfl dX2_lookAround_124 (fun F3 H locs h hP hD hS => ?_)
    exact r_vret h C0 (fun (u : Rc × RcL) => (fl [wPlan K aP P, wLine K aJ (aP 0) J, wFinder K aF (aJ 0) u.1 u.2])) hP hD hS dX2_lookAround_125
  · refine r_aload_n C0 dX2_lookAround_30 hl 0 rfl ?_
    refine r_get C0 2 inx2 hP 14 rfl rfl 0 (by decide) (mc wd4_20) (.ref (aJ 0)) rfl dX2_lookAround_31 ?_
    refine r_iload C0 dX2_lookAround_34 hl 4 rfl ?_
    obtain ⟨z4, hz4, h⟩ := bnd_some h
    have hPc := vaP_sel (Wc := [wLine K aJ (aP 0) J]) hP [1] rfl
    refine r_cI (va_runV (As := [.int x5]) (rest := []) C0.1 (ctX1_isIdle l D K aJ (aP 0) J x5 z4 hz4) (cwV 1 C0.1.2.2.2.2 (gdV wd27_22 wd13_8 wd13_9 wd1_23 wd13_10) rfl rfl rfl (by decide +kernel) ⟨Nat.le_of_ble_eq_true rfl, Nat.le_of_ble_eq_true rfl⟩) ⟨pcR_blind, va_recv C0.2.2.2.1 hPc (ci := 1) (q0 := 0) rfl rfl, pcR_of hPc C0.2.2.2⟩ rfl rfl hl.1 rfl (lv_room (Nat.le_of_ble_eq_true rfl)) dX2_lookAround_36 ⟨Nat.zero_le _, Nat.zero_le _⟩).run ?_
    refine r_if_eq h C0 46 dX2_lookAround_39 (by decide) (fun h => ?_) (fun h => ?_)
    · refine r_aload_n C0 dX2_lookAround_46 hl 0 rfl ?_
      refine r_get C0 2 inx2 hP 14 rfl rfl 0 (by decide) (mc wd4_20) (.ref (aJ 0)) rfl dX2_lookAround_47 ?_
      refine r_get C0 1 inx1 hP 7 rfl rfl 3 (by decide) (mc wd27_16) (.ref (aJ 4)) rfl dX2_lookAround_50 ?_
      refine r_iload C0 dX2_lookAround_53 hl 4 rfl ?_
      refine r_iald h C0 hP 10 rfl dX2_lookAround_55 (fun h => ?_)
      refine r_aload_n C0 dX2_lookAround_56 hl 0 rfl ?_
      refine r_get C0 2 inx2 hP 14 rfl rfl 0 (by decide) (mc wd4_20) (.ref (aJ 0)) rfl dX2_lookAround_57 ?_
      refine r_get C0 1 inx1 hP 7 rfl rfl 8 (by decide) (mc wd27_17) (.int (J 8 0)) rfl dX2_lookAround_60 ?_
      refine r_isub C0 dX2_lookAround_63 ?_
      exact wX2_lookAround_64 C0 hA hk15 P J F FL x1 x2 x4 x5 ((J 3 x5.toNatClampNeg) - (J 8 0)) h _ _ hP hD hS _ (lv_sub hl [0, 1, 2, 3, 4] rfl)
    · refine r_iconst C0 (nI 0) dX2_lookAround_42 (by decide) ?_
      refine r_goto C0 64 dX2_lookAround_43 (by decide) ?_
      exact wX2_lookAround_64 C0 hA hk15 P J F FL x1 x2 x4 x5 (nI 0) h _ _ hP hD hS _ (lv_sub hl [0, 1, 2, 3, 4] rfl)
theorem wX2_lookAround_15L (C0 : cx p s m args meth c cX2_lookAround 7 RX2 wsX2_lookAround none D K) (hA : ∀ q, s.heap.size ≤ q → A q) : IX2_lookAround_15 p l e s m args below meth c D K aP aJ aF A z (fX2_lookAround_15 N) := by
  refine itn_ind (IX2_lookAround_15 p l e s m args below meth c D K aP aJ aF A z) ?_ ?_ N
  · intro _ _ _ _ _ _ _ _ _ _ _ h; cases h
  · intro k15 hk15 P J F FL x1 x2 x4 x5 H locs ls h hP hD hS hl
    exact wX2_lookAround_15 C0 hA hk15 P J F FL x1 x2 x4 x5 h H locs hP hD hS ls hl
set_option maxHeartbeats 1000000 in
set_option maxRecDepth 10000 in
theorem wX2_lookAround_0 (C0 : cx p s m args meth c cX2_lookAround 7 RX2 wsX2_lookAround none D K) (hA : ∀ q, s.heap.size ≤ q → A q) (P : Rc) (J : Rc) (F : Rc) (FL : RcL) (x1 : Int32) (h : fX2_lookAround N P J F FL x1 = some z) (H : Heap) (locs : List Loc) (hP : va_P D vwCl (fl [wPlan K aP P, wLine K aJ (aP 0) J, wFinder K aF (aJ 0) F FL]) H) (hD : va_D A (fl [wPlan K aP P, wLine K aJ (aP 0) J, wFinder K aF (aJ 0) F FL])) (hS : va_S A s.heap H locs) (ls : Array Slot) (hl : lv_has ls 7 [(0, .ref (aF 0)), (1, .int x1)]) : W p l e rmX2_lookAround s m args below meth c H locs 0 0 (MQ below (qcV D z (fun (u : Rc × RcL) => (fl [wPlan K aP P, wLine K aJ (aP 0) J, wFinder K aF (aJ 0) u.1 u.2])) A) args s 0 0 A) (F0 m 0 ls []) := by
  unfold fX2_lookAround at h
  refine r_aload_n C0 dX2_lookAround_0 hl 0 rfl ?_
  refine r_get C0 2 inx2 hP 14 rfl rfl 0 (by decide) (mc wd4_20) (.ref (aJ 0)) rfl dX2_lookAround_1 ?_
  obtain ⟨z1, hz1, h⟩ := bnd_some h
  have hPc := vaP_sel (Wc := [wPlan K aP P, wLine K aJ (aP 0) J]) hP [0, 1] rfl
  refine r_cI (va_runV (As := []) (rest := []) C0.1 (ctX1_placeInRuns l D K aP aJ P J z1 hz1) (cwV 0 C0.1.2.2.2.2 (gdV wd27_18 wd27_19 wd27_20 wd1_23 wd27_21) rfl rfl rfl (by decide +kernel) ⟨Nat.le_of_ble_eq_true rfl, Nat.le_of_ble_eq_true rfl⟩) ⟨pcR_blind, va_recv C0.2.2.2.1 hPc (ci := 1) (q0 := 7) rfl rfl, pcR_of hPc C0.2.2.2⟩ rfl rfl hl.1 rfl (lv_room (Nat.le_of_ble_eq_true rfl)) dX2_lookAround_4 ⟨Nat.zero_le _, Nat.zero_le _⟩).run ?_
  refine r_i2l C0 dX2_lookAround_7 ?_
  refine r_lstore_n h C0 (fun v2 => [(2, .long v2), (0, .ref (aF 0)), (1, .int x1)]) dX2_lookAround_8 hl (by decide) (fun _ => rfl) (fun v2 ls h hl => ?_)
  refine r_iconst C0 (nI 0) dX2_lookAround_9 (by decide) ?_
  refine r_istore h C0 (fun v3 => [(4, .int v3), (2, .long v2), (0, .ref (aF 0)), (1, .int x1)]) dX2_lookAround_10 hl (by decide) (fun _ => rfl) (fun v3 ls h hl => ?_)
  refine r_iconst C0 (nI 0) dX2_lookAround_12 (by decide) ?_
  refine r_istore h C0 (fun v4 => [(5, .int v4), (4, .int v3), (2, .long v2), (0, .ref (aF 0)), (1, .int x1)]) dX2_lookAround_13 hl (by decide) (fun _ => rfl) (fun v4 ls h hl => ?_)
  exact wX2_lookAround_15L C0 hA P J F FL x1 v2 v3 v4 _ _ _ h hP hD hS (lv_sub hl [3, 4, 2, 1, 0] rfl)
set_option maxHeartbeats 1000000 in
set_option maxRecDepth 10000 in
theorem ctX2_lookAround (l : Launch) (D : va_G) (K : Nat → ClassId) (N : Nat) (aP : Nat → Nat) (aJ : Nat → Nat) (aF : Nat → Nat) (P : Rc) (J : Rc) (F : Rc) (FL : RcL) (p1 : Int32) (sz : Nat) (z : Rc × RcL) (hz : fX2_lookAround N P J F FL p1 = some z) : Met l yX2_lookAround wsX2_lookAround rmX2_lookAround (pcW D K [.ref (aF 0), .int p1] (fl [wPlan K aP P, wLine K aJ (aP 0) J, wFinder K aF (aJ 0) F FL]) sz) (qcV D z (fun (u : Rc × RcL) => (fl [wPlan K aP P, wLine K aJ (aP 0) J, wFinder K aF (aJ 0) u.1 u.2])) (va_A (fl [wPlan K aP P, wLine K aJ (aP 0) J, wFinder K aF (aJ 0) F FL]) sz)) 0 0 (va_A (fl [wPlan K aP P, wLine K aJ (aP 0) J, wFinder K aF (aJ 0) F FL]) sz) := by
  refine Met.ofW (cc := cX2_lookAround) (maxL := 7) (ret := none) (by decide) rfl ?_
  intro p e s m args below meth c s₁ B hml hv
  obtain ⟨rfl, hsz, hP, hK, hD0⟩ := hv
  subst hsz
  have C0 : cx p s m _ meth c cX2_lookAround 7 RX2 wsX2_lookAround none D K := ⟨⟨B.exec, B.bytes, hml, findClass_of_methodNamed B.named, atoms_spec (ws := wsX2_lookAround) B.pre⟩, B.returns, B.notSynchronized, hK⟩
  have hD := hD0.self (sz := s.heap.size)
  generalize hAe : va_A (fl [wPlan K aP P, wLine K aJ (aP 0) J, wFinder K aF (aJ 0) F FL]) s.heap.size = A at hD ⊢
  have hA : ∀ q : Nat, s.heap.size ≤ q → A q := fun q h => by rw [← hAe]; exact Or.inr h
  have hl := lv_entry ([.ref (aF 0), .int p1]) (n := 7) (Nat.le_of_ble_eq_true rfl)
  rw [lg_entry_eq]
  generalize (lg_sl ([.ref (aF 0), .int p1]) ++ List.replicate (7 - (lg_sl ([.ref (aF 0), .int p1])).length) Slot.unset).toArray = ls at hl ⊢
  have hl : lv_has ls 7 [(0, .ref (aF 0)), (1, .int p1)] := hl
  exact wX2_lookAround_0 C0 hA P J F FL p1 hz s.heap [] hP hD va_S.rf ls (lv_sub hl [0, 1] rfl)
end SX2_lookAround

section SX2_enter
/-! CardLoops$PaceFinder.enter(I)I -/
abbrev wsX2_enter : List Cond := Cond.code yX2_enter cX2_enter 7 (some .int) :: wsL_law0
abbrev rmX2_enter : Room := { frames := 0, cells := 0, slots := 0, locals := 0 }
variable {p : Program} {l : Launch} {e : Env} {s : State} {m : MethodId} {args : Array Value} {below : List Frame} {meth : Method} {c : Code} {D : va_G} {K : Nat → ClassId} {A : Nat → Prop} {N : Nat} {aF : Nat → Nat} {rF0 : Nat} {z : Int32 × (Rc)}
def IX2_enter_46 (p : Program) (l : Launch) (e : Env) (s : State) (m : MethodId) (args : Array Value) (below : List Frame) (meth : Method) (c : Code) (D : va_G) (K : Nat → ClassId) (aF : Nat → Nat) (rF0 : Nat) (A : Nat → Prop) (z : Int32 × (Rc)) (k : Rc → RcL → Int32 → Int32 → Int32 → Int32 → Option (Int32 × (Rc))) : Prop := ∀ (F : Rc) (FL : RcL) (x1 : Int32) (x4 : Int32) (x5 : Int32) (x6 : Int32) (H : Heap) (locs : List Loc) (ls : Array Slot), k F FL x1 x4 x5 x6 = some z → va_P D vwCl (fl [wFinder K aF rF0 F FL]) H → va_D A (fl [wFinder K aF rF0 F FL]) → va_S A s.heap H locs → lv_has ls 7 [(0, .ref (aF 0)), (1, .int x1), (4, .int x4), (5, .int x5), (6, .int x6)] → W p l e rmX2_enter s m args below meth c H locs 0 0 (MQ below (qcI D z (fun (u : Rc) => (fl [wFinder K aF rF0 u FL])) A) args s 0 0 A) (F0 m 46 ls [])
set_option maxHeartbeats 1000000 in
set_option maxRecDepth 10000 in
theorem wX2_enter_111 (C0 : cx p s m args meth c cX2_enter 7 RX2 wsX2_enter (some .int) D K) (hA : ∀ q, s.heap.size ≤ q → A q) (F : Rc) (FL : RcL) (x1 : Int32) (x4 : Int32) (h : fX2_enter_111 N F FL x1 x4 = some z) (H : Heap) (locs : List Loc) (hP : va_P D vwCl (fl [wFinder K aF rF0 F FL]) H) (hD : va_D A (fl [wFinder K aF rF0 F FL])) (hS : va_S A s.heap H locs) (ls : Array Slot) (hl : lv_has ls 7 [(0, .ref (aF 0)), (1, .int x1), (4, .int x4)]) : W p l e rmX2_enter s m args below meth c H locs 0 0 (MQ below (qcI D z (fun (u : Rc) => (fl [wFinder K aF rF0 u FL])) A) args s 0 0 A) (F0 m 111 ls []) := by
  unfold fX2_enter_111 at h
  refine r_aload_n C0 dX2_enter_111 hl 0 rfl ?_
  refine r_get C0 2 inx2 hP 0 rfl rfl 5 (by decide) (mc wd4_17) (.ref (aF 6)) rfl dX2_enter_112 ?_
  refine r_iload_n C0 dX2_enter_115 hl 1 rfl ?_
  refine r_aload_n C0 dX2_enter_116 hl 0 rfl ?_
  refine r_get C0 2 inx2 hP 0 rfl rfl 4 (by decide) (mc wd4_16) (.ref (aF 5)) rfl dX2_enter_117 ?_
  refine r_iload C0 dX2_enter_120 hl 2 rfl ?_
  refine r_iald h C0 hP 4 rfl dX2_enter_122 (fun h => ?_)
  refine r_iast h C0 hP hD hS 5 (fun uu => (fl [wFinder K aF rF0 uu FL])) rfl rfl dX2_enter_123 (fun F1 H locs h hP hD hS => ?_)
  refine r_aload_n C0 dX2_enter_124 hl 0 rfl ?_
  refine r_get C0 2 inx2 hP 0 rfl rfl 4 (by decide) (mc wd4_16) (.ref (aF 5)) rfl dX2_enter_125 ?_
  refine r_iload C0 dX2_enter_128 hl 2 rfl ?_
  refine r_iload_n C0 dX2_enter_130 hl 1 rfl ?_
  refine r_iast h C0 hP hD hS 4 (fun uu => (fl [wFinder K aF rF0 uu FL])) rfl rfl dX2_enter_131 (fun F2 H locs h hP hD hS => ?_)
  refine r_iconst C0 (-1 : Int32) dX2_enter_132 (by decide) ?_
  exact r_iret h C0 (fun (u : Rc) => (fl [wFinder K aF rF0 u FL])) hP hD hS dX2_enter_133
set_option maxHeartbeats 1000000 in
set_option maxRecDepth 10000 in
theorem wX2_enter_96 (C0 : cx p s m args meth c cX2_enter 7 RX2 wsX2_enter (some .int) D K) (hA : ∀ q, s.heap.size ≤ q → A q) {k46 : Rc → RcL → Int32 → Int32 → Int32 → Int32 → Option (Int32 × (Rc))} (hk46 : IX2_enter_46 p l e s m args below meth c D K aF rF0 A z k46) (F : Rc) (FL : RcL) (x1 : Int32) (x4 : Int32) (x5 : Int32) (x6 : Int32) (h : fX2_enter_96 N k46 F FL x1 x4 x5 x6 = some z) (H : Heap) (locs : List Loc) (hP : va_P D vwCl (fl [wFinder K aF rF0 F FL]) H) (hD : va_D A (fl [wFinder K aF rF0 F FL])) (hS : va_S A s.heap H locs) (ls : Array Slot) (hl : lv_has ls 7 [(0, .ref (aF 0)), (1, .int x1), (4, .int x4), (5, .int x5), (6, .int x6)]) : W p l e rmX2_enter s m args below meth c H locs 0 0 (MQ below (qcI D z (fun (u : Rc) => (fl [wFinder K aF rF0 u FL])) A) args s 0 0 A) (F0 m 96 ls []) := by
  unfold fX2_enter_96 at h
  refine r_aload_n C0 dX2_enter_96 hl 0 rfl ?_
  refine r_get C0 2 inx2 hP 0 rfl rfl 5 (by decide) (mc wd4_17) (.ref (aF 6)) rfl dX2_enter_97 ?_
  refine r_iload C0 dX2_enter_100 hl 3 rfl ?_
  refine r_iald h C0 hP 5 rfl dX2_enter_102 (fun h => ?_)
  refine r_istore h C0 (fun v1 => [(5, .int v1), (0, .ref (aF 0)), (1, .int x1), (4, .int x4), (6, .int x6)]) dX2_enter_103 hl (by decide) (fun _ => rfl) (fun v1 ls h hl => ?_)
  refine r_iinc h C0 4 (fun v2 => [(6, .int v2), (5, .int v1), (0, .ref (aF 0)), (1, .int x1), (4, .int x4)]) dX2_enter_105 hl rfl rfl (by decide) (fun _ => rfl) (fun v2 ls h hl => ?_)
  refine r_goto C0 46 dX2_enter_108 (by decide) ?_
  exact hk46 F FL x1 x4 v1 v2 _ _ _ h hP hD hS (lv_sub hl [2, 3, 4, 1, 0] rfl)
set_option maxHeartbeats 1000000 in
set_option maxRecDepth 10000 in
theorem wX2_enter_46 (C0 : cx p s m args meth c cX2_enter 7 RX2 wsX2_enter (some .int) D K) (hA : ∀ q, s.heap.size ≤ q → A q) {k46 : Rc → RcL → Int32 → Int32 → Int32 → Int32 → Option (Int32 × (Rc))} (hk46 : IX2_enter_46 p l e s m args below meth c D K aF rF0 A z k46) (F : Rc) (FL : RcL) (x1 : Int32) (x4 : Int32) (x5 : Int32) (x6 : Int32) (h : fX2_enter_46b N k46 F FL x1 x4 x5 x6 = some z) (H : Heap) (locs : List Loc) (hP : va_P D vwCl (fl [wFinder K aF rF0 F FL]) H) (hD : va_D A (fl [wFinder K aF rF0 F FL])) (hS : va_S A s.heap H locs) (ls : Array Slot) (hl : lv_has ls 7 [(0, .ref (aF 0)), (1, .int x1), (4, .int x4), (5, .int x5), (6, .int x6)]) : W p l e rmX2_enter s m args below meth c H locs 0 0 (MQ below (qcI D z (fun (u : Rc) => (fl [wFinder K aF rF0 u FL])) A) args s 0 0 A) (F0 m 46 ls []) := by
  unfold fX2_enter_46b at h
  refine r_iload C0 dX2_enter_46 hl 4 rfl ?_
  refine r_sipush C0 (nI 1500) dX2_enter_48 (by decide) ?_
  refine r_icmp_ge h C0 111 dX2_enter_51 (by decide) (fun h => ?_) (fun h => ?_)
  · exact wX2_enter_111 C0 hA F FL x1 x4 h _ _ hP hD hS _ (lv_sub hl [0, 1, 2] rfl)
  · refine r_iload C0 dX2_enter_54 hl 3 rfl ?_
    refine r_iconst C0 (-1 : Int32) dX2_enter_56 (by decide) ?_
    refine r_icmp_eq h C0 111 dX2_enter_57 (by decide) (fun h => ?_) (fun h => ?_)
    · exact wX2_enter_111 C0 hA F FL x1 x4 h _ _ hP hD hS _ (lv_sub hl [0, 1, 2] rfl)
    · refine r_aload_n C0 dX2_enter_60 hl 0 rfl ?_
      refine r_get C0 2 inx2 hP 0 rfl rfl 1 (by decide) (mc wd4_13) (.ref (aF 2)) rfl dX2_enter_61 ?_
      refine r_iload C0 dX2_enter_64 hl 3 rfl ?_
      refine r_lald h C0 hP 1 rfl dX2_enter_66 (fun h => ?_)
      refine r_aload_n C0 dX2_enter_67 hl 0 rfl ?_
      refine r_get C0 2 inx2 hP 0 rfl rfl 1 (by decide) (mc wd4_13) (.ref (aF 2)) rfl dX2_enter_68 ?_
      refine r_iload_n C0 dX2_enter_71 hl 1 rfl ?_
      refine r_lald h C0 hP 1 rfl dX2_enter_72 (fun h => ?_)
      refine r_lcmp C0 dX2_enter_73 ?_
      refine r_if_ne h C0 96 dX2_enter_74 (by decide) (fun h => ?_) (fun h => ?_)
      · exact wX2_enter_96 C0 hA hk46 F FL x1 x4 x5 x6 h _ _ hP hD hS _ (lv_sub hl [0, 1, 2, 3, 4] rfl)
      · refine r_aload_n C0 dX2_enter_77 hl 0 rfl ?_
        refine r_get C0 2 inx2 hP 0 rfl rfl 2 (by decide) (mc wd4_14) (.ref (aF 3)) rfl dX2_enter_78 ?_
        refine r_iload C0 dX2_enter_81 hl 3 rfl ?_
        refine r_iald h C0 hP 2 rfl dX2_enter_83 (fun h => ?_)
        refine r_aload_n C0 dX2_enter_84 hl 0 rfl ?_
        refine r_get C0 2 inx2 hP 0 rfl rfl 2 (by decide) (mc wd4_14) (.ref (aF 3)) rfl dX2_enter_85 ?_
        refine r_iload_n C0 dX2_enter_88 hl 1 rfl ?_
        refine r_iald h C0 hP 2 rfl dX2_enter_89 (fun h => ?_)
        refine r_icmp_ne h C0 96 dX2_enter_90 (by decide) (fun h => ?_) (fun h => ?_)
        · exact wX2_enter_96 C0 hA hk46 F FL x1 x4 x5 x6 h _ _ hP hD hS _ (lv_sub hl [0, 1, 2, 3, 4] rfl)
        · refine r_iload C0 dX2_enter_93 hl 3 rfl ?_
          exact r_iret h C0 (fun (u : Rc) => (fl [wFinder K aF rF0 u FL])) hP hD hS dX2_enter_95
theorem wX2_enter_46L (C0 : cx p s m args meth c cX2_enter 7 RX2 wsX2_enter (some .int) D K) (hA : ∀ q, s.heap.size ≤ q → A q) : IX2_enter_46 p l e s m args below meth c D K aF rF0 A z (fX2_enter_46 N) := by
  refine itn_ind (IX2_enter_46 p l e s m args below meth c D K aF rF0 A z) ?_ ?_ N
  · intro _ _ _ _ _ _ _ _ _ h; cases h
  · intro k46 hk46 F FL x1 x4 x5 x6 H locs ls h hP hD hS hl
    exact wX2_enter_46 C0 hA hk46 F FL x1 x4 x5 x6 h H locs hP hD hS ls hl
set_option maxHeartbeats 1000000 in
set_option maxRecDepth 10000 in
theorem wX2_enter_0 (C0 : cx p s m args meth c cX2_enter 7 RX2 wsX2_enter (some .int) D K) (hA : ∀ q, s.heap.size ≤ q → A q) (F : Rc) (FL : RcL) (x1 : Int32) (h : fX2_enter N F FL x1 = some z) (H : Heap) (locs : List Loc) (hP : va_P D vwCl (fl [wFinder K aF rF0 F FL]) H) (hD : va_D A (fl [wFinder K aF rF0 F FL])) (hS : va_S A s.heap H locs) (ls : Array Slot) (hl : lv_has ls 7 [(0, .ref (aF 0)), (1, .int x1)]) : W p l e rmX2_enter s m args below meth c H locs 0 0 (MQ below (qcI D z (fun (u : Rc) => (fl [wFinder K aF rF0 u FL])) A) args s 0 0 A) (F0 m 0 ls []) := by
  unfold fX2_enter at h
  refine r_aload_n C0 dX2_enter_0 hl 0 rfl ?_
  refine r_get C0 2 inx2 hP 0 rfl rfl 1 (by decide) (mc wd4_13) (.ref (aF 2)) rfl dX2_enter_1 ?_
  refine r_iload_n C0 dX2_enter_4 hl 1 rfl ?_
  refine r_lald h C0 hP 1 rfl dX2_enter_5 (fun h => ?_)
  refine r_ldc2 C0 dX2_enter_6 (mc wd28_4) ?_
  refine r_lmul C0 dX2_enter_9 ?_
  refine r_aload_n C0 dX2_enter_10 hl 0 rfl ?_
  refine r_get C0 2 inx2 hP 0 rfl rfl 2 (by decide) (mc wd4_14) (.ref (aF 3)) rfl dX2_enter_11 ?_
  refine r_iload_n C0 dX2_enter_14 hl 1 rfl ?_
  refine r_iald h C0 hP 2 rfl dX2_enter_15 (fun h => ?_)
  refine r_i2l C0 dX2_enter_16 ?_
  refine r_ldc2 C0 dX2_enter_17 (mc wd28_5) ?_
  refine r_lmul C0 dX2_enter_20 ?_
  refine r_ladd C0 dX2_enter_21 ?_
  refine r_lstore_n h C0 (fun v1 => [(2, .long v1), (0, .ref (aF 0)), (1, .int x1)]) dX2_enter_22 hl (by decide) (fun _ => rfl) (fun v1 ls h hl => ?_)
  refine r_lload_n C0 dX2_enter_23 hl 0 rfl ?_
  refine r_bipush C0 (nI 40) dX2_enter_24 (by decide) ?_
  refine r_lushr C0 dX2_enter_26 ?_
  refine r_l2i C0 dX2_enter_27 ?_
  refine r_sipush C0 (nI 1023) dX2_enter_28 (by decide) ?_
  refine r_iand C0 dX2_enter_31 ?_
  refine r_istore h C0 (fun v2 => [(4, .int v2), (2, .long v1), (0, .ref (aF 0)), (1, .int x1)]) dX2_enter_32 hl (by decide) (fun _ => rfl) (fun v2 ls h hl => ?_)
  refine r_aload_n C0 dX2_enter_34 hl 2 rfl ?_
  refine r_get C0 2 inx2 hP 0 rfl rfl 4 (by decide) (mc wd4_16) (.ref (aF 5)) rfl dX2_enter_35 ?_
  refine r_iload C0 dX2_enter_38 hl 0 rfl ?_
  refine r_iald h C0 hP 4 rfl dX2_enter_40 (fun h => ?_)
  refine r_istore h C0 (fun v3 => [(5, .int v3), (4, .int v2), (2, .long v1), (0, .ref (aF 0)), (1, .int x1)]) dX2_enter_41 hl (by decide) (fun _ => rfl) (fun v3 ls h hl => ?_)
  refine r_iconst C0 (nI 0) dX2_enter_43 (by decide) ?_
  refine r_istore h C0 (fun v4 => [(6, .int v4), (5, .int v3), (4, .int v2), (2, .long v1), (0, .ref (aF 0)), (1, .int x1)]) dX2_enter_44 hl (by decide) (fun _ => rfl) (fun v4 ls h hl => ?_)
  exact wX2_enter_46L C0 hA F FL x1 v2 v3 v4 _ _ _ h hP hD hS (lv_sub hl [4, 5, 2, 1, 0] rfl)
set_option maxHeartbeats 1000000 in
set_option maxRecDepth 10000 in
theorem ctX2_enter (l : Launch) (D : va_G) (K : Nat → ClassId) (N : Nat) (aF : Nat → Nat) (rF0 : Nat) (F : Rc) (FL : RcL) (p1 : Int32) (sz : Nat) (z : Int32 × (Rc)) (hz : fX2_enter N F FL p1 = some z) : Met l yX2_enter wsX2_enter rmX2_enter (pcW D K [.ref (aF 0), .int p1] (fl [wFinder K aF rF0 F FL]) sz) (qcI D z (fun (u : Rc) => (fl [wFinder K aF rF0 u FL])) (va_A (fl [wFinder K aF rF0 F FL]) sz)) 0 0 (va_A (fl [wFinder K aF rF0 F FL]) sz) := by
  refine Met.ofW (cc := cX2_enter) (maxL := 7) (ret := (some .int)) (by decide) rfl ?_
  intro p e s m args below meth c s₁ B hml hv
  obtain ⟨rfl, hsz, hP, hK, hD0⟩ := hv
  subst hsz
  have C0 : cx p s m _ meth c cX2_enter 7 RX2 wsX2_enter (some .int) D K := ⟨⟨B.exec, B.bytes, hml, findClass_of_methodNamed B.named, atoms_spec (ws := wsX2_enter) B.pre⟩, B.returns, B.notSynchronized, hK⟩
  have hD := hD0.self (sz := s.heap.size)
  generalize hAe : va_A (fl [wFinder K aF rF0 F FL]) s.heap.size = A at hD ⊢
  have hA : ∀ q : Nat, s.heap.size ≤ q → A q := fun q h => by rw [← hAe]; exact Or.inr h
  have hl := lv_entry ([.ref (aF 0), .int p1]) (n := 7) (Nat.le_of_ble_eq_true rfl)
  rw [lg_entry_eq]
  generalize (lg_sl ([.ref (aF 0), .int p1]) ++ List.replicate (7 - (lg_sl ([.ref (aF 0), .int p1])).length) Slot.unset).toArray = ls at hl ⊢
  have hl : lv_has ls 7 [(0, .ref (aF 0)), (1, .int p1)] := hl
  exact wX2_enter_0 C0 hA F FL p1 hz s.heap [] hP hD va_S.rf ls (lv_sub hl [0, 1] rfl)
end SX2_enter

section SX2_search
/-! CardLoops$PaceFinder.search([II)V -/
abbrev wsX2_search : List Cond := Cond.code yX2_search cX2_search 6 none :: wsL_law0
abbrev rmX2_search : Room := { frames := 4, cells := 0, slots := 0, locals := 87 }
variable {p : Program} {l : Launch} {e : Env} {s : State} {m : MethodId} {args : Array Value} {below : List Frame} {meth : Method} {c : Code} {D : va_G} {K : Nat → ClassId} {A : Nat → Prop} {N : Nat} {aP : Nat → Nat} {aJ : Nat → Nat} {aF : Nat → Nat} {aC : Nat} {z : Rc × Rc × RcL}
def IX2_search_29 (p : Program) (l : Launch) (e : Env) (s : State) (m : MethodId) (args : Array Value) (below : List Frame) (meth : Method) (c : Code) (D : va_G) (K : Nat → ClassId) (aP : Nat → Nat) (aJ : Nat → Nat) (aF : Nat → Nat) (aC : Nat) (A : Nat → Prop) (z : Rc × Rc × RcL) (k : Rc → Rc → Rc → RcL → (Nat → Int32) → Int32 → Option (Rc × Rc × RcL)) : Prop := ∀ (P : Rc) (J : Rc) (F : Rc) (FL : RcL) (C : Nat → Int32) (x3 : Int32) (H : Heap) (locs : List Loc) (ls : Array Slot), k P J F FL C x3 = some z → va_P D vwCl (fl [wPlan K aP P, wLine K aJ (aP 0) J, wFinder K aF (aJ 0) F FL, wArr K aC 5 C]) H → va_D A (fl [wPlan K aP P, wLine K aJ (aP 0) J, wFinder K aF (aJ 0) F FL, wArr K aC 5 C]) → va_S A s.heap H locs → lv_has ls 6 [(0, .ref (aF 0)), (3, .int x3)] → W p l e rmX2_search s m args below meth c H locs 0 0 (MQ below (qcV D z (fun (u : Rc × Rc × RcL) => (fl [wPlan K aP P, wLine K aJ (aP 0) u.1, wFinder K aF (aJ 0) u.2.1 u.2.2, wArr K aC 5 C])) A) args s 0 0 A) (F0 m 29 ls [])
set_option maxHeartbeats 1000000 in
set_option maxRecDepth 10000 in
theorem wX2_search_29 (C0 : cx p s m args meth c cX2_search 6 RX2 wsX2_search none D K) (hA : ∀ q, s.heap.size ≤ q → A q) {k29 : Rc → Rc → Rc → RcL → (Nat → Int32) → Int32 → Option (Rc × Rc × RcL)} (hk29 : IX2_search_29 p l e s m args below meth c D K aP aJ aF aC A z k29) (P : Rc) (J : Rc) (F : Rc) (FL : RcL) (C : Nat → Int32) (x3 : Int32) (h : fX2_search_29b N k29 P J F FL C x3 = some z) (H : Heap) (locs : List Loc) (hP : va_P D vwCl (fl [wPlan K aP P, wLine K aJ (aP 0) J, wFinder K aF (aJ 0) F FL, wArr K aC 5 C]) H) (hD : va_D A (fl [wPlan K aP P, wLine K aJ (aP 0) J, wFinder K aF (aJ 0) F FL, wArr K aC 5 C])) (hS : va_S A s.heap H locs) (ls : Array Slot) (hl : lv_has ls 6 [(0, .ref (aF 0)), (3, .int x3)]) : W p l e rmX2_search s m args below meth c H locs 0 0 (MQ below (qcV D z (fun (u : Rc × Rc × RcL) => (fl [wPlan K aP P, wLine K aJ (aP 0) u.1, wFinder K aF (aJ 0) u.2.1 u.2.2, wArr K aC 5 C])) A) args s 0 0 A) (F0 m 29 ls []) := by
  unfold fX2_search_29b at h
  refine r_iload_n C0 dX2_search_29 hl 1 rfl ?_
  refine r_sipush C0 (nI 1500) dX2_search_30 (by decide) ?_
  refine r_icmp_ge h C0 123 dX2_search_33 (by decide) (fun h => ?_) (fun h => ?_)
  · exact r_vret h C0 (fun (u : Rc × Rc × RcL) => (fl [wPlan K aP P, wLine K aJ (aP 0) u.1, wFinder K aF (aJ 0) u.2.1 u.2.2, wArr K aC 5 C])) hP hD hS dX2_search_123
  · refine r_aload_n C0 dX2_search_36 hl 0 rfl ?_
    refine r_get C0 2 inx2 hP 14 rfl rfl 0 (by decide) (mc wd4_20) (.ref (aJ 0)) rfl dX2_search_37 ?_
    obtain ⟨z1, hz1, h⟩ := bnd_some h
    refine r_callVC (Wc := [wPlan K aP P, wLine K aJ (aP 0) J]) (wf := fun (u : Rc) => [wPlan K aP P, wLine K aJ (aP 0) u]) (Wn := [wPlan K aP P, wLine K aJ (aP 0) z1, wFinder K aF (aJ 0) F FL, wArr K aC 5 C]) hP hD hS hA [0, 1] [2, 3] [2, 3, 0, 1] 4 rfl rfl (by decide) rfl rfl (by decide) (fun hPc hDc hFc => va_runV (As := []) (rest := []) C0.1 (ctX1_leapTillOut l D K N aP aJ P J H.size z1 hz1) (cwV 0 C0.1.2.2.2.2 (gdV wd27_9 wd25_15 wd25_16 wd1_23 wd25_17) rfl rfl rfl (by decide +kernel) ⟨Nat.le_of_ble_eq_true rfl, Nat.le_of_ble_eq_true rfl⟩) ⟨pcW_blind, va_recv C0.2.2.2.1 hPc (ci := 1) (q0 := 7) rfl rfl, pcW_of hPc hDc C0.2.2.2⟩ rfl rfl hl.1 rfl (lv_room (Nat.le_of_ble_eq_true rfl)) dX2_search_40 ⟨Nat.zero_le _, Nat.zero_le _⟩) (fun H locs hP hD hS => ?_)
    refine r_aload_n C0 dX2_search_43 hl 0 rfl ?_
    refine r_iload_n C0 dX2_search_44 hl 1 rfl ?_
    obtain ⟨z2, hz2, h⟩ := bnd_some h
    refine r_callVC (Wc := [wPlan K aP P, wLine K aJ (aP 0) z1, wFinder K aF (aJ 0) F FL]) (wf := fun (u : Rc × RcL) => [wPlan K aP P, wLine K aJ (aP 0) z1, wFinder K aF (aJ 0) u.1 u.2]) (Wn := [wPlan K aP P, wLine K aJ (aP 0) z1, wFinder K aF (aJ 0) z2.1 z2.2, wArr K aC 5 C]) hP hD hS hA [0, 1, 2] [3] [1, 2, 3, 0] 4 rfl rfl (by decide) rfl rfl (by decide) (fun hPc hDc hFc => va_runV (As := [.int x3]) (rest := []) C0.1 (ctX2_lookAround l D K N aP aJ aF P z1 F FL x3 H.size z2 hz2) (cwV 1 C0.1.2.2.2.2 (gdV wd27_10 wd27_11 wd27_12 wd2_10 wd27_13) rfl rfl rfl (by decide +kernel) ⟨Nat.le_of_ble_eq_true rfl, Nat.le_of_ble_eq_true rfl⟩) ⟨pcW_blind, va_recv C0.2.2.2.1 hPc (ci := 2) (q0 := 14) rfl rfl, pcW_of hPc hDc C0.2.2.2⟩ rfl rfl hl.1 rfl (lv_room (Nat.le_of_ble_eq_true rfl)) dX2_search_45 ⟨Nat.zero_le _, Nat.zero_le _⟩) (fun H locs hP hD hS => ?_)
    refine r_aload_n C0 dX2_search_48 hl 0 rfl ?_
    refine r_iload_n C0 dX2_search_49 hl 1 rfl ?_
    obtain ⟨z3, hz3, h⟩ := bnd_some h
    refine r_callIC (Wc := [wFinder K aF (aJ 0) z2.1 z2.2]) (wf := fun (u : Rc) => [wFinder K aF (aJ 0) u z2.2]) (Wn := [wPlan K aP P, wLine K aJ (aP 0) z1, wFinder K aF (aJ 0) z3.2 z2.2, wArr K aC 5 C]) hP hD hS hA [2] [0, 1, 3] [0, 1, 3, 2] 4 rfl rfl (by decide) rfl rfl (by decide) (fun hPc hDc hFc => va_runV (As := [.int x3]) (rest := []) C0.1 (ctX2_enter l D K N aF (aJ 0) z2.1 z2.2 x3 H.size z3 hz3) (cwV 1 C0.1.2.2.2.2 (gdV wd28_0 wd28_1 wd28_2 wd2_10 wd28_3) rfl rfl rfl (by decide +kernel) ⟨Nat.le_of_ble_eq_true rfl, Nat.le_of_ble_eq_true rfl⟩) ⟨pcW_blind, va_recv C0.2.2.2.1 hPc (ci := 2) (q0 := 0) rfl rfl, pcW_of hPc hDc C0.2.2.2⟩ rfl rfl hl.1 rfl (lv_room (Nat.le_of_ble_eq_true rfl)) dX2_search_50 ⟨Nat.zero_le _, Nat.zero_le _⟩) (fun H locs hP hD hS => ?_)
    refine r_istore h C0 (fun v4 => [(4, .int v4), (0, .ref (aF 0)), (3, .int x3)]) dX2_search_53 hl (by decide) (fun _ => rfl) (fun v4 ls h hl => ?_)
    refine r_iload C0 dX2_search_55 hl 0 rfl ?_
    refine r_iconst C0 (-1 : Int32) dX2_search_57 (by decide) ?_
    refine r_icmp_eq h C0 117 dX2_search_58 (by decide) (fun h => ?_) (fun h => ?_)
    · refine r_iinc h C0 2 (fun v5 => [(3, .int v5), (4, .int v4), (0, .ref (aF 0))]) dX2_search_117 hl rfl rfl (by decide) (fun _ => rfl) (fun v5 ls h hl => ?_)
      refine r_goto C0 29 dX2_search_120 (by decide) ?_
      exact hk29 P z1 z3.2 z2.2 C v5 _ _ _ h hP hD hS (lv_sub hl [2, 0] rfl)
    · refine r_iload_n C0 dX2_search_61 hl 2 rfl ?_
      refine r_iload C0 dX2_search_62 hl 0 rfl ?_
      refine r_isub C0 dX2_search_64 ?_
      refine r_aload_n C0 dX2_search_65 hl 1 rfl ?_
      refine r_get C0 2 inx2 hP 14 rfl rfl 3 (by decide) (mc wd4_15) (.ref (aF 4)) rfl dX2_search_66 ?_
      refine r_iload_n C0 dX2_search_69 hl 2 rfl ?_
      refine r_iald h C0 hP 17 rfl dX2_search_70 (fun h => ?_)
      refine r_aload_n C0 dX2_search_71 hl 1 rfl ?_
      refine r_get C0 2 inx2 hP 14 rfl rfl 3 (by decide) (mc wd4_15) (.ref (aF 4)) rfl dX2_search_72 ?_
      refine r_iload C0 dX2_search_75 hl 0 rfl ?_
      refine r_iald h C0 hP 17 rfl dX2_search_77 (fun h => ?_)
      refine r_isub C0 dX2_search_78 ?_
      obtain ⟨z6, hz6, h⟩ := bnd_some h
      have hPc : va_P D vwCl [] H := va_P_nil
      refine r_cI (va_runSN (As := [.int (x3 - v4), .int ((z3.2 3 x3.toNatClampNeg) - (z3.2 3 v4.toNatClampNeg))]) (rest := []) C0.1 (ctX5_commonDivisor l D K N (x3 - v4) ((z3.2 3 x3.toNatClampNeg) - (z3.2 3 v4.toNatClampNeg)) z6 hz6) ⟨va_cnB (host := RX5) 2 C0.1.2.2.2.2 (gdN wd28_7) rfl rfl rfl C0.2.2.2.2.1 (C0.1.2.2.2.2 _ (mc wd1_2)) (by decide +kernel) ⟨Nat.le_of_ble_eq_true rfl, Nat.le_of_ble_eq_true rfl⟩, C0.1.2.2.2.2 _ (mc wd28_6), trivial⟩ ⟨pcR_blind, pcR_of hPc C0.2.2.2⟩ rfl rfl hl.1 rfl (lv_room (Nat.le_of_ble_eq_true rfl)) dX2_search_79 ⟨Nat.zero_le _, Nat.zero_le _⟩).run ?_
      refine r_istore h C0 (fun v7 => [(5, .int v7), (4, .int v4), (0, .ref (aF 0)), (3, .int x3)]) dX2_search_82 hl (by decide) (fun _ => rfl) (fun v7 ls h hl => ?_)
      refine r_aload_n C0 dX2_search_84 hl 2 rfl ?_
      refine r_iload_n C0 dX2_search_85 hl 3 rfl ?_
      refine r_iload C0 dX2_search_86 hl 1 rfl ?_
      refine r_isub C0 dX2_search_88 ?_
      refine r_iload C0 dX2_search_89 hl 0 rfl ?_
      refine r_idiv h C0 dX2_search_91 (fun h => ?_)
      refine r_put (ty := .int) h C0 2 inx2 tyX2 tyX2_ok nmX2 hP hD hS 14 (fun uu => (fl [wPlan K aP P, wLine K aJ (aP 0) z1, wFinder K aF (aJ 0) uu z2.2, wArr K aC 5 C])) rfl rfl 6 (by decide) (mc wd4_18) rfl (by decide +kernel) rfl rfl (by simp) rfl dX2_search_92 (fun F8 H locs h hP hD hS => ?_)
      refine r_aload_n C0 dX2_search_95 hl 2 rfl ?_
      refine r_aload_n C0 dX2_search_96 hl 2 rfl ?_
      refine r_get C0 2 inx2 hP 14 rfl rfl 3 (by decide) (mc wd4_15) (.ref (aF 4)) rfl dX2_search_97 ?_
      refine r_iload_n C0 dX2_search_100 hl 3 rfl ?_
      refine r_iald h C0 hP 17 rfl dX2_search_101 (fun h => ?_)
      refine r_aload_n C0 dX2_search_102 hl 2 rfl ?_
      refine r_get C0 2 inx2 hP 14 rfl rfl 3 (by decide) (mc wd4_15) (.ref (aF 4)) rfl dX2_search_103 ?_
      refine r_iload C0 dX2_search_106 hl 1 rfl ?_
      refine r_iald h C0 hP 17 rfl dX2_search_108 (fun h => ?_)
      refine r_isub C0 dX2_search_109 ?_
      refine r_iload C0 dX2_search_110 hl 0 rfl ?_
      refine r_idiv h C0 dX2_search_112 (fun h => ?_)
      refine r_put (ty := .int) h C0 2 inx2 tyX2 tyX2_ok nmX2 hP hD hS 14 (fun uu => (fl [wPlan K aP P, wLine K aJ (aP 0) z1, wFinder K aF (aJ 0) uu z2.2, wArr K aC 5 C])) rfl rfl 7 (by decide) (mc wd4_19) rfl (by decide +kernel) rfl rfl (by simp) rfl dX2_search_113 (fun F9 H locs h hP hD hS => ?_)
      exact r_vret h C0 (fun (u : Rc × Rc × RcL) => (fl [wPlan K aP P, wLine K aJ (aP 0) u.1, wFinder K aF (aJ 0) u.2.1 u.2.2, wArr K aC 5 C])) hP hD hS dX2_search_116
theorem wX2_search_29L (C0 : cx p s m args meth c cX2_search 6 RX2 wsX2_search none D K) (hA : ∀ q, s.heap.size ≤ q → A q) : IX2_search_29 p l e s m args below meth c D K aP aJ aF aC A z (fX2_search_29 N) := by
  refine itn_ind (IX2_search_29 p l e s m args below meth c D K aP aJ aF aC A z) ?_ ?_ N
  · intro _ _ _ _ _ _ _ _ _ h; cases h
  · intro k29 hk29 P J F FL C x3 H locs ls h hP hD hS hl
    exact wX2_search_29 C0 hA hk29 P J F FL C x3 h H locs hP hD hS ls hl
set_option maxHeartbeats 1000000 in
set_option maxRecDepth 10000 in
theorem wX2_search_0 (C0 : cx p s m args meth c cX2_search 6 RX2 wsX2_search none D K) (hA : ∀ q, s.heap.size ≤ q → A q) (P : Rc) (J : Rc) (F : Rc) (FL : RcL) (C : Nat → Int32) (x2 : Int32) (h : fX2_search N P J F FL C x2 = some z) (H : Heap) (locs : List Loc) (hP : va_P D vwCl (fl [wPlan K aP P, wLine K aJ (aP 0) J, wFinder K aF (aJ 0) F FL, wArr K aC 5 C]) H) (hD : va_D A (fl [wPlan K aP P, wLine K aJ (aP 0) J, wFinder K aF (aJ 0) F FL, wArr K aC 5 C])) (hS : va_S A s.heap H locs) (ls : Array Slot) (hl : lv_has ls 6 [(0, .ref (aF 0)), (1, .ref aC), (2, .int x2)]) : W p l e rmX2_search s m args below meth c H locs 0 0 (MQ below (qcV D z (fun (u : Rc × Rc × RcL) => (fl [wPlan K aP P, wLine K aJ (aP 0) u.1, wFinder K aF (aJ 0) u.2.1 u.2.2, wArr K aC 5 C])) A) args s 0 0 A) (F0 m 0 ls []) := by
  unfold fX2_search at h
  refine r_aload_n C0 dX2_search_0 hl 0 rfl ?_
  refine r_iconst C0 (-1 : Int32) dX2_search_1 (by decide) ?_
  refine r_put (ty := .int) h C0 2 inx2 tyX2 tyX2_ok nmX2 hP hD hS 14 (fun uu => (fl [wPlan K aP P, wLine K aJ (aP 0) J, wFinder K aF (aJ 0) uu FL, wArr K aC 5 C])) rfl rfl 6 (by decide) (mc wd4_18) rfl (by decide +kernel) rfl rfl (by simp) rfl dX2_search_2 (fun F1 H locs h hP hD hS => ?_)
  refine r_aload_n C0 dX2_search_5 hl 0 rfl ?_
  refine r_iconst C0 (-1 : Int32) dX2_search_6 (by decide) ?_
  refine r_put (ty := .int) h C0 2 inx2 tyX2 tyX2_ok nmX2 hP hD hS 14 (fun uu => (fl [wPlan K aP P, wLine K aJ (aP 0) J, wFinder K aF (aJ 0) uu FL, wArr K aC 5 C])) rfl rfl 7 (by decide) (mc wd4_19) rfl (by decide +kernel) rfl rfl (by simp) rfl dX2_search_7 (fun F2 H locs h hP hD hS => ?_)
  refine r_aload_n C0 dX2_search_10 hl 0 rfl ?_
  refine r_get C0 2 inx2 hP 14 rfl rfl 4 (by decide) (mc wd4_16) (.ref (aF 5)) rfl dX2_search_11 ?_
  refine r_iconst C0 (-1 : Int32) dX2_search_14 (by decide) ?_
  obtain ⟨z3, hz3, h⟩ := bnd_some h
  refine r_callV (wc := (fl [wArr K (aF 5) 1024 (F2 4)])) (wf := fun (u : (Nat → Int32)) => (fl [wArr K (aF 5) 1024 u])) (wn := (fl [wPlan K aP P, wLine K aJ (aP 0) J, wFinder K aF (aJ 0) (va_up F2 4 z3) FL, wArr K aC 5 C])) hP hD hS hA [18] [0, 1, 2, 3, 4, 5, 6, 7, 8, 9, 10, 11, 12, 13, 14, 15, 16, 17, 19, 20] [0, 1, 2, 3, 4, 5, 6, 7, 8, 9, 10, 11, 12, 13, 14, 15, 16, 17, 20, 18, 19] rfl (by decide) rfl (by decide) (by decide) rfl (by decide) (fun hPc hDc => va_runS (As := [.ref (aF 5), .int (-1 : Int32)]) (rest := []) C0.1 (ctJ7_fill_53178 l D K 1024 N (aF 5) (F2 4) (-1 : Int32) H.size z3 hz3) (va_cwS 2 C0.1.2.2.2.2 (gdS wd27_7 wd12_23 wd13_0 wd13_1) rfl rfl rfl (by decide +kernel) ⟨Nat.le_of_ble_eq_true rfl, Nat.le_of_ble_eq_true rfl⟩) ⟨pcW_blind, pcW_of hPc hDc C0.2.2.2⟩ rfl rfl hl.1 rfl (lv_room (Nat.le_of_ble_eq_true rfl)) dX2_search_15 ⟨Nat.zero_le _, Nat.zero_le _⟩) (fun H locs hP hD hS => ?_)
  refine nm_w h (fun uu => (fl [wPlan K aP P, wLine K aJ (aP 0) J, wFinder K aF (aJ 0) uu FL, wArr K aC 5 C])) hP hD (fun F4 h hP hD => ?_)
  refine r_aload_n C0 dX2_search_18 hl 0 rfl ?_
  refine r_get C0 2 inx2 hP 14 rfl rfl 0 (by decide) (mc wd4_20) (.ref (aJ 0)) rfl dX2_search_19 ?_
  refine r_aload_n C0 dX2_search_22 hl 1 rfl ?_
  refine r_iload_n C0 dX2_search_23 hl 2 rfl ?_
  obtain ⟨z5, hz5, h⟩ := bnd_some h
  refine r_callVC (Wc := [wPlan K aP P, wLine K aJ (aP 0) J, wArr K aC 5 C]) (wf := fun (u : Rc) => [wPlan K aP P, wLine K aJ (aP 0) u, wArr K aC 5 C]) (Wn := [wPlan K aP P, wLine K aJ (aP 0) z5, wFinder K aF (aJ 0) F4 FL, wArr K aC 5 C]) hP hD hS hA [0, 1, 3] [2] [1, 2, 0, 3] 4 rfl rfl (by decide) rfl rfl (by decide) (fun hPc hDc hFc => va_runV (As := [.ref aC, .int x2]) (rest := []) C0.1 (ctX1_startAnew l D K N aP aJ aC P J C x2 H.size z5 hz5) (cwV 2 C0.1.2.2.2.2 (gdV wd27_8 wd12_18 wd12_19 wd1_23 wd12_20) rfl rfl rfl (by decide +kernel) ⟨Nat.le_of_ble_eq_true rfl, Nat.le_of_ble_eq_true rfl⟩) ⟨pcW_blind, va_recv C0.2.2.2.1 hPc (ci := 1) (q0 := 7) rfl rfl, pcW_of hPc hDc C0.2.2.2⟩ rfl rfl hl.1 rfl (lv_room (Nat.le_of_ble_eq_true rfl)) dX2_search_24 ⟨Nat.zero_le _, Nat.zero_le _⟩) (fun H locs hP hD hS => ?_)
  refine r_iconst C0 (nI 0) dX2_search_27 (by decide) ?_
  refine r_istore_n h C0 (fun v6 => [(3, .int v6), (0, .ref (aF 0)), (1, .ref aC), (2, .int x2)]) dX2_search_28 hl (by decide) (fun _ => rfl) (fun v6 ls h hl => ?_)
  exact wX2_search_29L C0 hA P z5 F4 FL C v6 _ _ _ h hP hD hS (lv_sub hl [1, 0] rfl)
set_option maxHeartbeats 1000000 in
set_option maxRecDepth 10000 in
theorem ctX2_search (l : Launch) (D : va_G) (K : Nat → ClassId) (N : Nat) (aP : Nat → Nat) (aJ : Nat → Nat) (aF : Nat → Nat) (aC : Nat) (P : Rc) (J : Rc) (F : Rc) (FL : RcL) (C : Nat → Int32) (p2 : Int32) (sz : Nat) (z : Rc × Rc × RcL) (hz : fX2_search N P J F FL C p2 = some z) : Met l yX2_search wsX2_search rmX2_search (pcW D K [.ref (aF 0), .ref aC, .int p2] (fl [wPlan K aP P, wLine K aJ (aP 0) J, wFinder K aF (aJ 0) F FL, wArr K aC 5 C]) sz) (qcV D z (fun (u : Rc × Rc × RcL) => (fl [wPlan K aP P, wLine K aJ (aP 0) u.1, wFinder K aF (aJ 0) u.2.1 u.2.2, wArr K aC 5 C])) (va_A (fl [wPlan K aP P, wLine K aJ (aP 0) J, wFinder K aF (aJ 0) F FL, wArr K aC 5 C]) sz)) 0 0 (va_A (fl [wPlan K aP P, wLine K aJ (aP 0) J, wFinder K aF (aJ 0) F FL, wArr K aC 5 C]) sz) := by
  refine Met.ofW (cc := cX2_search) (maxL := 6) (ret := none) (by decide) rfl ?_
  intro p e s m args below meth c s₁ B hml hv
  obtain ⟨rfl, hsz, hP, hK, hD0⟩ := hv
  subst hsz
  have C0 : cx p s m _ meth c cX2_search 6 RX2 wsX2_search none D K := ⟨⟨B.exec, B.bytes, hml, findClass_of_methodNamed B.named, atoms_spec (ws := wsX2_search) B.pre⟩, B.returns, B.notSynchronized, hK⟩
  have hD := hD0.self (sz := s.heap.size)
  generalize hAe : va_A (fl [wPlan K aP P, wLine K aJ (aP 0) J, wFinder K aF (aJ 0) F FL, wArr K aC 5 C]) s.heap.size = A at hD ⊢
  have hA : ∀ q : Nat, s.heap.size ≤ q → A q := fun q h => by rw [← hAe]; exact Or.inr h
  have hl := lv_entry ([.ref (aF 0), .ref aC, .int p2]) (n := 6) (Nat.le_of_ble_eq_true rfl)
  rw [lg_entry_eq]
  generalize (lg_sl ([.ref (aF 0), .ref aC, .int p2]) ++ List.replicate (6 - (lg_sl ([.ref (aF 0), .ref aC, .int p2])).length) Slot.unset).toArray = ls at hl ⊢
  have hl : lv_has ls 6 [(0, .ref (aF 0)), (1, .ref aC), (2, .int p2)] := hl
  exact wX2_search_0 C0 hA P J F FL C p2 hz s.heap [] hP hD va_S.rf ls (lv_sub hl [0, 1, 2] rfl)
end SX2_search
