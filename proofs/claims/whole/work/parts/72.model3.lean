section SX6_divisor
abbrev wsX6_divisor : List Cond := Cond.code yX6_divisor cX6_divisor 2 (some .int) :: wsL_law0
abbrev rmX6_divisor : Room := { frames := 1600, cells := 0, slots := 0, locals := 33600 }
set_option maxHeartbeats 1000000 in
set_option maxRecDepth 10000 in
theorem ctX6_divisorN (l : Launch) (D : va_G) (K : Nat → ClassId) : ∀ (n : Nat) (p0 p1 z : Int32), fX6_divisorN n p0 p1 = some z → Met l yX6_divisor wsX6_divisor { frames := n, cells := 0, slots := 0, locals := 21 * n } (pcR D K [.int p0, .int p1] []) (vp_Si (fun r => r = z)) 0 0 (fun _ => False)
  | 0, _, _, _, h => by cases h
  | n + 1, p0, p1, z, h => by
    refine Met.ofW (cc := cX6_divisor) (maxL := 2) (ret := (some .int)) (by decide) rfl ?_
    intro p e s m args below meth c s₁ B hml hv
    obtain ⟨rfl, hP, hK⟩ := hv
    have C0 : cx p s m _ meth c cX6_divisor 2 RX6 wsX6_divisor (some .int) D K := ⟨⟨B.exec, B.bytes, hml, findClass_of_methodNamed B.named, atoms_spec (ws := wsX6_divisor) B.pre⟩, B.returns, B.notSynchronized, hK⟩
    have hl := lv_entry ([.int p0, .int p1]) (n := 2) (Nat.le_of_ble_eq_true rfl)
    rw [lg_entry_eq]
    generalize (lg_sl ([.int p0, .int p1]) ++ List.replicate (2 - (lg_sl ([.int p0, .int p1])).length) Slot.unset).toArray = ls at hl ⊢
    have hl : lv_has ls 2 [(0, .int p0), (1, .int p1)] := hl
    unfold fX6_divisorN at h
    refine r_iload_n C0 dX6_divisor_0 hl 1 rfl ?_
    refine r_if_ne h C0 8 dX6_divisor_1 (by decide) (fun h => ?_) (fun h => ?_)
    · refine r_iload_n C0 dX6_divisor_8 hl 1 rfl ?_
      refine r_iload_n C0 dX6_divisor_9 hl 0 rfl ?_
      refine r_iload_n C0 dX6_divisor_10 hl 1 rfl ?_
      refine r_irem h C0 dX6_divisor_11 (fun h => ?_)
      obtain ⟨z1, hz1, h⟩ := bnd_some h
      have hPc : va_P D vwCl [] s.heap := va_P_nil
      refine r_cI (va_runS (As := [.int p1, .int (p0 - p0 / p1 * p1)]) (rest := []) C0.1 (ctX6_divisorN l D K n p1 (p0 - p0 / p1 * p1) z1 hz1) (va_cwS 2 C0.1.2.2.2.2 (gdS wd29_10 wd29_11 wd1_5 wd29_12) rfl rfl rfl (by decide +kernel) ⟨Nat.le_refl _, by show 8 + (2 + 11) + 21 * n ≤ 21 * (n + 1); omega⟩) ⟨pcR_blind, pcR_of hPc C0.2.2.2⟩ rfl rfl hl.1 rfl (lv_room (Nat.le_of_ble_eq_true rfl)) dX6_divisor_12 ⟨Nat.zero_le _, Nat.zero_le _⟩).run ?_
      exact r_iretR C0 h dX6_divisor_15
    · refine r_iload_n C0 dX6_divisor_4 hl 0 rfl ?_
      refine r_goto C0 15 dX6_divisor_5 (by decide) ?_
      exact r_iretR C0 h dX6_divisor_15
theorem ctX6_divisor (l : Launch) (D : va_G) (K : Nat → ClassId) (p0 p1 z : Int32) (hz : fX6_divisor p0 p1 = some z) : Met l yX6_divisor wsX6_divisor rmX6_divisor (pcR D K [.int p0, .int p1] []) (vp_Si (fun r => r = z)) 0 0 (fun _ => False) := ctX6_divisorN l D K 1600 p0 p1 z hz
end SX6_divisor

section SX6_text
/-! CardLoopsModel.text()I -/
abbrev wsX6_text : List Cond := Cond.code yX6_text cX6_text 3 (some .int) :: wsL_law0
abbrev rmX6_text : Room := { frames := 5, cells := 0, slots := 0, locals := 112 }
variable {p : Program} {l : Launch} {e : Env} {s : State} {m : MethodId} {args : Array Value} {below : List Frame} {meth : Method} {c : Code} {D : va_G} {K : Nat → ClassId} {A : Nat → Prop} {N : Nat} {aM : Nat → Nat} {z : Int32 × (Rc × RcL)}
def IX6_text_56 (p : Program) (l : Launch) (e : Env) (s : State) (m : MethodId) (args : Array Value) (below : List Frame) (meth : Method) (c : Code) (D : va_G) (K : Nat → ClassId) (aM : Nat → Nat) (A : Nat → Prop) (z : Int32 × (Rc × RcL)) (k : Rc → RcL → Int32 → Option (Int32 × (Rc × RcL))) : Prop := ∀ (M : Rc) (ML : RcL) (x1 : Int32) (H : Heap) (locs : List Loc) (ls : Array Slot), k M ML x1 = some z → va_P D vwCl (fl [wModel K aM M ML]) H → va_D A (fl [wModel K aM M ML]) → va_S A s.heap H locs → lv_has ls 3 [(0, .ref (aM 0)), (1, .int x1)] → W p l e rmX6_text s m args below meth c H locs 0 0 (MQ below (qcI D z (fun (u : Rc × RcL) => (fl [wModel K aM u.1 u.2])) A) args s 0 0 A) (F0 m 56 ls [])
def IX6_text_32 (p : Program) (l : Launch) (e : Env) (s : State) (m : MethodId) (args : Array Value) (below : List Frame) (meth : Method) (c : Code) (D : va_G) (K : Nat → ClassId) (aM : Nat → Nat) (A : Nat → Prop) (z : Int32 × (Rc × RcL)) (k : Rc → RcL → Int32 → Int32 → Option (Int32 × (Rc × RcL))) : Prop := ∀ (M : Rc) (ML : RcL) (x1 : Int32) (x2 : Int32) (H : Heap) (locs : List Loc) (ls : Array Slot), k M ML x1 x2 = some z → va_P D vwCl (fl [wModel K aM M ML]) H → va_D A (fl [wModel K aM M ML]) → va_S A s.heap H locs → lv_has ls 3 [(0, .ref (aM 0)), (1, .int x1), (2, .int x2)] → W p l e rmX6_text s m args below meth c H locs 0 0 (MQ below (qcI D z (fun (u : Rc × RcL) => (fl [wModel K aM u.1 u.2])) A) args s 0 0 A) (F0 m 32 ls [])
set_option maxHeartbeats 1000000 in
set_option maxRecDepth 10000 in
theorem wX6_text_116 (C0 : cx p s m args meth c cX6_text 3 RX6 wsX6_text (some .int) D K) (hA : ∀ q, s.heap.size ≤ q → A q) (M : Rc) (ML : RcL) (x1 : Int32) (h : fX6_text_116 N M ML x1 = some z) (H : Heap) (locs : List Loc) (hP : va_P D vwCl (fl [wModel K aM M ML]) H) (hD : va_D A (fl [wModel K aM M ML])) (hS : va_S A s.heap H locs) (ls : Array Slot) (hl : lv_has ls 3 [(0, .ref (aM 0)), (1, .int x1)]) : W p l e rmX6_text s m args below meth c H locs 0 0 (MQ below (qcI D z (fun (u : Rc × RcL) => (fl [wModel K aM u.1 u.2])) A) args s 0 0 A) (F0 m 116 ls []) := by
  unfold fX6_text_116 at h
  refine r_aload_n C0 dX6_text_116 hl 0 rfl ?_
  refine r_get C0 6 inx6 hP 0 rfl rfl 12 (by decide) (mc wd5_12) (.ref (aM 13)) rfl dX6_text_117 ?_
  refine r_bipush C0 (nI 16) dX6_text_120 (by decide) ?_
  refine r_aload_n C0 dX6_text_122 hl 0 rfl ?_
  refine r_get C0 6 inx6 hP 0 rfl rfl 12 (by decide) (mc wd5_12) (.ref (aM 13)) rfl dX6_text_123 ?_
  refine r_iconst C0 (nI 1) dX6_text_126 (by decide) ?_
  refine r_ialdC C0 hP 3 rfl 1 (by decide) dX6_text_127 ?_
  refine r_iconst C0 (nI 1) dX6_text_128 (by decide) ?_
  refine r_isub C0 dX6_text_129 ?_
  refine r_iastC h C0 hP hD hS 3 (fun uu => (fl [wModel K aM uu ML])) rfl 16 (by decide) rfl dX6_text_130 (fun M1 H locs h hP hD hS => ?_)
  refine r_aload_n C0 dX6_text_131 hl 0 rfl ?_
  refine r_get C0 6 inx6 hP 0 rfl rfl 12 (by decide) (mc wd5_12) (.ref (aM 13)) rfl dX6_text_132 ?_
  obtain ⟨z2, hz2, h⟩ := bnd_some h
  refine r_callV (wc := (fl [wArr K (aM 13) 353 (M1 12)])) (wf := fun (u : (Nat → Int32)) => (fl [wArr K (aM 13) 353 u])) (wn := (fl [wModel K aM (va_up M1 12 z2) ML])) hP hD hS hA [3] [0, 1, 2, 4, 5, 6, 7, 8] [0, 1, 2, 8, 3, 4, 5, 6, 7] rfl (by decide) rfl (by decide) (by decide) rfl (by decide) (fun hPc hDc => va_runS (As := [.ref (aM 13)]) (rest := []) C0.1 (ctX6_begins l D K N (aM 13) (M1 12) H.size z2 hz2) (va_cwS 1 C0.1.2.2.2.2 (gdS wd18_18 wd18_19 wd1_5 wd18_20) rfl rfl rfl (by decide +kernel) ⟨Nat.le_of_ble_eq_true rfl, Nat.le_of_ble_eq_true rfl⟩) ⟨pcW_blind, pcW_of hPc hDc C0.2.2.2⟩ rfl rfl hl.1 rfl (lv_room (Nat.le_of_ble_eq_true rfl)) dX6_text_135 ⟨Nat.zero_le _, Nat.zero_le _⟩) (fun H locs hP hD hS => ?_)
  refine nm_w h (fun uu => (fl [wModel K aM uu ML])) hP hD (fun M3 h hP hD => ?_)
  refine r_aload_n C0 dX6_text_138 hl 0 rfl ?_
  refine r_get C0 6 inx6 hP 0 rfl rfl 12 (by decide) (mc wd5_12) (.ref (aM 13)) rfl dX6_text_139 ?_
  refine r_iconst C0 (nI 0) dX6_text_142 (by decide) ?_
  refine r_aload_n C0 dX6_text_143 hl 0 rfl ?_
  refine r_get C0 6 inx6 hP 0 rfl rfl 11 (by decide) (mc wd5_11) (.ref (aM 12)) rfl dX6_text_144 ?_
  refine r_iconst C0 (nI 0) dX6_text_147 (by decide) ?_
  obtain ⟨z4, hz4, h⟩ := bnd_some h
  refine r_callV (wc := (fl [wArr K (aM 13) 353 (M3 12), wArr K (aM 12) 353 (M3 11)])) (wf := fun (u : (Nat → Int32)) => (fl [wArr K (aM 13) 353 (M3 12), wArr K (aM 12) 353 u])) (wn := (fl [wModel K aM (va_up M3 11 z4) ML])) hP hD hS hA [3, 2] [0, 1, 4, 5, 6, 7, 8] [0, 1, 8, 7, 2, 3, 4, 5, 6] rfl (by decide) rfl (by decide) (by decide) rfl (by decide) (fun hPc hDc => va_runS (As := [.ref (aM 13), .int (nI 0), .ref (aM 12), .int (nI 0)]) (rest := []) C0.1 (ctX6_copy l D K 353 353 N (aM 13) (aM 12) (M3 12) (M3 11) (nI 0) (nI 0) H.size z4 hz4) (va_cwS 4 C0.1.2.2.2.2 (gdS wd20_0 wd20_1 wd1_5 wd20_2) rfl rfl rfl (by decide +kernel) ⟨Nat.le_of_ble_eq_true rfl, Nat.le_of_ble_eq_true rfl⟩) ⟨pcW_blind, pcW_of hPc hDc C0.2.2.2⟩ rfl rfl hl.1 rfl (lv_room (Nat.le_of_ble_eq_true rfl)) dX6_text_148 ⟨Nat.zero_le _, Nat.zero_le _⟩) (fun H locs hP hD hS => ?_)
  refine nm_w h (fun uu => (fl [wModel K aM uu ML])) hP hD (fun M5 h hP hD => ?_)
  refine r_aload_n C0 dX6_text_151 hl 0 rfl ?_
  refine r_iconst C0 (nI 0) dX6_text_152 (by decide) ?_
  refine r_put (ty := .int) h C0 6 inx6 tyX6 tyX6_ok nmX6 hP hD hS 0 (fun uu => (fl [wModel K aM uu ML])) rfl rfl 15 (by decide) (mc wd15_15) rfl (by decide +kernel) rfl rfl (by simp) rfl dX6_text_153 (fun M6 H locs h hP hD hS => ?_)
  refine r_iload_n C0 dX6_text_156 hl 1 rfl ?_
  exact r_iret h C0 (fun (u : Rc × RcL) => (fl [wModel K aM u.1 u.2])) hP hD hS dX6_text_157
set_option maxHeartbeats 1000000 in
set_option maxRecDepth 10000 in
theorem wX6_text_77 (C0 : cx p s m args meth c cX6_text 3 RX6 wsX6_text (some .int) D K) (hA : ∀ q, s.heap.size ≤ q → A q) (M : Rc) (ML : RcL) (h : fX6_text_77 N M ML = some z) (H : Heap) (locs : List Loc) (hP : va_P D vwCl (fl [wModel K aM M ML]) H) (hD : va_D A (fl [wModel K aM M ML])) (hS : va_S A s.heap H locs) (ls : Array Slot) (hl : lv_has ls 3 [(0, .ref (aM 0))]) : W p l e rmX6_text s m args below meth c H locs 0 0 (MQ below (qcI D z (fun (u : Rc × RcL) => (fl [wModel K aM u.1 u.2])) A) args s 0 0 A) (F0 m 77 ls []) := by
  unfold fX6_text_77 at h
  refine r_iconst C0 (-1 : Int32) dX6_text_77 (by decide) ?_
  refine r_aload_n C0 dX6_text_78 hl 0 rfl ?_
  refine r_get C0 6 inx6 hP 0 rfl rfl 9 (by decide) (mc wd15_14) (.int (M 9 0)) rfl dX6_text_79 ?_
  refine r_isub C0 dX6_text_82 ?_
  exact r_iret h C0 (fun (u : Rc × RcL) => (fl [wModel K aM u.1 u.2])) hP hD hS dX6_text_83
set_option maxHeartbeats 1000000 in
set_option maxRecDepth 10000 in
theorem wX6_text_56 (C0 : cx p s m args meth c cX6_text 3 RX6 wsX6_text (some .int) D K) (hA : ∀ q, s.heap.size ≤ q → A q) {k56 : Rc → RcL → Int32 → Option (Int32 × (Rc × RcL))} (hk56 : IX6_text_56 p l e s m args below meth c D K aM A z k56) (M : Rc) (ML : RcL) (x1 : Int32) (h : fX6_text_56b N k56 M ML x1 = some z) (H : Heap) (locs : List Loc) (hP : va_P D vwCl (fl [wModel K aM M ML]) H) (hD : va_D A (fl [wModel K aM M ML])) (hS : va_S A s.heap H locs) (ls : Array Slot) (hl : lv_has ls 3 [(0, .ref (aM 0)), (1, .int x1)]) : W p l e rmX6_text s m args below meth c H locs 0 0 (MQ below (qcI D z (fun (u : Rc × RcL) => (fl [wModel K aM u.1 u.2])) A) args s 0 0 A) (F0 m 56 ls []) := by
  unfold fX6_text_56b at h
  refine r_aload_n C0 dX6_text_56 hl 0 rfl ?_
  refine r_get C0 6 inx6 hP 0 rfl rfl 6 (by decide) (mc wd15_13) (.int (M 6 0)) rfl dX6_text_57 ?_
  refine r_if_eq h C0 90 dX6_text_60 (by decide) (fun h => ?_) (fun h => ?_)
  · refine r_iload_n C0 dX6_text_90 hl 1 rfl ?_
    refine r_if_le h C0 116 dX6_text_91 (by decide) (fun h => ?_) (fun h => ?_)
    · exact wX6_text_116 C0 hA M ML x1 h _ _ hP hD hS _ (lv_sub hl [0, 1] rfl)
    · refine r_aload_n C0 dX6_text_94 hl 0 rfl ?_
      refine r_get C0 6 inx6 hP 0 rfl rfl 12 (by decide) (mc wd5_12) (.ref (aM 13)) rfl dX6_text_95 ?_
      refine r_iconst C0 (nI 1) dX6_text_98 (by decide) ?_
      refine r_ialdC C0 hP 3 rfl 1 (by decide) dX6_text_99 ?_
      refine r_if_ne h C0 116 dX6_text_100 (by decide) (fun h => ?_) (fun h => ?_)
      · exact wX6_text_116 C0 hA M ML x1 h _ _ hP hD hS _ (lv_sub hl [0, 1] rfl)
      · refine r_aload_n C0 dX6_text_103 hl 0 rfl ?_
        refine r_iconst C0 (nI 1) dX6_text_104 (by decide) ?_
        obtain ⟨z1, hz1, h⟩ := bnd_some h
        refine r_callIC (Wc := [wModel K aM M ML]) (wf := fun (u : Rc) => [wModel K aM u ML]) (Wn := [wModel K aM z1.2 ML]) hP hD hS hA [0] [] [0] 1 rfl rfl (by decide) rfl rfl (by decide) (fun hPc hDc hFc => va_runV (As := [.int (nI 1)]) (rest := []) C0.1 (ctX6_bad l D K aM M ML (nI 1) H.size z1 hz1) (cwV 1 C0.1.2.2.2.2 (gdV wd17_12 wd17_13 wd17_14 wd1_5 wd17_15) rfl rfl rfl (by decide +kernel) ⟨Nat.le_of_ble_eq_true rfl, Nat.le_of_ble_eq_true rfl⟩) ⟨pcW_blind, va_recv C0.2.2.2.1 hPc (ci := 6) (q0 := 0) rfl rfl, pcW_of hPc hDc C0.2.2.2⟩ rfl rfl hl.1 rfl (lv_room (Nat.le_of_ble_eq_true rfl)) dX6_text_105 ⟨Nat.zero_le _, Nat.zero_le _⟩) (fun H locs hP hD hS => ?_)
        refine r_pop C0 dX6_text_108 rfl ?_
        refine r_iconst C0 (-1 : Int32) dX6_text_109 (by decide) ?_
        refine r_aload_n C0 dX6_text_110 hl 0 rfl ?_
        refine r_get C0 6 inx6 hP 0 rfl rfl 9 (by decide) (mc wd15_14) (.int (z1.2 9 0)) rfl dX6_text_111 ?_
        refine r_isub C0 dX6_text_114 ?_
        exact r_iret h C0 (fun (u : Rc × RcL) => (fl [wModel K aM u.1 u.2])) hP hD hS dX6_text_115
  · refine r_aload_n C0 dX6_text_63 hl 0 rfl ?_
    obtain ⟨z2, hz2, h⟩ := bnd_some h
    refine r_callIC (Wc := [wModel K aM M ML]) (wf := fun (u : Rc × RcL) => [wModel K aM u.1 u.2]) (Wn := [wModel K aM z2.2.1 z2.2.2]) hP hD hS hA [0] [] [0] 1 rfl rfl (by decide) rfl rfl (by decide) (fun hPc hDc hFc => va_runV (As := []) (rest := []) C0.1 (ctX6_readLine l D K N aM M ML H.size z2 hz2) (cwV 0 C0.1.2.2.2.2 (gdV wd16_11 wd16_12 wd16_13 wd1_5 wd16_14) rfl rfl rfl (by decide +kernel) ⟨Nat.le_of_ble_eq_true rfl, Nat.le_of_ble_eq_true rfl⟩) ⟨pcW_blind, va_recv C0.2.2.2.1 hPc (ci := 6) (q0 := 0) rfl rfl, pcW_of hPc hDc C0.2.2.2⟩ rfl rfl hl.1 rfl (lv_room (Nat.le_of_ble_eq_true rfl)) dX6_text_64 ⟨Nat.zero_le _, Nat.zero_le _⟩) (fun H locs hP hD hS => ?_)
    refine r_if_eq h C0 77 dX6_text_67 (by decide) (fun h => ?_) (fun h => ?_)
    · exact wX6_text_77 C0 hA z2.2.1 z2.2.2 h _ _ hP hD hS _ (lv_sub hl [0] rfl)
    · refine r_aload_n C0 dX6_text_70 hl 0 rfl ?_
      obtain ⟨z3, hz3, h⟩ := bnd_some h
      refine r_callIC (Wc := [wModel K aM z2.2.1 z2.2.2]) (wf := fun (u : Rc × RcL) => [wModel K aM u.1 u.2]) (Wn := [wModel K aM z3.2.1 z3.2.2]) hP hD hS hA [0] [] [0] 1 rfl rfl (by decide) rfl rfl (by decide) (fun hPc hDc hFc => va_runV (As := []) (rest := []) C0.1 (ctX6_readEnd l D K N aM z2.2.1 z2.2.2 H.size z3 hz3) (cwV 0 C0.1.2.2.2.2 (gdV wd18_14 wd18_15 wd18_16 wd1_5 wd18_17) rfl rfl rfl (by decide +kernel) ⟨Nat.le_of_ble_eq_true rfl, Nat.le_of_ble_eq_true rfl⟩) ⟨pcW_blind, va_recv C0.2.2.2.1 hPc (ci := 6) (q0 := 0) rfl rfl, pcW_of hPc hDc C0.2.2.2⟩ rfl rfl hl.1 rfl (lv_room (Nat.le_of_ble_eq_true rfl)) dX6_text_71 ⟨Nat.zero_le _, Nat.zero_le _⟩) (fun H locs hP hD hS => ?_)
      refine r_if_ne h C0 84 dX6_text_74 (by decide) (fun h => ?_) (fun h => ?_)
      · refine r_iinc h C0 1 (fun v4 => [(1, .int v4), (0, .ref (aM 0))]) dX6_text_84 hl rfl rfl (by decide) (fun _ => rfl) (fun v4 ls h hl => ?_)
        refine r_goto C0 56 dX6_text_87 (by decide) ?_
        exact hk56 z3.2.1 z3.2.2 v4 _ _ _ h hP hD hS (lv_sub hl [1, 0] rfl)
      · exact wX6_text_77 C0 hA z3.2.1 z3.2.2 h _ _ hP hD hS _ (lv_sub hl [0] rfl)
theorem wX6_text_56L (C0 : cx p s m args meth c cX6_text 3 RX6 wsX6_text (some .int) D K) (hA : ∀ q, s.heap.size ≤ q → A q) : IX6_text_56 p l e s m args below meth c D K aM A z (fX6_text_56 N) := by
  refine itn_ind (IX6_text_56 p l e s m args below meth c D K aM A z) ?_ ?_ N
  · intro _ _ _ _ _ _ h; cases h
  · intro k56 hk56 M ML x1 H locs ls h hP hD hS hl
    exact wX6_text_56 C0 hA hk56 M ML x1 h H locs hP hD hS ls hl
set_option maxHeartbeats 1000000 in
set_option maxRecDepth 10000 in
theorem wX6_text_32 (C0 : cx p s m args meth c cX6_text 3 RX6 wsX6_text (some .int) D K) (hA : ∀ q, s.heap.size ≤ q → A q) {k32 : Rc → RcL → Int32 → Int32 → Option (Int32 × (Rc × RcL))} (hk32 : IX6_text_32 p l e s m args below meth c D K aM A z k32) (M : Rc) (ML : RcL) (x1 : Int32) (x2 : Int32) (h : fX6_text_32b N k32 M ML x1 x2 = some z) (H : Heap) (locs : List Loc) (hP : va_P D vwCl (fl [wModel K aM M ML]) H) (hD : va_D A (fl [wModel K aM M ML])) (hS : va_S A s.heap H locs) (ls : Array Slot) (hl : lv_has ls 3 [(0, .ref (aM 0)), (1, .int x1), (2, .int x2)]) : W p l e rmX6_text s m args below meth c H locs 0 0 (MQ below (qcI D z (fun (u : Rc × RcL) => (fl [wModel K aM u.1 u.2])) A) args s 0 0 A) (F0 m 32 ls []) := by
  unfold fX6_text_32b at h
  refine r_iload_n C0 dX6_text_32 hl 2 rfl ?_
  refine r_sipush C0 (nI 353) dX6_text_33 (by decide) ?_
  refine r_icmp_ge h C0 52 dX6_text_36 (by decide) (fun h => ?_) (fun h => ?_)
  · refine r_aload_n C0 dX6_text_52 hl 0 rfl ?_
    obtain ⟨z1, hz1, h⟩ := bnd_some h
    refine r_callVC (Wc := [wModel K aM M ML]) (wf := fun (u : Rc × RcL) => [wModel K aM u.1 u.2]) (Wn := [wModel K aM z1.1 z1.2]) hP hD hS hA [0] [] [0] 1 rfl rfl (by decide) rfl rfl (by decide) (fun hPc hDc hFc => va_runV (As := []) (rest := []) C0.1 (ctX6_go l D K N aM M ML H.size z1 hz1) (cwV 0 C0.1.2.2.2.2 (gdV wd15_16 wd15_17 wd15_18 wd1_5 wd15_19) rfl rfl rfl (by decide +kernel) ⟨Nat.le_of_ble_eq_true rfl, Nat.le_of_ble_eq_true rfl⟩) ⟨pcW_blind, va_recv C0.2.2.2.1 hPc (ci := 6) (q0 := 0) rfl rfl, pcW_of hPc hDc C0.2.2.2⟩ rfl rfl hl.1 rfl (lv_room (Nat.le_of_ble_eq_true rfl)) dX6_text_53 ⟨Nat.zero_le _, Nat.zero_le _⟩) (fun H locs hP hD hS => ?_)
    exact wX6_text_56L C0 hA z1.1 z1.2 x1 _ _ _ h hP hD hS (lv_sub hl [0, 1] rfl)
  · refine r_aload_n C0 dX6_text_39 hl 0 rfl ?_
    refine r_get C0 6 inx6 hP 0 rfl rfl 12 (by decide) (mc wd5_12) (.ref (aM 13)) rfl dX6_text_40 ?_
    refine r_iload_n C0 dX6_text_43 hl 2 rfl ?_
    refine r_iconst C0 (nI 0) dX6_text_44 (by decide) ?_
    refine r_iast h C0 hP hD hS 3 (fun uu => (fl [wModel K aM uu ML])) rfl rfl dX6_text_45 (fun M2 H locs h hP hD hS => ?_)
    refine r_iinc h C0 2 (fun v3 => [(2, .int v3), (0, .ref (aM 0)), (1, .int x1)]) dX6_text_46 hl rfl rfl (by decide) (fun _ => rfl) (fun v3 ls h hl => ?_)
    refine r_goto C0 32 dX6_text_49 (by decide) ?_
    exact hk32 M2 ML x1 v3 _ _ _ h hP hD hS (lv_sub hl [1, 2, 0] rfl)
theorem wX6_text_32L (C0 : cx p s m args meth c cX6_text 3 RX6 wsX6_text (some .int) D K) (hA : ∀ q, s.heap.size ≤ q → A q) : IX6_text_32 p l e s m args below meth c D K aM A z (fX6_text_32 N) := by
  refine itn_ind (IX6_text_32 p l e s m args below meth c D K aM A z) ?_ ?_ N
  · intro _ _ _ _ _ _ _ h; cases h
  · intro k32 hk32 M ML x1 x2 H locs ls h hP hD hS hl
    exact wX6_text_32 C0 hA hk32 M ML x1 x2 h H locs hP hD hS ls hl
set_option maxHeartbeats 1000000 in
set_option maxRecDepth 10000 in
theorem wX6_text_0 (C0 : cx p s m args meth c cX6_text 3 RX6 wsX6_text (some .int) D K) (hA : ∀ q, s.heap.size ≤ q → A q) (M : Rc) (ML : RcL) (h : fX6_text N M ML = some z) (H : Heap) (locs : List Loc) (hP : va_P D vwCl (fl [wModel K aM M ML]) H) (hD : va_D A (fl [wModel K aM M ML])) (hS : va_S A s.heap H locs) (ls : Array Slot) (hl : lv_has ls 3 [(0, .ref (aM 0))]) : W p l e rmX6_text s m args below meth c H locs 0 0 (MQ below (qcI D z (fun (u : Rc × RcL) => (fl [wModel K aM u.1 u.2])) A) args s 0 0 A) (F0 m 0 ls []) := by
  unfold fX6_text at h
  refine r_aload_n C0 dX6_text_0 hl 0 rfl ?_
  refine r_iconst C0 (nI 0) dX6_text_1 (by decide) ?_
  refine r_put (ty := .int) h C0 6 inx6 tyX6 tyX6_ok nmX6 hP hD hS 0 (fun uu => (fl [wModel K aM uu ML])) rfl rfl 0 (by decide) (mc wd6_10) rfl (by decide +kernel) rfl rfl (by simp) rfl dX6_text_2 (fun M1 H locs h hP hD hS => ?_)
  refine r_aload_n C0 dX6_text_5 hl 0 rfl ?_
  refine r_aload_n C0 dX6_text_6 hl 0 rfl ?_
  refine r_get C0 6 inx6 hP 0 rfl rfl 2 (by decide) (mc wd6_11) (.int (M1 2 0)) rfl dX6_text_7 ?_
  refine r_put (ty := .int) h C0 6 inx6 tyX6 tyX6_ok nmX6 hP hD hS 0 (fun uu => (fl [wModel K aM uu ML])) rfl rfl 3 (by decide) (mc wd15_10) rfl (by decide +kernel) rfl rfl (by simp) rfl dX6_text_10 (fun M2 H locs h hP hD hS => ?_)
  refine r_aload_n C0 dX6_text_13 hl 0 rfl ?_
  refine r_iconst C0 (nI 0) dX6_text_14 (by decide) ?_
  refine r_put (ty := .int) h C0 6 inx6 tyX6 tyX6_ok nmX6 hP hD hS 0 (fun uu => (fl [wModel K aM uu ML])) rfl rfl 2 (by decide) (mc wd6_11) rfl (by decide +kernel) rfl rfl (by simp) rfl dX6_text_15 (fun M3 H locs h hP hD hS => ?_)
  refine r_aload_n C0 dX6_text_18 hl 0 rfl ?_
  refine r_iconst C0 (nI 0) dX6_text_19 (by decide) ?_
  refine r_put (ty := .int) h C0 6 inx6 tyX6 tyX6_ok nmX6 hP hD hS 0 (fun uu => (fl [wModel K aM uu ML])) rfl rfl 8 (by decide) (mc wd15_11) rfl (by decide +kernel) rfl rfl (by simp) rfl dX6_text_20 (fun M4 H locs h hP hD hS => ?_)
  refine r_aload_n C0 dX6_text_23 hl 0 rfl ?_
  refine r_iconst C0 (nI 0) dX6_text_24 (by decide) ?_
  refine r_put (ty := .int) h C0 6 inx6 tyX6 tyX6_ok nmX6 hP hD hS 0 (fun uu => (fl [wModel K aM uu ML])) rfl rfl 4 (by decide) (mc wd15_12) rfl (by decide +kernel) rfl rfl (by simp) rfl dX6_text_25 (fun M5 H locs h hP hD hS => ?_)
  refine r_iconst C0 (nI 0) dX6_text_28 (by decide) ?_
  refine r_istore_n h C0 (fun v6 => [(1, .int v6), (0, .ref (aM 0))]) dX6_text_29 hl (by decide) (fun _ => rfl) (fun v6 ls h hl => ?_)
  refine r_iconst C0 (nI 0) dX6_text_30 (by decide) ?_
  refine r_istore_n h C0 (fun v7 => [(2, .int v7), (1, .int v6), (0, .ref (aM 0))]) dX6_text_31 hl (by decide) (fun _ => rfl) (fun v7 ls h hl => ?_)
  exact wX6_text_32L C0 hA M5 ML v6 v7 _ _ _ h hP hD hS (lv_sub hl [2, 1, 0] rfl)
set_option maxHeartbeats 1000000 in
set_option maxRecDepth 10000 in
theorem ctX6_text (l : Launch) (D : va_G) (K : Nat → ClassId) (N : Nat) (aM : Nat → Nat) (M : Rc) (ML : RcL) (sz : Nat) (z : Int32 × (Rc × RcL)) (hz : fX6_text N M ML = some z) : Met l yX6_text wsX6_text rmX6_text (pcW D K [.ref (aM 0)] (fl [wModel K aM M ML]) sz) (qcI D z (fun (u : Rc × RcL) => (fl [wModel K aM u.1 u.2])) (va_A (fl [wModel K aM M ML]) sz)) 0 0 (va_A (fl [wModel K aM M ML]) sz) := by
  refine Met.ofW (cc := cX6_text) (maxL := 3) (ret := (some .int)) (by decide) rfl ?_
  intro p e s m args below meth c s₁ B hml hv
  obtain ⟨rfl, hsz, hP, hK, hD0⟩ := hv
  subst hsz
  have C0 : cx p s m _ meth c cX6_text 3 RX6 wsX6_text (some .int) D K := ⟨⟨B.exec, B.bytes, hml, findClass_of_methodNamed B.named, atoms_spec (ws := wsX6_text) B.pre⟩, B.returns, B.notSynchronized, hK⟩
  have hD := hD0.self (sz := s.heap.size)
  generalize hAe : va_A (fl [wModel K aM M ML]) s.heap.size = A at hD ⊢
  have hA : ∀ q : Nat, s.heap.size ≤ q → A q := fun q h => by rw [← hAe]; exact Or.inr h
  have hl := lv_entry ([.ref (aM 0)]) (n := 3) (Nat.le_of_ble_eq_true rfl)
  rw [lg_entry_eq]
  generalize (lg_sl ([.ref (aM 0)]) ++ List.replicate (3 - (lg_sl ([.ref (aM 0)])).length) Slot.unset).toArray = ls at hl ⊢
  have hl : lv_has ls 3 [(0, .ref (aM 0))] := hl
  exact wX6_text_0 C0 hA M ML hz s.heap [] hP hD va_S.rf ls (lv_sub hl [0] rfl)
end SX6_text

section SX6_fault
/-! CardLoopsModel.fault()I -/
abbrev wsX6_fault : List Cond := Cond.code yX6_fault cX6_fault 1 (some .int) :: wsL_law0
abbrev rmX6_fault : Room := { frames := 0, cells := 0, slots := 0, locals := 0 }
variable {p : Program} {l : Launch} {e : Env} {s : State} {m : MethodId} {args : Array Value} {below : List Frame} {meth : Method} {c : Code} {D : va_G} {K : Nat → ClassId} {A : Nat → Prop} {aM : Nat → Nat} {z : Int32 × (Rc)}
set_option maxHeartbeats 1000000 in
set_option maxRecDepth 10000 in
theorem wX6_fault_0 (C0 : cx p s m args meth c cX6_fault 1 RX6 wsX6_fault (some .int) D K) (hA : ∀ q, s.heap.size ≤ q → A q) (M : Rc) (ML : RcL) (h : fX6_fault M ML = some z) (H : Heap) (locs : List Loc) (hP : va_P D vwCl (fl [wModel K aM M ML]) H) (hD : va_D A (fl [wModel K aM M ML])) (hS : va_S A s.heap H locs) (ls : Array Slot) (hl : lv_has ls 1 [(0, .ref (aM 0))]) : W p l e rmX6_fault s m args below meth c H locs 0 0 (MQ below (qcI D z (fun (u : Rc) => (fl [wModel K aM u ML])) A) args s 0 0 A) (F0 m 0 ls []) := by
  unfold fX6_fault at h
  refine r_aload_n C0 dX6_fault_0 hl 0 rfl ?_
  refine r_iconst C0 (nI 0) dX6_fault_1 (by decide) ?_
  refine r_put (ty := .int) h C0 6 inx6 tyX6 tyX6_ok nmX6 hP hD hS 0 (fun uu => (fl [wModel K aM uu ML])) rfl rfl 0 (by decide) (mc wd6_10) rfl (by decide +kernel) rfl rfl (by simp) rfl dX6_fault_2 (fun M1 H locs h hP hD hS => ?_)
  refine r_aload_n C0 dX6_fault_5 hl 0 rfl ?_
  refine r_get C0 6 inx6 hP 0 rfl rfl 8 (by decide) (mc wd15_11) (.int (M1 8 0)) rfl dX6_fault_6 ?_
  exact r_iret h C0 (fun (u : Rc) => (fl [wModel K aM u ML])) hP hD hS dX6_fault_9
set_option maxHeartbeats 1000000 in
set_option maxRecDepth 10000 in
theorem ctX6_fault (l : Launch) (D : va_G) (K : Nat → ClassId) (aM : Nat → Nat) (M : Rc) (ML : RcL) (sz : Nat) (z : Int32 × (Rc)) (hz : fX6_fault M ML = some z) : Met l yX6_fault wsX6_fault rmX6_fault (pcW D K [.ref (aM 0)] (fl [wModel K aM M ML]) sz) (qcI D z (fun (u : Rc) => (fl [wModel K aM u ML])) (va_A (fl [wModel K aM M ML]) sz)) 0 0 (va_A (fl [wModel K aM M ML]) sz) := by
  refine Met.ofW (cc := cX6_fault) (maxL := 1) (ret := (some .int)) (by decide) rfl ?_
  intro p e s m args below meth c s₁ B hml hv
  obtain ⟨rfl, hsz, hP, hK, hD0⟩ := hv
  subst hsz
  have C0 : cx p s m _ meth c cX6_fault 1 RX6 wsX6_fault (some .int) D K := ⟨⟨B.exec, B.bytes, hml, findClass_of_methodNamed B.named, atoms_spec (ws := wsX6_fault) B.pre⟩, B.returns, B.notSynchronized, hK⟩
  have hD := hD0.self (sz := s.heap.size)
  generalize hAe : va_A (fl [wModel K aM M ML]) s.heap.size = A at hD ⊢
  have hA : ∀ q : Nat, s.heap.size ≤ q → A q := fun q h => by rw [← hAe]; exact Or.inr h
  have hl := lv_entry ([.ref (aM 0)]) (n := 1) (Nat.le_of_ble_eq_true rfl)
  rw [lg_entry_eq]
  generalize (lg_sl ([.ref (aM 0)]) ++ List.replicate (1 - (lg_sl ([.ref (aM 0)])).length) Slot.unset).toArray = ls at hl ⊢
  have hl : lv_has ls 1 [(0, .ref (aM 0))] := hl
  exact wX6_fault_0 C0 hA M ML hz s.heap [] hP hD va_S.rf ls (lv_sub hl [0] rfl)
end SX6_fault

section SX6_isThere
/-! CardLoopsModel.isThere()Z -/
abbrev wsX6_isThere : List Cond := Cond.code yX6_isThere cX6_isThere 1 (some .boolean) :: wsL_law0
abbrev rmX6_isThere : Room := { frames := 0, cells := 0, slots := 0, locals := 0 }
variable {p : Program} {l : Launch} {e : Env} {s : State} {m : MethodId} {args : Array Value} {below : List Frame} {meth : Method} {c : Code} {D : va_G} {K : Nat → ClassId} {A : Nat → Prop} {aM : Nat → Nat} {z : Int32}
set_option maxHeartbeats 1000000 in
set_option maxRecDepth 10000 in
theorem wX6_isThere_0 (C0 : cx p s m args meth c cX6_isThere 1 RX6 wsX6_isThere (some .boolean) D K) (M : Rc) (ML : RcL) (h : fX6_isThere M ML = some z) (hP : va_P D vwCl (fl [wModel K aM M ML]) s.heap) (ls : Array Slot) (hl : lv_has ls 1 [(0, .ref (aM 0))]) : W p l e rmX6_isThere s m args below meth c s.heap [] 0 0 (MQ below (vp_Si (fun r => r = z)) args s 0 0 (fun _ => False)) (F0 m 0 ls []) := by
  unfold fX6_isThere at h
  refine r_aload_n C0 dX6_isThere_0 hl 0 rfl ?_
  refine r_get C0 6 inx6 hP 0 rfl rfl 11 (by decide) (mc wd5_11) (.ref (aM 12)) rfl dX6_isThere_1 ?_
  refine r_iconst C0 (nI 0) dX6_isThere_4 (by decide) ?_
  refine r_ialdC C0 hP 2 rfl 0 (by decide) dX6_isThere_5 ?_
  refine r_iconst C0 (nI 1) dX6_isThere_6 (by decide) ?_
  refine r_icmp_ne h C0 14 dX6_isThere_7 (by decide) (fun h => ?_) (fun h => ?_)
  · refine r_iconst C0 (nI 0) dX6_isThere_14 (by decide) ?_
    exact r_zretRC C0 h (by decide) dX6_isThere_15
  · refine r_iconst C0 (nI 1) dX6_isThere_10 (by decide) ?_
    refine r_goto C0 15 dX6_isThere_11 (by decide) ?_
    exact r_zretRC C0 h (by decide) dX6_isThere_15
set_option maxHeartbeats 1000000 in
set_option maxRecDepth 10000 in
theorem ctX6_isThere (l : Launch) (D : va_G) (K : Nat → ClassId) (aM : Nat → Nat) (M : Rc) (ML : RcL) (z : Int32) (hz : fX6_isThere M ML = some z) : Met l yX6_isThere wsX6_isThere rmX6_isThere (pcR D K [.ref (aM 0)] (fl [wModel K aM M ML])) (vp_Si (fun r => r = z)) 0 0 (fun _ => False) := by
  refine Met.ofW (cc := cX6_isThere) (maxL := 1) (ret := (some .boolean)) (by decide) rfl ?_
  intro p e s m args below meth c s₁ B hml hv
  obtain ⟨rfl, hP, hK⟩ := hv
  have C0 : cx p s m _ meth c cX6_isThere 1 RX6 wsX6_isThere (some .boolean) D K := ⟨⟨B.exec, B.bytes, hml, findClass_of_methodNamed B.named, atoms_spec (ws := wsX6_isThere) B.pre⟩, B.returns, B.notSynchronized, hK⟩
  have hl := lv_entry ([.ref (aM 0)]) (n := 1) (Nat.le_of_ble_eq_true rfl)
  rw [lg_entry_eq]
  generalize (lg_sl ([.ref (aM 0)]) ++ List.replicate (1 - (lg_sl ([.ref (aM 0)])).length) Slot.unset).toArray = ls at hl ⊢
  have hl : lv_has ls 1 [(0, .ref (aM 0))] := hl
  exact wX6_isThere_0 C0 M ML hz hP ls (lv_sub hl [0] rfl)
end SX6_isThere

section SX6_isLoop
/-! CardLoopsModel.isLoop(I)Z -/
abbrev wsX6_isLoop : List Cond := Cond.code yX6_isLoop cX6_isLoop 2 (some .boolean) :: wsL_law0
abbrev rmX6_isLoop : Room := { frames := 1, cells := 0, slots := 0, locals := 22 }
variable {p : Program} {l : Launch} {e : Env} {s : State} {m : MethodId} {args : Array Value} {below : List Frame} {meth : Method} {c : Code} {D : va_G} {K : Nat → ClassId} {A : Nat → Prop} {aM : Nat → Nat} {z : Int32}
set_option maxHeartbeats 1000000 in
set_option maxRecDepth 10000 in
theorem wX6_isLoop_0 (C0 : cx p s m args meth c cX6_isLoop 2 RX6 wsX6_isLoop (some .boolean) D K) (M : Rc) (ML : RcL) (x1 : Int32) (h : fX6_isLoop M ML x1 = some z) (hP : va_P D vwCl (fl [wModel K aM M ML]) s.heap) (ls : Array Slot) (hl : lv_has ls 2 [(0, .ref (aM 0)), (1, .int x1)]) : W p l e rmX6_isLoop s m args below meth c s.heap [] 0 0 (MQ below (vp_Si (fun r => r = z)) args s 0 0 (fun _ => False)) (F0 m 0 ls []) := by
  unfold fX6_isLoop at h
  refine r_iload_n C0 dX6_isLoop_0 hl 1 rfl ?_
  refine r_iconst C0 (nI 0) dX6_isLoop_1 (by decide) ?_
  refine r_aload_n C0 dX6_isLoop_2 hl 0 rfl ?_
  refine r_get C0 6 inx6 hP 0 rfl rfl 11 (by decide) (mc wd5_11) (.ref (aM 12)) rfl dX6_isLoop_3 ?_
  refine r_bipush C0 (nI 14) dX6_isLoop_6 (by decide) ?_
  refine r_ialdC C0 hP 2 rfl 14 (by decide) dX6_isLoop_8 ?_
  refine r_iconst C0 (nI 1) dX6_isLoop_9 (by decide) ?_
  refine r_isub C0 dX6_isLoop_10 ?_
  obtain ⟨z1, hz1, h⟩ := bnd_some h
  have hPc : va_P D vwCl [] s.heap := va_P_nil
  refine r_cI (va_runS (As := [.int x1, .int (nI 0), .int ((M 11 14) - (nI 1))]) (rest := []) C0.1 (ctX6_isIn l D K x1 (nI 0) ((M 11 14) - (nI 1)) z1 hz1) (va_cwS 3 C0.1.2.2.2.2 (gdS wd17_16 wd17_17 wd1_5 wd17_18) rfl rfl rfl (by decide +kernel) ⟨Nat.le_of_ble_eq_true rfl, Nat.le_of_ble_eq_true rfl⟩) ⟨pcR_blind, pcR_of hPc C0.2.2.2⟩ rfl rfl hl.1 rfl (lv_room (Nat.le_of_ble_eq_true rfl)) dX6_isLoop_11 ⟨Nat.zero_le _, Nat.zero_le _⟩).run ?_
  exact r_zretR C0 h dX6_isLoop_14
set_option maxHeartbeats 1000000 in
set_option maxRecDepth 10000 in
theorem ctX6_isLoop (l : Launch) (D : va_G) (K : Nat → ClassId) (aM : Nat → Nat) (M : Rc) (ML : RcL) (p1 : Int32) (z : Int32) (hz : fX6_isLoop M ML p1 = some z) : Met l yX6_isLoop wsX6_isLoop rmX6_isLoop (pcR D K [.ref (aM 0), .int p1] (fl [wModel K aM M ML])) (vp_Si (fun r => r = z)) 0 0 (fun _ => False) := by
  refine Met.ofW (cc := cX6_isLoop) (maxL := 2) (ret := (some .boolean)) (by decide) rfl ?_
  intro p e s m args below meth c s₁ B hml hv
  obtain ⟨rfl, hP, hK⟩ := hv
  have C0 : cx p s m _ meth c cX6_isLoop 2 RX6 wsX6_isLoop (some .boolean) D K := ⟨⟨B.exec, B.bytes, hml, findClass_of_methodNamed B.named, atoms_spec (ws := wsX6_isLoop) B.pre⟩, B.returns, B.notSynchronized, hK⟩
  have hl := lv_entry ([.ref (aM 0), .int p1]) (n := 2) (Nat.le_of_ble_eq_true rfl)
  rw [lg_entry_eq]
  generalize (lg_sl ([.ref (aM 0), .int p1]) ++ List.replicate (2 - (lg_sl ([.ref (aM 0), .int p1])).length) Slot.unset).toArray = ls at hl ⊢
  have hl : lv_has ls 2 [(0, .ref (aM 0)), (1, .int p1)] := hl
  exact wX6_isLoop_0 C0 M ML p1 hz hP ls (lv_sub hl [0, 1] rfl)
end SX6_isLoop

section SX6_now
/-! CardLoopsModel.now(I)I -/
abbrev wsX6_now : List Cond := Cond.code yX6_now cX6_now 2 (some .int) :: wsL_law0
abbrev rmX6_now : Room := { frames := 0, cells := 0, slots := 0, locals := 0 }
variable {p : Program} {l : Launch} {e : Env} {s : State} {m : MethodId} {args : Array Value} {below : List Frame} {meth : Method} {c : Code} {D : va_G} {K : Nat → ClassId} {A : Nat → Prop} {aM : Nat → Nat} {z : Int32 × (Rc)}
set_option maxHeartbeats 1000000 in
set_option maxRecDepth 10000 in
theorem wX6_now_0 (C0 : cx p s m args meth c cX6_now 2 RX6 wsX6_now (some .int) D K) (hA : ∀ q, s.heap.size ≤ q → A q) (M : Rc) (ML : RcL) (x1 : Int32) (h : fX6_now M ML x1 = some z) (H : Heap) (locs : List Loc) (hP : va_P D vwCl (fl [wModel K aM M ML]) H) (hD : va_D A (fl [wModel K aM M ML])) (hS : va_S A s.heap H locs) (ls : Array Slot) (hl : lv_has ls 2 [(0, .ref (aM 0)), (1, .int x1)]) : W p l e rmX6_now s m args below meth c H locs 0 0 (MQ below (qcI D z (fun (u : Rc) => (fl [wModel K aM u ML])) A) args s 0 0 A) (F0 m 0 ls []) := by
  unfold fX6_now at h
  refine r_aload_n C0 dX6_now_0 hl 0 rfl ?_
  refine r_iconst C0 (nI 0) dX6_now_1 (by decide) ?_
  refine r_put (ty := .int) h C0 6 inx6 tyX6 tyX6_ok nmX6 hP hD hS 0 (fun uu => (fl [wModel K aM uu ML])) rfl rfl 0 (by decide) (mc wd6_10) rfl (by decide +kernel) rfl rfl (by simp) rfl dX6_now_2 (fun M1 H locs h hP hD hS => ?_)
  refine r_iload_n C0 dX6_now_5 hl 1 rfl ?_
  refine sw_if h (fun hx h => ?_) (fun hx0 h => ?_)
  · refine lv_tableIn C0.1.1 C0.1.2.1 (tgt := 60) dX6_now_6 (by rw [hx]; decide) (by rw [hx]; decide) (by rw [hx]; rfl) (by decide) ?_
    refine r_aload_n C0 dX6_now_60 hl 0 rfl ?_
    refine r_get C0 6 inx6 hP 0 rfl rfl 11 (by decide) (mc wd5_11) (.ref (aM 12)) rfl dX6_now_61 ?_
    refine r_iconst C0 (nI 1) dX6_now_64 (by decide) ?_
    refine r_ialdC C0 hP 2 rfl 1 (by decide) dX6_now_65 ?_
    exact r_iret h C0 (fun (u : Rc) => (fl [wModel K aM u ML])) hP hD hS dX6_now_66
  refine sw_if h (fun hx h => ?_) (fun hx1 h => ?_)
  · refine lv_tableIn C0.1.1 C0.1.2.1 (tgt := 67) dX6_now_6 (by rw [hx]; decide) (by rw [hx]; decide) (by rw [hx]; rfl) (by decide) ?_
    refine r_aload_n C0 dX6_now_67 hl 0 rfl ?_
    refine r_get C0 6 inx6 hP 0 rfl rfl 11 (by decide) (mc wd5_11) (.ref (aM 12)) rfl dX6_now_68 ?_
    refine r_bipush C0 (nI 14) dX6_now_71 (by decide) ?_
    refine r_ialdC C0 hP 2 rfl 14 (by decide) dX6_now_73 ?_
    exact r_iret h C0 (fun (u : Rc) => (fl [wModel K aM u ML])) hP hD hS dX6_now_74
  refine sw_if h (fun hx h => ?_) (fun hx2 h => ?_)
  · refine lv_tableIn C0.1.1 C0.1.2.1 (tgt := 75) dX6_now_6 (by rw [hx]; decide) (by rw [hx]; decide) (by rw [hx]; rfl) (by decide) ?_
    refine r_aload_n C0 dX6_now_75 hl 0 rfl ?_
    refine r_get C0 6 inx6 hP 0 rfl rfl 11 (by decide) (mc wd5_11) (.ref (aM 12)) rfl dX6_now_76 ?_
    refine r_bipush C0 (nI 35) dX6_now_79 (by decide) ?_
    refine r_ialdC C0 hP 2 rfl 35 (by decide) dX6_now_81 ?_
    exact r_iret h C0 (fun (u : Rc) => (fl [wModel K aM u ML])) hP hD hS dX6_now_82
  refine sw_if h (fun hx h => ?_) (fun hx3 h => ?_)
  · refine lv_tableIn C0.1.1 C0.1.2.1 (tgt := 83) dX6_now_6 (by rw [hx]; decide) (by rw [hx]; decide) (by rw [hx]; rfl) (by decide) ?_
    refine r_aload_n C0 dX6_now_83 hl 0 rfl ?_
    refine r_get C0 6 inx6 hP 0 rfl rfl 11 (by decide) (mc wd5_11) (.ref (aM 12)) rfl dX6_now_84 ?_
    refine r_bipush C0 (nI 48) dX6_now_87 (by decide) ?_
    refine r_ialdC C0 hP 2 rfl 48 (by decide) dX6_now_89 ?_
    exact r_iret h C0 (fun (u : Rc) => (fl [wModel K aM u ML])) hP hD hS dX6_now_90
  refine sw_if h (fun hx h => ?_) (fun hx4 h => ?_)
  · refine lv_tableIn C0.1.1 C0.1.2.1 (tgt := 91) dX6_now_6 (by rw [hx]; decide) (by rw [hx]; decide) (by rw [hx]; rfl) (by decide) ?_
    refine r_aload_n C0 dX6_now_91 hl 0 rfl ?_
    refine r_get C0 6 inx6 hP 0 rfl rfl 11 (by decide) (mc wd5_11) (.ref (aM 12)) rfl dX6_now_92 ?_
    refine r_bipush C0 (nI 49) dX6_now_95 (by decide) ?_
    refine r_ialdC C0 hP 2 rfl 49 (by decide) dX6_now_97 ?_
    exact r_iret h C0 (fun (u : Rc) => (fl [wModel K aM u ML])) hP hD hS dX6_now_98
  refine sw_if h (fun hx h => ?_) (fun hx5 h => ?_)
  · refine lv_tableIn C0.1.1 C0.1.2.1 (tgt := 99) dX6_now_6 (by rw [hx]; decide) (by rw [hx]; decide) (by rw [hx]; rfl) (by decide) ?_
    refine r_aload_n C0 dX6_now_99 hl 0 rfl ?_
    refine r_get C0 6 inx6 hP 0 rfl rfl 11 (by decide) (mc wd5_11) (.ref (aM 12)) rfl dX6_now_100 ?_
    refine r_bipush C0 (nI 50) dX6_now_103 (by decide) ?_
    refine r_ialdC C0 hP 2 rfl 50 (by decide) dX6_now_105 ?_
    refine r_aload_n C0 dX6_now_106 hl 0 rfl ?_
    refine r_get C0 6 inx6 hP 0 rfl rfl 11 (by decide) (mc wd5_11) (.ref (aM 12)) rfl dX6_now_107 ?_
    refine r_bipush C0 (nI 49) dX6_now_110 (by decide) ?_
    refine r_ialdC C0 hP 2 rfl 49 (by decide) dX6_now_112 ?_
    refine r_isub C0 dX6_now_113 ?_
    exact r_iret h C0 (fun (u : Rc) => (fl [wModel K aM u ML])) hP hD hS dX6_now_114
  refine sw_if h (fun hx h => ?_) (fun hx6 h => ?_)
  · refine lv_tableIn C0.1.1 C0.1.2.1 (tgt := 115) dX6_now_6 (by rw [hx]; decide) (by rw [hx]; decide) (by rw [hx]; rfl) (by decide) ?_
    refine r_aload_n C0 dX6_now_115 hl 0 rfl ?_
    refine r_get C0 6 inx6 hP 0 rfl rfl 11 (by decide) (mc wd5_11) (.ref (aM 12)) rfl dX6_now_116 ?_
    refine r_bipush C0 (nI 51) dX6_now_119 (by decide) ?_
    refine r_ialdC C0 hP 2 rfl 51 (by decide) dX6_now_121 ?_
    exact r_iret h C0 (fun (u : Rc) => (fl [wModel K aM u ML])) hP hD hS dX6_now_122
  refine sw_if h (fun hx h => ?_) (fun hx7 h => ?_)
  · refine lv_tableIn C0.1.1 C0.1.2.1 (tgt := 123) dX6_now_6 (by rw [hx]; decide) (by rw [hx]; decide) (by rw [hx]; rfl) (by decide) ?_
    refine r_aload_n C0 dX6_now_123 hl 0 rfl ?_
    refine r_get C0 6 inx6 hP 0 rfl rfl 11 (by decide) (mc wd5_11) (.ref (aM 12)) rfl dX6_now_124 ?_
    refine r_bipush C0 (nI 52) dX6_now_127 (by decide) ?_
    refine r_ialdC C0 hP 2 rfl 52 (by decide) dX6_now_129 ?_
    exact r_iret h C0 (fun (u : Rc) => (fl [wModel K aM u ML])) hP hD hS dX6_now_130
  refine sw_if h (fun hx h => ?_) (fun hx8 h => ?_)
  · refine lv_tableIn C0.1.1 C0.1.2.1 (tgt := 131) dX6_now_6 (by rw [hx]; decide) (by rw [hx]; decide) (by rw [hx]; rfl) (by decide) ?_
    refine r_aload_n C0 dX6_now_131 hl 0 rfl ?_
    refine r_get C0 6 inx6 hP 0 rfl rfl 15 (by decide) (mc wd15_15) (.int (M1 15 0)) rfl dX6_now_132 ?_
    exact r_iret h C0 (fun (u : Rc) => (fl [wModel K aM u ML])) hP hD hS dX6_now_135
  refine sw_if h (fun hx h => ?_) (fun hx9 h => ?_)
  · refine lv_tableIn C0.1.1 C0.1.2.1 (tgt := 136) dX6_now_6 (by rw [hx]; decide) (by rw [hx]; decide) (by rw [hx]; rfl) (by decide) ?_
    refine r_aload_n C0 dX6_now_136 hl 0 rfl ?_
    refine r_get C0 6 inx6 hP 0 rfl rfl 2 (by decide) (mc wd6_11) (.int (M1 2 0)) rfl dX6_now_137 ?_
    exact r_iret h C0 (fun (u : Rc) => (fl [wModel K aM u ML])) hP hD hS dX6_now_140
  refine lv_tableOut C0.1.1 C0.1.2.1 (tgt := 141) dX6_now_6 (sw_out10 hx0 hx1 hx2 hx3 hx4 hx5 hx6 hx7 hx8 hx9) (by decide) ?_
  refine r_iconst C0 (-1 : Int32) dX6_now_141 (by decide) ?_
  exact r_iret h C0 (fun (u : Rc) => (fl [wModel K aM u ML])) hP hD hS dX6_now_142
set_option maxHeartbeats 1000000 in
set_option maxRecDepth 10000 in
theorem ctX6_now (l : Launch) (D : va_G) (K : Nat → ClassId) (aM : Nat → Nat) (M : Rc) (ML : RcL) (p1 : Int32) (sz : Nat) (z : Int32 × (Rc)) (hz : fX6_now M ML p1 = some z) : Met l yX6_now wsX6_now rmX6_now (pcW D K [.ref (aM 0), .int p1] (fl [wModel K aM M ML]) sz) (qcI D z (fun (u : Rc) => (fl [wModel K aM u ML])) (va_A (fl [wModel K aM M ML]) sz)) 0 0 (va_A (fl [wModel K aM M ML]) sz) := by
  refine Met.ofW (cc := cX6_now) (maxL := 2) (ret := (some .int)) (by decide) rfl ?_
  intro p e s m args below meth c s₁ B hml hv
  obtain ⟨rfl, hsz, hP, hK, hD0⟩ := hv
  subst hsz
  have C0 : cx p s m _ meth c cX6_now 2 RX6 wsX6_now (some .int) D K := ⟨⟨B.exec, B.bytes, hml, findClass_of_methodNamed B.named, atoms_spec (ws := wsX6_now) B.pre⟩, B.returns, B.notSynchronized, hK⟩
  have hD := hD0.self (sz := s.heap.size)
  generalize hAe : va_A (fl [wModel K aM M ML]) s.heap.size = A at hD ⊢
  have hA : ∀ q : Nat, s.heap.size ≤ q → A q := fun q h => by rw [← hAe]; exact Or.inr h
  have hl := lv_entry ([.ref (aM 0), .int p1]) (n := 2) (Nat.le_of_ble_eq_true rfl)
  rw [lg_entry_eq]
  generalize (lg_sl ([.ref (aM 0), .int p1]) ++ List.replicate (2 - (lg_sl ([.ref (aM 0), .int p1])).length) Slot.unset).toArray = ls at hl ⊢
  have hl : lv_has ls 2 [(0, .ref (aM 0)), (1, .int p1)] := hl
  exact wX6_now_0 C0 hA M ML p1 hz s.heap [] hP hD va_S.rf ls (lv_sub hl [0, 1] rfl)
end SX6_now

section SX6_station
/-! CardLoopsModel.station(II)I -/
abbrev wsX6_station : List Cond := Cond.code yX6_station cX6_station 3 (some .int) :: wsL_law0
abbrev rmX6_station : Room := { frames := 3, cells := 0, slots := 0, locals := 64 }
variable {p : Program} {l : Launch} {e : Env} {s : State} {m : MethodId} {args : Array Value} {below : List Frame} {meth : Method} {c : Code} {D : va_G} {K : Nat → ClassId} {A : Nat → Prop} {aM : Nat → Nat} {z : Int32 × (Rc)}
set_option maxHeartbeats 1000000 in
set_option maxRecDepth 10000 in
theorem wX6_station_31 (C0 : cx p s m args meth c cX6_station 3 RX6 wsX6_station (some .int) D K) (hA : ∀ q, s.heap.size ≤ q → A q) (M : Rc) (ML : RcL) (h : fX6_station_31 M ML = some z) (H : Heap) (locs : List Loc) (hP : va_P D vwCl (fl [wModel K aM M ML]) H) (hD : va_D A (fl [wModel K aM M ML])) (hS : va_S A s.heap H locs) (ls : Array Slot) (hl : lv_has ls 3 [(0, .ref (aM 0))]) : W p l e rmX6_station s m args below meth c H locs 0 0 (MQ below (qcI D z (fun (u : Rc) => (fl [wModel K aM u ML])) A) args s 0 0 A) (F0 m 31 ls []) := by
  unfold fX6_station_31 at h
  refine r_aload_n C0 dX6_station_31 hl 0 rfl ?_
  obtain ⟨z1, hz1, h⟩ := bnd_some h
  refine r_callIC (Wc := [wModel K aM M ML]) (wf := fun (u : Rc) => [wModel K aM u ML]) (Wn := [wModel K aM z1.2 ML]) hP hD hS hA [0] [] [0] 1 rfl rfl (by decide) rfl rfl (by decide) (fun hPc hDc hFc => va_runV (As := []) (rest := []) C0.1 (ctX6_refuse l D K aM M ML H.size z1 hz1) (cwV 0 C0.1.2.2.2.2 (gdV wd22_21 wd22_22 wd22_23 wd1_5 wd23_0) rfl rfl rfl (by decide +kernel) ⟨Nat.le_of_ble_eq_true rfl, Nat.le_of_ble_eq_true rfl⟩) ⟨pcW_blind, va_recv C0.2.2.2.1 hPc (ci := 6) (q0 := 0) rfl rfl, pcW_of hPc hDc C0.2.2.2⟩ rfl rfl hl.1 rfl (lv_room (Nat.le_of_ble_eq_true rfl)) dX6_station_32 ⟨Nat.zero_le _, Nat.zero_le _⟩) (fun H locs hP hD hS => ?_)
  exact r_iret h C0 (fun (u : Rc) => (fl [wModel K aM u ML])) hP hD hS dX6_station_35
set_option maxHeartbeats 1000000 in
set_option maxRecDepth 10000 in
theorem wX6_station_0 (C0 : cx p s m args meth c cX6_station 3 RX6 wsX6_station (some .int) D K) (hA : ∀ q, s.heap.size ≤ q → A q) (M : Rc) (ML : RcL) (x1 : Int32) (x2 : Int32) (h : fX6_station M ML x1 x2 = some z) (H : Heap) (locs : List Loc) (hP : va_P D vwCl (fl [wModel K aM M ML]) H) (hD : va_D A (fl [wModel K aM M ML])) (hS : va_S A s.heap H locs) (ls : Array Slot) (hl : lv_has ls 3 [(0, .ref (aM 0)), (1, .int x1), (2, .int x2)]) : W p l e rmX6_station s m args below meth c H locs 0 0 (MQ below (qcI D z (fun (u : Rc) => (fl [wModel K aM u ML])) A) args s 0 0 A) (F0 m 0 ls []) := by
  unfold fX6_station at h
  refine r_aload_n C0 dX6_station_0 hl 0 rfl ?_
  refine r_iconst C0 (nI 0) dX6_station_1 (by decide) ?_
  refine r_put (ty := .int) h C0 6 inx6 tyX6 tyX6_ok nmX6 hP hD hS 0 (fun uu => (fl [wModel K aM uu ML])) rfl rfl 0 (by decide) (mc wd6_10) rfl (by decide +kernel) rfl rfl (by simp) rfl dX6_station_2 (fun M1 H locs h hP hD hS => ?_)
  refine r_iload_n C0 dX6_station_5 hl 1 rfl ?_
  refine r_iconst C0 (nI 0) dX6_station_6 (by decide) ?_
  refine r_aload_n C0 dX6_station_7 hl 0 rfl ?_
  refine r_get C0 6 inx6 hP 0 rfl rfl 11 (by decide) (mc wd5_11) (.ref (aM 12)) rfl dX6_station_8 ?_
  refine r_iconst C0 (nI 1) dX6_station_11 (by decide) ?_
  refine r_ialdC C0 hP 2 rfl 1 (by decide) dX6_station_12 ?_
  refine r_iconst C0 (nI 1) dX6_station_13 (by decide) ?_
  refine r_isub C0 dX6_station_14 ?_
  obtain ⟨z2, hz2, h⟩ := bnd_some h
  have hPc : va_P D vwCl [] H := va_P_nil
  refine r_cI (va_runS (As := [.int x1, .int (nI 0), .int ((M1 11 1) - (nI 1))]) (rest := []) C0.1 (ctX6_isIn l D K x1 (nI 0) ((M1 11 1) - (nI 1)) z2 hz2) (va_cwS 3 C0.1.2.2.2.2 (gdS wd17_16 wd17_17 wd1_5 wd17_18) rfl rfl rfl (by decide +kernel) ⟨Nat.le_of_ble_eq_true rfl, Nat.le_of_ble_eq_true rfl⟩) ⟨pcR_blind, pcR_of hPc C0.2.2.2⟩ rfl rfl hl.1 rfl (lv_room (Nat.le_of_ble_eq_true rfl)) dX6_station_15 ⟨Nat.zero_le _, Nat.zero_le _⟩).run ?_
  refine r_if_eq h C0 31 dX6_station_18 (by decide) (fun h => ?_) (fun h => ?_)
  · exact wX6_station_31 C0 hA M1 ML h _ _ hP hD hS _ (lv_sub hl [0] rfl)
  · refine r_iload_n C0 dX6_station_21 hl 2 rfl ?_
    refine r_iconst C0 (nI 0) dX6_station_22 (by decide) ?_
    refine r_bipush C0 (nI 9) dX6_station_23 (by decide) ?_
    obtain ⟨z3, hz3, h⟩ := bnd_some h
    have hPc : va_P D vwCl [] H := va_P_nil
    refine r_cI (va_runS (As := [.int x2, .int (nI 0), .int (nI 9)]) (rest := []) C0.1 (ctX6_isIn l D K x2 (nI 0) (nI 9) z3 hz3) (va_cwS 3 C0.1.2.2.2.2 (gdS wd17_16 wd17_17 wd1_5 wd17_18) rfl rfl rfl (by decide +kernel) ⟨Nat.le_of_ble_eq_true rfl, Nat.le_of_ble_eq_true rfl⟩) ⟨pcR_blind, pcR_of hPc C0.2.2.2⟩ rfl rfl hl.1 rfl (lv_room (Nat.le_of_ble_eq_true rfl)) dX6_station_25 ⟨Nat.zero_le _, Nat.zero_le _⟩).run ?_
    refine r_if_ne h C0 36 dX6_station_28 (by decide) (fun h => ?_) (fun h => ?_)
    · refine r_iload_n C0 dX6_station_36 hl 2 rfl ?_
      refine sw_if h (fun hx h => ?_) (fun hx0 h => ?_)
      · refine lv_tableIn C0.1.1 C0.1.2.1 (tgt := 76) dX6_station_37 (by rw [hx]; decide) (by rw [hx]; decide) (by rw [hx]; rfl) (by decide) ?_
        refine r_aload_n C0 dX6_station_76 hl 0 rfl ?_
        refine r_get C0 6 inx6 hP 0 rfl rfl 11 (by decide) (mc wd5_11) (.ref (aM 12)) rfl dX6_station_77 ?_
        refine r_iconst C0 (nI 2) dX6_station_80 (by decide) ?_
        refine r_iload_n C0 dX6_station_81 hl 1 rfl ?_
        refine r_iadd C0 dX6_station_82 ?_
        refine r_iald h C0 hP 2 rfl dX6_station_83 (fun h => ?_)
        exact r_iret h C0 (fun (u : Rc) => (fl [wModel K aM u ML])) hP hD hS dX6_station_84
      refine sw_if h (fun hx h => ?_) (fun hx1 h => ?_)
      · refine lv_tableIn C0.1.1 C0.1.2.1 (tgt := 85) dX6_station_37 (by rw [hx]; decide) (by rw [hx]; decide) (by rw [hx]; rfl) (by decide) ?_
        refine r_aload_n C0 dX6_station_85 hl 0 rfl ?_
        refine r_get C0 6 inx6 hP 0 rfl rfl 11 (by decide) (mc wd5_11) (.ref (aM 12)) rfl dX6_station_86 ?_
        refine r_bipush C0 (nI 8) dX6_station_89 (by decide) ?_
        refine r_iload_n C0 dX6_station_91 hl 1 rfl ?_
        refine r_iadd C0 dX6_station_92 ?_
        refine r_iald h C0 hP 2 rfl dX6_station_93 (fun h => ?_)
        exact r_iret h C0 (fun (u : Rc) => (fl [wModel K aM u ML])) hP hD hS dX6_station_94
      refine sw_if h (fun hx h => ?_) (fun hx2 h => ?_)
      · refine lv_tableIn C0.1.1 C0.1.2.1 (tgt := 95) dX6_station_37 (by rw [hx]; decide) (by rw [hx]; decide) (by rw [hx]; rfl) (by decide) ?_
        refine r_aload_n C0 dX6_station_95 hl 0 rfl ?_
        refine r_get C0 6 inx6 hP 0 rfl rfl 11 (by decide) (mc wd5_11) (.ref (aM 12)) rfl dX6_station_96 ?_
        refine r_iload_n C0 dX6_station_99 hl 1 rfl ?_
        obtain ⟨z4, hz4, h⟩ := bnd_some h
        have hPc := hP.sub (ws' := (fl [wArr K (aM 12) 353 (M1 11)])) [2] rfl
        refine r_cI (va_runS (As := [.ref (aM 12), .int x1]) (rest := []) C0.1 (ctX6_doing l D K (aM 12) (M1 11) x1 z4 hz4) (va_cwS 2 C0.1.2.2.2.2 (gdS wd23_1 wd23_2 wd1_5 wd23_3) rfl rfl rfl (by decide +kernel) ⟨Nat.le_of_ble_eq_true rfl, Nat.le_of_ble_eq_true rfl⟩) ⟨pcR_blind, pcR_of hPc C0.2.2.2⟩ rfl rfl hl.1 rfl (lv_room (Nat.le_of_ble_eq_true rfl)) dX6_station_100 ⟨Nat.zero_le _, Nat.zero_le _⟩).run ?_
        exact r_iret h C0 (fun (u : Rc) => (fl [wModel K aM u ML])) hP hD hS dX6_station_103
      refine sw_if h (fun hx h => ?_) (fun hx3 h => ?_)
      · refine lv_tableIn C0.1.1 C0.1.2.1 (tgt := 104) dX6_station_37 (by rw [hx]; decide) (by rw [hx]; decide) (by rw [hx]; rfl) (by decide) ?_
        refine r_aload_n C0 dX6_station_104 hl 0 rfl ?_
        refine r_get C0 6 inx6 hP 0 rfl rfl 11 (by decide) (mc wd5_11) (.ref (aM 12)) rfl dX6_station_105 ?_
        refine r_iload_n C0 dX6_station_108 hl 1 rfl ?_
        refine r_iconst C0 (nI 0) dX6_station_109 (by decide) ?_
        obtain ⟨z5, hz5, h⟩ := bnd_some h
        have hPc := hP.sub (ws' := (fl [wArr K (aM 12) 353 (M1 11)])) [2] rfl
        refine r_cI (va_runS (As := [.ref (aM 12), .int x1, .int (nI 0)]) (rest := []) C0.1 (ctX6_its l D K (aM 12) (M1 11) x1 (nI 0) z5 hz5) (va_cwS 3 C0.1.2.2.2.2 (gdS wd19_3 wd19_4 wd1_5 wd19_5) rfl rfl rfl (by decide +kernel) ⟨Nat.le_of_ble_eq_true rfl, Nat.le_of_ble_eq_true rfl⟩) ⟨pcR_blind, pcR_of hPc C0.2.2.2⟩ rfl rfl hl.1 rfl (lv_room (Nat.le_of_ble_eq_true rfl)) dX6_station_110 ⟨Nat.zero_le _, Nat.zero_le _⟩).run ?_
        exact r_iret h C0 (fun (u : Rc) => (fl [wModel K aM u ML])) hP hD hS dX6_station_113
      refine sw_if h (fun hx h => ?_) (fun hx4 h => ?_)
      · refine lv_tableIn C0.1.1 C0.1.2.1 (tgt := 114) dX6_station_37 (by rw [hx]; decide) (by rw [hx]; decide) (by rw [hx]; rfl) (by decide) ?_
        refine r_aload_n C0 dX6_station_114 hl 0 rfl ?_
        refine r_get C0 6 inx6 hP 0 rfl rfl 11 (by decide) (mc wd5_11) (.ref (aM 12)) rfl dX6_station_115 ?_
        refine r_iload_n C0 dX6_station_118 hl 1 rfl ?_
        obtain ⟨z6, hz6, h⟩ := bnd_some h
        have hPc := hP.sub (ws' := (fl [wArr K (aM 12) 353 (M1 11)])) [2] rfl
        refine r_cI (va_runS (As := [.ref (aM 12), .int x1]) (rest := []) C0.1 (ctX6_waiting l D K (aM 12) (M1 11) x1 z6 hz6) (va_cwS 2 C0.1.2.2.2.2 (gdS wd19_12 wd19_13 wd1_5 wd19_14) rfl rfl rfl (by decide +kernel) ⟨Nat.le_of_ble_eq_true rfl, Nat.le_of_ble_eq_true rfl⟩) ⟨pcR_blind, pcR_of hPc C0.2.2.2⟩ rfl rfl hl.1 rfl (lv_room (Nat.le_of_ble_eq_true rfl)) dX6_station_119 ⟨Nat.zero_le _, Nat.zero_le _⟩).run ?_
        exact r_iret h C0 (fun (u : Rc) => (fl [wModel K aM u ML])) hP hD hS dX6_station_122
      refine sw_if h (fun hx h => ?_) (fun hx5 h => ?_)
      · refine lv_tableIn C0.1.1 C0.1.2.1 (tgt := 123) dX6_station_37 (by rw [hx]; decide) (by rw [hx]; decide) (by rw [hx]; rfl) (by decide) ?_
        refine r_aload_n C0 dX6_station_123 hl 0 rfl ?_
        refine r_get C0 6 inx6 hP 0 rfl rfl 11 (by decide) (mc wd5_11) (.ref (aM 12)) rfl dX6_station_124 ?_
        refine r_iload_n C0 dX6_station_127 hl 1 rfl ?_
        obtain ⟨z7, hz7, h⟩ := bnd_some h
        have hPc := hP.sub (ws' := (fl [wArr K (aM 12) 353 (M1 11)])) [2] rfl
        refine r_cI (va_runS (As := [.ref (aM 12), .int x1]) (rest := []) C0.1 (ctX6_isIdle l D K (aM 12) (M1 11) x1 z7 hz7) (va_cwS 2 C0.1.2.2.2.2 (gdS wd19_0 wd19_1 wd1_5 wd19_2) rfl rfl rfl (by decide +kernel) ⟨Nat.le_of_ble_eq_true rfl, Nat.le_of_ble_eq_true rfl⟩) ⟨pcR_blind, pcR_of hPc C0.2.2.2⟩ rfl rfl hl.1 rfl (lv_room (Nat.le_of_ble_eq_true rfl)) dX6_station_128 ⟨Nat.zero_le _, Nat.zero_le _⟩).run ?_
        refine r_if_eq h C0 138 dX6_station_131 (by decide) (fun h => ?_) (fun h => ?_)
        · refine r_aload_n C0 dX6_station_138 hl 0 rfl ?_
          refine r_get C0 6 inx6 hP 0 rfl rfl 11 (by decide) (mc wd5_11) (.ref (aM 12)) rfl dX6_station_139 ?_
          refine r_iload_n C0 dX6_station_142 hl 1 rfl ?_
          refine r_iconst C0 (nI 3) dX6_station_143 (by decide) ?_
          obtain ⟨z8, hz8, h⟩ := bnd_some h
          have hPc := hP.sub (ws' := (fl [wArr K (aM 12) 353 (M1 11)])) [2] rfl
          refine r_cI (va_runS (As := [.ref (aM 12), .int x1, .int (nI 3)]) (rest := []) C0.1 (ctX6_its l D K (aM 12) (M1 11) x1 (nI 3) z8 hz8) (va_cwS 3 C0.1.2.2.2.2 (gdS wd19_3 wd19_4 wd1_5 wd19_5) rfl rfl rfl (by decide +kernel) ⟨Nat.le_of_ble_eq_true rfl, Nat.le_of_ble_eq_true rfl⟩) ⟨pcR_blind, pcR_of hPc C0.2.2.2⟩ rfl rfl hl.1 rfl (lv_room (Nat.le_of_ble_eq_true rfl)) dX6_station_144 ⟨Nat.zero_le _, Nat.zero_le _⟩).run ?_
          exact r_iret h C0 (fun (u : Rc) => (fl [wModel K aM u ML])) hP hD hS dX6_station_147
        · refine r_iconst C0 (-1 : Int32) dX6_station_134 (by decide) ?_
          refine r_goto C0 147 dX6_station_135 (by decide) ?_
          exact r_iret h C0 (fun (u : Rc) => (fl [wModel K aM u ML])) hP hD hS dX6_station_147
      refine lv_tableOut C0.1.1 C0.1.2.1 (tgt := 148) dX6_station_37 (sw_out6 hx0 hx1 hx2 hx3 hx4 hx5) (by decide) ?_
      refine r_aload_n C0 dX6_station_148 hl 0 rfl ?_
      refine r_get C0 6 inx6 hP 0 rfl rfl 11 (by decide) (mc wd5_11) (.ref (aM 12)) rfl dX6_station_149 ?_
      refine r_iload_n C0 dX6_station_152 hl 1 rfl ?_
      refine r_iconst C0 (nI 5) dX6_station_153 (by decide) ?_
      refine r_iload_n C0 dX6_station_154 hl 2 rfl ?_
      refine r_iadd C0 dX6_station_155 ?_
      refine r_bipush C0 (nI 6) dX6_station_156 (by decide) ?_
      refine r_isub C0 dX6_station_158 ?_
      obtain ⟨z9, hz9, h⟩ := bnd_some h
      have hPc := hP.sub (ws' := (fl [wArr K (aM 12) 353 (M1 11)])) [2] rfl
      refine r_cI (va_runS (As := [.ref (aM 12), .int x1, .int (((nI 5) + x2) - (nI 6))]) (rest := []) C0.1 (ctX6_its l D K (aM 12) (M1 11) x1 (((nI 5) + x2) - (nI 6)) z9 hz9) (va_cwS 3 C0.1.2.2.2.2 (gdS wd19_3 wd19_4 wd1_5 wd19_5) rfl rfl rfl (by decide +kernel) ⟨Nat.le_of_ble_eq_true rfl, Nat.le_of_ble_eq_true rfl⟩) ⟨pcR_blind, pcR_of hPc C0.2.2.2⟩ rfl rfl hl.1 rfl (lv_room (Nat.le_of_ble_eq_true rfl)) dX6_station_159 ⟨Nat.zero_le _, Nat.zero_le _⟩).run ?_
      exact r_iret h C0 (fun (u : Rc) => (fl [wModel K aM u ML])) hP hD hS dX6_station_162
    · exact wX6_station_31 C0 hA M1 ML h _ _ hP hD hS _ (lv_sub hl [0] rfl)
set_option maxHeartbeats 1000000 in
set_option maxRecDepth 10000 in
theorem ctX6_station (l : Launch) (D : va_G) (K : Nat → ClassId) (aM : Nat → Nat) (M : Rc) (ML : RcL) (p1 : Int32) (p2 : Int32) (sz : Nat) (z : Int32 × (Rc)) (hz : fX6_station M ML p1 p2 = some z) : Met l yX6_station wsX6_station rmX6_station (pcW D K [.ref (aM 0), .int p1, .int p2] (fl [wModel K aM M ML]) sz) (qcI D z (fun (u : Rc) => (fl [wModel K aM u ML])) (va_A (fl [wModel K aM M ML]) sz)) 0 0 (va_A (fl [wModel K aM M ML]) sz) := by
  refine Met.ofW (cc := cX6_station) (maxL := 3) (ret := (some .int)) (by decide) rfl ?_
  intro p e s m args below meth c s₁ B hml hv
  obtain ⟨rfl, hsz, hP, hK, hD0⟩ := hv
  subst hsz
  have C0 : cx p s m _ meth c cX6_station 3 RX6 wsX6_station (some .int) D K := ⟨⟨B.exec, B.bytes, hml, findClass_of_methodNamed B.named, atoms_spec (ws := wsX6_station) B.pre⟩, B.returns, B.notSynchronized, hK⟩
  have hD := hD0.self (sz := s.heap.size)
  generalize hAe : va_A (fl [wModel K aM M ML]) s.heap.size = A at hD ⊢
  have hA : ∀ q : Nat, s.heap.size ≤ q → A q := fun q h => by rw [← hAe]; exact Or.inr h
  have hl := lv_entry ([.ref (aM 0), .int p1, .int p2]) (n := 3) (Nat.le_of_ble_eq_true rfl)
  rw [lg_entry_eq]
  generalize (lg_sl ([.ref (aM 0), .int p1, .int p2]) ++ List.replicate (3 - (lg_sl ([.ref (aM 0), .int p1, .int p2])).length) Slot.unset).toArray = ls at hl ⊢
  have hl : lv_has ls 3 [(0, .ref (aM 0)), (1, .int p1), (2, .int p2)] := hl
  exact wX6_station_0 C0 hA M ML p1 p2 hz s.heap [] hP hD va_S.rf ls (lv_sub hl [0, 1, 2] rfl)
end SX6_station

section SX6_waits_
/-! CardLoopsModel.waits(II)I -/
abbrev wsX6_waits_ : List Cond := Cond.code yX6_waits_ cX6_waits_ 3 (some .int) :: wsL_law0
abbrev rmX6_waits_ : Room := { frames := 1, cells := 0, slots := 0, locals := 22 }
variable {p : Program} {l : Launch} {e : Env} {s : State} {m : MethodId} {args : Array Value} {below : List Frame} {meth : Method} {c : Code} {D : va_G} {K : Nat → ClassId} {A : Nat → Prop} {aM : Nat → Nat} {z : Int32 × (Rc)}
set_option maxHeartbeats 1000000 in
set_option maxRecDepth 10000 in
theorem wX6_waits__60 (C0 : cx p s m args meth c cX6_waits_ 3 RX6 wsX6_waits_ (some .int) D K) (hA : ∀ q, s.heap.size ≤ q → A q) (M : Rc) (ML : RcL) (h : fX6_waits__60 M ML = some z) (H : Heap) (locs : List Loc) (hP : va_P D vwCl (fl [wModel K aM M ML]) H) (hD : va_D A (fl [wModel K aM M ML])) (hS : va_S A s.heap H locs) (ls : Array Slot) (hl : lv_has ls 3 []) : W p l e rmX6_waits_ s m args below meth c H locs 0 0 (MQ below (qcI D z (fun (u : Rc) => (fl [wModel K aM u ML])) A) args s 0 0 A) (F0 m 60 ls []) := by
  unfold fX6_waits__60 at h
  refine r_iconst C0 (-1 : Int32) dX6_waits__60 (by decide) ?_
  exact r_iret h C0 (fun (u : Rc) => (fl [wModel K aM u ML])) hP hD hS dX6_waits__61
set_option maxHeartbeats 1000000 in
set_option maxRecDepth 10000 in
theorem wX6_waits__0 (C0 : cx p s m args meth c cX6_waits_ 3 RX6 wsX6_waits_ (some .int) D K) (hA : ∀ q, s.heap.size ≤ q → A q) (M : Rc) (ML : RcL) (x1 : Int32) (x2 : Int32) (h : fX6_waits_ M ML x1 x2 = some z) (H : Heap) (locs : List Loc) (hP : va_P D vwCl (fl [wModel K aM M ML]) H) (hD : va_D A (fl [wModel K aM M ML])) (hS : va_S A s.heap H locs) (ls : Array Slot) (hl : lv_has ls 3 [(0, .ref (aM 0)), (1, .int x1), (2, .int x2)]) : W p l e rmX6_waits_ s m args below meth c H locs 0 0 (MQ below (qcI D z (fun (u : Rc) => (fl [wModel K aM u ML])) A) args s 0 0 A) (F0 m 0 ls []) := by
  unfold fX6_waits_ at h
  refine r_aload_n C0 dX6_waits__0 hl 0 rfl ?_
  refine r_iconst C0 (nI 0) dX6_waits__1 (by decide) ?_
  refine r_put (ty := .int) h C0 6 inx6 tyX6 tyX6_ok nmX6 hP hD hS 0 (fun uu => (fl [wModel K aM uu ML])) rfl rfl 0 (by decide) (mc wd6_10) rfl (by decide +kernel) rfl rfl (by simp) rfl dX6_waits__2 (fun M1 H locs h hP hD hS => ?_)
  refine r_iload_n C0 dX6_waits__5 hl 1 rfl ?_
  refine r_iconst C0 (nI 0) dX6_waits__6 (by decide) ?_
  refine r_aload_n C0 dX6_waits__7 hl 0 rfl ?_
  refine r_get C0 6 inx6 hP 0 rfl rfl 11 (by decide) (mc wd5_11) (.ref (aM 12)) rfl dX6_waits__8 ?_
  refine r_iconst C0 (nI 1) dX6_waits__11 (by decide) ?_
  refine r_ialdC C0 hP 2 rfl 1 (by decide) dX6_waits__12 ?_
  refine r_iconst C0 (nI 1) dX6_waits__13 (by decide) ?_
  refine r_isub C0 dX6_waits__14 ?_
  obtain ⟨z2, hz2, h⟩ := bnd_some h
  have hPc : va_P D vwCl [] H := va_P_nil
  refine r_cI (va_runS (As := [.int x1, .int (nI 0), .int ((M1 11 1) - (nI 1))]) (rest := []) C0.1 (ctX6_isIn l D K x1 (nI 0) ((M1 11 1) - (nI 1)) z2 hz2) (va_cwS 3 C0.1.2.2.2.2 (gdS wd17_16 wd17_17 wd1_5 wd17_18) rfl rfl rfl (by decide +kernel) ⟨Nat.le_of_ble_eq_true rfl, Nat.le_of_ble_eq_true rfl⟩) ⟨pcR_blind, pcR_of hPc C0.2.2.2⟩ rfl rfl hl.1 rfl (lv_room (Nat.le_of_ble_eq_true rfl)) dX6_waits__15 ⟨Nat.zero_le _, Nat.zero_le _⟩).run ?_
  refine r_if_eq h C0 60 dX6_waits__18 (by decide) (fun h => ?_) (fun h => ?_)
  · exact wX6_waits__60 C0 hA M1 ML h _ _ hP hD hS _ (lv_sub hl [] rfl)
  · refine r_iload_n C0 dX6_waits__21 hl 2 rfl ?_
    refine r_iconst C0 (nI 0) dX6_waits__22 (by decide) ?_
    refine r_aload_n C0 dX6_waits__23 hl 0 rfl ?_
    refine r_get C0 6 inx6 hP 0 rfl rfl 11 (by decide) (mc wd5_11) (.ref (aM 12)) rfl dX6_waits__24 ?_
    refine r_iload_n C0 dX6_waits__27 hl 1 rfl ?_
    obtain ⟨z3, hz3, h⟩ := bnd_some h
    have hPc := hP.sub (ws' := (fl [wArr K (aM 12) 353 (M1 11)])) [2] rfl
    refine r_cI (va_runS (As := [.ref (aM 12), .int x1]) (rest := [.int (nI 0), .int x2]) C0.1 (ctX6_waiting l D K (aM 12) (M1 11) x1 z3 hz3) (va_cwS 2 C0.1.2.2.2.2 (gdS wd19_12 wd19_13 wd1_5 wd19_14) rfl rfl rfl (by decide +kernel) ⟨Nat.le_of_ble_eq_true rfl, Nat.le_of_ble_eq_true rfl⟩) ⟨pcR_blind, pcR_of hPc C0.2.2.2⟩ rfl rfl hl.1 rfl (lv_room (Nat.le_of_ble_eq_true rfl)) dX6_waits__28 ⟨Nat.zero_le _, Nat.zero_le _⟩).run ?_
    refine r_iconst C0 (nI 1) dX6_waits__31 (by decide) ?_
    refine r_isub C0 dX6_waits__32 ?_
    obtain ⟨z4, hz4, h⟩ := bnd_some h
    have hPc : va_P D vwCl [] H := va_P_nil
    refine r_cI (va_runS (As := [.int x2, .int (nI 0), .int (z3 - (nI 1))]) (rest := []) C0.1 (ctX6_isIn l D K x2 (nI 0) (z3 - (nI 1)) z4 hz4) (va_cwS 3 C0.1.2.2.2.2 (gdS wd17_16 wd17_17 wd1_5 wd17_18) rfl rfl rfl (by decide +kernel) ⟨Nat.le_of_ble_eq_true rfl, Nat.le_of_ble_eq_true rfl⟩) ⟨pcR_blind, pcR_of hPc C0.2.2.2⟩ rfl rfl hl.1 rfl (lv_room (Nat.le_of_ble_eq_true rfl)) dX6_waits__33 ⟨Nat.zero_le _, Nat.zero_le _⟩).run ?_
    refine r_if_eq h C0 60 dX6_waits__36 (by decide) (fun h => ?_) (fun h => ?_)
    · exact wX6_waits__60 C0 hA M1 ML h _ _ hP hD hS _ (lv_sub hl [] rfl)
    · refine r_aload_n C0 dX6_waits__39 hl 0 rfl ?_
      refine r_get C0 6 inx6 hP 0 rfl rfl 11 (by decide) (mc wd5_11) (.ref (aM 12)) rfl dX6_waits__40 ?_
      refine r_bipush C0 (nI 107) dX6_waits__43 (by decide) ?_
      refine r_bipush C0 (nI 41) dX6_waits__45 (by decide) ?_
      refine r_iload_n C0 dX6_waits__47 hl 1 rfl ?_
      refine r_imul C0 dX6_waits__48 ?_
      refine r_iadd C0 dX6_waits__49 ?_
      refine r_iconst C0 (nI 1) dX6_waits__50 (by decide) ?_
      refine r_iadd C0 dX6_waits__51 ?_
      refine r_iconst C0 (nI 2) dX6_waits__52 (by decide) ?_
      refine r_iload_n C0 dX6_waits__53 hl 2 rfl ?_
      refine r_imul C0 dX6_waits__54 ?_
      refine r_iadd C0 dX6_waits__55 ?_
      refine r_iald h C0 hP 2 rfl dX6_waits__56 (fun h => ?_)
      refine r_goto C0 61 dX6_waits__57 (by decide) ?_
      exact r_iret h C0 (fun (u : Rc) => (fl [wModel K aM u ML])) hP hD hS dX6_waits__61
set_option maxHeartbeats 1000000 in
set_option maxRecDepth 10000 in
theorem ctX6_waits_ (l : Launch) (D : va_G) (K : Nat → ClassId) (aM : Nat → Nat) (M : Rc) (ML : RcL) (p1 : Int32) (p2 : Int32) (sz : Nat) (z : Int32 × (Rc)) (hz : fX6_waits_ M ML p1 p2 = some z) : Met l yX6_waits_ wsX6_waits_ rmX6_waits_ (pcW D K [.ref (aM 0), .int p1, .int p2] (fl [wModel K aM M ML]) sz) (qcI D z (fun (u : Rc) => (fl [wModel K aM u ML])) (va_A (fl [wModel K aM M ML]) sz)) 0 0 (va_A (fl [wModel K aM M ML]) sz) := by
  refine Met.ofW (cc := cX6_waits_) (maxL := 3) (ret := (some .int)) (by decide) rfl ?_
  intro p e s m args below meth c s₁ B hml hv
  obtain ⟨rfl, hsz, hP, hK, hD0⟩ := hv
  subst hsz
  have C0 : cx p s m _ meth c cX6_waits_ 3 RX6 wsX6_waits_ (some .int) D K := ⟨⟨B.exec, B.bytes, hml, findClass_of_methodNamed B.named, atoms_spec (ws := wsX6_waits_) B.pre⟩, B.returns, B.notSynchronized, hK⟩
  have hD := hD0.self (sz := s.heap.size)
  generalize hAe : va_A (fl [wModel K aM M ML]) s.heap.size = A at hD ⊢
  have hA : ∀ q : Nat, s.heap.size ≤ q → A q := fun q h => by rw [← hAe]; exact Or.inr h
  have hl := lv_entry ([.ref (aM 0), .int p1, .int p2]) (n := 3) (Nat.le_of_ble_eq_true rfl)
  rw [lg_entry_eq]
  generalize (lg_sl ([.ref (aM 0), .int p1, .int p2]) ++ List.replicate (3 - (lg_sl ([.ref (aM 0), .int p1, .int p2])).length) Slot.unset).toArray = ls at hl ⊢
  have hl : lv_has ls 3 [(0, .ref (aM 0)), (1, .int p1), (2, .int p2)] := hl
  exact wX6_waits__0 C0 hA M ML p1 p2 hz s.heap [] hP hD va_S.rf ls (lv_sub hl [0, 1, 2] rfl)
end SX6_waits_

section SX6_loop
/-! CardLoopsModel.loop(II)I -/
abbrev wsX6_loop : List Cond := Cond.code yX6_loop cX6_loop 3 (some .int) :: wsL_law0
abbrev rmX6_loop : Room := { frames := 2, cells := 0, slots := 0, locals := 43 }
variable {p : Program} {l : Launch} {e : Env} {s : State} {m : MethodId} {args : Array Value} {below : List Frame} {meth : Method} {c : Code} {D : va_G} {K : Nat → ClassId} {A : Nat → Prop} {aM : Nat → Nat} {z : Int32 × (Rc)}
set_option maxHeartbeats 1000000 in
set_option maxRecDepth 10000 in
theorem wX6_loop_38 (C0 : cx p s m args meth c cX6_loop 3 RX6 wsX6_loop (some .int) D K) (hA : ∀ q, s.heap.size ≤ q → A q) (M : Rc) (ML : RcL) (h : fX6_loop_38 M ML = some z) (H : Heap) (locs : List Loc) (hP : va_P D vwCl (fl [wModel K aM M ML]) H) (hD : va_D A (fl [wModel K aM M ML])) (hS : va_S A s.heap H locs) (ls : Array Slot) (hl : lv_has ls 3 []) : W p l e rmX6_loop s m args below meth c H locs 0 0 (MQ below (qcI D z (fun (u : Rc) => (fl [wModel K aM u ML])) A) args s 0 0 A) (F0 m 38 ls []) := by
  unfold fX6_loop_38 at h
  refine r_iconst C0 (-1 : Int32) dX6_loop_38 (by decide) ?_
  exact r_iret h C0 (fun (u : Rc) => (fl [wModel K aM u ML])) hP hD hS dX6_loop_39
set_option maxHeartbeats 1000000 in
set_option maxRecDepth 10000 in
theorem wX6_loop_0 (C0 : cx p s m args meth c cX6_loop 3 RX6 wsX6_loop (some .int) D K) (hA : ∀ q, s.heap.size ≤ q → A q) (M : Rc) (ML : RcL) (x1 : Int32) (x2 : Int32) (h : fX6_loop M ML x1 x2 = some z) (H : Heap) (locs : List Loc) (hP : va_P D vwCl (fl [wModel K aM M ML]) H) (hD : va_D A (fl [wModel K aM M ML])) (hS : va_S A s.heap H locs) (ls : Array Slot) (hl : lv_has ls 3 [(0, .ref (aM 0)), (1, .int x1), (2, .int x2)]) : W p l e rmX6_loop s m args below meth c H locs 0 0 (MQ below (qcI D z (fun (u : Rc) => (fl [wModel K aM u ML])) A) args s 0 0 A) (F0 m 0 ls []) := by
  unfold fX6_loop at h
  refine r_aload_n C0 dX6_loop_0 hl 0 rfl ?_
  refine r_iconst C0 (nI 0) dX6_loop_1 (by decide) ?_
  refine r_put (ty := .int) h C0 6 inx6 tyX6 tyX6_ok nmX6 hP hD hS 0 (fun uu => (fl [wModel K aM uu ML])) rfl rfl 0 (by decide) (mc wd6_10) rfl (by decide +kernel) rfl rfl (by simp) rfl dX6_loop_2 (fun M1 H locs h hP hD hS => ?_)
  refine r_aload_n C0 dX6_loop_5 hl 0 rfl ?_
  refine r_iload_n C0 dX6_loop_6 hl 1 rfl ?_
  obtain ⟨z2, hz2, h⟩ := bnd_some h
  have hPc := vaP_sel (Wc := [wModel K aM M1 ML]) hP [0] rfl
  refine r_cI (va_runV (As := [.int x1]) (rest := []) C0.1 (ctX6_isLoop l D K aM M1 ML x1 z2 hz2) (cwV 1 C0.1.2.2.2.2 (gdV wd24_10 wd24_11 wd24_12 wd1_5 wd24_13) rfl rfl rfl (by decide +kernel) ⟨Nat.le_of_ble_eq_true rfl, Nat.le_of_ble_eq_true rfl⟩) ⟨pcR_blind, va_recv C0.2.2.2.1 hPc (ci := 6) (q0 := 0) rfl rfl, pcR_of hPc C0.2.2.2⟩ rfl rfl hl.1 rfl (lv_room (Nat.le_of_ble_eq_true rfl)) dX6_loop_7 ⟨Nat.zero_le _, Nat.zero_le _⟩).run ?_
  refine r_if_eq h C0 38 dX6_loop_10 (by decide) (fun h => ?_) (fun h => ?_)
  · exact wX6_loop_38 C0 hA M1 ML h _ _ hP hD hS _ (lv_sub hl [] rfl)
  · refine r_iload_n C0 dX6_loop_13 hl 2 rfl ?_
    refine r_iconst C0 (nI 0) dX6_loop_14 (by decide) ?_
    refine r_iconst C0 (nI 3) dX6_loop_15 (by decide) ?_
    obtain ⟨z3, hz3, h⟩ := bnd_some h
    have hPc : va_P D vwCl [] H := va_P_nil
    refine r_cI (va_runS (As := [.int x2, .int (nI 0), .int (nI 3)]) (rest := []) C0.1 (ctX6_isIn l D K x2 (nI 0) (nI 3) z3 hz3) (va_cwS 3 C0.1.2.2.2.2 (gdS wd17_16 wd17_17 wd1_5 wd17_18) rfl rfl rfl (by decide +kernel) ⟨Nat.le_of_ble_eq_true rfl, Nat.le_of_ble_eq_true rfl⟩) ⟨pcR_blind, pcR_of hPc C0.2.2.2⟩ rfl rfl hl.1 rfl (lv_room (Nat.le_of_ble_eq_true rfl)) dX6_loop_16 ⟨Nat.zero_le _, Nat.zero_le _⟩).run ?_
    refine r_if_eq h C0 38 dX6_loop_19 (by decide) (fun h => ?_) (fun h => ?_)
    · exact wX6_loop_38 C0 hA M1 ML h _ _ hP hD hS _ (lv_sub hl [] rfl)
    · refine r_aload_n C0 dX6_loop_22 hl 0 rfl ?_
      refine r_get C0 6 inx6 hP 0 rfl rfl 11 (by decide) (mc wd5_11) (.ref (aM 12)) rfl dX6_loop_23 ?_
      refine r_bipush C0 (nI 15) dX6_loop_26 (by decide) ?_
      refine r_iconst C0 (nI 4) dX6_loop_28 (by decide) ?_
      refine r_iload_n C0 dX6_loop_29 hl 1 rfl ?_
      refine r_imul C0 dX6_loop_30 ?_
      refine r_iadd C0 dX6_loop_31 ?_
      refine r_iload_n C0 dX6_loop_32 hl 2 rfl ?_
      refine r_iadd C0 dX6_loop_33 ?_
      refine r_iald h C0 hP 2 rfl dX6_loop_34 (fun h => ?_)
      refine r_goto C0 39 dX6_loop_35 (by decide) ?_
      exact r_iret h C0 (fun (u : Rc) => (fl [wModel K aM u ML])) hP hD hS dX6_loop_39
set_option maxHeartbeats 1000000 in
set_option maxRecDepth 10000 in
theorem ctX6_loop (l : Launch) (D : va_G) (K : Nat → ClassId) (aM : Nat → Nat) (M : Rc) (ML : RcL) (p1 : Int32) (p2 : Int32) (sz : Nat) (z : Int32 × (Rc)) (hz : fX6_loop M ML p1 p2 = some z) : Met l yX6_loop wsX6_loop rmX6_loop (pcW D K [.ref (aM 0), .int p1, .int p2] (fl [wModel K aM M ML]) sz) (qcI D z (fun (u : Rc) => (fl [wModel K aM u ML])) (va_A (fl [wModel K aM M ML]) sz)) 0 0 (va_A (fl [wModel K aM M ML]) sz) := by
  refine Met.ofW (cc := cX6_loop) (maxL := 3) (ret := (some .int)) (by decide) rfl ?_
  intro p e s m args below meth c s₁ B hml hv
  obtain ⟨rfl, hsz, hP, hK, hD0⟩ := hv
  subst hsz
  have C0 : cx p s m _ meth c cX6_loop 3 RX6 wsX6_loop (some .int) D K := ⟨⟨B.exec, B.bytes, hml, findClass_of_methodNamed B.named, atoms_spec (ws := wsX6_loop) B.pre⟩, B.returns, B.notSynchronized, hK⟩
  have hD := hD0.self (sz := s.heap.size)
  generalize hAe : va_A (fl [wModel K aM M ML]) s.heap.size = A at hD ⊢
  have hA : ∀ q : Nat, s.heap.size ≤ q → A q := fun q h => by rw [← hAe]; exact Or.inr h
  have hl := lv_entry ([.ref (aM 0), .int p1, .int p2]) (n := 3) (Nat.le_of_ble_eq_true rfl)
  rw [lg_entry_eq]
  generalize (lg_sl ([.ref (aM 0), .int p1, .int p2]) ++ List.replicate (3 - (lg_sl ([.ref (aM 0), .int p1, .int p2])).length) Slot.unset).toArray = ls at hl ⊢
  have hl : lv_has ls 3 [(0, .ref (aM 0)), (1, .int p1), (2, .int p2)] := hl
  exact wX6_loop_0 C0 hA M ML p1 p2 hz s.heap [] hP hD va_S.rf ls (lv_sub hl [0, 1, 2] rfl)
end SX6_loop

section SX6_next
/-! CardLoopsModel.next(I)I -/
abbrev wsX6_next : List Cond := Cond.code yX6_next cX6_next 2 (some .int) :: wsL_law0
abbrev rmX6_next : Room := { frames := 2, cells := 0, slots := 0, locals := 45 }
variable {p : Program} {l : Launch} {e : Env} {s : State} {m : MethodId} {args : Array Value} {below : List Frame} {meth : Method} {c : Code} {D : va_G} {K : Nat → ClassId} {A : Nat → Prop} {N : Nat} {aM : Nat → Nat} {z : Int32 × (Rc)}
set_option maxHeartbeats 1000000 in
set_option maxRecDepth 10000 in
theorem wX6_next_42 (C0 : cx p s m args meth c cX6_next 2 RX6 wsX6_next (some .int) D K) (hA : ∀ q, s.heap.size ≤ q → A q) (M : Rc) (ML : RcL) (h : fX6_next_42 N M ML = some z) (H : Heap) (locs : List Loc) (hP : va_P D vwCl (fl [wModel K aM M ML]) H) (hD : va_D A (fl [wModel K aM M ML])) (hS : va_S A s.heap H locs) (ls : Array Slot) (hl : lv_has ls 2 []) : W p l e rmX6_next s m args below meth c H locs 0 0 (MQ below (qcI D z (fun (u : Rc) => (fl [wModel K aM u ML])) A) args s 0 0 A) (F0 m 42 ls []) := by
  unfold fX6_next_42 at h
  refine r_iconst C0 (-1 : Int32) dX6_next_42 (by decide) ?_
  exact r_iret h C0 (fun (u : Rc) => (fl [wModel K aM u ML])) hP hD hS dX6_next_43
set_option maxHeartbeats 1000000 in
set_option maxRecDepth 10000 in
theorem wX6_next_0 (C0 : cx p s m args meth c cX6_next 2 RX6 wsX6_next (some .int) D K) (hA : ∀ q, s.heap.size ≤ q → A q) (M : Rc) (ML : RcL) (x1 : Int32) (h : fX6_next N M ML x1 = some z) (H : Heap) (locs : List Loc) (hP : va_P D vwCl (fl [wModel K aM M ML]) H) (hD : va_D A (fl [wModel K aM M ML])) (hS : va_S A s.heap H locs) (ls : Array Slot) (hl : lv_has ls 2 [(0, .ref (aM 0)), (1, .int x1)]) : W p l e rmX6_next s m args below meth c H locs 0 0 (MQ below (qcI D z (fun (u : Rc) => (fl [wModel K aM u ML])) A) args s 0 0 A) (F0 m 0 ls []) := by
  unfold fX6_next at h
  refine r_aload_n C0 dX6_next_0 hl 0 rfl ?_
  refine r_iconst C0 (nI 0) dX6_next_1 (by decide) ?_
  refine r_put (ty := .int) h C0 6 inx6 tyX6 tyX6_ok nmX6 hP hD hS 0 (fun uu => (fl [wModel K aM uu ML])) rfl rfl 0 (by decide) (mc wd6_10) rfl (by decide +kernel) rfl rfl (by simp) rfl dX6_next_2 (fun M1 H locs h hP hD hS => ?_)
  refine r_aload_n C0 dX6_next_5 hl 0 rfl ?_
  obtain ⟨z2, hz2, h⟩ := bnd_some h
  have hPc := vaP_sel (Wc := [wModel K aM M1 ML]) hP [0] rfl
  refine r_cI (va_runV (As := []) (rest := []) C0.1 (ctX6_isThere l D K aM M1 ML z2 hz2) (cwV 0 C0.1.2.2.2.2 (gdV wd25_2 wd25_3 wd25_4 wd1_5 wd25_5) rfl rfl rfl (by decide +kernel) ⟨Nat.le_of_ble_eq_true rfl, Nat.le_of_ble_eq_true rfl⟩) ⟨pcR_blind, va_recv C0.2.2.2.1 hPc (ci := 6) (q0 := 0) rfl rfl, pcR_of hPc C0.2.2.2⟩ rfl rfl hl.1 rfl (lv_room (Nat.le_of_ble_eq_true rfl)) dX6_next_6 ⟨Nat.zero_le _, Nat.zero_le _⟩).run ?_
  refine r_if_eq h C0 42 dX6_next_9 (by decide) (fun h => ?_) (fun h => ?_)
  · exact wX6_next_42 C0 hA M1 ML h _ _ hP hD hS _ (lv_sub hl [] rfl)
  · refine r_iload_n C0 dX6_next_12 hl 1 rfl ?_
    refine r_iconst C0 (nI 0) dX6_next_13 (by decide) ?_
    refine r_sipush C0 (nI 999) dX6_next_14 (by decide) ?_
    obtain ⟨z3, hz3, h⟩ := bnd_some h
    have hPc : va_P D vwCl [] H := va_P_nil
    refine r_cI (va_runS (As := [.int x1, .int (nI 0), .int (nI 999)]) (rest := []) C0.1 (ctX6_isIn l D K x1 (nI 0) (nI 999) z3 hz3) (va_cwS 3 C0.1.2.2.2.2 (gdS wd17_16 wd17_17 wd1_5 wd17_18) rfl rfl rfl (by decide +kernel) ⟨Nat.le_of_ble_eq_true rfl, Nat.le_of_ble_eq_true rfl⟩) ⟨pcR_blind, pcR_of hPc C0.2.2.2⟩ rfl rfl hl.1 rfl (lv_room (Nat.le_of_ble_eq_true rfl)) dX6_next_17 ⟨Nat.zero_le _, Nat.zero_le _⟩).run ?_
    refine r_if_eq h C0 42 dX6_next_20 (by decide) (fun h => ?_) (fun h => ?_)
    · exact wX6_next_42 C0 hA M1 ML h _ _ hP hD hS _ (lv_sub hl [] rfl)
    · refine r_aload_n C0 dX6_next_23 hl 0 rfl ?_
      refine r_get C0 6 inx6 hP 0 rfl rfl 11 (by decide) (mc wd5_11) (.ref (aM 12)) rfl dX6_next_24 ?_
      refine r_aload_n C0 dX6_next_27 hl 0 rfl ?_
      refine r_get C0 6 inx6 hP 0 rfl rfl 11 (by decide) (mc wd5_11) (.ref (aM 12)) rfl dX6_next_28 ?_
      refine r_bipush C0 (nI 50) dX6_next_31 (by decide) ?_
      refine r_ialdC C0 hP 2 rfl 50 (by decide) dX6_next_33 ?_
      refine r_iload_n C0 dX6_next_34 hl 1 rfl ?_
      refine r_iadd C0 dX6_next_35 ?_
      obtain ⟨z4, hz4, h⟩ := bnd_some h
      have hPc := hP.sub (ws' := (fl [wArr K (aM 12) 353 (M1 11)])) [2] rfl
      refine r_cI (va_runS (As := [.ref (aM 12), .int ((M1 11 50) + x1)]) (rest := []) C0.1 (ctX6_kindOf l D K N (aM 12) (M1 11) ((M1 11 50) + x1) z4 hz4) (va_cwS 2 C0.1.2.2.2.2 (gdS wd19_18 wd19_19 wd1_5 wd19_20) rfl rfl rfl (by decide +kernel) ⟨Nat.le_of_ble_eq_true rfl, Nat.le_of_ble_eq_true rfl⟩) ⟨pcR_blind, pcR_of hPc C0.2.2.2⟩ rfl rfl hl.1 rfl (lv_room (Nat.le_of_ble_eq_true rfl)) dX6_next_36 ⟨Nat.zero_le _, Nat.zero_le _⟩).run ?_
      refine r_goto C0 43 dX6_next_39 (by decide) ?_
      exact r_iret h C0 (fun (u : Rc) => (fl [wModel K aM u ML])) hP hD hS dX6_next_43
set_option maxHeartbeats 1000000 in
set_option maxRecDepth 10000 in
theorem ctX6_next (l : Launch) (D : va_G) (K : Nat → ClassId) (N : Nat) (aM : Nat → Nat) (M : Rc) (ML : RcL) (p1 : Int32) (sz : Nat) (z : Int32 × (Rc)) (hz : fX6_next N M ML p1 = some z) : Met l yX6_next wsX6_next rmX6_next (pcW D K [.ref (aM 0), .int p1] (fl [wModel K aM M ML]) sz) (qcI D z (fun (u : Rc) => (fl [wModel K aM u ML])) (va_A (fl [wModel K aM M ML]) sz)) 0 0 (va_A (fl [wModel K aM M ML]) sz) := by
  refine Met.ofW (cc := cX6_next) (maxL := 2) (ret := (some .int)) (by decide) rfl ?_
  intro p e s m args below meth c s₁ B hml hv
  obtain ⟨rfl, hsz, hP, hK, hD0⟩ := hv
  subst hsz
  have C0 : cx p s m _ meth c cX6_next 2 RX6 wsX6_next (some .int) D K := ⟨⟨B.exec, B.bytes, hml, findClass_of_methodNamed B.named, atoms_spec (ws := wsX6_next) B.pre⟩, B.returns, B.notSynchronized, hK⟩
  have hD := hD0.self (sz := s.heap.size)
  generalize hAe : va_A (fl [wModel K aM M ML]) s.heap.size = A at hD ⊢
  have hA : ∀ q : Nat, s.heap.size ≤ q → A q := fun q h => by rw [← hAe]; exact Or.inr h
  have hl := lv_entry ([.ref (aM 0), .int p1]) (n := 2) (Nat.le_of_ble_eq_true rfl)
  rw [lg_entry_eq]
  generalize (lg_sl ([.ref (aM 0), .int p1]) ++ List.replicate (2 - (lg_sl ([.ref (aM 0), .int p1])).length) Slot.unset).toArray = ls at hl ⊢
  have hl : lv_has ls 2 [(0, .ref (aM 0)), (1, .int p1)] := hl
  exact wX6_next_0 C0 hA M ML p1 hz s.heap [] hP hD va_S.rf ls (lv_sub hl [0, 1] rfl)
end SX6_next

section SX6_when
/-! CardLoopsModel.when(II)I -/
abbrev wsX6_when : List Cond := Cond.code yX6_when cX6_when 3 (some .int) :: wsL_law0
abbrev rmX6_when : Room := { frames := 5, cells := 0, slots := 0, locals := 112 }
variable {p : Program} {l : Launch} {e : Env} {s : State} {m : MethodId} {args : Array Value} {below : List Frame} {meth : Method} {c : Code} {D : va_G} {K : Nat → ClassId} {A : Nat → Prop} {N : Nat} {aM : Nat → Nat} {z : Int32 × (Rc)}
def IX6_when_47 (p : Program) (l : Launch) (e : Env) (s : State) (m : MethodId) (args : Array Value) (below : List Frame) (meth : Method) (c : Code) (D : va_G) (K : Nat → ClassId) (aM : Nat → Nat) (A : Nat → Prop) (z : Int32 × (Rc)) (k : Rc → RcL → Int32 → Int32 → Option (Int32 × (Rc))) : Prop := ∀ (M : Rc) (ML : RcL) (x1 : Int32) (x2 : Int32) (H : Heap) (locs : List Loc) (ls : Array Slot), k M ML x1 x2 = some z → va_P D vwCl (fl [wModel K aM M ML]) H → va_D A (fl [wModel K aM M ML]) → va_S A s.heap H locs → lv_has ls 3 [(0, .ref (aM 0)), (1, .int x1), (2, .int x2)] → W p l e rmX6_when s m args below meth c H locs 0 0 (MQ below (qcI D z (fun (u : Rc) => (fl [wModel K aM u ML])) A) args s 0 0 A) (F0 m 47 ls [])
set_option maxHeartbeats 1000000 in
set_option maxRecDepth 10000 in
theorem wX6_when_47 (C0 : cx p s m args meth c cX6_when 3 RX6 wsX6_when (some .int) D K) (hA : ∀ q, s.heap.size ≤ q → A q) {k47 : Rc → RcL → Int32 → Int32 → Option (Int32 × (Rc))} (hk47 : IX6_when_47 p l e s m args below meth c D K aM A z k47) (M : Rc) (ML : RcL) (x1 : Int32) (x2 : Int32) (h : fX6_when_47b N k47 M ML x1 x2 = some z) (H : Heap) (locs : List Loc) (hP : va_P D vwCl (fl [wModel K aM M ML]) H) (hD : va_D A (fl [wModel K aM M ML])) (hS : va_S A s.heap H locs) (ls : Array Slot) (hl : lv_has ls 3 [(0, .ref (aM 0)), (1, .int x1), (2, .int x2)]) : W p l e rmX6_when s m args below meth c H locs 0 0 (MQ below (qcI D z (fun (u : Rc) => (fl [wModel K aM u ML])) A) args s 0 0 A) (F0 m 47 ls []) := by
  unfold fX6_when_47b at h
  refine r_aload_n C0 dX6_when_47 hl 0 rfl ?_
  refine r_get C0 6 inx6 hP 0 rfl rfl 13 (by decide) (mc wd5_13) (.ref (aM 14)) rfl dX6_when_48 ?_
  refine r_bipush C0 (nI 49) dX6_when_51 (by decide) ?_
  refine r_ialdC C0 hP 4 rfl 49 (by decide) dX6_when_53 ?_
  refine r_aload_n C0 dX6_when_54 hl 0 rfl ?_
  refine r_get C0 6 inx6 hP 0 rfl rfl 11 (by decide) (mc wd5_11) (.ref (aM 12)) rfl dX6_when_55 ?_
  refine r_bipush C0 (nI 49) dX6_when_58 (by decide) ?_
  refine r_ialdC C0 hP 2 rfl 49 (by decide) dX6_when_60 ?_
  refine r_iload_n C0 dX6_when_61 hl 1 rfl ?_
  refine r_iadd C0 dX6_when_62 ?_
  refine r_icmp_ge h C0 77 dX6_when_63 (by decide) (fun h => ?_) (fun h => ?_)
  · refine r_iload_n C0 dX6_when_77 hl 2 rfl ?_
    refine r_if_ne h C0 91 dX6_when_78 (by decide) (fun h => ?_) (fun h => ?_)
    · refine r_aload_n C0 dX6_when_91 hl 0 rfl ?_
      refine r_get C0 6 inx6 hP 0 rfl rfl 13 (by decide) (mc wd5_13) (.ref (aM 14)) rfl dX6_when_92 ?_
      refine r_bipush C0 (nI 51) dX6_when_95 (by decide) ?_
      refine r_ialdC C0 hP 4 rfl 51 (by decide) dX6_when_97 ?_
      exact r_iret h C0 (fun (u : Rc) => (fl [wModel K aM u ML])) hP hD hS dX6_when_98
    · refine r_aload_n C0 dX6_when_81 hl 0 rfl ?_
      refine r_get C0 6 inx6 hP 0 rfl rfl 13 (by decide) (mc wd5_13) (.ref (aM 14)) rfl dX6_when_82 ?_
      refine r_bipush C0 (nI 48) dX6_when_85 (by decide) ?_
      refine r_ialdC C0 hP 4 rfl 48 (by decide) dX6_when_87 ?_
      refine r_goto C0 98 dX6_when_88 (by decide) ?_
      exact r_iret h C0 (fun (u : Rc) => (fl [wModel K aM u ML])) hP hD hS dX6_when_98
  · refine r_aload_n C0 dX6_when_66 hl 0 rfl ?_
    refine r_get C0 6 inx6 hP 0 rfl rfl 13 (by decide) (mc wd5_13) (.ref (aM 14)) rfl dX6_when_67 ?_
    obtain ⟨z1, hz1, h⟩ := bnd_some h
    refine r_callI (wc := (fl [wArr K (aM 14) 353 (M 13)])) (wf := fun (u : (Nat → Int32)) => (fl [wArr K (aM 14) 353 u])) (wn := (fl [wModel K aM (va_up M 13 z1.2) ML])) hP hD hS hA [4] [0, 1, 2, 3, 5, 6, 7, 8] [0, 1, 2, 3, 8, 4, 5, 6, 7] rfl (by decide) rfl (by decide) (by decide) rfl (by decide) (fun hPc hDc => va_runS (As := [.ref (aM 14)]) (rest := []) C0.1 (ctX6_steps l D K N (aM 14) (M 13) H.size z1 hz1) (va_cwS 1 C0.1.2.2.2.2 (gdS wd26_4 wd26_5 wd1_5 wd26_6) rfl rfl rfl (by decide +kernel) ⟨Nat.le_of_ble_eq_true rfl, Nat.le_of_ble_eq_true rfl⟩) ⟨pcW_blind, pcW_of hPc hDc C0.2.2.2⟩ rfl rfl hl.1 rfl (lv_room (Nat.le_of_ble_eq_true rfl)) dX6_when_70 ⟨Nat.zero_le _, Nat.zero_le _⟩) (fun H locs hP hD hS => ?_)
    refine nm_w h (fun uu => (fl [wModel K aM uu ML])) hP hD (fun M2 h hP hD => ?_)
    refine r_pop C0 dX6_when_73 rfl ?_
    refine r_goto C0 47 dX6_when_74 (by decide) ?_
    exact hk47 M2 ML x1 x2 _ _ _ h hP hD hS (lv_sub hl [0, 1, 2] rfl)
theorem wX6_when_47L (C0 : cx p s m args meth c cX6_when 3 RX6 wsX6_when (some .int) D K) (hA : ∀ q, s.heap.size ≤ q → A q) : IX6_when_47 p l e s m args below meth c D K aM A z (fX6_when_47 N) := by
  refine itn_ind (IX6_when_47 p l e s m args below meth c D K aM A z) ?_ ?_ N
  · intro _ _ _ _ _ _ _ h; cases h
  · intro k47 hk47 M ML x1 x2 H locs ls h hP hD hS hl
    exact wX6_when_47 C0 hA hk47 M ML x1 x2 h H locs hP hD hS ls hl
set_option maxHeartbeats 1000000 in
set_option maxRecDepth 10000 in
theorem wX6_when_32 (C0 : cx p s m args meth c cX6_when 3 RX6 wsX6_when (some .int) D K) (hA : ∀ q, s.heap.size ≤ q → A q) (M : Rc) (ML : RcL) (h : fX6_when_32 N M ML = some z) (H : Heap) (locs : List Loc) (hP : va_P D vwCl (fl [wModel K aM M ML]) H) (hD : va_D A (fl [wModel K aM M ML])) (hS : va_S A s.heap H locs) (ls : Array Slot) (hl : lv_has ls 3 []) : W p l e rmX6_when s m args below meth c H locs 0 0 (MQ below (qcI D z (fun (u : Rc) => (fl [wModel K aM u ML])) A) args s 0 0 A) (F0 m 32 ls []) := by
  unfold fX6_when_32 at h
  refine r_iconst C0 (-1 : Int32) dX6_when_32 (by decide) ?_
  exact r_iret h C0 (fun (u : Rc) => (fl [wModel K aM u ML])) hP hD hS dX6_when_33
set_option maxHeartbeats 1000000 in
set_option maxRecDepth 10000 in
theorem wX6_when_0 (C0 : cx p s m args meth c cX6_when 3 RX6 wsX6_when (some .int) D K) (hA : ∀ q, s.heap.size ≤ q → A q) (M : Rc) (ML : RcL) (x1 : Int32) (x2 : Int32) (h : fX6_when N M ML x1 x2 = some z) (H : Heap) (locs : List Loc) (hP : va_P D vwCl (fl [wModel K aM M ML]) H) (hD : va_D A (fl [wModel K aM M ML])) (hS : va_S A s.heap H locs) (ls : Array Slot) (hl : lv_has ls 3 [(0, .ref (aM 0)), (1, .int x1), (2, .int x2)]) : W p l e rmX6_when s m args below meth c H locs 0 0 (MQ below (qcI D z (fun (u : Rc) => (fl [wModel K aM u ML])) A) args s 0 0 A) (F0 m 0 ls []) := by
  unfold fX6_when at h
  refine r_aload_n C0 dX6_when_0 hl 0 rfl ?_
  refine r_iconst C0 (nI 0) dX6_when_1 (by decide) ?_
  refine r_put (ty := .int) h C0 6 inx6 tyX6 tyX6_ok nmX6 hP hD hS 0 (fun uu => (fl [wModel K aM uu ML])) rfl rfl 0 (by decide) (mc wd6_10) rfl (by decide +kernel) rfl rfl (by simp) rfl dX6_when_2 (fun M1 H locs h hP hD hS => ?_)
  refine r_aload_n C0 dX6_when_5 hl 0 rfl ?_
  obtain ⟨z2, hz2, h⟩ := bnd_some h
  have hPc := vaP_sel (Wc := [wModel K aM M1 ML]) hP [0] rfl
  refine r_cI (va_runV (As := []) (rest := []) C0.1 (ctX6_isThere l D K aM M1 ML z2 hz2) (cwV 0 C0.1.2.2.2.2 (gdV wd25_2 wd25_3 wd25_4 wd1_5 wd25_5) rfl rfl rfl (by decide +kernel) ⟨Nat.le_of_ble_eq_true rfl, Nat.le_of_ble_eq_true rfl⟩) ⟨pcR_blind, va_recv C0.2.2.2.1 hPc (ci := 6) (q0 := 0) rfl rfl, pcR_of hPc C0.2.2.2⟩ rfl rfl hl.1 rfl (lv_room (Nat.le_of_ble_eq_true rfl)) dX6_when_6 ⟨Nat.zero_le _, Nat.zero_le _⟩).run ?_
  refine r_if_eq h C0 32 dX6_when_9 (by decide) (fun h => ?_) (fun h => ?_)
  · exact wX6_when_32 C0 hA M1 ML h _ _ hP hD hS _ (lv_sub hl [] rfl)
  · refine r_iload_n C0 dX6_when_12 hl 1 rfl ?_
    refine r_iconst C0 (nI 1) dX6_when_13 (by decide) ?_
    refine r_sipush C0 (nI 200) dX6_when_14 (by decide) ?_
    obtain ⟨z3, hz3, h⟩ := bnd_some h
    have hPc : va_P D vwCl [] H := va_P_nil
    refine r_cI (va_runS (As := [.int x1, .int (nI 1), .int (nI 200)]) (rest := []) C0.1 (ctX6_isIn l D K x1 (nI 1) (nI 200) z3 hz3) (va_cwS 3 C0.1.2.2.2.2 (gdS wd17_16 wd17_17 wd1_5 wd17_18) rfl rfl rfl (by decide +kernel) ⟨Nat.le_of_ble_eq_true rfl, Nat.le_of_ble_eq_true rfl⟩) ⟨pcR_blind, pcR_of hPc C0.2.2.2⟩ rfl rfl hl.1 rfl (lv_room (Nat.le_of_ble_eq_true rfl)) dX6_when_17 ⟨Nat.zero_le _, Nat.zero_le _⟩).run ?_
    refine r_if_eq h C0 32 dX6_when_20 (by decide) (fun h => ?_) (fun h => ?_)
    · exact wX6_when_32 C0 hA M1 ML h _ _ hP hD hS _ (lv_sub hl [] rfl)
    · refine r_iload_n C0 dX6_when_23 hl 2 rfl ?_
      refine r_iconst C0 (nI 0) dX6_when_24 (by decide) ?_
      refine r_iconst C0 (nI 1) dX6_when_25 (by decide) ?_
      obtain ⟨z4, hz4, h⟩ := bnd_some h
      have hPc : va_P D vwCl [] H := va_P_nil
      refine r_cI (va_runS (As := [.int x2, .int (nI 0), .int (nI 1)]) (rest := []) C0.1 (ctX6_isIn l D K x2 (nI 0) (nI 1) z4 hz4) (va_cwS 3 C0.1.2.2.2.2 (gdS wd17_16 wd17_17 wd1_5 wd17_18) rfl rfl rfl (by decide +kernel) ⟨Nat.le_of_ble_eq_true rfl, Nat.le_of_ble_eq_true rfl⟩) ⟨pcR_blind, pcR_of hPc C0.2.2.2⟩ rfl rfl hl.1 rfl (lv_room (Nat.le_of_ble_eq_true rfl)) dX6_when_26 ⟨Nat.zero_le _, Nat.zero_le _⟩).run ?_
      refine r_if_ne h C0 34 dX6_when_29 (by decide) (fun h => ?_) (fun h => ?_)
      · refine r_aload_n C0 dX6_when_34 hl 0 rfl ?_
        refine r_get C0 6 inx6 hP 0 rfl rfl 11 (by decide) (mc wd5_11) (.ref (aM 12)) rfl dX6_when_35 ?_
        refine r_iconst C0 (nI 0) dX6_when_38 (by decide) ?_
        refine r_aload_n C0 dX6_when_39 hl 0 rfl ?_
        refine r_get C0 6 inx6 hP 0 rfl rfl 13 (by decide) (mc wd5_13) (.ref (aM 14)) rfl dX6_when_40 ?_
        refine r_iconst C0 (nI 0) dX6_when_43 (by decide) ?_
        obtain ⟨z5, hz5, h⟩ := bnd_some h
        refine r_callV (wc := (fl [wArr K (aM 12) 353 (M1 11), wArr K (aM 14) 353 (M1 13)])) (wf := fun (u : (Nat → Int32)) => (fl [wArr K (aM 12) 353 (M1 11), wArr K (aM 14) 353 u])) (wn := (fl [wModel K aM (va_up M1 13 z5) ML])) hP hD hS hA [2, 4] [0, 1, 3, 5, 6, 7, 8] [0, 1, 7, 2, 8, 3, 4, 5, 6] rfl (by decide) rfl (by decide) (by decide) rfl (by decide) (fun hPc hDc => va_runS (As := [.ref (aM 12), .int (nI 0), .ref (aM 14), .int (nI 0)]) (rest := []) C0.1 (ctX6_copy l D K 353 353 N (aM 12) (aM 14) (M1 11) (M1 13) (nI 0) (nI 0) H.size z5 hz5) (va_cwS 4 C0.1.2.2.2.2 (gdS wd20_0 wd20_1 wd1_5 wd20_2) rfl rfl rfl (by decide +kernel) ⟨Nat.le_of_ble_eq_true rfl, Nat.le_of_ble_eq_true rfl⟩) ⟨pcW_blind, pcW_of hPc hDc C0.2.2.2⟩ rfl rfl hl.1 rfl (lv_room (Nat.le_of_ble_eq_true rfl)) dX6_when_44 ⟨Nat.zero_le _, Nat.zero_le _⟩) (fun H locs hP hD hS => ?_)
        refine nm_w h (fun uu => (fl [wModel K aM uu ML])) hP hD (fun M6 h hP hD => ?_)
        exact wX6_when_47L C0 hA M6 ML x1 x2 _ _ _ h hP hD hS (lv_sub hl [0, 1, 2] rfl)
      · exact wX6_when_32 C0 hA M1 ML h _ _ hP hD hS _ (lv_sub hl [] rfl)
set_option maxHeartbeats 1000000 in
set_option maxRecDepth 10000 in
theorem ctX6_when (l : Launch) (D : va_G) (K : Nat → ClassId) (N : Nat) (aM : Nat → Nat) (M : Rc) (ML : RcL) (p1 : Int32) (p2 : Int32) (sz : Nat) (z : Int32 × (Rc)) (hz : fX6_when N M ML p1 p2 = some z) : Met l yX6_when wsX6_when rmX6_when (pcW D K [.ref (aM 0), .int p1, .int p2] (fl [wModel K aM M ML]) sz) (qcI D z (fun (u : Rc) => (fl [wModel K aM u ML])) (va_A (fl [wModel K aM M ML]) sz)) 0 0 (va_A (fl [wModel K aM M ML]) sz) := by
  refine Met.ofW (cc := cX6_when) (maxL := 3) (ret := (some .int)) (by decide) rfl ?_
  intro p e s m args below meth c s₁ B hml hv
  obtain ⟨rfl, hsz, hP, hK, hD0⟩ := hv
  subst hsz
  have C0 : cx p s m _ meth c cX6_when 3 RX6 wsX6_when (some .int) D K := ⟨⟨B.exec, B.bytes, hml, findClass_of_methodNamed B.named, atoms_spec (ws := wsX6_when) B.pre⟩, B.returns, B.notSynchronized, hK⟩
  have hD := hD0.self (sz := s.heap.size)
  generalize hAe : va_A (fl [wModel K aM M ML]) s.heap.size = A at hD ⊢
  have hA : ∀ q : Nat, s.heap.size ≤ q → A q := fun q h => by rw [← hAe]; exact Or.inr h
  have hl := lv_entry ([.ref (aM 0), .int p1, .int p2]) (n := 3) (Nat.le_of_ble_eq_true rfl)
  rw [lg_entry_eq]
  generalize (lg_sl ([.ref (aM 0), .int p1, .int p2]) ++ List.replicate (3 - (lg_sl ([.ref (aM 0), .int p1, .int p2])).length) Slot.unset).toArray = ls at hl ⊢
  have hl : lv_has ls 3 [(0, .ref (aM 0)), (1, .int p1), (2, .int p2)] := hl
  exact wX6_when_0 C0 hA M ML p1 p2 hz s.heap [] hP hD va_S.rf ls (lv_sub hl [0, 1, 2] rfl)
end SX6_when

section SX6_lays_
/-! CardLoopsModel.lays(II)V -/
abbrev wsX6_lays_ : List Cond := Cond.code yX6_lays_ cX6_lays_ 3 none :: wsL_law0
abbrev rmX6_lays_ : Room := { frames := 0, cells := 0, slots := 0, locals := 0 }
variable {p : Program} {l : Launch} {e : Env} {s : State} {m : MethodId} {args : Array Value} {below : List Frame} {meth : Method} {c : Code} {D : va_G} {K : Nat → ClassId} {A : Nat → Prop} {aM : Nat → Nat} {z : Rc}
set_option maxHeartbeats 1000000 in
set_option maxRecDepth 10000 in
theorem wX6_lays__0 (C0 : cx p s m args meth c cX6_lays_ 3 RX6 wsX6_lays_ none D K) (hA : ∀ q, s.heap.size ≤ q → A q) (M : Rc) (ML : RcL) (x1 : Int32) (x2 : Int32) (h : fX6_lays_ M ML x1 x2 = some z) (H : Heap) (locs : List Loc) (hP : va_P D vwCl (fl [wModel K aM M ML]) H) (hD : va_D A (fl [wModel K aM M ML])) (hS : va_S A s.heap H locs) (ls : Array Slot) (hl : lv_has ls 3 [(0, .ref (aM 0)), (1, .int x1), (2, .int x2)]) : W p l e rmX6_lays_ s m args below meth c H locs 0 0 (MQ below (qcV D z (fun (u : Rc) => (fl [wModel K aM u ML])) A) args s 0 0 A) (F0 m 0 ls []) := by
  unfold fX6_lays_ at h
  refine r_aload_n C0 dX6_lays__0 hl 0 rfl ?_
  refine r_get C0 6 inx6 hP 0 rfl rfl 16 (by decide) (mc wd5_16) (.ref (aM 17)) rfl dX6_lays__1 ?_
  refine r_iload_n C0 dX6_lays__4 hl 1 rfl ?_
  refine r_aload_n C0 dX6_lays__5 hl 0 rfl ?_
  refine r_get C0 6 inx6 hP 0 rfl rfl 21 (by decide) (mc wd28_23) (.int (M 21 0)) rfl dX6_lays__6 ?_
  refine r_iadd C0 dX6_lays__9 ?_
  refine r_iload_n C0 dX6_lays__10 hl 2 rfl ?_
  refine r_iast h C0 hP hD hS 6 (fun uu => (fl [wModel K aM uu ML])) rfl rfl dX6_lays__11 (fun M1 H locs h hP hD hS => ?_)
  refine r_aload_n C0 dX6_lays__12 hl 0 rfl ?_
  refine r_dup C0 dX6_lays__13 rfl ?_
  refine r_get C0 6 inx6 hP 0 rfl rfl 21 (by decide) (mc wd28_23) (.int (M1 21 0)) rfl dX6_lays__14 ?_
  refine r_iconst C0 (nI 1) dX6_lays__17 (by decide) ?_
  refine r_iadd C0 dX6_lays__18 ?_
  refine r_put (ty := .int) h C0 6 inx6 tyX6 tyX6_ok nmX6 hP hD hS 0 (fun uu => (fl [wModel K aM uu ML])) rfl rfl 21 (by decide) (mc wd28_23) rfl (by decide +kernel) rfl rfl (by simp) rfl dX6_lays__19 (fun M2 H locs h hP hD hS => ?_)
  exact r_vret h C0 (fun (u : Rc) => (fl [wModel K aM u ML])) hP hD hS dX6_lays__22
set_option maxHeartbeats 1000000 in
set_option maxRecDepth 10000 in
theorem ctX6_lays_ (l : Launch) (D : va_G) (K : Nat → ClassId) (aM : Nat → Nat) (M : Rc) (ML : RcL) (p1 : Int32) (p2 : Int32) (sz : Nat) (z : Rc) (hz : fX6_lays_ M ML p1 p2 = some z) : Met l yX6_lays_ wsX6_lays_ rmX6_lays_ (pcW D K [.ref (aM 0), .int p1, .int p2] (fl [wModel K aM M ML]) sz) (qcV D z (fun (u : Rc) => (fl [wModel K aM u ML])) (va_A (fl [wModel K aM M ML]) sz)) 0 0 (va_A (fl [wModel K aM M ML]) sz) := by
  refine Met.ofW (cc := cX6_lays_) (maxL := 3) (ret := none) (by decide) rfl ?_
  intro p e s m args below meth c s₁ B hml hv
  obtain ⟨rfl, hsz, hP, hK, hD0⟩ := hv
  subst hsz
  have C0 : cx p s m _ meth c cX6_lays_ 3 RX6 wsX6_lays_ none D K := ⟨⟨B.exec, B.bytes, hml, findClass_of_methodNamed B.named, atoms_spec (ws := wsX6_lays_) B.pre⟩, B.returns, B.notSynchronized, hK⟩
  have hD := hD0.self (sz := s.heap.size)
  generalize hAe : va_A (fl [wModel K aM M ML]) s.heap.size = A at hD ⊢
  have hA : ∀ q : Nat, s.heap.size ≤ q → A q := fun q h => by rw [← hAe]; exact Or.inr h
  have hl := lv_entry ([.ref (aM 0), .int p1, .int p2]) (n := 3) (Nat.le_of_ble_eq_true rfl)
  rw [lg_entry_eq]
  generalize (lg_sl ([.ref (aM 0), .int p1, .int p2]) ++ List.replicate (3 - (lg_sl ([.ref (aM 0), .int p1, .int p2])).length) Slot.unset).toArray = ls at hl ⊢
  have hl : lv_has ls 3 [(0, .ref (aM 0)), (1, .int p1), (2, .int p2)] := hl
  exact wX6_lays__0 C0 hA M ML p1 p2 hz s.heap [] hP hD va_S.rf ls (lv_sub hl [0, 1, 2] rfl)
end SX6_lays_

section SX6_meets
/-! CardLoopsModel.meets([II)V -/
abbrev wsX6_meets : List Cond := Cond.code yX6_meets cX6_meets 7 none :: wsL_law0
abbrev rmX6_meets : Room := { frames := 2, cells := 0, slots := 0, locals := 43 }
variable {p : Program} {l : Launch} {e : Env} {s : State} {m : MethodId} {args : Array Value} {below : List Frame} {meth : Method} {c : Code} {D : va_G} {K : Nat → ClassId} {A : Nat → Prop} {N : Nat} {aM : Nat → Nat} {z : Rc × RcL}
def IX6_meets_263 (p : Program) (l : Launch) (e : Env) (s : State) (m : MethodId) (args : Array Value) (below : List Frame) (meth : Method) (c : Code) (D : va_G) (K : Nat → ClassId) (aM : Nat → Nat) (A : Nat → Prop) (z : Rc × RcL) (k : Rc → RcL → Int32 → Int32 → Int64 → Int32 → Option (Rc × RcL)) : Prop := ∀ (M : Rc) (ML : RcL) (x2 : Int32) (x3 : Int32) (x4 : Int64) (x6 : Int32) (H : Heap) (locs : List Loc) (ls : Array Slot), k M ML x2 x3 x4 x6 = some z → va_P D vwCl (fl [wModel K aM M ML]) H → va_D A (fl [wModel K aM M ML]) → va_S A s.heap H locs → lv_has ls 7 [(0, .ref (aM 0)), (1, .ref (aM 14)), (2, .int x2), (3, .int x3), (4, .long x4), (6, .int x6)] → W p l e rmX6_meets s m args below meth c H locs 0 0 (MQ below (qcV D z (fun (u : Rc × RcL) => (fl [wModel K aM u.1 u.2])) A) args s 0 0 A) (F0 m 263 ls [])
def IX6_meets_237 (p : Program) (l : Launch) (e : Env) (s : State) (m : MethodId) (args : Array Value) (below : List Frame) (meth : Method) (c : Code) (D : va_G) (K : Nat → ClassId) (aM : Nat → Nat) (A : Nat → Prop) (z : Rc × RcL) (k : Rc → RcL → Int32 → Int32 → Option (Rc × RcL)) : Prop := ∀ (M : Rc) (ML : RcL) (x2 : Int32) (x3 : Int32) (H : Heap) (locs : List Loc) (ls : Array Slot), k M ML x2 x3 = some z → va_P D vwCl (fl [wModel K aM M ML]) H → va_D A (fl [wModel K aM M ML]) → va_S A s.heap H locs → lv_has ls 7 [(0, .ref (aM 0)), (1, .ref (aM 14)), (2, .int x2), (3, .int x3)] → W p l e rmX6_meets s m args below meth c H locs 0 0 (MQ below (qcV D z (fun (u : Rc × RcL) => (fl [wModel K aM u.1 u.2])) A) args s 0 0 A) (F0 m 237 ls [])
def IX6_meets_181 (p : Program) (l : Launch) (e : Env) (s : State) (m : MethodId) (args : Array Value) (below : List Frame) (meth : Method) (c : Code) (D : va_G) (K : Nat → ClassId) (aM : Nat → Nat) (A : Nat → Prop) (z : Rc × RcL) (k : Rc → RcL → Int32 → Int32 → Int32 → Option (Rc × RcL)) : Prop := ∀ (M : Rc) (ML : RcL) (x2 : Int32) (x3 : Int32) (x4 : Int32) (H : Heap) (locs : List Loc) (ls : Array Slot), k M ML x2 x3 x4 = some z → va_P D vwCl (fl [wModel K aM M ML]) H → va_D A (fl [wModel K aM M ML]) → va_S A s.heap H locs → lv_has ls 7 [(0, .ref (aM 0)), (1, .ref (aM 14)), (2, .int x2), (3, .int x3), (4, .int x4)] → W p l e rmX6_meets s m args below meth c H locs 0 0 (MQ below (qcV D z (fun (u : Rc × RcL) => (fl [wModel K aM u.1 u.2])) A) args s 0 0 A) (F0 m 181 ls [])
def IX6_meets_133 (p : Program) (l : Launch) (e : Env) (s : State) (m : MethodId) (args : Array Value) (below : List Frame) (meth : Method) (c : Code) (D : va_G) (K : Nat → ClassId) (aM : Nat → Nat) (A : Nat → Prop) (z : Rc × RcL) (k : Rc → RcL → Int32 → Int32 → Int32 → Int32 → Option (Rc × RcL)) : Prop := ∀ (M : Rc) (ML : RcL) (x2 : Int32) (x3 : Int32) (x4 : Int32) (x6 : Int32) (H : Heap) (locs : List Loc) (ls : Array Slot), k M ML x2 x3 x4 x6 = some z → va_P D vwCl (fl [wModel K aM M ML]) H → va_D A (fl [wModel K aM M ML]) → va_S A s.heap H locs → lv_has ls 7 [(0, .ref (aM 0)), (1, .ref (aM 14)), (2, .int x2), (3, .int x3), (4, .int x4), (6, .int x6)] → W p l e rmX6_meets s m args below meth c H locs 0 0 (MQ below (qcV D z (fun (u : Rc × RcL) => (fl [wModel K aM u.1 u.2])) A) args s 0 0 A) (F0 m 133 ls [])
def IX6_meets_13 (p : Program) (l : Launch) (e : Env) (s : State) (m : MethodId) (args : Array Value) (below : List Frame) (meth : Method) (c : Code) (D : va_G) (K : Nat → ClassId) (aM : Nat → Nat) (A : Nat → Prop) (z : Rc × RcL) (k : Rc → RcL → Int32 → Int32 → Int32 → Option (Rc × RcL)) : Prop := ∀ (M : Rc) (ML : RcL) (x2 : Int32) (x3 : Int32) (x4 : Int32) (H : Heap) (locs : List Loc) (ls : Array Slot), k M ML x2 x3 x4 = some z → va_P D vwCl (fl [wModel K aM M ML]) H → va_D A (fl [wModel K aM M ML]) → va_S A s.heap H locs → lv_has ls 7 [(0, .ref (aM 0)), (1, .ref (aM 14)), (2, .int x2), (3, .int x3), (4, .int x4)] → W p l e rmX6_meets s m args below meth c H locs 0 0 (MQ below (qcV D z (fun (u : Rc × RcL) => (fl [wModel K aM u.1 u.2])) A) args s 0 0 A) (F0 m 13 ls [])
set_option maxHeartbeats 1000000 in
set_option maxRecDepth 10000 in
theorem wX6_meets_263 (C0 : cx p s m args meth c cX6_meets 7 RX6 wsX6_meets none D K) (hA : ∀ q, s.heap.size ≤ q → A q) {k263 : Rc → RcL → Int32 → Int32 → Int64 → Int32 → Option (Rc × RcL)} (hk263 : IX6_meets_263 p l e s m args below meth c D K aM A z k263) (M : Rc) (ML : RcL) (x2 : Int32) (x3 : Int32) (x4 : Int64) (x6 : Int32) (h : fX6_meets_263b N k263 M ML x2 x3 x4 x6 = some z) (H : Heap) (locs : List Loc) (hP : va_P D vwCl (fl [wModel K aM M ML]) H) (hD : va_D A (fl [wModel K aM M ML])) (hS : va_S A s.heap H locs) (ls : Array Slot) (hl : lv_has ls 7 [(0, .ref (aM 0)), (1, .ref (aM 14)), (2, .int x2), (3, .int x3), (4, .long x4), (6, .int x6)]) : W p l e rmX6_meets s m args below meth c H locs 0 0 (MQ below (qcV D z (fun (u : Rc × RcL) => (fl [wModel K aM u.1 u.2])) A) args s 0 0 A) (F0 m 263 ls []) := by
  unfold fX6_meets_263b at h
  refine r_iload C0 dX6_meets_263 hl 5 rfl ?_
  refine r_bipush C0 (nI 58) dX6_meets_265 (by decide) ?_
  refine r_icmp_ge h C0 295 dX6_meets_267 (by decide) (fun h => ?_) (fun h => ?_)
  · refine r_aload_n C0 dX6_meets_295 hl 0 rfl ?_
    refine r_get C0 6 inx6 hP 0 rfl rfl 18 (by decide) (mc wd5_18) (.ref (aM 19)) rfl dX6_meets_296 ?_
    refine r_iload_n C0 dX6_meets_299 hl 2 rfl ?_
    refine r_lload C0 dX6_meets_300 hl 4 rfl ?_
    refine r_last h C0 hP hD hS 8 (fun uu => (fl [wModel K aM M uu])) rfl rfl dX6_meets_302 (fun ML1 H locs h hP hD hS => ?_)
    refine r_aload_n C0 dX6_meets_303 hl 0 rfl ?_
    refine r_get C0 6 inx6 hP 0 rfl rfl 17 (by decide) (mc wd5_17) (.ref (aM 18)) rfl dX6_meets_304 ?_
    refine r_iload_n C0 dX6_meets_307 hl 2 rfl ?_
    refine r_aload_n C0 dX6_meets_308 hl 1 rfl ?_
    refine r_bipush C0 (nI 48) dX6_meets_309 (by decide) ?_
    refine r_ialdC C0 hP 4 rfl 48 (by decide) dX6_meets_311 ?_
    refine r_iast h C0 hP hD hS 7 (fun uu => (fl [wModel K aM uu ML1])) rfl rfl dX6_meets_312 (fun M2 H locs h hP hD hS => ?_)
    exact r_vret h C0 (fun (u : Rc × RcL) => (fl [wModel K aM u.1 u.2])) hP hD hS dX6_meets_313
  · refine r_ldc2 C0 dX6_meets_270 (mc wd29_1) ?_
    refine r_lload C0 dX6_meets_273 hl 4 rfl ?_
    refine r_lmul C0 dX6_meets_275 ?_
    refine r_aload_n C0 dX6_meets_276 hl 0 rfl ?_
    refine r_get C0 6 inx6 hP 0 rfl rfl 16 (by decide) (mc wd5_16) (.ref (aM 17)) rfl dX6_meets_277 ?_
    refine r_iload_n C0 dX6_meets_280 hl 3 rfl ?_
    refine r_iload C0 dX6_meets_281 hl 5 rfl ?_
    refine r_iadd C0 dX6_meets_283 ?_
    refine r_iald h C0 hP 6 rfl dX6_meets_284 (fun h => ?_)
    refine r_i2l C0 dX6_meets_285 ?_
    refine r_ladd C0 dX6_meets_286 ?_
    refine r_lstore h C0 (fun v3 => [(4, .long v3), (0, .ref (aM 0)), (1, .ref (aM 14)), (2, .int x2), (3, .int x3), (6, .int x6)]) dX6_meets_287 hl (by decide) (fun _ => rfl) (fun v3 ls h hl => ?_)
    refine r_iinc h C0 5 (fun v4 => [(6, .int v4), (4, .long v3), (0, .ref (aM 0)), (1, .ref (aM 14)), (2, .int x2), (3, .int x3)]) dX6_meets_289 hl rfl rfl (by decide) (fun _ => rfl) (fun v4 ls h hl => ?_)
    refine r_goto C0 263 dX6_meets_292 (by decide) ?_
    exact hk263 M ML x2 x3 v3 v4 _ _ _ h hP hD hS (lv_sub hl [2, 3, 4, 5, 1, 0] rfl)
theorem wX6_meets_263L (C0 : cx p s m args meth c cX6_meets 7 RX6 wsX6_meets none D K) (hA : ∀ q, s.heap.size ≤ q → A q) : IX6_meets_263 p l e s m args below meth c D K aM A z (fX6_meets_263 N) := by
  refine itn_ind (IX6_meets_263 p l e s m args below meth c D K aM A z) ?_ ?_ N
  · intro _ _ _ _ _ _ _ _ _ h; cases h
  · intro k263 hk263 M ML x2 x3 x4 x6 H locs ls h hP hD hS hl
    exact wX6_meets_263 C0 hA hk263 M ML x2 x3 x4 x6 h H locs hP hD hS ls hl
set_option maxHeartbeats 1000000 in
set_option maxRecDepth 10000 in
theorem wX6_meets_237 (C0 : cx p s m args meth c cX6_meets 7 RX6 wsX6_meets none D K) (hA : ∀ q, s.heap.size ≤ q → A q) {k237 : Rc → RcL → Int32 → Int32 → Option (Rc × RcL)} (hk237 : IX6_meets_237 p l e s m args below meth c D K aM A z k237) (M : Rc) (ML : RcL) (x2 : Int32) (x3 : Int32) (h : fX6_meets_237b N k237 M ML x2 x3 = some z) (H : Heap) (locs : List Loc) (hP : va_P D vwCl (fl [wModel K aM M ML]) H) (hD : va_D A (fl [wModel K aM M ML])) (hS : va_S A s.heap H locs) (ls : Array Slot) (hl : lv_has ls 7 [(0, .ref (aM 0)), (1, .ref (aM 14)), (2, .int x2), (3, .int x3)]) : W p l e rmX6_meets s m args below meth c H locs 0 0 (MQ below (qcV D z (fun (u : Rc × RcL) => (fl [wModel K aM u.1 u.2])) A) args s 0 0 A) (F0 m 237 ls []) := by
  unfold fX6_meets_237b at h
  refine r_aload_n C0 dX6_meets_237 hl 0 rfl ?_
  refine r_get C0 6 inx6 hP 0 rfl rfl 21 (by decide) (mc wd28_23) (.int (M 21 0)) rfl dX6_meets_238 ?_
  refine r_bipush C0 (nI 58) dX6_meets_241 (by decide) ?_
  refine r_icmp_ge h C0 255 dX6_meets_243 (by decide) (fun h => ?_) (fun h => ?_)
  · refine r_ldc2 C0 dX6_meets_255 (mc wd29_0) ?_
    refine r_lstore h C0 (fun v1 => [(4, .long v1), (0, .ref (aM 0)), (1, .ref (aM 14)), (2, .int x2), (3, .int x3)]) dX6_meets_258 hl (by decide) (fun _ => rfl) (fun v1 ls h hl => ?_)
    refine r_iconst C0 (nI 0) dX6_meets_260 (by decide) ?_
    refine r_istore h C0 (fun v2 => [(6, .int v2), (4, .long v1), (0, .ref (aM 0)), (1, .ref (aM 14)), (2, .int x2), (3, .int x3)]) dX6_meets_261 hl (by decide) (fun _ => rfl) (fun v2 ls h hl => ?_)
    exact wX6_meets_263L C0 hA M ML x2 x3 v1 v2 _ _ _ h hP hD hS (lv_sub hl [2, 3, 4, 5, 1, 0] rfl)
  · refine r_aload_n C0 dX6_meets_246 hl 0 rfl ?_
    refine r_iload_n C0 dX6_meets_247 hl 3 rfl ?_
    refine r_iconst C0 (nI 0) dX6_meets_248 (by decide) ?_
    obtain ⟨z3, hz3, h⟩ := bnd_some h
    refine r_callVC (Wc := [wModel K aM M ML]) (wf := fun (u : Rc) => [wModel K aM u ML]) (Wn := [wModel K aM z3 ML]) hP hD hS hA [0] [] [0] 1 rfl rfl (by decide) rfl rfl (by decide) (fun hPc hDc hFc => va_runV (As := [.int x3, .int (nI 0)]) (rest := []) C0.1 (ctX6_lays_ l D K aM M ML x3 (nI 0) H.size z3 hz3) (cwV 2 C0.1.2.2.2.2 (gdV wd29_2 wd29_3 wd29_4 wd1_5 wd29_5) rfl rfl rfl (by decide +kernel) ⟨Nat.le_of_ble_eq_true rfl, Nat.le_of_ble_eq_true rfl⟩) ⟨pcW_blind, va_recv C0.2.2.2.1 hPc (ci := 6) (q0 := 0) rfl rfl, pcW_of hPc hDc C0.2.2.2⟩ rfl rfl hl.1 rfl (lv_room (Nat.le_of_ble_eq_true rfl)) dX6_meets_249 ⟨Nat.zero_le _, Nat.zero_le _⟩) (fun H locs hP hD hS => ?_)
    refine r_goto C0 237 dX6_meets_252 (by decide) ?_
    exact hk237 z3 ML x2 x3 _ _ _ h hP hD hS (lv_sub hl [0, 1, 2, 3] rfl)
theorem wX6_meets_237L (C0 : cx p s m args meth c cX6_meets 7 RX6 wsX6_meets none D K) (hA : ∀ q, s.heap.size ≤ q → A q) : IX6_meets_237 p l e s m args below meth c D K aM A z (fX6_meets_237 N) := by
  refine itn_ind (IX6_meets_237 p l e s m args below meth c D K aM A z) ?_ ?_ N
  · intro _ _ _ _ _ _ _ h; cases h
  · intro k237 hk237 M ML x2 x3 H locs ls h hP hD hS hl
    exact wX6_meets_237 C0 hA hk237 M ML x2 x3 h H locs hP hD hS ls hl
set_option maxHeartbeats 1000000 in
set_option maxRecDepth 10000 in
theorem wX6_meets_234 (C0 : cx p s m args meth c cX6_meets 7 RX6 wsX6_meets none D K) (hA : ∀ q, s.heap.size ≤ q → A q) (M : Rc) (ML : RcL) (x2 : Int32) (x3 : Int32) (y1 : Int32) (y2 : Int32) (h : fX6_meets_234 N M ML x2 x3 y1 y2 = some z) (H : Heap) (locs : List Loc) (hP : va_P D vwCl (fl [wModel K aM M ML]) H) (hD : va_D A (fl [wModel K aM M ML])) (hS : va_S A s.heap H locs) (ls : Array Slot) (hl : lv_has ls 7 [(0, .ref (aM 0)), (1, .ref (aM 14)), (2, .int x2), (3, .int x3)]) : W p l e rmX6_meets s m args below meth c H locs 0 0 (MQ below (qcV D z (fun (u : Rc × RcL) => (fl [wModel K aM u.1 u.2])) A) args s 0 0 A) (F0 m 234 ls [.int y2, .int y1, .ref (aM 0)]) := by
  unfold fX6_meets_234 at h
  obtain ⟨z1, hz1, h⟩ := bnd_some h
  refine r_callVC (Wc := [wModel K aM M ML]) (wf := fun (u : Rc) => [wModel K aM u ML]) (Wn := [wModel K aM z1 ML]) hP hD hS hA [0] [] [0] 1 rfl rfl (by decide) rfl rfl (by decide) (fun hPc hDc hFc => va_runV (As := [.int y1, .int y2]) (rest := []) C0.1 (ctX6_lays_ l D K aM M ML y1 y2 H.size z1 hz1) (cwV 2 C0.1.2.2.2.2 (gdV wd29_2 wd29_3 wd29_4 wd1_5 wd29_5) rfl rfl rfl (by decide +kernel) ⟨Nat.le_of_ble_eq_true rfl, Nat.le_of_ble_eq_true rfl⟩) ⟨pcW_blind, va_recv C0.2.2.2.1 hPc (ci := 6) (q0 := 0) rfl rfl, pcW_of hPc hDc C0.2.2.2⟩ rfl rfl hl.1 rfl (lv_room (Nat.le_of_ble_eq_true rfl)) dX6_meets_234 ⟨Nat.zero_le _, Nat.zero_le _⟩) (fun H locs hP hD hS => ?_)
  exact wX6_meets_237L C0 hA z1 ML x2 x3 _ _ _ h hP hD hS (lv_sub hl [0, 1, 2, 3] rfl)
set_option maxHeartbeats 1000000 in
set_option maxRecDepth 10000 in
theorem wX6_meets_181 (C0 : cx p s m args meth c cX6_meets 7 RX6 wsX6_meets none D K) (hA : ∀ q, s.heap.size ≤ q → A q) {k181 : Rc → RcL → Int32 → Int32 → Int32 → Option (Rc × RcL)} (hk181 : IX6_meets_181 p l e s m args below meth c D K aM A z k181) (M : Rc) (ML : RcL) (x2 : Int32) (x3 : Int32) (x4 : Int32) (h : fX6_meets_181b N k181 M ML x2 x3 x4 = some z) (H : Heap) (locs : List Loc) (hP : va_P D vwCl (fl [wModel K aM M ML]) H) (hD : va_D A (fl [wModel K aM M ML])) (hS : va_S A s.heap H locs) (ls : Array Slot) (hl : lv_has ls 7 [(0, .ref (aM 0)), (1, .ref (aM 14)), (2, .int x2), (3, .int x3), (4, .int x4)]) : W p l e rmX6_meets s m args below meth c H locs 0 0 (MQ below (qcV D z (fun (u : Rc × RcL) => (fl [wModel K aM u.1 u.2])) A) args s 0 0 A) (F0 m 181 ls []) := by
  unfold fX6_meets_181b at h
  refine r_iload C0 dX6_meets_181 hl 4 rfl ?_
  refine r_aload_n C0 dX6_meets_183 hl 1 rfl ?_
  refine r_bipush C0 (nI 14) dX6_meets_184 (by decide) ?_
  refine r_ialdC C0 hP 4 rfl 14 (by decide) dX6_meets_186 ?_
  refine r_icmp_ge h C0 212 dX6_meets_187 (by decide) (fun h => ?_) (fun h => ?_)
  · refine r_aload_n C0 dX6_meets_212 hl 0 rfl ?_
    refine r_iload_n C0 dX6_meets_213 hl 3 rfl ?_
    refine r_aload_n C0 dX6_meets_214 hl 1 rfl ?_
    refine r_bipush C0 (nI 35) dX6_meets_215 (by decide) ?_
    refine r_ialdC C0 hP 4 rfl 35 (by decide) dX6_meets_217 ?_
    refine r_if_ne h C0 225 dX6_meets_218 (by decide) (fun h => ?_) (fun h => ?_)
    · refine r_aload_n C0 dX6_meets_225 hl 1 rfl ?_
      refine r_bipush C0 (nI 50) dX6_meets_226 (by decide) ?_
      refine r_ialdC C0 hP 4 rfl 50 (by decide) dX6_meets_228 ?_
      refine r_aload_n C0 dX6_meets_229 hl 1 rfl ?_
      obtain ⟨z1, hz1, h⟩ := bnd_some h
      have hPc := hP.sub (ws' := (fl [wArr K (aM 14) 353 (M 13)])) [4] rfl
      refine r_cI (va_runS (As := [.ref (aM 14)]) (rest := [.int (M 13 50), .int x3, .ref (aM 0)]) C0.1 (ctX6_perRound l D K N (aM 14) (M 13) z1 hz1) (va_cwS 1 C0.1.2.2.2.2 (gdS wd19_21 wd19_22 wd1_5 wd19_23) rfl rfl rfl (by decide +kernel) ⟨Nat.le_of_ble_eq_true rfl, Nat.le_of_ble_eq_true rfl⟩) ⟨pcR_blind, pcR_of hPc C0.2.2.2⟩ rfl rfl hl.1 rfl (lv_room (Nat.le_of_ble_eq_true rfl)) dX6_meets_230 ⟨Nat.zero_le _, Nat.zero_le _⟩).run ?_
      refine r_irem h C0 dX6_meets_233 (fun h => ?_)
      exact wX6_meets_234 C0 hA M ML x2 x3 x3 ((M 13 50) - (M 13 50) / z1 * z1) h _ _ hP hD hS _ (lv_sub hl [0, 1, 2, 3] rfl)
    · refine r_iconst C0 (nI 0) dX6_meets_221 (by decide) ?_
      refine r_goto C0 234 dX6_meets_222 (by decide) ?_
      exact wX6_meets_234 C0 hA M ML x2 x3 x3 (nI 0) h _ _ hP hD hS _ (lv_sub hl [0, 1, 2, 3] rfl)
  · refine r_aload_n C0 dX6_meets_190 hl 0 rfl ?_
    refine r_iload_n C0 dX6_meets_191 hl 3 rfl ?_
    refine r_aload_n C0 dX6_meets_192 hl 1 rfl ?_
    refine r_bipush C0 (nI 15) dX6_meets_193 (by decide) ?_
    refine r_iconst C0 (nI 4) dX6_meets_195 (by decide) ?_
    refine r_iload C0 dX6_meets_196 hl 4 rfl ?_
    refine r_imul C0 dX6_meets_198 ?_
    refine r_iadd C0 dX6_meets_199 ?_
    refine r_iconst C0 (nI 3) dX6_meets_200 (by decide) ?_
    refine r_iadd C0 dX6_meets_201 ?_
    refine r_iald h C0 hP 4 rfl dX6_meets_202 (fun h => ?_)
    obtain ⟨z2, hz2, h⟩ := bnd_some h
    refine r_callVC (Wc := [wModel K aM M ML]) (wf := fun (u : Rc) => [wModel K aM u ML]) (Wn := [wModel K aM z2 ML]) hP hD hS hA [0] [] [0] 1 rfl rfl (by decide) rfl rfl (by decide) (fun hPc hDc hFc => va_runV (As := [.int x3, .int (M 13 (((nI 15) + ((nI 4) * x4)) + (nI 3)).toNatClampNeg)]) (rest := []) C0.1 (ctX6_lays_ l D K aM M ML x3 (M 13 (((nI 15) + ((nI 4) * x4)) + (nI 3)).toNatClampNeg) H.size z2 hz2) (cwV 2 C0.1.2.2.2.2 (gdV wd29_2 wd29_3 wd29_4 wd1_5 wd29_5) rfl rfl rfl (by decide +kernel) ⟨Nat.le_of_ble_eq_true rfl, Nat.le_of_ble_eq_true rfl⟩) ⟨pcW_blind, va_recv C0.2.2.2.1 hPc (ci := 6) (q0 := 0) rfl rfl, pcW_of hPc hDc C0.2.2.2⟩ rfl rfl hl.1 rfl (lv_room (Nat.le_of_ble_eq_true rfl)) dX6_meets_203 ⟨Nat.zero_le _, Nat.zero_le _⟩) (fun H locs hP hD hS => ?_)
    refine r_iinc h C0 4 (fun v3 => [(4, .int v3), (0, .ref (aM 0)), (1, .ref (aM 14)), (2, .int x2), (3, .int x3)]) dX6_meets_206 hl rfl rfl (by decide) (fun _ => rfl) (fun v3 ls h hl => ?_)
    refine r_goto C0 181 dX6_meets_209 (by decide) ?_
    exact hk181 z2 ML x2 x3 v3 _ _ _ h hP hD hS (lv_sub hl [1, 2, 3, 4, 0] rfl)
theorem wX6_meets_181L (C0 : cx p s m args meth c cX6_meets 7 RX6 wsX6_meets none D K) (hA : ∀ q, s.heap.size ≤ q → A q) : IX6_meets_181 p l e s m args below meth c D K aM A z (fX6_meets_181 N) := by
  refine itn_ind (IX6_meets_181 p l e s m args below meth c D K aM A z) ?_ ?_ N
  · intro _ _ _ _ _ _ _ _ h; cases h
  · intro k181 hk181 M ML x2 x3 x4 H locs ls h hP hD hS hl
    exact wX6_meets_181 C0 hA hk181 M ML x2 x3 x4 h H locs hP hD hS ls hl
set_option maxHeartbeats 1000000 in
set_option maxRecDepth 10000 in
theorem wX6_meets_133 (C0 : cx p s m args meth c cX6_meets 7 RX6 wsX6_meets none D K) (hA : ∀ q, s.heap.size ≤ q → A q) {k13 : Rc → RcL → Int32 → Int32 → Int32 → Option (Rc × RcL)} (hk13 : IX6_meets_13 p l e s m args below meth c D K aM A z k13) {k133 : Rc → RcL → Int32 → Int32 → Int32 → Int32 → Option (Rc × RcL)} (hk133 : IX6_meets_133 p l e s m args below meth c D K aM A z k133) (M : Rc) (ML : RcL) (x2 : Int32) (x3 : Int32) (x4 : Int32) (x6 : Int32) (h : fX6_meets_133b N k13 k133 M ML x2 x3 x4 x6 = some z) (H : Heap) (locs : List Loc) (hP : va_P D vwCl (fl [wModel K aM M ML]) H) (hD : va_D A (fl [wModel K aM M ML])) (hS : va_S A s.heap H locs) (ls : Array Slot) (hl : lv_has ls 7 [(0, .ref (aM 0)), (1, .ref (aM 14)), (2, .int x2), (3, .int x3), (4, .int x4), (6, .int x6)]) : W p l e rmX6_meets s m args below meth c H locs 0 0 (MQ below (qcV D z (fun (u : Rc × RcL) => (fl [wModel K aM u.1 u.2])) A) args s 0 0 A) (F0 m 133 ls []) := by
  unfold fX6_meets_133b at h
  refine r_iload C0 dX6_meets_133 hl 5 rfl ?_
  refine r_aload_n C0 dX6_meets_135 hl 1 rfl ?_
  refine r_iload C0 dX6_meets_136 hl 4 rfl ?_
  obtain ⟨z1, hz1, h⟩ := bnd_some h
  have hPc := hP.sub (ws' := (fl [wArr K (aM 14) 353 (M 13)])) [4] rfl
  refine r_cI (va_runS (As := [.ref (aM 14), .int x4]) (rest := [.int x6]) C0.1 (ctX6_waiting l D K (aM 14) (M 13) x4 z1 hz1) (va_cwS 2 C0.1.2.2.2.2 (gdS wd19_12 wd19_13 wd1_5 wd19_14) rfl rfl rfl (by decide +kernel) ⟨Nat.le_of_ble_eq_true rfl, Nat.le_of_ble_eq_true rfl⟩) ⟨pcR_blind, pcR_of hPc C0.2.2.2⟩ rfl rfl hl.1 rfl (lv_room (Nat.le_of_ble_eq_true rfl)) dX6_meets_138 ⟨Nat.zero_le _, Nat.zero_le _⟩).run ?_
  refine r_icmp_ge h C0 172 dX6_meets_141 (by decide) (fun h => ?_) (fun h => ?_)
  · refine r_iinc h C0 4 (fun v2 => [(4, .int v2), (0, .ref (aM 0)), (1, .ref (aM 14)), (2, .int x2), (3, .int x3), (6, .int x6)]) dX6_meets_172 hl rfl rfl (by decide) (fun _ => rfl) (fun v2 ls h hl => ?_)
    refine r_goto C0 13 dX6_meets_175 (by decide) ?_
    exact hk13 M ML x2 x3 v2 _ _ _ h hP hD hS (lv_sub hl [1, 2, 3, 4, 0] rfl)
  · refine r_aload_n C0 dX6_meets_144 hl 0 rfl ?_
    refine r_iload_n C0 dX6_meets_145 hl 3 rfl ?_
    refine r_aload_n C0 dX6_meets_146 hl 1 rfl ?_
    refine r_bipush C0 (nI 107) dX6_meets_147 (by decide) ?_
    refine r_bipush C0 (nI 41) dX6_meets_149 (by decide) ?_
    refine r_iload C0 dX6_meets_151 hl 4 rfl ?_
    refine r_imul C0 dX6_meets_153 ?_
    refine r_iadd C0 dX6_meets_154 ?_
    refine r_iconst C0 (nI 1) dX6_meets_155 (by decide) ?_
    refine r_iadd C0 dX6_meets_156 ?_
    refine r_iconst C0 (nI 2) dX6_meets_157 (by decide) ?_
    refine r_iload C0 dX6_meets_158 hl 5 rfl ?_
    refine r_imul C0 dX6_meets_160 ?_
    refine r_iadd C0 dX6_meets_161 ?_
    refine r_iald h C0 hP 4 rfl dX6_meets_162 (fun h => ?_)
    obtain ⟨z3, hz3, h⟩ := bnd_some h
    refine r_callVC (Wc := [wModel K aM M ML]) (wf := fun (u : Rc) => [wModel K aM u ML]) (Wn := [wModel K aM z3 ML]) hP hD hS hA [0] [] [0] 1 rfl rfl (by decide) rfl rfl (by decide) (fun hPc hDc hFc => va_runV (As := [.int x3, .int (M 13 ((((nI 107) + ((nI 41) * x4)) + (nI 1)) + ((nI 2) * x6)).toNatClampNeg)]) (rest := []) C0.1 (ctX6_lays_ l D K aM M ML x3 (M 13 ((((nI 107) + ((nI 41) * x4)) + (nI 1)) + ((nI 2) * x6)).toNatClampNeg) H.size z3 hz3) (cwV 2 C0.1.2.2.2.2 (gdV wd29_2 wd29_3 wd29_4 wd1_5 wd29_5) rfl rfl rfl (by decide +kernel) ⟨Nat.le_of_ble_eq_true rfl, Nat.le_of_ble_eq_true rfl⟩) ⟨pcW_blind, va_recv C0.2.2.2.1 hPc (ci := 6) (q0 := 0) rfl rfl, pcW_of hPc hDc C0.2.2.2⟩ rfl rfl hl.1 rfl (lv_room (Nat.le_of_ble_eq_true rfl)) dX6_meets_163 ⟨Nat.zero_le _, Nat.zero_le _⟩) (fun H locs hP hD hS => ?_)
    refine r_iinc h C0 5 (fun v4 => [(6, .int v4), (0, .ref (aM 0)), (1, .ref (aM 14)), (2, .int x2), (3, .int x3), (4, .int x4)]) dX6_meets_166 hl rfl rfl (by decide) (fun _ => rfl) (fun v4 ls h hl => ?_)
    refine r_goto C0 133 dX6_meets_169 (by decide) ?_
    exact hk133 z3 ML x2 x3 x4 v4 _ _ _ h hP hD hS (lv_sub hl [1, 2, 3, 4, 5, 0] rfl)
theorem wX6_meets_133L (C0 : cx p s m args meth c cX6_meets 7 RX6 wsX6_meets none D K) (hA : ∀ q, s.heap.size ≤ q → A q) {k13 : Rc → RcL → Int32 → Int32 → Int32 → Option (Rc × RcL)} (hk13 : IX6_meets_13 p l e s m args below meth c D K aM A z k13) : IX6_meets_133 p l e s m args below meth c D K aM A z (fX6_meets_133 N k13) := by
  refine itn_ind (IX6_meets_133 p l e s m args below meth c D K aM A z) ?_ ?_ N
  · intro _ _ _ _ _ _ _ _ _ h; cases h
  · intro k133 hk133 M ML x2 x3 x4 x6 H locs ls h hP hD hS hl
    exact wX6_meets_133 C0 hA hk13 hk133 M ML x2 x3 x4 x6 h H locs hP hD hS ls hl
set_option maxHeartbeats 1000000 in
set_option maxRecDepth 10000 in
theorem wX6_meets_92 (C0 : cx p s m args meth c cX6_meets 7 RX6 wsX6_meets none D K) (hA : ∀ q, s.heap.size ≤ q → A q) {k13 : Rc → RcL → Int32 → Int32 → Int32 → Option (Rc × RcL)} (hk13 : IX6_meets_13 p l e s m args below meth c D K aM A z k13) (M : Rc) (ML : RcL) (x2 : Int32) (x3 : Int32) (x4 : Int32) (y1 : Int32) (y2 : Int32) (h : fX6_meets_92 N k13 M ML x2 x3 x4 y1 y2 = some z) (H : Heap) (locs : List Loc) (hP : va_P D vwCl (fl [wModel K aM M ML]) H) (hD : va_D A (fl [wModel K aM M ML])) (hS : va_S A s.heap H locs) (ls : Array Slot) (hl : lv_has ls 7 [(0, .ref (aM 0)), (1, .ref (aM 14)), (2, .int x2), (3, .int x3), (4, .int x4)]) : W p l e rmX6_meets s m args below meth c H locs 0 0 (MQ below (qcV D z (fun (u : Rc × RcL) => (fl [wModel K aM u.1 u.2])) A) args s 0 0 A) (F0 m 92 ls [.int y2, .int y1, .ref (aM 0)]) := by
  unfold fX6_meets_92 at h
  obtain ⟨z1, hz1, h⟩ := bnd_some h
  refine r_callVC (Wc := [wModel K aM M ML]) (wf := fun (u : Rc) => [wModel K aM u ML]) (Wn := [wModel K aM z1 ML]) hP hD hS hA [0] [] [0] 1 rfl rfl (by decide) rfl rfl (by decide) (fun hPc hDc hFc => va_runV (As := [.int y1, .int y2]) (rest := []) C0.1 (ctX6_lays_ l D K aM M ML y1 y2 H.size z1 hz1) (cwV 2 C0.1.2.2.2.2 (gdV wd29_2 wd29_3 wd29_4 wd1_5 wd29_5) rfl rfl rfl (by decide +kernel) ⟨Nat.le_of_ble_eq_true rfl, Nat.le_of_ble_eq_true rfl⟩) ⟨pcW_blind, va_recv C0.2.2.2.1 hPc (ci := 6) (q0 := 0) rfl rfl, pcW_of hPc hDc C0.2.2.2⟩ rfl rfl hl.1 rfl (lv_room (Nat.le_of_ble_eq_true rfl)) dX6_meets_92 ⟨Nat.zero_le _, Nat.zero_le _⟩) (fun H locs hP hD hS => ?_)
  refine r_aload_n C0 dX6_meets_95 hl 0 rfl ?_
  refine r_iload_n C0 dX6_meets_96 hl 3 rfl ?_
  refine r_aload_n C0 dX6_meets_97 hl 1 rfl ?_
  refine r_iload C0 dX6_meets_98 hl 4 rfl ?_
  refine r_iconst C0 (nI 0) dX6_meets_100 (by decide) ?_
  obtain ⟨z2, hz2, h⟩ := bnd_some h
  have hPc := hP.sub (ws' := (fl [wArr K (aM 14) 353 (z1 13)])) [4] rfl
  refine r_cI (va_runS (As := [.ref (aM 14), .int x4, .int (nI 0)]) (rest := [.int x3, .ref (aM 0)]) C0.1 (ctX6_its l D K (aM 14) (z1 13) x4 (nI 0) z2 hz2) (va_cwS 3 C0.1.2.2.2.2 (gdS wd19_3 wd19_4 wd1_5 wd19_5) rfl rfl rfl (by decide +kernel) ⟨Nat.le_of_ble_eq_true rfl, Nat.le_of_ble_eq_true rfl⟩) ⟨pcR_blind, pcR_of hPc C0.2.2.2⟩ rfl rfl hl.1 rfl (lv_room (Nat.le_of_ble_eq_true rfl)) dX6_meets_101 ⟨Nat.zero_le _, Nat.zero_le _⟩).run ?_
  obtain ⟨z3, hz3, h⟩ := bnd_some h
  refine r_callVC (Wc := [wModel K aM z1 ML]) (wf := fun (u : Rc) => [wModel K aM u ML]) (Wn := [wModel K aM z3 ML]) hP hD hS hA [0] [] [0] 1 rfl rfl (by decide) rfl rfl (by decide) (fun hPc hDc hFc => va_runV (As := [.int x3, .int z2]) (rest := []) C0.1 (ctX6_lays_ l D K aM z1 ML x3 z2 H.size z3 hz3) (cwV 2 C0.1.2.2.2.2 (gdV wd29_2 wd29_3 wd29_4 wd1_5 wd29_5) rfl rfl rfl (by decide +kernel) ⟨Nat.le_of_ble_eq_true rfl, Nat.le_of_ble_eq_true rfl⟩) ⟨pcW_blind, va_recv C0.2.2.2.1 hPc (ci := 6) (q0 := 0) rfl rfl, pcW_of hPc hDc C0.2.2.2⟩ rfl rfl hl.1 rfl (lv_room (Nat.le_of_ble_eq_true rfl)) dX6_meets_104 ⟨Nat.zero_le _, Nat.zero_le _⟩) (fun H locs hP hD hS => ?_)
  refine r_aload_n C0 dX6_meets_107 hl 0 rfl ?_
  refine r_iload_n C0 dX6_meets_108 hl 3 rfl ?_
  refine r_aload_n C0 dX6_meets_109 hl 1 rfl ?_
  refine r_iload C0 dX6_meets_110 hl 4 rfl ?_
  refine r_iconst C0 (nI 1) dX6_meets_112 (by decide) ?_
  obtain ⟨z4, hz4, h⟩ := bnd_some h
  have hPc := hP.sub (ws' := (fl [wArr K (aM 14) 353 (z3 13)])) [4] rfl
  refine r_cI (va_runS (As := [.ref (aM 14), .int x4, .int (nI 1)]) (rest := [.int x3, .ref (aM 0)]) C0.1 (ctX6_its l D K (aM 14) (z3 13) x4 (nI 1) z4 hz4) (va_cwS 3 C0.1.2.2.2.2 (gdS wd19_3 wd19_4 wd1_5 wd19_5) rfl rfl rfl (by decide +kernel) ⟨Nat.le_of_ble_eq_true rfl, Nat.le_of_ble_eq_true rfl⟩) ⟨pcR_blind, pcR_of hPc C0.2.2.2⟩ rfl rfl hl.1 rfl (lv_room (Nat.le_of_ble_eq_true rfl)) dX6_meets_113 ⟨Nat.zero_le _, Nat.zero_le _⟩).run ?_
  obtain ⟨z5, hz5, h⟩ := bnd_some h
  refine r_callVC (Wc := [wModel K aM z3 ML]) (wf := fun (u : Rc) => [wModel K aM u ML]) (Wn := [wModel K aM z5 ML]) hP hD hS hA [0] [] [0] 1 rfl rfl (by decide) rfl rfl (by decide) (fun hPc hDc hFc => va_runV (As := [.int x3, .int z4]) (rest := []) C0.1 (ctX6_lays_ l D K aM z3 ML x3 z4 H.size z5 hz5) (cwV 2 C0.1.2.2.2.2 (gdV wd29_2 wd29_3 wd29_4 wd1_5 wd29_5) rfl rfl rfl (by decide +kernel) ⟨Nat.le_of_ble_eq_true rfl, Nat.le_of_ble_eq_true rfl⟩) ⟨pcW_blind, va_recv C0.2.2.2.1 hPc (ci := 6) (q0 := 0) rfl rfl, pcW_of hPc hDc C0.2.2.2⟩ rfl rfl hl.1 rfl (lv_room (Nat.le_of_ble_eq_true rfl)) dX6_meets_116 ⟨Nat.zero_le _, Nat.zero_le _⟩) (fun H locs hP hD hS => ?_)
  refine r_aload_n C0 dX6_meets_119 hl 0 rfl ?_
  refine r_iload_n C0 dX6_meets_120 hl 3 rfl ?_
  refine r_aload_n C0 dX6_meets_121 hl 1 rfl ?_
  refine r_iload C0 dX6_meets_122 hl 4 rfl ?_
  obtain ⟨z6, hz6, h⟩ := bnd_some h
  have hPc := hP.sub (ws' := (fl [wArr K (aM 14) 353 (z5 13)])) [4] rfl
  refine r_cI (va_runS (As := [.ref (aM 14), .int x4]) (rest := [.int x3, .ref (aM 0)]) C0.1 (ctX6_waiting l D K (aM 14) (z5 13) x4 z6 hz6) (va_cwS 2 C0.1.2.2.2.2 (gdS wd19_12 wd19_13 wd1_5 wd19_14) rfl rfl rfl (by decide +kernel) ⟨Nat.le_of_ble_eq_true rfl, Nat.le_of_ble_eq_true rfl⟩) ⟨pcR_blind, pcR_of hPc C0.2.2.2⟩ rfl rfl hl.1 rfl (lv_room (Nat.le_of_ble_eq_true rfl)) dX6_meets_124 ⟨Nat.zero_le _, Nat.zero_le _⟩).run ?_
  obtain ⟨z7, hz7, h⟩ := bnd_some h
  refine r_callVC (Wc := [wModel K aM z5 ML]) (wf := fun (u : Rc) => [wModel K aM u ML]) (Wn := [wModel K aM z7 ML]) hP hD hS hA [0] [] [0] 1 rfl rfl (by decide) rfl rfl (by decide) (fun hPc hDc hFc => va_runV (As := [.int x3, .int z6]) (rest := []) C0.1 (ctX6_lays_ l D K aM z5 ML x3 z6 H.size z7 hz7) (cwV 2 C0.1.2.2.2.2 (gdV wd29_2 wd29_3 wd29_4 wd1_5 wd29_5) rfl rfl rfl (by decide +kernel) ⟨Nat.le_of_ble_eq_true rfl, Nat.le_of_ble_eq_true rfl⟩) ⟨pcW_blind, va_recv C0.2.2.2.1 hPc (ci := 6) (q0 := 0) rfl rfl, pcW_of hPc hDc C0.2.2.2⟩ rfl rfl hl.1 rfl (lv_room (Nat.le_of_ble_eq_true rfl)) dX6_meets_127 ⟨Nat.zero_le _, Nat.zero_le _⟩) (fun H locs hP hD hS => ?_)
  refine r_iconst C0 (nI 0) dX6_meets_130 (by decide) ?_
  refine r_istore h C0 (fun v8 => [(6, .int v8), (0, .ref (aM 0)), (1, .ref (aM 14)), (2, .int x2), (3, .int x3), (4, .int x4)]) dX6_meets_131 hl (by decide) (fun _ => rfl) (fun v8 ls h hl => ?_)
  exact wX6_meets_133L C0 hA hk13 z7 ML x2 x3 x4 v8 _ _ _ h hP hD hS (lv_sub hl [1, 2, 3, 4, 5, 0] rfl)
set_option maxHeartbeats 1000000 in
set_option maxRecDepth 10000 in
theorem wX6_meets_76 (C0 : cx p s m args meth c cX6_meets 7 RX6 wsX6_meets none D K) (hA : ∀ q, s.heap.size ≤ q → A q) {k13 : Rc → RcL → Int32 → Int32 → Int32 → Option (Rc × RcL)} (hk13 : IX6_meets_13 p l e s m args below meth c D K aM A z k13) (M : Rc) (ML : RcL) (x2 : Int32) (x3 : Int32) (x4 : Int32) (y1 : Int32) (h : fX6_meets_76 N k13 M ML x2 x3 x4 y1 = some z) (H : Heap) (locs : List Loc) (hP : va_P D vwCl (fl [wModel K aM M ML]) H) (hD : va_D A (fl [wModel K aM M ML])) (hS : va_S A s.heap H locs) (ls : Array Slot) (hl : lv_has ls 7 [(0, .ref (aM 0)), (1, .ref (aM 14)), (2, .int x2), (3, .int x3), (4, .int x4)]) : W p l e rmX6_meets s m args below meth c H locs 0 0 (MQ below (qcV D z (fun (u : Rc × RcL) => (fl [wModel K aM u.1 u.2])) A) args s 0 0 A) (F0 m 76 ls [.int y1, .ref (aM 0)]) := by
  unfold fX6_meets_76 at h
  refine r_iconst C0 (nI 0) dX6_meets_76 (by decide) ?_
  refine r_goto C0 92 dX6_meets_77 (by decide) ?_
  exact wX6_meets_92 C0 hA hk13 M ML x2 x3 x4 y1 (nI 0) h _ _ hP hD hS _ (lv_sub hl [0, 1, 2, 3, 4] rfl)
set_option maxHeartbeats 1000000 in
set_option maxRecDepth 10000 in
theorem wX6_meets_52 (C0 : cx p s m args meth c cX6_meets 7 RX6 wsX6_meets none D K) (hA : ∀ q, s.heap.size ≤ q → A q) {k13 : Rc → RcL → Int32 → Int32 → Int32 → Option (Rc × RcL)} (hk13 : IX6_meets_13 p l e s m args below meth c D K aM A z k13) (M : Rc) (ML : RcL) (x2 : Int32) (x3 : Int32) (x4 : Int32) (x5 : Int32) (y1 : Int32) (y2 : Int32) (h : fX6_meets_52 N k13 M ML x2 x3 x4 x5 y1 y2 = some z) (H : Heap) (locs : List Loc) (hP : va_P D vwCl (fl [wModel K aM M ML]) H) (hD : va_D A (fl [wModel K aM M ML])) (hS : va_S A s.heap H locs) (ls : Array Slot) (hl : lv_has ls 7 [(0, .ref (aM 0)), (1, .ref (aM 14)), (2, .int x2), (3, .int x3), (4, .int x4), (5, .int x5)]) : W p l e rmX6_meets s m args below meth c H locs 0 0 (MQ below (qcV D z (fun (u : Rc × RcL) => (fl [wModel K aM u.1 u.2])) A) args s 0 0 A) (F0 m 52 ls [.int y2, .int y1, .ref (aM 0)]) := by
  unfold fX6_meets_52 at h
  obtain ⟨z1, hz1, h⟩ := bnd_some h
  refine r_callVC (Wc := [wModel K aM M ML]) (wf := fun (u : Rc) => [wModel K aM u ML]) (Wn := [wModel K aM z1 ML]) hP hD hS hA [0] [] [0] 1 rfl rfl (by decide) rfl rfl (by decide) (fun hPc hDc hFc => va_runV (As := [.int y1, .int y2]) (rest := []) C0.1 (ctX6_lays_ l D K aM M ML y1 y2 H.size z1 hz1) (cwV 2 C0.1.2.2.2.2 (gdV wd29_2 wd29_3 wd29_4 wd1_5 wd29_5) rfl rfl rfl (by decide +kernel) ⟨Nat.le_of_ble_eq_true rfl, Nat.le_of_ble_eq_true rfl⟩) ⟨pcW_blind, va_recv C0.2.2.2.1 hPc (ci := 6) (q0 := 0) rfl rfl, pcW_of hPc hDc C0.2.2.2⟩ rfl rfl hl.1 rfl (lv_room (Nat.le_of_ble_eq_true rfl)) dX6_meets_52 ⟨Nat.zero_le _, Nat.zero_le _⟩) (fun H locs hP hD hS => ?_)
  refine r_aload_n C0 dX6_meets_55 hl 0 rfl ?_
  refine r_iload_n C0 dX6_meets_56 hl 3 rfl ?_
  refine r_iload C0 dX6_meets_57 hl 5 rfl ?_
  refine r_if_ne h C0 76 dX6_meets_59 (by decide) (fun h => ?_) (fun h => ?_)
  · exact wX6_meets_76 C0 hA hk13 z1 ML x2 x3 x4 x3 h _ _ hP hD hS _ (lv_sub hl [0, 1, 2, 3, 4] rfl)
  · refine r_aload_n C0 dX6_meets_62 hl 1 rfl ?_
    refine r_iload C0 dX6_meets_63 hl 4 rfl ?_
    refine r_iconst C0 (nI 2) dX6_meets_65 (by decide) ?_
    obtain ⟨z2, hz2, h⟩ := bnd_some h
    have hPc := hP.sub (ws' := (fl [wArr K (aM 14) 353 (z1 13)])) [4] rfl
    refine r_cI (va_runS (As := [.ref (aM 14), .int x4, .int (nI 2)]) (rest := [.int x3, .ref (aM 0)]) C0.1 (ctX6_its l D K (aM 14) (z1 13) x4 (nI 2) z2 hz2) (va_cwS 3 C0.1.2.2.2.2 (gdS wd19_3 wd19_4 wd1_5 wd19_5) rfl rfl rfl (by decide +kernel) ⟨Nat.le_of_ble_eq_true rfl, Nat.le_of_ble_eq_true rfl⟩) ⟨pcR_blind, pcR_of hPc C0.2.2.2⟩ rfl rfl hl.1 rfl (lv_room (Nat.le_of_ble_eq_true rfl)) dX6_meets_66 ⟨Nat.zero_le _, Nat.zero_le _⟩).run ?_
    refine r_aload_n C0 dX6_meets_69 hl 1 rfl ?_
    refine r_bipush C0 (nI 48) dX6_meets_70 (by decide) ?_
    refine r_ialdC C0 hP 4 rfl 48 (by decide) dX6_meets_72 ?_
    refine r_icmp_ge h C0 80 dX6_meets_73 (by decide) (fun h => ?_) (fun h => ?_)
    · refine r_aload_n C0 dX6_meets_80 hl 1 rfl ?_
      refine r_iload C0 dX6_meets_81 hl 4 rfl ?_
      refine r_iconst C0 (nI 2) dX6_meets_83 (by decide) ?_
      obtain ⟨z3, hz3, h⟩ := bnd_some h
      have hPc := hP.sub (ws' := (fl [wArr K (aM 14) 353 (z1 13)])) [4] rfl
      refine r_cI (va_runS (As := [.ref (aM 14), .int x4, .int (nI 2)]) (rest := [.int x3, .ref (aM 0)]) C0.1 (ctX6_its l D K (aM 14) (z1 13) x4 (nI 2) z3 hz3) (va_cwS 3 C0.1.2.2.2.2 (gdS wd19_3 wd19_4 wd1_5 wd19_5) rfl rfl rfl (by decide +kernel) ⟨Nat.le_of_ble_eq_true rfl, Nat.le_of_ble_eq_true rfl⟩) ⟨pcR_blind, pcR_of hPc C0.2.2.2⟩ rfl rfl hl.1 rfl (lv_room (Nat.le_of_ble_eq_true rfl)) dX6_meets_84 ⟨Nat.zero_le _, Nat.zero_le _⟩).run ?_
      refine r_aload_n C0 dX6_meets_87 hl 1 rfl ?_
      refine r_bipush C0 (nI 48) dX6_meets_88 (by decide) ?_
      refine r_ialdC C0 hP 4 rfl 48 (by decide) dX6_meets_90 ?_
      refine r_isub C0 dX6_meets_91 ?_
      exact wX6_meets_92 C0 hA hk13 z1 ML x2 x3 x4 x3 (z3 - (z1 13 48)) h _ _ hP hD hS _ (lv_sub hl [0, 1, 2, 3, 4] rfl)
    · exact wX6_meets_76 C0 hA hk13 z1 ML x2 x3 x4 x3 h _ _ hP hD hS _ (lv_sub hl [0, 1, 2, 3, 4] rfl)
set_option maxHeartbeats 1000000 in
set_option maxRecDepth 10000 in
theorem wX6_meets_13 (C0 : cx p s m args meth c cX6_meets 7 RX6 wsX6_meets none D K) (hA : ∀ q, s.heap.size ≤ q → A q) {k13 : Rc → RcL → Int32 → Int32 → Int32 → Option (Rc × RcL)} (hk13 : IX6_meets_13 p l e s m args below meth c D K aM A z k13) (M : Rc) (ML : RcL) (x2 : Int32) (x3 : Int32) (x4 : Int32) (h : fX6_meets_13b N k13 M ML x2 x3 x4 = some z) (H : Heap) (locs : List Loc) (hP : va_P D vwCl (fl [wModel K aM M ML]) H) (hD : va_D A (fl [wModel K aM M ML])) (hS : va_S A s.heap H locs) (ls : Array Slot) (hl : lv_has ls 7 [(0, .ref (aM 0)), (1, .ref (aM 14)), (2, .int x2), (3, .int x3), (4, .int x4)]) : W p l e rmX6_meets s m args below meth c H locs 0 0 (MQ below (qcV D z (fun (u : Rc × RcL) => (fl [wModel K aM u.1 u.2])) A) args s 0 0 A) (F0 m 13 ls []) := by
  unfold fX6_meets_13b at h
  refine r_iload C0 dX6_meets_13 hl 4 rfl ?_
  refine r_aload_n C0 dX6_meets_15 hl 1 rfl ?_
  refine r_iconst C0 (nI 1) dX6_meets_16 (by decide) ?_
  refine r_ialdC C0 hP 4 rfl 1 (by decide) dX6_meets_17 ?_
  refine r_icmp_ge h C0 178 dX6_meets_18 (by decide) (fun h => ?_) (fun h => ?_)
  · refine r_iconst C0 (nI 0) dX6_meets_178 (by decide) ?_
    refine r_istore h C0 (fun v1 => [(4, .int v1), (0, .ref (aM 0)), (1, .ref (aM 14)), (2, .int x2), (3, .int x3)]) dX6_meets_179 hl (by decide) (fun _ => rfl) (fun v1 ls h hl => ?_)
    exact wX6_meets_181L C0 hA M ML x2 x3 v1 _ _ _ h hP hD hS (lv_sub hl [1, 2, 3, 4, 0] rfl)
  · refine r_aload_n C0 dX6_meets_21 hl 1 rfl ?_
    refine r_iload C0 dX6_meets_22 hl 4 rfl ?_
    obtain ⟨z2, hz2, h⟩ := bnd_some h
    have hPc := hP.sub (ws' := (fl [wArr K (aM 14) 353 (M 13)])) [4] rfl
    refine r_cI (va_runS (As := [.ref (aM 14), .int x4]) (rest := []) C0.1 (ctX6_isIdle l D K (aM 14) (M 13) x4 z2 hz2) (va_cwS 2 C0.1.2.2.2.2 (gdS wd19_0 wd19_1 wd1_5 wd19_2) rfl rfl rfl (by decide +kernel) ⟨Nat.le_of_ble_eq_true rfl, Nat.le_of_ble_eq_true rfl⟩) ⟨pcR_blind, pcR_of hPc C0.2.2.2⟩ rfl rfl hl.1 rfl (lv_room (Nat.le_of_ble_eq_true rfl)) dX6_meets_24 ⟨Nat.zero_le _, Nat.zero_le _⟩).run ?_
    refine r_istore h C0 (fun v3 => [(5, .int v3), (0, .ref (aM 0)), (1, .ref (aM 14)), (2, .int x2), (3, .int x3), (4, .int x4)]) dX6_meets_27 hl (by decide) (fun _ => rfl) (fun v3 ls h hl => ?_)
    refine r_aload_n C0 dX6_meets_29 hl 1 rfl ?_
    refine r_iload_n C0 dX6_meets_30 hl 4 rfl ?_
    refine r_iload C0 dX6_meets_31 hl 0 rfl ?_
    refine r_if_eq h C0 40 dX6_meets_33 (by decide) (fun h => ?_) (fun h => ?_)
    · refine r_aload_n C0 dX6_meets_40 hl 2 rfl ?_
      refine r_iload C0 dX6_meets_41 hl 5 rfl ?_
      refine r_iconst C0 (nI 3) dX6_meets_43 (by decide) ?_
      obtain ⟨z4, hz4, h⟩ := bnd_some h
      have hPc := hP.sub (ws' := (fl [wArr K (aM 14) 353 (M 13)])) [4] rfl
      refine r_cI (va_runS (As := [.ref (aM 14), .int x4, .int (nI 3)]) (rest := [.int x3, .ref (aM 0)]) C0.1 (ctX6_its l D K (aM 14) (M 13) x4 (nI 3) z4 hz4) (va_cwS 3 C0.1.2.2.2.2 (gdS wd19_3 wd19_4 wd1_5 wd19_5) rfl rfl rfl (by decide +kernel) ⟨Nat.le_of_ble_eq_true rfl, Nat.le_of_ble_eq_true rfl⟩) ⟨pcR_blind, pcR_of hPc C0.2.2.2⟩ rfl rfl hl.1 rfl (lv_room (Nat.le_of_ble_eq_true rfl)) dX6_meets_44 ⟨Nat.zero_le _, Nat.zero_le _⟩).run ?_
      refine r_aload_n C0 dX6_meets_47 hl 2 rfl ?_
      refine r_bipush C0 (nI 48) dX6_meets_48 (by decide) ?_
      refine r_ialdC C0 hP 4 rfl 48 (by decide) dX6_meets_50 ?_
      refine r_isub C0 dX6_meets_51 ?_
      exact wX6_meets_52 C0 hA hk13 M ML x2 x3 x4 v3 x3 (z4 - (M 13 48)) h _ _ hP hD hS _ (lv_sub hl [1, 2, 3, 4, 5, 0] rfl)
    · refine r_iconst C0 (-1 : Int32) dX6_meets_36 (by decide) ?_
      refine r_goto C0 52 dX6_meets_37 (by decide) ?_
      exact wX6_meets_52 C0 hA hk13 M ML x2 x3 x4 v3 x3 (-1 : Int32) h _ _ hP hD hS _ (lv_sub hl [1, 2, 3, 4, 5, 0] rfl)
theorem wX6_meets_13L (C0 : cx p s m args meth c cX6_meets 7 RX6 wsX6_meets none D K) (hA : ∀ q, s.heap.size ≤ q → A q) : IX6_meets_13 p l e s m args below meth c D K aM A z (fX6_meets_13 N) := by
  refine itn_ind (IX6_meets_13 p l e s m args below meth c D K aM A z) ?_ ?_ N
  · intro _ _ _ _ _ _ _ _ h; cases h
  · intro k13 hk13 M ML x2 x3 x4 H locs ls h hP hD hS hl
    exact wX6_meets_13 C0 hA hk13 M ML x2 x3 x4 h H locs hP hD hS ls hl
set_option maxHeartbeats 1000000 in
set_option maxRecDepth 10000 in
theorem wX6_meets_0 (C0 : cx p s m args meth c cX6_meets 7 RX6 wsX6_meets none D K) (hA : ∀ q, s.heap.size ≤ q → A q) (M : Rc) (ML : RcL) (x2 : Int32) (h : fX6_meets N M ML x2 = some z) (H : Heap) (locs : List Loc) (hP : va_P D vwCl (fl [wModel K aM M ML]) H) (hD : va_D A (fl [wModel K aM M ML])) (hS : va_S A s.heap H locs) (ls : Array Slot) (hl : lv_has ls 7 [(0, .ref (aM 0)), (1, .ref (aM 14)), (2, .int x2)]) : W p l e rmX6_meets s m args below meth c H locs 0 0 (MQ below (qcV D z (fun (u : Rc × RcL) => (fl [wModel K aM u.1 u.2])) A) args s 0 0 A) (F0 m 0 ls []) := by
  unfold fX6_meets at h
  refine r_bipush C0 (nI 58) dX6_meets_0 (by decide) ?_
  refine r_iload_n C0 dX6_meets_2 hl 2 rfl ?_
  refine r_imul C0 dX6_meets_3 ?_
  refine r_istore_n h C0 (fun v1 => [(3, .int v1), (0, .ref (aM 0)), (1, .ref (aM 14)), (2, .int x2)]) dX6_meets_4 hl (by decide) (fun _ => rfl) (fun v1 ls h hl => ?_)
  refine r_aload_n C0 dX6_meets_5 hl 1 rfl ?_
  refine r_iconst C0 (nI 0) dX6_meets_6 (by decide) ?_
  refine r_put (ty := .int) h C0 6 inx6 tyX6 tyX6_ok nmX6 hP hD hS 0 (fun uu => (fl [wModel K aM uu ML])) rfl rfl 21 (by decide) (mc wd28_23) rfl (by decide +kernel) rfl rfl (by simp) rfl dX6_meets_7 (fun M2 H locs h hP hD hS => ?_)
  refine r_iconst C0 (nI 0) dX6_meets_10 (by decide) ?_
  refine r_istore h C0 (fun v3 => [(4, .int v3), (3, .int v1), (0, .ref (aM 0)), (1, .ref (aM 14)), (2, .int x2)]) dX6_meets_11 hl (by decide) (fun _ => rfl) (fun v3 ls h hl => ?_)
  exact wX6_meets_13L C0 hA M2 ML x2 v1 v3 _ _ _ h hP hD hS (lv_sub hl [2, 3, 4, 1, 0] rfl)
set_option maxHeartbeats 1000000 in
set_option maxRecDepth 10000 in
theorem ctX6_meets (l : Launch) (D : va_G) (K : Nat → ClassId) (N : Nat) (aM : Nat → Nat) (M : Rc) (ML : RcL) (p2 : Int32) (sz : Nat) (z : Rc × RcL) (hz : fX6_meets N M ML p2 = some z) : Met l yX6_meets wsX6_meets rmX6_meets (pcW D K [.ref (aM 0), .ref (aM 14), .int p2] (fl [wModel K aM M ML]) sz) (qcV D z (fun (u : Rc × RcL) => (fl [wModel K aM u.1 u.2])) (va_A (fl [wModel K aM M ML]) sz)) 0 0 (va_A (fl [wModel K aM M ML]) sz) := by
  refine Met.ofW (cc := cX6_meets) (maxL := 7) (ret := none) (by decide) rfl ?_
  intro p e s m args below meth c s₁ B hml hv
  obtain ⟨rfl, hsz, hP, hK, hD0⟩ := hv
  subst hsz
  have C0 : cx p s m _ meth c cX6_meets 7 RX6 wsX6_meets none D K := ⟨⟨B.exec, B.bytes, hml, findClass_of_methodNamed B.named, atoms_spec (ws := wsX6_meets) B.pre⟩, B.returns, B.notSynchronized, hK⟩
  have hD := hD0.self (sz := s.heap.size)
  generalize hAe : va_A (fl [wModel K aM M ML]) s.heap.size = A at hD ⊢
  have hA : ∀ q : Nat, s.heap.size ≤ q → A q := fun q h => by rw [← hAe]; exact Or.inr h
  have hl := lv_entry ([.ref (aM 0), .ref (aM 14), .int p2]) (n := 7) (Nat.le_of_ble_eq_true rfl)
  rw [lg_entry_eq]
  generalize (lg_sl ([.ref (aM 0), .ref (aM 14), .int p2]) ++ List.replicate (7 - (lg_sl ([.ref (aM 0), .ref (aM 14), .int p2])).length) Slot.unset).toArray = ls at hl ⊢
  have hl : lv_has ls 7 [(0, .ref (aM 0)), (1, .ref (aM 14)), (2, .int p2)] := hl
  exact wX6_meets_0 C0 hA M ML p2 hz s.heap [] hP hD va_S.rf ls (lv_sub hl [0, 1, 2] rfl)
end SX6_meets

section SX6_isMet
/-! CardLoopsModel.isMet(II)Z -/
abbrev wsX6_isMet : List Cond := Cond.code yX6_isMet cX6_isMet 4 (some .boolean) :: wsL_law0
abbrev rmX6_isMet : Room := { frames := 0, cells := 0, slots := 0, locals := 0 }
variable {p : Program} {l : Launch} {e : Env} {s : State} {m : MethodId} {args : Array Value} {below : List Frame} {meth : Method} {c : Code} {D : va_G} {K : Nat → ClassId} {A : Nat → Prop} {N : Nat} {aM : Nat → Nat} {z : Int32}
def IX6_isMet_20 (p : Program) (l : Launch) (e : Env) (s : State) (m : MethodId) (args : Array Value) (below : List Frame) (meth : Method) (c : Code) (D : va_G) (K : Nat → ClassId) (aM : Nat → Nat) (z : Int32) (k : Rc → RcL → Int32 → Int32 → Int32 → Option (Int32)) : Prop := ∀ (M : Rc) (ML : RcL) (x1 : Int32) (x2 : Int32) (x3 : Int32) (ls : Array Slot), k M ML x1 x2 x3 = some z → va_P D vwCl (fl [wModel K aM M ML]) s.heap → lv_has ls 4 [(0, .ref (aM 0)), (1, .int x1), (2, .int x2), (3, .int x3)] → W p l e rmX6_isMet s m args below meth c s.heap [] 0 0 (MQ below (vp_Si (fun r => r = z)) args s 0 0 (fun _ => False)) (F0 m 20 ls [])
set_option maxHeartbeats 1000000 in
set_option maxRecDepth 10000 in
theorem wX6_isMet_20 (C0 : cx p s m args meth c cX6_isMet 4 RX6 wsX6_isMet (some .boolean) D K) {k20 : Rc → RcL → Int32 → Int32 → Int32 → Option (Int32)} (hk20 : IX6_isMet_20 p l e s m args below meth c D K aM z k20) (M : Rc) (ML : RcL) (x1 : Int32) (x2 : Int32) (x3 : Int32) (h : fX6_isMet_20b N k20 M ML x1 x2 x3 = some z) (hP : va_P D vwCl (fl [wModel K aM M ML]) s.heap) (ls : Array Slot) (hl : lv_has ls 4 [(0, .ref (aM 0)), (1, .int x1), (2, .int x2), (3, .int x3)]) : W p l e rmX6_isMet s m args below meth c s.heap [] 0 0 (MQ below (vp_Si (fun r => r = z)) args s 0 0 (fun _ => False)) (F0 m 20 ls []) := by
  unfold fX6_isMet_20b at h
  refine r_iload_n C0 dX6_isMet_20 hl 3 rfl ?_
  refine r_bipush C0 (nI 58) dX6_isMet_21 (by decide) ?_
  refine r_icmp_ge h C0 59 dX6_isMet_23 (by decide) (fun h => ?_) (fun h => ?_)
  · refine r_iconst C0 (nI 1) dX6_isMet_59 (by decide) ?_
    exact r_zretRC C0 h (by decide) dX6_isMet_60
  · refine r_aload_n C0 dX6_isMet_26 hl 0 rfl ?_
    refine r_get C0 6 inx6 hP 0 rfl rfl 16 (by decide) (mc wd5_16) (.ref (aM 17)) rfl dX6_isMet_27 ?_
    refine r_bipush C0 (nI 58) dX6_isMet_30 (by decide) ?_
    refine r_iload_n C0 dX6_isMet_32 hl 1 rfl ?_
    refine r_imul C0 dX6_isMet_33 ?_
    refine r_iload_n C0 dX6_isMet_34 hl 3 rfl ?_
    refine r_iadd C0 dX6_isMet_35 ?_
    refine r_iald h C0 hP 6 rfl dX6_isMet_36 (fun h => ?_)
    refine r_aload_n C0 dX6_isMet_37 hl 0 rfl ?_
    refine r_get C0 6 inx6 hP 0 rfl rfl 16 (by decide) (mc wd5_16) (.ref (aM 17)) rfl dX6_isMet_38 ?_
    refine r_bipush C0 (nI 58) dX6_isMet_41 (by decide) ?_
    refine r_iload_n C0 dX6_isMet_43 hl 2 rfl ?_
    refine r_imul C0 dX6_isMet_44 ?_
    refine r_iload_n C0 dX6_isMet_45 hl 3 rfl ?_
    refine r_iadd C0 dX6_isMet_46 ?_
    refine r_iald h C0 hP 6 rfl dX6_isMet_47 (fun h => ?_)
    refine r_icmp_eq h C0 53 dX6_isMet_48 (by decide) (fun h => ?_) (fun h => ?_)
    · refine r_iinc h C0 3 (fun v1 => [(3, .int v1), (0, .ref (aM 0)), (1, .int x1), (2, .int x2)]) dX6_isMet_53 hl rfl rfl (by decide) (fun _ => rfl) (fun v1 ls h hl => ?_)
      refine r_goto C0 20 dX6_isMet_56 (by decide) ?_
      exact hk20 M ML x1 x2 v1 _ h hP (lv_sub hl [1, 2, 3, 0] rfl)
    · refine r_iconst C0 (nI 0) dX6_isMet_51 (by decide) ?_
      exact r_zretRC C0 h (by decide) dX6_isMet_52
theorem wX6_isMet_20L (C0 : cx p s m args meth c cX6_isMet 4 RX6 wsX6_isMet (some .boolean) D K) : IX6_isMet_20 p l e s m args below meth c D K aM z (fX6_isMet_20 N) := by
  refine itn_ind (IX6_isMet_20 p l e s m args below meth c D K aM z) ?_ ?_ N
  · intro _ _ _ _ _ _ h; cases h
  · intro k20 hk20 M ML x1 x2 x3 ls h hP hl
    exact wX6_isMet_20 C0 hk20 M ML x1 x2 x3 h hP ls hl
set_option maxHeartbeats 1000000 in
set_option maxRecDepth 10000 in
theorem wX6_isMet_0 (C0 : cx p s m args meth c cX6_isMet 4 RX6 wsX6_isMet (some .boolean) D K) (M : Rc) (ML : RcL) (x1 : Int32) (x2 : Int32) (h : fX6_isMet N M ML x1 x2 = some z) (hP : va_P D vwCl (fl [wModel K aM M ML]) s.heap) (ls : Array Slot) (hl : lv_has ls 4 [(0, .ref (aM 0)), (1, .int x1), (2, .int x2)]) : W p l e rmX6_isMet s m args below meth c s.heap [] 0 0 (MQ below (vp_Si (fun r => r = z)) args s 0 0 (fun _ => False)) (F0 m 0 ls []) := by
  unfold fX6_isMet at h
  refine r_aload_n C0 dX6_isMet_0 hl 0 rfl ?_
  refine r_get C0 6 inx6 hP 0 rfl rfl 18 (by decide) (mc wd5_18) (.ref (aM 19)) rfl dX6_isMet_1 ?_
  refine r_iload_n C0 dX6_isMet_4 hl 1 rfl ?_
  refine r_lald h C0 hP 8 rfl dX6_isMet_5 (fun h => ?_)
  refine r_aload_n C0 dX6_isMet_6 hl 0 rfl ?_
  refine r_get C0 6 inx6 hP 0 rfl rfl 18 (by decide) (mc wd5_18) (.ref (aM 19)) rfl dX6_isMet_7 ?_
  refine r_iload_n C0 dX6_isMet_10 hl 2 rfl ?_
  refine r_lald h C0 hP 8 rfl dX6_isMet_11 (fun h => ?_)
  refine r_lcmp C0 dX6_isMet_12 ?_
  refine r_if_eq h C0 18 dX6_isMet_13 (by decide) (fun h => ?_) (fun h => ?_)
  · refine r_iconst C0 (nI 0) dX6_isMet_18 (by decide) ?_
    refine r_istore_n h C0 (fun v1 => [(3, .int v1), (0, .ref (aM 0)), (1, .int x1), (2, .int x2)]) dX6_isMet_19 hl (by decide) (fun _ => rfl) (fun v1 ls h hl => ?_)
    exact wX6_isMet_20L C0 M ML x1 x2 v1 _ h hP (lv_sub hl [1, 2, 3, 0] rfl)
  · refine r_iconst C0 (nI 0) dX6_isMet_16 (by decide) ?_
    exact r_zretRC C0 h (by decide) dX6_isMet_17
set_option maxHeartbeats 1000000 in
set_option maxRecDepth 10000 in
theorem ctX6_isMet (l : Launch) (D : va_G) (K : Nat → ClassId) (N : Nat) (aM : Nat → Nat) (M : Rc) (ML : RcL) (p1 : Int32) (p2 : Int32) (z : Int32) (hz : fX6_isMet N M ML p1 p2 = some z) : Met l yX6_isMet wsX6_isMet rmX6_isMet (pcR D K [.ref (aM 0), .int p1, .int p2] (fl [wModel K aM M ML])) (vp_Si (fun r => r = z)) 0 0 (fun _ => False) := by
  refine Met.ofW (cc := cX6_isMet) (maxL := 4) (ret := (some .boolean)) (by decide) rfl ?_
  intro p e s m args below meth c s₁ B hml hv
  obtain ⟨rfl, hP, hK⟩ := hv
  have C0 : cx p s m _ meth c cX6_isMet 4 RX6 wsX6_isMet (some .boolean) D K := ⟨⟨B.exec, B.bytes, hml, findClass_of_methodNamed B.named, atoms_spec (ws := wsX6_isMet) B.pre⟩, B.returns, B.notSynchronized, hK⟩
  have hl := lv_entry ([.ref (aM 0), .int p1, .int p2]) (n := 4) (Nat.le_of_ble_eq_true rfl)
  rw [lg_entry_eq]
  generalize (lg_sl ([.ref (aM 0), .int p1, .int p2]) ++ List.replicate (4 - (lg_sl ([.ref (aM 0), .int p1, .int p2])).length) Slot.unset).toArray = ls at hl ⊢
  have hl : lv_has ls 4 [(0, .ref (aM 0)), (1, .int p1), (2, .int p2)] := hl
  exact wX6_isMet_0 C0 M ML p1 p2 hz hP ls (lv_sub hl [0, 1, 2] rfl)
end SX6_isMet

section SX6_laysPace
/-! CardLoopsModel.laysPace()Z -/
abbrev wsX6_laysPace : List Cond := Cond.code yX6_laysPace cX6_laysPace 4 (some .boolean) :: wsL_law0
abbrev rmX6_laysPace : Room := { frames := 1601, cells := 0, slots := 0, locals := 33621 }
variable {p : Program} {l : Launch} {e : Env} {s : State} {m : MethodId} {args : Array Value} {below : List Frame} {meth : Method} {c : Code} {D : va_G} {K : Nat → ClassId} {A : Nat → Prop} {N : Nat} {aM : Nat → Nat} {z : Int32 × (Rc × RcL)}
def IX6_laysPace_51 (p : Program) (l : Launch) (e : Env) (s : State) (m : MethodId) (args : Array Value) (below : List Frame) (meth : Method) (c : Code) (D : va_G) (K : Nat → ClassId) (aM : Nat → Nat) (A : Nat → Prop) (z : Int32 × (Rc × RcL)) (k : Rc → RcL → Int32 → Int32 → Option (Int32 × (Rc × RcL))) : Prop := ∀ (M : Rc) (ML : RcL) (x1 : Int32) (x2 : Int32) (H : Heap) (locs : List Loc) (ls : Array Slot), k M ML x1 x2 = some z → va_P D vwCl (fl [wModel K aM M ML]) H → va_D A (fl [wModel K aM M ML]) → va_S A s.heap H locs → lv_has ls 4 [(0, .ref (aM 0)), (1, .int x1), (2, .int x2)] → W p l e rmX6_laysPace s m args below meth c H locs 0 0 (MQ below (qcI D z (fun (u : Rc × RcL) => (fl [wModel K aM u.1 u.2])) A) args s 0 0 A) (F0 m 51 ls [])
def IX6_laysPace_16 (p : Program) (l : Launch) (e : Env) (s : State) (m : MethodId) (args : Array Value) (below : List Frame) (meth : Method) (c : Code) (D : va_G) (K : Nat → ClassId) (aM : Nat → Nat) (A : Nat → Prop) (z : Int32 × (Rc × RcL)) (k : Rc → RcL → Int32 → Option (Int32 × (Rc × RcL))) : Prop := ∀ (M : Rc) (ML : RcL) (x1 : Int32) (H : Heap) (locs : List Loc) (ls : Array Slot), k M ML x1 = some z → va_P D vwCl (fl [wModel K aM M ML]) H → va_D A (fl [wModel K aM M ML]) → va_S A s.heap H locs → lv_has ls 4 [(0, .ref (aM 0)), (1, .int x1)] → W p l e rmX6_laysPace s m args below meth c H locs 0 0 (MQ below (qcI D z (fun (u : Rc × RcL) => (fl [wModel K aM u.1 u.2])) A) args s 0 0 A) (F0 m 16 ls [])
def IX6_laysPace_9 (p : Program) (l : Launch) (e : Env) (s : State) (m : MethodId) (args : Array Value) (below : List Frame) (meth : Method) (c : Code) (D : va_G) (K : Nat → ClassId) (aM : Nat → Nat) (A : Nat → Prop) (z : Int32 × (Rc × RcL)) (k : Rc → RcL → Int32 → Option (Int32 × (Rc × RcL))) : Prop := ∀ (M : Rc) (ML : RcL) (x1 : Int32) (H : Heap) (locs : List Loc) (ls : Array Slot), k M ML x1 = some z → va_P D vwCl (fl [wModel K aM M ML]) H → va_D A (fl [wModel K aM M ML]) → va_S A s.heap H locs → lv_has ls 4 [(0, .ref (aM 0)), (1, .int x1)] → W p l e rmX6_laysPace s m args below meth c H locs 0 0 (MQ below (qcI D z (fun (u : Rc × RcL) => (fl [wModel K aM u.1 u.2])) A) args s 0 0 A) (F0 m 9 ls [])
set_option maxHeartbeats 1000000 in
set_option maxRecDepth 10000 in
theorem wX6_laysPace_51 (C0 : cx p s m args meth c cX6_laysPace 4 RX6 wsX6_laysPace (some .boolean) D K) (hA : ∀ q, s.heap.size ≤ q → A q) {k9 : Rc → RcL → Int32 → Option (Int32 × (Rc × RcL))} (hk9 : IX6_laysPace_9 p l e s m args below meth c D K aM A z k9) {k51 : Rc → RcL → Int32 → Int32 → Option (Int32 × (Rc × RcL))} (hk51 : IX6_laysPace_51 p l e s m args below meth c D K aM A z k51) (M : Rc) (ML : RcL) (x1 : Int32) (x2 : Int32) (h : fX6_laysPace_51b N k9 k51 M ML x1 x2 = some z) (H : Heap) (locs : List Loc) (hP : va_P D vwCl (fl [wModel K aM M ML]) H) (hD : va_D A (fl [wModel K aM M ML])) (hS : va_S A s.heap H locs) (ls : Array Slot) (hl : lv_has ls 4 [(0, .ref (aM 0)), (1, .int x1), (2, .int x2)]) : W p l e rmX6_laysPace s m args below meth c H locs 0 0 (MQ below (qcI D z (fun (u : Rc × RcL) => (fl [wModel K aM u.1 u.2])) A) args s 0 0 A) (F0 m 51 ls []) := by
  unfold fX6_laysPace_51b at h
  refine r_iload_n C0 dX6_laysPace_51 hl 2 rfl ?_
  refine r_if_lt h C0 123 dX6_laysPace_52 (by decide) (fun h => ?_) (fun h => ?_)
  · refine r_iinc h C0 1 (fun v1 => [(1, .int v1), (0, .ref (aM 0)), (2, .int x2)]) dX6_laysPace_123 hl rfl rfl (by decide) (fun _ => rfl) (fun v1 ls h hl => ?_)
    refine r_goto C0 9 dX6_laysPace_126 (by decide) ?_
    exact hk9 M ML v1 _ _ _ h hP hD hS (lv_sub hl [1, 0] rfl)
  · refine r_aload_n C0 dX6_laysPace_55 hl 0 rfl ?_
    refine r_iload_n C0 dX6_laysPace_56 hl 2 rfl ?_
    refine r_iload_n C0 dX6_laysPace_57 hl 1 rfl ?_
    obtain ⟨z2, hz2, h⟩ := bnd_some h
    have hPc := vaP_sel (Wc := [wModel K aM M ML]) hP [0] rfl
    refine r_cI (va_runV (As := [.int x2, .int x1]) (rest := []) C0.1 (ctX6_isMet l D K N aM M ML x2 x1 z2 hz2) (cwV 2 C0.1.2.2.2.2 (gdV wd29_6 wd29_7 wd29_8 wd1_5 wd29_9) rfl rfl rfl (by decide +kernel) ⟨Nat.le_of_ble_eq_true rfl, Nat.le_of_ble_eq_true rfl⟩) ⟨pcR_blind, va_recv C0.2.2.2.1 hPc (ci := 6) (q0 := 0) rfl rfl, pcR_of hPc C0.2.2.2⟩ rfl rfl hl.1 rfl (lv_room (Nat.le_of_ble_eq_true rfl)) dX6_laysPace_58 ⟨Nat.zero_le _, Nat.zero_le _⟩).run ?_
    refine r_if_ne h C0 67 dX6_laysPace_61 (by decide) (fun h => ?_) (fun h => ?_)
    · refine r_iload_n C0 dX6_laysPace_67 hl 1 rfl ?_
      refine r_iload_n C0 dX6_laysPace_68 hl 2 rfl ?_
      refine r_isub C0 dX6_laysPace_69 ?_
      refine r_aload_n C0 dX6_laysPace_70 hl 0 rfl ?_
      refine r_get C0 6 inx6 hP 0 rfl rfl 17 (by decide) (mc wd5_17) (.ref (aM 18)) rfl dX6_laysPace_71 ?_
      refine r_iload_n C0 dX6_laysPace_74 hl 1 rfl ?_
      refine r_iald h C0 hP 7 rfl dX6_laysPace_75 (fun h => ?_)
      refine r_aload_n C0 dX6_laysPace_76 hl 0 rfl ?_
      refine r_get C0 6 inx6 hP 0 rfl rfl 17 (by decide) (mc wd5_17) (.ref (aM 18)) rfl dX6_laysPace_77 ?_
      refine r_iload_n C0 dX6_laysPace_80 hl 2 rfl ?_
      refine r_iald h C0 hP 7 rfl dX6_laysPace_81 (fun h => ?_)
      refine r_isub C0 dX6_laysPace_82 ?_
      obtain ⟨z3, hz3, h⟩ := bnd_some h
      have hPc : va_P D vwCl [] H := va_P_nil
      refine r_cI (va_runS (As := [.int (x1 - x2), .int ((M 17 x1.toNatClampNeg) - (M 17 x2.toNatClampNeg))]) (rest := []) C0.1 (ctX6_divisor l D K (x1 - x2) ((M 17 x1.toNatClampNeg) - (M 17 x2.toNatClampNeg)) z3 hz3) (va_cwS 2 C0.1.2.2.2.2 (gdS wd29_10 wd29_11 wd1_5 wd29_12) rfl rfl rfl (by decide +kernel) ⟨Nat.le_of_ble_eq_true rfl, Nat.le_of_ble_eq_true rfl⟩) ⟨pcR_blind, pcR_of hPc C0.2.2.2⟩ rfl rfl hl.1 rfl (lv_room (Nat.le_of_ble_eq_true rfl)) dX6_laysPace_83 ⟨Nat.zero_le _, Nat.zero_le _⟩).run ?_
      refine r_istore_n h C0 (fun v4 => [(3, .int v4), (0, .ref (aM 0)), (1, .int x1), (2, .int x2)]) dX6_laysPace_86 hl (by decide) (fun _ => rfl) (fun v4 ls h hl => ?_)
      refine r_aload_n C0 dX6_laysPace_87 hl 1 rfl ?_
      refine r_iload_n C0 dX6_laysPace_88 hl 2 rfl ?_
      refine r_iload_n C0 dX6_laysPace_89 hl 3 rfl ?_
      refine r_isub C0 dX6_laysPace_90 ?_
      refine r_iload_n C0 dX6_laysPace_91 hl 0 rfl ?_
      refine r_idiv h C0 dX6_laysPace_92 (fun h => ?_)
      refine r_put (ty := .int) h C0 6 inx6 tyX6 tyX6_ok nmX6 hP hD hS 0 (fun uu => (fl [wModel K aM uu ML])) rfl rfl 19 (by decide) (mc wd28_13) rfl (by decide +kernel) rfl rfl (by simp) rfl dX6_laysPace_93 (fun M5 H locs h hP hD hS => ?_)
      refine r_aload_n C0 dX6_laysPace_96 hl 1 rfl ?_
      refine r_aload_n C0 dX6_laysPace_97 hl 1 rfl ?_
      refine r_get C0 6 inx6 hP 0 rfl rfl 17 (by decide) (mc wd5_17) (.ref (aM 18)) rfl dX6_laysPace_98 ?_
      refine r_iload_n C0 dX6_laysPace_101 hl 2 rfl ?_
      refine r_iald h C0 hP 7 rfl dX6_laysPace_102 (fun h => ?_)
      refine r_aload_n C0 dX6_laysPace_103 hl 1 rfl ?_
      refine r_get C0 6 inx6 hP 0 rfl rfl 17 (by decide) (mc wd5_17) (.ref (aM 18)) rfl dX6_laysPace_104 ?_
      refine r_iload_n C0 dX6_laysPace_107 hl 3 rfl ?_
      refine r_iald h C0 hP 7 rfl dX6_laysPace_108 (fun h => ?_)
      refine r_isub C0 dX6_laysPace_109 ?_
      refine r_iload_n C0 dX6_laysPace_110 hl 0 rfl ?_
      refine r_idiv h C0 dX6_laysPace_111 (fun h => ?_)
      refine r_put (ty := .int) h C0 6 inx6 tyX6 tyX6_ok nmX6 hP hD hS 0 (fun uu => (fl [wModel K aM uu ML])) rfl rfl 20 (by decide) (mc wd28_14) rfl (by decide +kernel) rfl rfl (by simp) rfl dX6_laysPace_112 (fun M6 H locs h hP hD hS => ?_)
      refine r_iconst C0 (nI 1) dX6_laysPace_115 (by decide) ?_
      exact r_zretC h (by decide) C0 (fun (u : Rc × RcL) => (fl [wModel K aM u.1 u.2])) hP hD hS dX6_laysPace_116
    · refine r_goto C0 117 dX6_laysPace_64 (by decide) ?_
      refine r_iinc h C0 2 (fun v7 => [(2, .int v7), (0, .ref (aM 0)), (1, .int x1)]) dX6_laysPace_117 hl rfl rfl (by decide) (fun _ => rfl) (fun v7 ls h hl => ?_)
      refine r_goto C0 51 dX6_laysPace_120 (by decide) ?_
      exact hk51 M ML x1 v7 _ _ _ h hP hD hS (lv_sub hl [1, 2, 0] rfl)
theorem wX6_laysPace_51L (C0 : cx p s m args meth c cX6_laysPace 4 RX6 wsX6_laysPace (some .boolean) D K) (hA : ∀ q, s.heap.size ≤ q → A q) {k9 : Rc → RcL → Int32 → Option (Int32 × (Rc × RcL))} (hk9 : IX6_laysPace_9 p l e s m args below meth c D K aM A z k9) : IX6_laysPace_51 p l e s m args below meth c D K aM A z (fX6_laysPace_51 N k9) := by
  refine itn_ind (IX6_laysPace_51 p l e s m args below meth c D K aM A z) ?_ ?_ N
  · intro _ _ _ _ _ _ _ h; cases h
  · intro k51 hk51 M ML x1 x2 H locs ls h hP hD hS hl
    exact wX6_laysPace_51 C0 hA hk9 hk51 M ML x1 x2 h H locs hP hD hS ls hl
set_option maxHeartbeats 1000000 in
set_option maxRecDepth 10000 in
theorem wX6_laysPace_16 (C0 : cx p s m args meth c cX6_laysPace 4 RX6 wsX6_laysPace (some .boolean) D K) (hA : ∀ q, s.heap.size ≤ q → A q) {k9 : Rc → RcL → Int32 → Option (Int32 × (Rc × RcL))} (hk9 : IX6_laysPace_9 p l e s m args below meth c D K aM A z k9) {k16 : Rc → RcL → Int32 → Option (Int32 × (Rc × RcL))} (hk16 : IX6_laysPace_16 p l e s m args below meth c D K aM A z k16) (M : Rc) (ML : RcL) (x1 : Int32) (h : fX6_laysPace_16b N k9 k16 M ML x1 = some z) (H : Heap) (locs : List Loc) (hP : va_P D vwCl (fl [wModel K aM M ML]) H) (hD : va_D A (fl [wModel K aM M ML])) (hS : va_S A s.heap H locs) (ls : Array Slot) (hl : lv_has ls 4 [(0, .ref (aM 0)), (1, .int x1)]) : W p l e rmX6_laysPace s m args below meth c H locs 0 0 (MQ below (qcI D z (fun (u : Rc × RcL) => (fl [wModel K aM u.1 u.2])) A) args s 0 0 A) (F0 m 16 ls []) := by
  unfold fX6_laysPace_16b at h
  refine r_aload_n C0 dX6_laysPace_16 hl 0 rfl ?_
  refine r_get C0 6 inx6 hP 0 rfl rfl 13 (by decide) (mc wd5_13) (.ref (aM 14)) rfl dX6_laysPace_17 ?_
  refine r_bipush C0 (nI 49) dX6_laysPace_20 (by decide) ?_
  refine r_ialdC C0 hP 4 rfl 49 (by decide) dX6_laysPace_22 ?_
  refine r_iload_n C0 dX6_laysPace_23 hl 1 rfl ?_
  refine r_icmp_gt h C0 38 dX6_laysPace_24 (by decide) (fun h => ?_) (fun h => ?_)
  · refine r_aload_n C0 dX6_laysPace_38 hl 0 rfl ?_
    refine r_aload_n C0 dX6_laysPace_39 hl 0 rfl ?_
    refine r_get C0 6 inx6 hP 0 rfl rfl 13 (by decide) (mc wd5_13) (.ref (aM 14)) rfl dX6_laysPace_40 ?_
    refine r_iload_n C0 dX6_laysPace_43 hl 1 rfl ?_
    obtain ⟨z1, hz1, h⟩ := bnd_some h
    refine r_callVC (Wc := [wModel K aM M ML]) (wf := fun (u : Rc × RcL) => [wModel K aM u.1 u.2]) (Wn := [wModel K aM z1.1 z1.2]) hP hD hS hA [0] [] [0] 1 rfl rfl (by decide) rfl rfl (by decide) (fun hPc hDc hFc => va_runV (As := [.ref (aM 14), .int x1]) (rest := []) C0.1 (ctX6_meets l D K N aM M ML x1 H.size z1 hz1) (cwV 2 C0.1.2.2.2.2 (gdV wd28_19 wd28_20 wd28_21 wd1_5 wd28_22) rfl rfl rfl (by decide +kernel) ⟨Nat.le_of_ble_eq_true rfl, Nat.le_of_ble_eq_true rfl⟩) ⟨pcW_blind, va_recv C0.2.2.2.1 hPc (ci := 6) (q0 := 0) rfl rfl, pcW_of hPc hDc C0.2.2.2⟩ rfl rfl hl.1 rfl (lv_room (Nat.le_of_ble_eq_true rfl)) dX6_laysPace_44 ⟨Nat.zero_le _, Nat.zero_le _⟩) (fun H locs hP hD hS => ?_)
    refine r_iload_n C0 dX6_laysPace_47 hl 1 rfl ?_
    refine r_iconst C0 (nI 1) dX6_laysPace_48 (by decide) ?_
    refine r_isub C0 dX6_laysPace_49 ?_
    refine r_istore_n h C0 (fun v2 => [(2, .int v2), (0, .ref (aM 0)), (1, .int x1)]) dX6_laysPace_50 hl (by decide) (fun _ => rfl) (fun v2 ls h hl => ?_)
    exact wX6_laysPace_51L C0 hA hk9 z1.1 z1.2 x1 v2 _ _ _ h hP hD hS (lv_sub hl [1, 2, 0] rfl)
  · refine r_aload_n C0 dX6_laysPace_27 hl 0 rfl ?_
    refine r_get C0 6 inx6 hP 0 rfl rfl 13 (by decide) (mc wd5_13) (.ref (aM 14)) rfl dX6_laysPace_28 ?_
    obtain ⟨z3, hz3, h⟩ := bnd_some h
    refine r_callI (wc := (fl [wArr K (aM 14) 353 (M 13)])) (wf := fun (u : (Nat → Int32)) => (fl [wArr K (aM 14) 353 u])) (wn := (fl [wModel K aM (va_up M 13 z3.2) ML])) hP hD hS hA [4] [0, 1, 2, 3, 5, 6, 7, 8] [0, 1, 2, 3, 8, 4, 5, 6, 7] rfl (by decide) rfl (by decide) (by decide) rfl (by decide) (fun hPc hDc => va_runS (As := [.ref (aM 14)]) (rest := []) C0.1 (ctX6_steps l D K N (aM 14) (M 13) H.size z3 hz3) (va_cwS 1 C0.1.2.2.2.2 (gdS wd26_4 wd26_5 wd1_5 wd26_6) rfl rfl rfl (by decide +kernel) ⟨Nat.le_of_ble_eq_true rfl, Nat.le_of_ble_eq_true rfl⟩) ⟨pcW_blind, pcW_of hPc hDc C0.2.2.2⟩ rfl rfl hl.1 rfl (lv_room (Nat.le_of_ble_eq_true rfl)) dX6_laysPace_31 ⟨Nat.zero_le _, Nat.zero_le _⟩) (fun H locs hP hD hS => ?_)
    refine nm_w h (fun uu => (fl [wModel K aM uu ML])) hP hD (fun M4 h hP hD => ?_)
    refine r_pop C0 dX6_laysPace_34 rfl ?_
    refine r_goto C0 16 dX6_laysPace_35 (by decide) ?_
    exact hk16 M4 ML x1 _ _ _ h hP hD hS (lv_sub hl [0, 1] rfl)
theorem wX6_laysPace_16L (C0 : cx p s m args meth c cX6_laysPace 4 RX6 wsX6_laysPace (some .boolean) D K) (hA : ∀ q, s.heap.size ≤ q → A q) {k9 : Rc → RcL → Int32 → Option (Int32 × (Rc × RcL))} (hk9 : IX6_laysPace_9 p l e s m args below meth c D K aM A z k9) : IX6_laysPace_16 p l e s m args below meth c D K aM A z (fX6_laysPace_16 N k9) := by
  refine itn_ind (IX6_laysPace_16 p l e s m args below meth c D K aM A z) ?_ ?_ N
  · intro _ _ _ _ _ _ h; cases h
  · intro k16 hk16 M ML x1 H locs ls h hP hD hS hl
    exact wX6_laysPace_16 C0 hA hk9 hk16 M ML x1 h H locs hP hD hS ls hl
set_option maxHeartbeats 1000000 in
set_option maxRecDepth 10000 in
theorem wX6_laysPace_9 (C0 : cx p s m args meth c cX6_laysPace 4 RX6 wsX6_laysPace (some .boolean) D K) (hA : ∀ q, s.heap.size ≤ q → A q) {k9 : Rc → RcL → Int32 → Option (Int32 × (Rc × RcL))} (hk9 : IX6_laysPace_9 p l e s m args below meth c D K aM A z k9) (M : Rc) (ML : RcL) (x1 : Int32) (h : fX6_laysPace_9b N k9 M ML x1 = some z) (H : Heap) (locs : List Loc) (hP : va_P D vwCl (fl [wModel K aM M ML]) H) (hD : va_D A (fl [wModel K aM M ML])) (hS : va_S A s.heap H locs) (ls : Array Slot) (hl : lv_has ls 4 [(0, .ref (aM 0)), (1, .int x1)]) : W p l e rmX6_laysPace s m args below meth c H locs 0 0 (MQ below (qcI D z (fun (u : Rc × RcL) => (fl [wModel K aM u.1 u.2])) A) args s 0 0 A) (F0 m 9 ls []) := by
  unfold fX6_laysPace_9b at h
  refine r_iload_n C0 dX6_laysPace_9 hl 1 rfl ?_
  refine r_sipush C0 (nI 1500) dX6_laysPace_10 (by decide) ?_
  refine r_icmp_ge h C0 129 dX6_laysPace_13 (by decide) (fun h => ?_) (fun h => ?_)
  · refine r_iconst C0 (nI 0) dX6_laysPace_129 (by decide) ?_
    exact r_zretC h (by decide) C0 (fun (u : Rc × RcL) => (fl [wModel K aM u.1 u.2])) hP hD hS dX6_laysPace_130
  · exact wX6_laysPace_16L C0 hA hk9 M ML x1 _ _ _ h hP hD hS (lv_sub hl [0, 1] rfl)
theorem wX6_laysPace_9L (C0 : cx p s m args meth c cX6_laysPace 4 RX6 wsX6_laysPace (some .boolean) D K) (hA : ∀ q, s.heap.size ≤ q → A q) : IX6_laysPace_9 p l e s m args below meth c D K aM A z (fX6_laysPace_9 N) := by
  refine itn_ind (IX6_laysPace_9 p l e s m args below meth c D K aM A z) ?_ ?_ N
  · intro _ _ _ _ _ _ h; cases h
  · intro k9 hk9 M ML x1 H locs ls h hP hD hS hl
    exact wX6_laysPace_9 C0 hA hk9 M ML x1 h H locs hP hD hS ls hl
set_option maxHeartbeats 1000000 in
set_option maxRecDepth 10000 in
theorem wX6_laysPace_0 (C0 : cx p s m args meth c cX6_laysPace 4 RX6 wsX6_laysPace (some .boolean) D K) (hA : ∀ q, s.heap.size ≤ q → A q) (M : Rc) (ML : RcL) (h : fX6_laysPace N M ML = some z) (H : Heap) (locs : List Loc) (hP : va_P D vwCl (fl [wModel K aM M ML]) H) (hD : va_D A (fl [wModel K aM M ML])) (hS : va_S A s.heap H locs) (ls : Array Slot) (hl : lv_has ls 4 [(0, .ref (aM 0))]) : W p l e rmX6_laysPace s m args below meth c H locs 0 0 (MQ below (qcI D z (fun (u : Rc × RcL) => (fl [wModel K aM u.1 u.2])) A) args s 0 0 A) (F0 m 0 ls []) := by
  unfold fX6_laysPace at h
  refine r_aload_n C0 dX6_laysPace_0 hl 0 rfl ?_
  refine r_get C0 6 inx6 hP 0 rfl rfl 13 (by decide) (mc wd5_13) (.ref (aM 14)) rfl dX6_laysPace_1 ?_
  obtain ⟨z1, hz1, h⟩ := bnd_some h
  refine r_callV (wc := (fl [wArr K (aM 14) 353 (M 13)])) (wf := fun (u : (Nat → Int32)) => (fl [wArr K (aM 14) 353 u])) (wn := (fl [wModel K aM (va_up M 13 z1) ML])) hP hD hS hA [4] [0, 1, 2, 3, 5, 6, 7, 8] [0, 1, 2, 3, 8, 4, 5, 6, 7] rfl (by decide) rfl (by decide) (by decide) rfl (by decide) (fun hPc hDc => va_runS (As := [.ref (aM 14)]) (rest := []) C0.1 (ctX6_begins l D K N (aM 14) (M 13) H.size z1 hz1) (va_cwS 1 C0.1.2.2.2.2 (gdS wd18_18 wd18_19 wd1_5 wd18_20) rfl rfl rfl (by decide +kernel) ⟨Nat.le_of_ble_eq_true rfl, Nat.le_of_ble_eq_true rfl⟩) ⟨pcW_blind, pcW_of hPc hDc C0.2.2.2⟩ rfl rfl hl.1 rfl (lv_room (Nat.le_of_ble_eq_true rfl)) dX6_laysPace_4 ⟨Nat.zero_le _, Nat.zero_le _⟩) (fun H locs hP hD hS => ?_)
  refine nm_w h (fun uu => (fl [wModel K aM uu ML])) hP hD (fun M2 h hP hD => ?_)
  refine r_iconst C0 (nI 0) dX6_laysPace_7 (by decide) ?_
  refine r_istore_n h C0 (fun v3 => [(1, .int v3), (0, .ref (aM 0))]) dX6_laysPace_8 hl (by decide) (fun _ => rfl) (fun v3 ls h hl => ?_)
  exact wX6_laysPace_9L C0 hA M2 ML v3 _ _ _ h hP hD hS (lv_sub hl [1, 0] rfl)
set_option maxHeartbeats 1000000 in
set_option maxRecDepth 10000 in
theorem ctX6_laysPace (l : Launch) (D : va_G) (K : Nat → ClassId) (N : Nat) (aM : Nat → Nat) (M : Rc) (ML : RcL) (sz : Nat) (z : Int32 × (Rc × RcL)) (hz : fX6_laysPace N M ML = some z) : Met l yX6_laysPace wsX6_laysPace rmX6_laysPace (pcW D K [.ref (aM 0)] (fl [wModel K aM M ML]) sz) (qcI D z (fun (u : Rc × RcL) => (fl [wModel K aM u.1 u.2])) (va_A (fl [wModel K aM M ML]) sz)) 0 0 (va_A (fl [wModel K aM M ML]) sz) := by
  refine Met.ofW (cc := cX6_laysPace) (maxL := 4) (ret := (some .boolean)) (by decide) rfl ?_
  intro p e s m args below meth c s₁ B hml hv
  obtain ⟨rfl, hsz, hP, hK, hD0⟩ := hv
  subst hsz
  have C0 : cx p s m _ meth c cX6_laysPace 4 RX6 wsX6_laysPace (some .boolean) D K := ⟨⟨B.exec, B.bytes, hml, findClass_of_methodNamed B.named, atoms_spec (ws := wsX6_laysPace) B.pre⟩, B.returns, B.notSynchronized, hK⟩
  have hD := hD0.self (sz := s.heap.size)
  generalize hAe : va_A (fl [wModel K aM M ML]) s.heap.size = A at hD ⊢
  have hA : ∀ q : Nat, s.heap.size ≤ q → A q := fun q h => by rw [← hAe]; exact Or.inr h
  have hl := lv_entry ([.ref (aM 0)]) (n := 4) (Nat.le_of_ble_eq_true rfl)
  rw [lg_entry_eq]
  generalize (lg_sl ([.ref (aM 0)]) ++ List.replicate (4 - (lg_sl ([.ref (aM 0)])).length) Slot.unset).toArray = ls at hl ⊢
  have hl : lv_has ls 4 [(0, .ref (aM 0))] := hl
  exact wX6_laysPace_0 C0 hA M ML hz s.heap [] hP hD va_S.rf ls (lv_sub hl [0] rfl)
end SX6_laysPace

section SX6_pace
/-! CardLoopsModel.pace(I)I -/
abbrev wsX6_pace : List Cond := Cond.code yX6_pace cX6_pace 2 (some .int) :: wsL_law0
abbrev rmX6_pace : Room := { frames := 1602, cells := 0, slots := 0, locals := 33644 }
variable {p : Program} {l : Launch} {e : Env} {s : State} {m : MethodId} {args : Array Value} {below : List Frame} {meth : Method} {c : Code} {D : va_G} {K : Nat → ClassId} {A : Nat → Prop} {N : Nat} {aM : Nat → Nat} {z : Int32 × (Rc × RcL)}
set_option maxHeartbeats 1000000 in
set_option maxRecDepth 10000 in
theorem wX6_pace_21 (C0 : cx p s m args meth c cX6_pace 2 RX6 wsX6_pace (some .int) D K) (hA : ∀ q, s.heap.size ≤ q → A q) (M : Rc) (ML : RcL) (h : fX6_pace_21 N M ML = some z) (H : Heap) (locs : List Loc) (hP : va_P D vwCl (fl [wModel K aM M ML]) H) (hD : va_D A (fl [wModel K aM M ML])) (hS : va_S A s.heap H locs) (ls : Array Slot) (hl : lv_has ls 2 []) : W p l e rmX6_pace s m args below meth c H locs 0 0 (MQ below (qcI D z (fun (u : Rc × RcL) => (fl [wModel K aM u.1 u.2])) A) args s 0 0 A) (F0 m 21 ls []) := by
  unfold fX6_pace_21 at h
  refine r_iconst C0 (-1 : Int32) dX6_pace_21 (by decide) ?_
  exact r_iret h C0 (fun (u : Rc × RcL) => (fl [wModel K aM u.1 u.2])) hP hD hS dX6_pace_22
set_option maxHeartbeats 1000000 in
set_option maxRecDepth 10000 in
theorem wX6_pace_0 (C0 : cx p s m args meth c cX6_pace 2 RX6 wsX6_pace (some .int) D K) (hA : ∀ q, s.heap.size ≤ q → A q) (M : Rc) (ML : RcL) (x1 : Int32) (h : fX6_pace N M ML x1 = some z) (H : Heap) (locs : List Loc) (hP : va_P D vwCl (fl [wModel K aM M ML]) H) (hD : va_D A (fl [wModel K aM M ML])) (hS : va_S A s.heap H locs) (ls : Array Slot) (hl : lv_has ls 2 [(0, .ref (aM 0)), (1, .int x1)]) : W p l e rmX6_pace s m args below meth c H locs 0 0 (MQ below (qcI D z (fun (u : Rc × RcL) => (fl [wModel K aM u.1 u.2])) A) args s 0 0 A) (F0 m 0 ls []) := by
  unfold fX6_pace at h
  refine r_aload_n C0 dX6_pace_0 hl 0 rfl ?_
  refine r_iconst C0 (nI 0) dX6_pace_1 (by decide) ?_
  refine r_put (ty := .int) h C0 6 inx6 tyX6 tyX6_ok nmX6 hP hD hS 0 (fun uu => (fl [wModel K aM uu ML])) rfl rfl 0 (by decide) (mc wd6_10) rfl (by decide +kernel) rfl rfl (by simp) rfl dX6_pace_2 (fun M1 H locs h hP hD hS => ?_)
  refine r_aload_n C0 dX6_pace_5 hl 0 rfl ?_
  obtain ⟨z2, hz2, h⟩ := bnd_some h
  have hPc := vaP_sel (Wc := [wModel K aM M1 ML]) hP [0] rfl
  refine r_cI (va_runV (As := []) (rest := []) C0.1 (ctX6_isThere l D K aM M1 ML z2 hz2) (cwV 0 C0.1.2.2.2.2 (gdV wd25_2 wd25_3 wd25_4 wd1_5 wd25_5) rfl rfl rfl (by decide +kernel) ⟨Nat.le_of_ble_eq_true rfl, Nat.le_of_ble_eq_true rfl⟩) ⟨pcR_blind, va_recv C0.2.2.2.1 hPc (ci := 6) (q0 := 0) rfl rfl, pcR_of hPc C0.2.2.2⟩ rfl rfl hl.1 rfl (lv_room (Nat.le_of_ble_eq_true rfl)) dX6_pace_6 ⟨Nat.zero_le _, Nat.zero_le _⟩).run ?_
  refine r_if_eq h C0 21 dX6_pace_9 (by decide) (fun h => ?_) (fun h => ?_)
  · exact wX6_pace_21 C0 hA M1 ML h _ _ hP hD hS _ (lv_sub hl [] rfl)
  · refine r_iload_n C0 dX6_pace_12 hl 1 rfl ?_
    refine r_iconst C0 (nI 0) dX6_pace_13 (by decide) ?_
    refine r_iconst C0 (nI 1) dX6_pace_14 (by decide) ?_
    obtain ⟨z3, hz3, h⟩ := bnd_some h
    have hPc : va_P D vwCl [] H := va_P_nil
    refine r_cI (va_runS (As := [.int x1, .int (nI 0), .int (nI 1)]) (rest := []) C0.1 (ctX6_isIn l D K x1 (nI 0) (nI 1) z3 hz3) (va_cwS 3 C0.1.2.2.2.2 (gdS wd17_16 wd17_17 wd1_5 wd17_18) rfl rfl rfl (by decide +kernel) ⟨Nat.le_of_ble_eq_true rfl, Nat.le_of_ble_eq_true rfl⟩) ⟨pcR_blind, pcR_of hPc C0.2.2.2⟩ rfl rfl hl.1 rfl (lv_room (Nat.le_of_ble_eq_true rfl)) dX6_pace_15 ⟨Nat.zero_le _, Nat.zero_le _⟩).run ?_
    refine r_if_ne h C0 23 dX6_pace_18 (by decide) (fun h => ?_) (fun h => ?_)
    · refine r_aload_n C0 dX6_pace_23 hl 0 rfl ?_
      refine r_get C0 6 inx6 hP 0 rfl rfl 11 (by decide) (mc wd5_11) (.ref (aM 12)) rfl dX6_pace_24 ?_
      refine r_iconst C0 (nI 0) dX6_pace_27 (by decide) ?_
      refine r_aload_n C0 dX6_pace_28 hl 0 rfl ?_
      refine r_get C0 6 inx6 hP 0 rfl rfl 13 (by decide) (mc wd5_13) (.ref (aM 14)) rfl dX6_pace_29 ?_
      refine r_iconst C0 (nI 0) dX6_pace_32 (by decide) ?_
      obtain ⟨z4, hz4, h⟩ := bnd_some h
      refine r_callV (wc := (fl [wArr K (aM 12) 353 (M1 11), wArr K (aM 14) 353 (M1 13)])) (wf := fun (u : (Nat → Int32)) => (fl [wArr K (aM 12) 353 (M1 11), wArr K (aM 14) 353 u])) (wn := (fl [wModel K aM (va_up M1 13 z4) ML])) hP hD hS hA [2, 4] [0, 1, 3, 5, 6, 7, 8] [0, 1, 7, 2, 8, 3, 4, 5, 6] rfl (by decide) rfl (by decide) (by decide) rfl (by decide) (fun hPc hDc => va_runS (As := [.ref (aM 12), .int (nI 0), .ref (aM 14), .int (nI 0)]) (rest := []) C0.1 (ctX6_copy l D K 353 353 N (aM 12) (aM 14) (M1 11) (M1 13) (nI 0) (nI 0) H.size z4 hz4) (va_cwS 4 C0.1.2.2.2.2 (gdS wd20_0 wd20_1 wd1_5 wd20_2) rfl rfl rfl (by decide +kernel) ⟨Nat.le_of_ble_eq_true rfl, Nat.le_of_ble_eq_true rfl⟩) ⟨pcW_blind, pcW_of hPc hDc C0.2.2.2⟩ rfl rfl hl.1 rfl (lv_room (Nat.le_of_ble_eq_true rfl)) dX6_pace_33 ⟨Nat.zero_le _, Nat.zero_le _⟩) (fun H locs hP hD hS => ?_)
      refine nm_w h (fun uu => (fl [wModel K aM uu ML])) hP hD (fun M5 h hP hD => ?_)
      refine r_aload_n C0 dX6_pace_36 hl 0 rfl ?_
      obtain ⟨z6, hz6, h⟩ := bnd_some h
      refine r_callIC (Wc := [wModel K aM M5 ML]) (wf := fun (u : Rc × RcL) => [wModel K aM u.1 u.2]) (Wn := [wModel K aM z6.2.1 z6.2.2]) hP hD hS hA [0] [] [0] 1 rfl rfl (by decide) rfl rfl (by decide) (fun hPc hDc hFc => va_runV (As := []) (rest := []) C0.1 (ctX6_laysPace l D K N aM M5 ML H.size z6 hz6) (cwV 0 C0.1.2.2.2.2 (gdV wd28_15 wd28_16 wd28_17 wd1_5 wd28_18) rfl rfl rfl (by decide +kernel) ⟨Nat.le_of_ble_eq_true rfl, Nat.le_of_ble_eq_true rfl⟩) ⟨pcW_blind, va_recv C0.2.2.2.1 hPc (ci := 6) (q0 := 0) rfl rfl, pcW_of hPc hDc C0.2.2.2⟩ rfl rfl hl.1 rfl (lv_room (Nat.le_of_ble_eq_true rfl)) dX6_pace_37 ⟨Nat.zero_le _, Nat.zero_le _⟩) (fun H locs hP hD hS => ?_)
      refine r_if_ne h C0 47 dX6_pace_40 (by decide) (fun h => ?_) (fun h => ?_)
      · refine r_iload_n C0 dX6_pace_47 hl 1 rfl ?_
        refine r_if_ne h C0 58 dX6_pace_48 (by decide) (fun h => ?_) (fun h => ?_)
        · refine r_aload_n C0 dX6_pace_58 hl 0 rfl ?_
          refine r_get C0 6 inx6 hP 0 rfl rfl 20 (by decide) (mc wd28_14) (.int (z6.2.1 20 0)) rfl dX6_pace_59 ?_
          exact r_iret h C0 (fun (u : Rc × RcL) => (fl [wModel K aM u.1 u.2])) hP hD hS dX6_pace_62
        · refine r_aload_n C0 dX6_pace_51 hl 0 rfl ?_
          refine r_get C0 6 inx6 hP 0 rfl rfl 19 (by decide) (mc wd28_13) (.int (z6.2.1 19 0)) rfl dX6_pace_52 ?_
          refine r_goto C0 62 dX6_pace_55 (by decide) ?_
          exact r_iret h C0 (fun (u : Rc × RcL) => (fl [wModel K aM u.1 u.2])) hP hD hS dX6_pace_62
      · refine r_iconst C0 (-1 : Int32) dX6_pace_43 (by decide) ?_
        refine r_goto C0 62 dX6_pace_44 (by decide) ?_
        exact r_iret h C0 (fun (u : Rc × RcL) => (fl [wModel K aM u.1 u.2])) hP hD hS dX6_pace_62
    · exact wX6_pace_21 C0 hA M1 ML h _ _ hP hD hS _ (lv_sub hl [] rfl)
set_option maxHeartbeats 1000000 in
set_option maxRecDepth 10000 in
theorem ctX6_pace (l : Launch) (D : va_G) (K : Nat → ClassId) (N : Nat) (aM : Nat → Nat) (M : Rc) (ML : RcL) (p1 : Int32) (sz : Nat) (z : Int32 × (Rc × RcL)) (hz : fX6_pace N M ML p1 = some z) : Met l yX6_pace wsX6_pace rmX6_pace (pcW D K [.ref (aM 0), .int p1] (fl [wModel K aM M ML]) sz) (qcI D z (fun (u : Rc × RcL) => (fl [wModel K aM u.1 u.2])) (va_A (fl [wModel K aM M ML]) sz)) 0 0 (va_A (fl [wModel K aM M ML]) sz) := by
  refine Met.ofW (cc := cX6_pace) (maxL := 2) (ret := (some .int)) (by decide) rfl ?_
  intro p e s m args below meth c s₁ B hml hv
  obtain ⟨rfl, hsz, hP, hK, hD0⟩ := hv
  subst hsz
  have C0 : cx p s m _ meth c cX6_pace 2 RX6 wsX6_pace (some .int) D K := ⟨⟨B.exec, B.bytes, hml, findClass_of_methodNamed B.named, atoms_spec (ws := wsX6_pace) B.pre⟩, B.returns, B.notSynchronized, hK⟩
  have hD := hD0.self (sz := s.heap.size)
  generalize hAe : va_A (fl [wModel K aM M ML]) s.heap.size = A at hD ⊢
  have hA : ∀ q : Nat, s.heap.size ≤ q → A q := fun q h => by rw [← hAe]; exact Or.inr h
  have hl := lv_entry ([.ref (aM 0), .int p1]) (n := 2) (Nat.le_of_ble_eq_true rfl)
  rw [lg_entry_eq]
  generalize (lg_sl ([.ref (aM 0), .int p1]) ++ List.replicate (2 - (lg_sl ([.ref (aM 0), .int p1])).length) Slot.unset).toArray = ls at hl ⊢
  have hl : lv_has ls 2 [(0, .ref (aM 0)), (1, .int p1)] := hl
  exact wX6_pace_0 C0 hA M ML p1 hz s.heap [] hP hD va_S.rf ls (lv_sub hl [0, 1] rfl)
end SX6_pace

section SX6_ringOf
/-! CardLoopsModel.ringOf(I)I -/
abbrev wsX6_ringOf : List Cond := Cond.code yX6_ringOf cX6_ringOf 4 (some .int) :: wsL_law0
abbrev rmX6_ringOf : Room := { frames := 0, cells := 0, slots := 0, locals := 0 }
variable {p : Program} {l : Launch} {e : Env} {s : State} {m : MethodId} {args : Array Value} {below : List Frame} {meth : Method} {c : Code} {D : va_G} {K : Nat → ClassId} {A : Nat → Prop} {N : Nat} {aM : Nat → Nat} {z : Int32}
def IX6_ringOf_14 (p : Program) (l : Launch) (e : Env) (s : State) (m : MethodId) (args : Array Value) (below : List Frame) (meth : Method) (c : Code) (D : va_G) (K : Nat → ClassId) (aM : Nat → Nat) (z : Int32) (k : Rc → RcL → Int32 → Int32 → Int32 → Option (Int32)) : Prop := ∀ (M : Rc) (ML : RcL) (x1 : Int32) (x2 : Int32) (x3 : Int32) (ls : Array Slot), k M ML x1 x2 x3 = some z → va_P D vwCl (fl [wModel K aM M ML]) s.heap → lv_has ls 4 [(0, .ref (aM 0)), (1, .int x1), (2, .int x2), (3, .int x3)] → W p l e rmX6_ringOf s m args below meth c s.heap [] 0 0 (MQ below (vp_Si (fun r => r = z)) args s 0 0 (fun _ => False)) (F0 m 14 ls [])
set_option maxHeartbeats 1000000 in
set_option maxRecDepth 10000 in
theorem wX6_ringOf_14 (C0 : cx p s m args meth c cX6_ringOf 4 RX6 wsX6_ringOf (some .int) D K) {k14 : Rc → RcL → Int32 → Int32 → Int32 → Option (Int32)} (hk14 : IX6_ringOf_14 p l e s m args below meth c D K aM z k14) (M : Rc) (ML : RcL) (x1 : Int32) (x2 : Int32) (x3 : Int32) (h : fX6_ringOf_14b N k14 M ML x1 x2 x3 = some z) (hP : va_P D vwCl (fl [wModel K aM M ML]) s.heap) (ls : Array Slot) (hl : lv_has ls 4 [(0, .ref (aM 0)), (1, .int x1), (2, .int x2), (3, .int x3)]) : W p l e rmX6_ringOf s m args below meth c s.heap [] 0 0 (MQ below (vp_Si (fun r => r = z)) args s 0 0 (fun _ => False)) (F0 m 14 ls []) := by
  unfold fX6_ringOf_14b at h
  refine r_iload_n C0 dX6_ringOf_14 hl 3 rfl ?_
  refine r_aload_n C0 dX6_ringOf_15 hl 0 rfl ?_
  refine r_get C0 6 inx6 hP 0 rfl rfl 11 (by decide) (mc wd5_11) (.ref (aM 12)) rfl dX6_ringOf_16 ?_
  refine r_bipush C0 (nI 15) dX6_ringOf_19 (by decide) ?_
  refine r_iconst C0 (nI 4) dX6_ringOf_21 (by decide) ?_
  refine r_iload_n C0 dX6_ringOf_22 hl 1 rfl ?_
  refine r_imul C0 dX6_ringOf_23 ?_
  refine r_iadd C0 dX6_ringOf_24 ?_
  refine r_iconst C0 (nI 1) dX6_ringOf_25 (by decide) ?_
  refine r_iadd C0 dX6_ringOf_26 ?_
  refine r_iald h C0 hP 2 rfl dX6_ringOf_27 (fun h => ?_)
  refine r_icmp_gt h C0 48 dX6_ringOf_28 (by decide) (fun h => ?_) (fun h => ?_)
  · refine r_iload_n C0 dX6_ringOf_48 hl 2 rfl ?_
    exact r_iretR C0 h dX6_ringOf_49
  · refine r_iload_n C0 dX6_ringOf_31 hl 2 rfl ?_
    refine r_aload_n C0 dX6_ringOf_32 hl 0 rfl ?_
    refine r_get C0 6 inx6 hP 0 rfl rfl 11 (by decide) (mc wd5_11) (.ref (aM 12)) rfl dX6_ringOf_33 ?_
    refine r_iconst C0 (nI 2) dX6_ringOf_36 (by decide) ?_
    refine r_iload_n C0 dX6_ringOf_37 hl 3 rfl ?_
    refine r_iadd C0 dX6_ringOf_38 ?_
    refine r_iald h C0 hP 2 rfl dX6_ringOf_39 (fun h => ?_)
    refine r_iadd C0 dX6_ringOf_40 ?_
    refine r_istore_n h C0 (fun v1 => [(2, .int v1), (0, .ref (aM 0)), (1, .int x1), (3, .int x3)]) dX6_ringOf_41 hl (by decide) (fun _ => rfl) (fun v1 ls h hl => ?_)
    refine r_iinc h C0 3 (fun v2 => [(3, .int v2), (2, .int v1), (0, .ref (aM 0)), (1, .int x1)]) dX6_ringOf_42 hl rfl rfl (by decide) (fun _ => rfl) (fun v2 ls h hl => ?_)
    refine r_goto C0 14 dX6_ringOf_45 (by decide) ?_
    exact hk14 M ML x1 v1 v2 _ h hP (lv_sub hl [2, 3, 1, 0] rfl)
theorem wX6_ringOf_14L (C0 : cx p s m args meth c cX6_ringOf 4 RX6 wsX6_ringOf (some .int) D K) : IX6_ringOf_14 p l e s m args below meth c D K aM z (fX6_ringOf_14 N) := by
  refine itn_ind (IX6_ringOf_14 p l e s m args below meth c D K aM z) ?_ ?_ N
  · intro _ _ _ _ _ _ h; cases h
  · intro k14 hk14 M ML x1 x2 x3 ls h hP hl
    exact wX6_ringOf_14 C0 hk14 M ML x1 x2 x3 h hP ls hl
set_option maxHeartbeats 1000000 in
set_option maxRecDepth 10000 in
theorem wX6_ringOf_0 (C0 : cx p s m args meth c cX6_ringOf 4 RX6 wsX6_ringOf (some .int) D K) (M : Rc) (ML : RcL) (x1 : Int32) (h : fX6_ringOf N M ML x1 = some z) (hP : va_P D vwCl (fl [wModel K aM M ML]) s.heap) (ls : Array Slot) (hl : lv_has ls 4 [(0, .ref (aM 0)), (1, .int x1)]) : W p l e rmX6_ringOf s m args below meth c s.heap [] 0 0 (MQ below (vp_Si (fun r => r = z)) args s 0 0 (fun _ => False)) (F0 m 0 ls []) := by
  unfold fX6_ringOf at h
  refine r_iconst C0 (nI 0) dX6_ringOf_0 (by decide) ?_
  refine r_istore_n h C0 (fun v1 => [(2, .int v1), (0, .ref (aM 0)), (1, .int x1)]) dX6_ringOf_1 hl (by decide) (fun _ => rfl) (fun v1 ls h hl => ?_)
  refine r_aload_n C0 dX6_ringOf_2 hl 1 rfl ?_
  refine r_get C0 6 inx6 hP 0 rfl rfl 11 (by decide) (mc wd5_11) (.ref (aM 12)) rfl dX6_ringOf_3 ?_
  refine r_bipush C0 (nI 15) dX6_ringOf_6 (by decide) ?_
  refine r_iconst C0 (nI 4) dX6_ringOf_8 (by decide) ?_
  refine r_iload_n C0 dX6_ringOf_9 hl 2 rfl ?_
  refine r_imul C0 dX6_ringOf_10 ?_
  refine r_iadd C0 dX6_ringOf_11 ?_
  refine r_iald h C0 hP 2 rfl dX6_ringOf_12 (fun h => ?_)
  refine r_istore_n h C0 (fun v2 => [(3, .int v2), (2, .int v1), (0, .ref (aM 0)), (1, .int x1)]) dX6_ringOf_13 hl (by decide) (fun _ => rfl) (fun v2 ls h hl => ?_)
  exact wX6_ringOf_14L C0 M ML x1 v1 v2 _ h hP (lv_sub hl [2, 3, 1, 0] rfl)
set_option maxHeartbeats 1000000 in
set_option maxRecDepth 10000 in
theorem ctX6_ringOf (l : Launch) (D : va_G) (K : Nat → ClassId) (N : Nat) (aM : Nat → Nat) (M : Rc) (ML : RcL) (p1 : Int32) (z : Int32) (hz : fX6_ringOf N M ML p1 = some z) : Met l yX6_ringOf wsX6_ringOf rmX6_ringOf (pcR D K [.ref (aM 0), .int p1] (fl [wModel K aM M ML])) (vp_Si (fun r => r = z)) 0 0 (fun _ => False) := by
  refine Met.ofW (cc := cX6_ringOf) (maxL := 4) (ret := (some .int)) (by decide) rfl ?_
  intro p e s m args below meth c s₁ B hml hv
  obtain ⟨rfl, hP, hK⟩ := hv
  have C0 : cx p s m _ meth c cX6_ringOf 4 RX6 wsX6_ringOf (some .int) D K := ⟨⟨B.exec, B.bytes, hml, findClass_of_methodNamed B.named, atoms_spec (ws := wsX6_ringOf) B.pre⟩, B.returns, B.notSynchronized, hK⟩
  have hl := lv_entry ([.ref (aM 0), .int p1]) (n := 4) (Nat.le_of_ble_eq_true rfl)
  rw [lg_entry_eq]
  generalize (lg_sl ([.ref (aM 0), .int p1]) ++ List.replicate (4 - (lg_sl ([.ref (aM 0), .int p1])).length) Slot.unset).toArray = ls at hl ⊢
  have hl : lv_has ls 4 [(0, .ref (aM 0)), (1, .int p1)] := hl
  exact wX6_ringOf_0 C0 M ML p1 hz hP ls (lv_sub hl [0, 1] rfl)
end SX6_ringOf

section SX6_bound
/-! CardLoopsModel.bound(I)I -/
abbrev wsX6_bound : List Cond := Cond.code yX6_bound cX6_bound 9 (some .int) :: wsL_law0
abbrev rmX6_bound : Room := { frames := 1601, cells := 0, slots := 0, locals := 33621 }
variable {p : Program} {l : Launch} {e : Env} {s : State} {m : MethodId} {args : Array Value} {below : List Frame} {meth : Method} {c : Code} {D : va_G} {K : Nat → ClassId} {A : Nat → Prop} {N : Nat} {aM : Nat → Nat} {z : Int32 × (Rc)}
def IX6_bound_43 (p : Program) (l : Launch) (e : Env) (s : State) (m : MethodId) (args : Array Value) (below : List Frame) (meth : Method) (c : Code) (D : va_G) (K : Nat → ClassId) (aM : Nat → Nat) (A : Nat → Prop) (z : Int32 × (Rc)) (k : Rc → RcL → Int32 → Int32 → Int32 → Int32 → Int32 → Option (Int32 × (Rc))) : Prop := ∀ (M : Rc) (ML : RcL) (x1 : Int32) (x2 : Int32) (x3 : Int32) (x4 : Int32) (x5 : Int32) (H : Heap) (locs : List Loc) (ls : Array Slot), k M ML x1 x2 x3 x4 x5 = some z → va_P D vwCl (fl [wModel K aM M ML]) H → va_D A (fl [wModel K aM M ML]) → va_S A s.heap H locs → lv_has ls 9 [(0, .ref (aM 0)), (1, .int x1), (2, .int x2), (3, .int x3), (4, .int x4), (5, .int x5)] → W p l e rmX6_bound s m args below meth c H locs 0 0 (MQ below (qcI D z (fun (u : Rc) => (fl [wModel K aM u ML])) A) args s 0 0 A) (F0 m 43 ls [])
set_option maxHeartbeats 1000000 in
set_option maxRecDepth 10000 in
theorem wX6_bound_185 (C0 : cx p s m args meth c cX6_bound 9 RX6 wsX6_bound (some .int) D K) (hA : ∀ q, s.heap.size ≤ q → A q) {k43 : Rc → RcL → Int32 → Int32 → Int32 → Int32 → Int32 → Option (Int32 × (Rc))} (hk43 : IX6_bound_43 p l e s m args below meth c D K aM A z k43) (M : Rc) (ML : RcL) (x1 : Int32) (x2 : Int32) (x3 : Int32) (x4 : Int32) (x5 : Int32) (h : fX6_bound_185 N k43 M ML x1 x2 x3 x4 x5 = some z) (H : Heap) (locs : List Loc) (hP : va_P D vwCl (fl [wModel K aM M ML]) H) (hD : va_D A (fl [wModel K aM M ML])) (hS : va_S A s.heap H locs) (ls : Array Slot) (hl : lv_has ls 9 [(0, .ref (aM 0)), (1, .int x1), (2, .int x2), (3, .int x3), (4, .int x4), (5, .int x5)]) : W p l e rmX6_bound s m args below meth c H locs 0 0 (MQ below (qcI D z (fun (u : Rc) => (fl [wModel K aM u ML])) A) args s 0 0 A) (F0 m 185 ls []) := by
  unfold fX6_bound_185 at h
  refine r_iinc h C0 5 (fun v1 => [(5, .int v1), (0, .ref (aM 0)), (1, .int x1), (2, .int x2), (3, .int x3), (4, .int x4)]) dX6_bound_185 hl rfl rfl (by decide) (fun _ => rfl) (fun v1 ls h hl => ?_)
  refine r_goto C0 43 dX6_bound_188 (by decide) ?_
  exact hk43 M ML x1 x2 x3 x4 v1 _ _ _ h hP hD hS (lv_sub hl [1, 2, 3, 4, 5, 0] rfl)
set_option maxHeartbeats 1000000 in
set_option maxRecDepth 10000 in
theorem wX6_bound_177 (C0 : cx p s m args meth c cX6_bound 9 RX6 wsX6_bound (some .int) D K) (hA : ∀ q, s.heap.size ≤ q → A q) {k43 : Rc → RcL → Int32 → Int32 → Int32 → Int32 → Int32 → Option (Int32 × (Rc))} (hk43 : IX6_bound_43 p l e s m args below meth c D K aM A z k43) (M : Rc) (ML : RcL) (x1 : Int32) (x5 : Int32) (x7 : Int32) (x8 : Int32) (y0 : Int32) (h : fX6_bound_177 N k43 M ML x1 x5 x7 x8 y0 = some z) (H : Heap) (locs : List Loc) (hP : va_P D vwCl (fl [wModel K aM M ML]) H) (hD : va_D A (fl [wModel K aM M ML])) (hS : va_S A s.heap H locs) (ls : Array Slot) (hl : lv_has ls 9 [(0, .ref (aM 0)), (1, .int x1), (5, .int x5), (7, .int x7), (8, .int x8)]) : W p l e rmX6_bound s m args below meth c H locs 0 0 (MQ below (qcI D z (fun (u : Rc) => (fl [wModel K aM u ML])) A) args s 0 0 A) (F0 m 177 ls [.int y0]) := by
  unfold fX6_bound_177 at h
  refine r_istore_n h C0 (fun v1 => [(2, .int v1), (0, .ref (aM 0)), (1, .int x1), (5, .int x5), (7, .int x7), (8, .int x8)]) dX6_bound_177 hl (by decide) (fun _ => rfl) (fun v1 ls h hl => ?_)
  refine r_iload C0 dX6_bound_178 hl 4 rfl ?_
  refine r_istore_n h C0 (fun v2 => [(3, .int v2), (2, .int v1), (0, .ref (aM 0)), (1, .int x1), (5, .int x5), (7, .int x7), (8, .int x8)]) dX6_bound_180 hl (by decide) (fun _ => rfl) (fun v2 ls h hl => ?_)
  refine r_iload C0 dX6_bound_181 hl 6 rfl ?_
  refine r_istore h C0 (fun v3 => [(4, .int v3), (3, .int v2), (2, .int v1), (0, .ref (aM 0)), (1, .int x1), (5, .int x5), (7, .int x7), (8, .int x8)]) dX6_bound_183 hl (by decide) (fun _ => rfl) (fun v3 ls h hl => ?_)
  exact wX6_bound_185 C0 hA hk43 M ML x1 v1 v2 v3 x5 h _ _ hP hD hS _ (lv_sub hl [3, 4, 2, 1, 0, 5] rfl)
set_option maxHeartbeats 1000000 in
set_option maxRecDepth 10000 in
theorem wX6_bound_137 (C0 : cx p s m args meth c cX6_bound 9 RX6 wsX6_bound (some .int) D K) (hA : ∀ q, s.heap.size ≤ q → A q) {k43 : Rc → RcL → Int32 → Int32 → Int32 → Int32 → Int32 → Option (Int32 × (Rc))} (hk43 : IX6_bound_43 p l e s m args below meth c D K aM A z k43) (M : Rc) (ML : RcL) (x1 : Int32) (x2 : Int32) (x3 : Int32) (x4 : Int32) (x5 : Int32) (x6 : Int32) (x7 : Int32) (y0 : Int32) (h : fX6_bound_137 N k43 M ML x1 x2 x3 x4 x5 x6 x7 y0 = some z) (H : Heap) (locs : List Loc) (hP : va_P D vwCl (fl [wModel K aM M ML]) H) (hD : va_D A (fl [wModel K aM M ML])) (hS : va_S A s.heap H locs) (ls : Array Slot) (hl : lv_has ls 9 [(0, .ref (aM 0)), (1, .int x1), (2, .int x2), (3, .int x3), (4, .int x4), (5, .int x5), (6, .int x6), (7, .int x7)]) : W p l e rmX6_bound s m args below meth c H locs 0 0 (MQ below (qcI D z (fun (u : Rc) => (fl [wModel K aM u ML])) A) args s 0 0 A) (F0 m 137 ls [.int y0]) := by
  unfold fX6_bound_137 at h
  refine r_istore h C0 (fun v1 => [(8, .int v1), (0, .ref (aM 0)), (1, .int x1), (2, .int x2), (3, .int x3), (4, .int x4), (5, .int x5), (6, .int x6), (7, .int x7)]) dX6_bound_137 hl (by decide) (fun _ => rfl) (fun v1 ls h hl => ?_)
  refine r_iload C0 dX6_bound_139 hl 8 rfl ?_
  refine r_iload C0 dX6_bound_141 hl 5 rfl ?_
  refine r_imul C0 dX6_bound_143 ?_
  refine r_iload_n C0 dX6_bound_144 hl 4 rfl ?_
  refine r_iload C0 dX6_bound_145 hl 0 rfl ?_
  refine r_imul C0 dX6_bound_147 ?_
  refine r_icmp_gt h C0 154 dX6_bound_148 (by decide) (fun h => ?_) (fun h => ?_)
  · refine r_iload C0 dX6_bound_154 hl 7 rfl ?_
    refine r_if_eq h C0 164 dX6_bound_156 (by decide) (fun h => ?_) (fun h => ?_)
    · refine r_bipush C0 (nI 100) dX6_bound_164 (by decide) ?_
      refine r_iload C0 dX6_bound_166 hl 6 rfl ?_
      refine r_iadd C0 dX6_bound_168 ?_
      refine r_aload_n C0 dX6_bound_169 hl 1 rfl ?_
      refine r_get C0 6 inx6 hP 0 rfl rfl 11 (by decide) (mc wd5_11) (.ref (aM 12)) rfl dX6_bound_170 ?_
      refine r_bipush C0 (nI 14) dX6_bound_173 (by decide) ?_
      refine r_ialdC C0 hP 2 rfl 14 (by decide) dX6_bound_175 ?_
      refine r_isub C0 dX6_bound_176 ?_
      exact wX6_bound_177 C0 hA hk43 M ML x1 x5 x7 v1 (((nI 100) + x5) - (M 11 14)) h _ _ hP hD hS _ (lv_sub hl [1, 2, 6, 8, 0] rfl)
    · refine r_iload C0 dX6_bound_159 hl 6 rfl ?_
      refine r_goto C0 177 dX6_bound_161 (by decide) ?_
      exact wX6_bound_177 C0 hA hk43 M ML x1 x5 x7 v1 x5 h _ _ hP hD hS _ (lv_sub hl [1, 2, 6, 8, 0] rfl)
  · refine r_goto C0 185 dX6_bound_151 (by decide) ?_
    exact wX6_bound_185 C0 hA hk43 M ML x1 x2 x3 x4 x5 h _ _ hP hD hS _ (lv_sub hl [1, 2, 3, 4, 5, 6] rfl)
set_option maxHeartbeats 1000000 in
set_option maxRecDepth 10000 in
theorem wX6_bound_112 (C0 : cx p s m args meth c cX6_bound 9 RX6 wsX6_bound (some .int) D K) (hA : ∀ q, s.heap.size ≤ q → A q) {k43 : Rc → RcL → Int32 → Int32 → Int32 → Int32 → Int32 → Option (Int32 × (Rc))} (hk43 : IX6_bound_43 p l e s m args below meth c D K aM A z k43) (M : Rc) (ML : RcL) (x1 : Int32) (x2 : Int32) (x3 : Int32) (x4 : Int32) (x5 : Int32) (x6 : Int32) (y0 : Int32) (h : fX6_bound_112 N k43 M ML x1 x2 x3 x4 x5 x6 y0 = some z) (H : Heap) (locs : List Loc) (hP : va_P D vwCl (fl [wModel K aM M ML]) H) (hD : va_D A (fl [wModel K aM M ML])) (hS : va_S A s.heap H locs) (ls : Array Slot) (hl : lv_has ls 9 [(0, .ref (aM 0)), (1, .int x1), (2, .int x2), (3, .int x3), (4, .int x4), (5, .int x5), (6, .int x6)]) : W p l e rmX6_bound s m args below meth c H locs 0 0 (MQ below (qcI D z (fun (u : Rc) => (fl [wModel K aM u ML])) A) args s 0 0 A) (F0 m 112 ls [.int y0]) := by
  unfold fX6_bound_112 at h
  refine r_istore h C0 (fun v1 => [(7, .int v1), (0, .ref (aM 0)), (1, .int x1), (2, .int x2), (3, .int x3), (4, .int x4), (5, .int x5), (6, .int x6)]) dX6_bound_112 hl (by decide) (fun _ => rfl) (fun v1 ls h hl => ?_)
  refine r_iload C0 dX6_bound_114 hl 7 rfl ?_
  refine r_if_eq h C0 136 dX6_bound_116 (by decide) (fun h => ?_) (fun h => ?_)
  · refine r_iconst C0 (nI 1) dX6_bound_136 (by decide) ?_
    exact wX6_bound_137 C0 hA hk43 M ML x1 x2 x3 x4 x5 x6 v1 (nI 1) h _ _ hP hD hS _ (lv_sub hl [1, 2, 3, 4, 5, 6, 7, 0] rfl)
  · refine r_aload_n C0 dX6_bound_119 hl 1 rfl ?_
    refine r_get C0 6 inx6 hP 0 rfl rfl 11 (by decide) (mc wd5_11) (.ref (aM 12)) rfl dX6_bound_120 ?_
    refine r_bipush C0 (nI 15) dX6_bound_123 (by decide) ?_
    refine r_iconst C0 (nI 4) dX6_bound_125 (by decide) ?_
    refine r_iload C0 dX6_bound_126 hl 6 rfl ?_
    refine r_imul C0 dX6_bound_128 ?_
    refine r_iadd C0 dX6_bound_129 ?_
    refine r_iconst C0 (nI 2) dX6_bound_130 (by decide) ?_
    refine r_iadd C0 dX6_bound_131 ?_
    refine r_iald h C0 hP 2 rfl dX6_bound_132 (fun h => ?_)
    refine r_goto C0 137 dX6_bound_133 (by decide) ?_
    exact wX6_bound_137 C0 hA hk43 M ML x1 x2 x3 x4 x5 x6 v1 (M 11 (((nI 15) + ((nI 4) * x5)) + (nI 2)).toNatClampNeg) h _ _ hP hD hS _ (lv_sub hl [1, 2, 3, 4, 5, 6, 7, 0] rfl)
set_option maxHeartbeats 1000000 in
set_option maxRecDepth 10000 in
theorem wX6_bound_79 (C0 : cx p s m args meth c cX6_bound 9 RX6 wsX6_bound (some .int) D K) (hA : ∀ q, s.heap.size ≤ q → A q) {k43 : Rc → RcL → Int32 → Int32 → Int32 → Int32 → Int32 → Option (Int32 × (Rc))} (hk43 : IX6_bound_43 p l e s m args below meth c D K aM A z k43) (M : Rc) (ML : RcL) (x1 : Int32) (x2 : Int32) (x3 : Int32) (x4 : Int32) (x5 : Int32) (y0 : Int32) (h : fX6_bound_79 N k43 M ML x1 x2 x3 x4 x5 y0 = some z) (H : Heap) (locs : List Loc) (hP : va_P D vwCl (fl [wModel K aM M ML]) H) (hD : va_D A (fl [wModel K aM M ML])) (hS : va_S A s.heap H locs) (ls : Array Slot) (hl : lv_has ls 9 [(0, .ref (aM 0)), (1, .int x1), (2, .int x2), (3, .int x3), (4, .int x4), (5, .int x5)]) : W p l e rmX6_bound s m args below meth c H locs 0 0 (MQ below (qcI D z (fun (u : Rc) => (fl [wModel K aM u ML])) A) args s 0 0 A) (F0 m 79 ls [.int y0]) := by
  unfold fX6_bound_79 at h
  refine r_istore h C0 (fun v1 => [(6, .int v1), (0, .ref (aM 0)), (1, .int x1), (2, .int x2), (3, .int x3), (4, .int x4), (5, .int x5)]) dX6_bound_79 hl (by decide) (fun _ => rfl) (fun v1 ls h hl => ?_)
  refine r_iload C0 dX6_bound_81 hl 0 rfl ?_
  refine r_if_eq h C0 95 dX6_bound_83 (by decide) (fun h => ?_) (fun h => ?_)
  · refine r_aload_n C0 dX6_bound_95 hl 1 rfl ?_
    refine r_get C0 6 inx6 hP 0 rfl rfl 11 (by decide) (mc wd5_11) (.ref (aM 12)) rfl dX6_bound_96 ?_
    refine r_iconst C0 (nI 2) dX6_bound_99 (by decide) ?_
    refine r_iload C0 dX6_bound_100 hl 6 rfl ?_
    refine r_iadd C0 dX6_bound_102 ?_
    refine r_aload_n C0 dX6_bound_103 hl 1 rfl ?_
    refine r_get C0 6 inx6 hP 0 rfl rfl 11 (by decide) (mc wd5_11) (.ref (aM 12)) rfl dX6_bound_104 ?_
    refine r_bipush C0 (nI 14) dX6_bound_107 (by decide) ?_
    refine r_ialdC C0 hP 2 rfl 14 (by decide) dX6_bound_109 ?_
    refine r_isub C0 dX6_bound_110 ?_
    refine r_iald h C0 hP 2 rfl dX6_bound_111 (fun h => ?_)
    exact wX6_bound_112 C0 hA hk43 M ML x1 x2 x3 x4 x5 v1 (M 11 (((nI 2) + x5) - (M 11 14)).toNatClampNeg) h _ _ hP hD hS _ (lv_sub hl [1, 2, 3, 4, 5, 6, 0] rfl)
  · refine r_aload_n C0 dX6_bound_86 hl 1 rfl ?_
    refine r_iload C0 dX6_bound_87 hl 6 rfl ?_
    obtain ⟨z2, hz2, h⟩ := bnd_some h
    have hPc := vaP_sel (Wc := [wModel K aM M ML]) hP [0] rfl
    refine r_cI (va_runV (As := [.int x5]) (rest := []) C0.1 (ctX6_ringOf l D K N aM M ML x5 z2 hz2) (cwV 1 C0.1.2.2.2.2 (gdV wd30_10 wd30_11 wd30_12 wd1_5 wd30_13) rfl rfl rfl (by decide +kernel) ⟨Nat.le_of_ble_eq_true rfl, Nat.le_of_ble_eq_true rfl⟩) ⟨pcR_blind, va_recv C0.2.2.2.1 hPc (ci := 6) (q0 := 0) rfl rfl, pcR_of hPc C0.2.2.2⟩ rfl rfl hl.1 rfl (lv_room (Nat.le_of_ble_eq_true rfl)) dX6_bound_89 ⟨Nat.zero_le _, Nat.zero_le _⟩).run ?_
    refine r_goto C0 112 dX6_bound_92 (by decide) ?_
    exact wX6_bound_112 C0 hA hk43 M ML x1 x2 x3 x4 x5 v1 z2 h _ _ hP hD hS _ (lv_sub hl [1, 2, 3, 4, 5, 6, 0] rfl)
set_option maxHeartbeats 1000000 in
set_option maxRecDepth 10000 in
theorem wX6_bound_43 (C0 : cx p s m args meth c cX6_bound 9 RX6 wsX6_bound (some .int) D K) (hA : ∀ q, s.heap.size ≤ q → A q) {k43 : Rc → RcL → Int32 → Int32 → Int32 → Int32 → Int32 → Option (Int32 × (Rc))} (hk43 : IX6_bound_43 p l e s m args below meth c D K aM A z k43) (M : Rc) (ML : RcL) (x1 : Int32) (x2 : Int32) (x3 : Int32) (x4 : Int32) (x5 : Int32) (h : fX6_bound_43b N k43 M ML x1 x2 x3 x4 x5 = some z) (H : Heap) (locs : List Loc) (hP : va_P D vwCl (fl [wModel K aM M ML]) H) (hD : va_D A (fl [wModel K aM M ML])) (hS : va_S A s.heap H locs) (ls : Array Slot) (hl : lv_has ls 9 [(0, .ref (aM 0)), (1, .int x1), (2, .int x2), (3, .int x3), (4, .int x4), (5, .int x5)]) : W p l e rmX6_bound s m args below meth c H locs 0 0 (MQ below (qcI D z (fun (u : Rc) => (fl [wModel K aM u ML])) A) args s 0 0 A) (F0 m 43 ls []) := by
  unfold fX6_bound_43b at h
  refine r_iload C0 dX6_bound_43 hl 5 rfl ?_
  refine r_aload_n C0 dX6_bound_45 hl 0 rfl ?_
  refine r_get C0 6 inx6 hP 0 rfl rfl 11 (by decide) (mc wd5_11) (.ref (aM 12)) rfl dX6_bound_46 ?_
  refine r_bipush C0 (nI 14) dX6_bound_49 (by decide) ?_
  refine r_ialdC C0 hP 2 rfl 14 (by decide) dX6_bound_51 ?_
  refine r_aload_n C0 dX6_bound_52 hl 0 rfl ?_
  refine r_get C0 6 inx6 hP 0 rfl rfl 11 (by decide) (mc wd5_11) (.ref (aM 12)) rfl dX6_bound_53 ?_
  refine r_iconst C0 (nI 1) dX6_bound_56 (by decide) ?_
  refine r_ialdC C0 hP 2 rfl 1 (by decide) dX6_bound_57 ?_
  refine r_iadd C0 dX6_bound_58 ?_
  refine r_icmp_ge h C0 191 dX6_bound_59 (by decide) (fun h => ?_) (fun h => ?_)
  · refine r_iload C0 dX6_bound_191 hl 4 rfl ?_
    refine r_iload_n C0 dX6_bound_193 hl 3 rfl ?_
    obtain ⟨z1, hz1, h⟩ := bnd_some h
    have hPc : va_P D vwCl [] H := va_P_nil
    refine r_cI (va_runS (As := [.int x4, .int x3]) (rest := []) C0.1 (ctX6_divisor l D K x4 x3 z1 hz1) (va_cwS 2 C0.1.2.2.2.2 (gdS wd29_10 wd29_11 wd1_5 wd29_12) rfl rfl rfl (by decide +kernel) ⟨Nat.le_of_ble_eq_true rfl, Nat.le_of_ble_eq_true rfl⟩) ⟨pcR_blind, pcR_of hPc C0.2.2.2⟩ rfl rfl hl.1 rfl (lv_room (Nat.le_of_ble_eq_true rfl)) dX6_bound_194 ⟨Nat.zero_le _, Nat.zero_le _⟩).run ?_
    refine r_istore h C0 (fun v2 => [(5, .int v2), (0, .ref (aM 0)), (1, .int x1), (2, .int x2), (3, .int x3), (4, .int x4)]) dX6_bound_197 hl (by decide) (fun _ => rfl) (fun v2 ls h hl => ?_)
    refine r_iload_n C0 dX6_bound_199 hl 2 rfl ?_
    refine r_if_ne h C0 211 dX6_bound_200 (by decide) (fun h => ?_) (fun h => ?_)
    · refine r_iload_n C0 dX6_bound_211 hl 2 rfl ?_
      refine r_iconst C0 (nI 1) dX6_bound_212 (by decide) ?_
      refine r_icmp_ne h C0 223 dX6_bound_213 (by decide) (fun h => ?_) (fun h => ?_)
      · refine r_iload_n C0 dX6_bound_223 hl 3 rfl ?_
        exact r_iret h C0 (fun (u : Rc) => (fl [wModel K aM u ML])) hP hD hS dX6_bound_224
      · refine r_iload_n C0 dX6_bound_216 hl 4 rfl ?_
        refine r_iload C0 dX6_bound_217 hl 0 rfl ?_
        refine r_idiv h C0 dX6_bound_219 (fun h => ?_)
        refine r_goto C0 224 dX6_bound_220 (by decide) ?_
        exact r_iret h C0 (fun (u : Rc) => (fl [wModel K aM u ML])) hP hD hS dX6_bound_224
    · refine r_iload C0 dX6_bound_203 hl 5 rfl ?_
      refine r_iload C0 dX6_bound_205 hl 0 rfl ?_
      refine r_idiv h C0 dX6_bound_207 (fun h => ?_)
      refine r_goto C0 224 dX6_bound_208 (by decide) ?_
      exact r_iret h C0 (fun (u : Rc) => (fl [wModel K aM u ML])) hP hD hS dX6_bound_224
  · refine r_iload C0 dX6_bound_62 hl 5 rfl ?_
    refine r_aload_n C0 dX6_bound_64 hl 0 rfl ?_
    refine r_get C0 6 inx6 hP 0 rfl rfl 11 (by decide) (mc wd5_11) (.ref (aM 12)) rfl dX6_bound_65 ?_
    refine r_bipush C0 (nI 14) dX6_bound_68 (by decide) ?_
    refine r_ialdC C0 hP 2 rfl 14 (by decide) dX6_bound_70 ?_
    refine r_icmp_ge h C0 78 dX6_bound_71 (by decide) (fun h => ?_) (fun h => ?_)
    · refine r_iconst C0 (nI 0) dX6_bound_78 (by decide) ?_
      exact wX6_bound_79 C0 hA hk43 M ML x1 x2 x3 x4 x5 (nI 0) h _ _ hP hD hS _ (lv_sub hl [0, 1, 2, 3, 4, 5] rfl)
    · refine r_iconst C0 (nI 1) dX6_bound_74 (by decide) ?_
      refine r_goto C0 79 dX6_bound_75 (by decide) ?_
      exact wX6_bound_79 C0 hA hk43 M ML x1 x2 x3 x4 x5 (nI 1) h _ _ hP hD hS _ (lv_sub hl [0, 1, 2, 3, 4, 5] rfl)
theorem wX6_bound_43L (C0 : cx p s m args meth c cX6_bound 9 RX6 wsX6_bound (some .int) D K) (hA : ∀ q, s.heap.size ≤ q → A q) : IX6_bound_43 p l e s m args below meth c D K aM A z (fX6_bound_43 N) := by
  refine itn_ind (IX6_bound_43 p l e s m args below meth c D K aM A z) ?_ ?_ N
  · intro _ _ _ _ _ _ _ _ _ _ h; cases h
  · intro k43 hk43 M ML x1 x2 x3 x4 x5 H locs ls h hP hD hS hl
    exact wX6_bound_43 C0 hA hk43 M ML x1 x2 x3 x4 x5 h H locs hP hD hS ls hl
set_option maxHeartbeats 1000000 in
set_option maxRecDepth 10000 in
theorem wX6_bound_21 (C0 : cx p s m args meth c cX6_bound 9 RX6 wsX6_bound (some .int) D K) (hA : ∀ q, s.heap.size ≤ q → A q) (M : Rc) (ML : RcL) (h : fX6_bound_21 N M ML = some z) (H : Heap) (locs : List Loc) (hP : va_P D vwCl (fl [wModel K aM M ML]) H) (hD : va_D A (fl [wModel K aM M ML])) (hS : va_S A s.heap H locs) (ls : Array Slot) (hl : lv_has ls 9 []) : W p l e rmX6_bound s m args below meth c H locs 0 0 (MQ below (qcI D z (fun (u : Rc) => (fl [wModel K aM u ML])) A) args s 0 0 A) (F0 m 21 ls []) := by
  unfold fX6_bound_21 at h
  refine r_iconst C0 (-1 : Int32) dX6_bound_21 (by decide) ?_
  exact r_iret h C0 (fun (u : Rc) => (fl [wModel K aM u ML])) hP hD hS dX6_bound_22
set_option maxHeartbeats 1000000 in
set_option maxRecDepth 10000 in
theorem wX6_bound_0 (C0 : cx p s m args meth c cX6_bound 9 RX6 wsX6_bound (some .int) D K) (hA : ∀ q, s.heap.size ≤ q → A q) (M : Rc) (ML : RcL) (x1 : Int32) (h : fX6_bound N M ML x1 = some z) (H : Heap) (locs : List Loc) (hP : va_P D vwCl (fl [wModel K aM M ML]) H) (hD : va_D A (fl [wModel K aM M ML])) (hS : va_S A s.heap H locs) (ls : Array Slot) (hl : lv_has ls 9 [(0, .ref (aM 0)), (1, .int x1)]) : W p l e rmX6_bound s m args below meth c H locs 0 0 (MQ below (qcI D z (fun (u : Rc) => (fl [wModel K aM u ML])) A) args s 0 0 A) (F0 m 0 ls []) := by
  unfold fX6_bound at h
  refine r_aload_n C0 dX6_bound_0 hl 0 rfl ?_
  refine r_iconst C0 (nI 0) dX6_bound_1 (by decide) ?_
  refine r_put (ty := .int) h C0 6 inx6 tyX6 tyX6_ok nmX6 hP hD hS 0 (fun uu => (fl [wModel K aM uu ML])) rfl rfl 0 (by decide) (mc wd6_10) rfl (by decide +kernel) rfl rfl (by simp) rfl dX6_bound_2 (fun M1 H locs h hP hD hS => ?_)
  refine r_aload_n C0 dX6_bound_5 hl 0 rfl ?_
  obtain ⟨z2, hz2, h⟩ := bnd_some h
  have hPc := vaP_sel (Wc := [wModel K aM M1 ML]) hP [0] rfl
  refine r_cI (va_runV (As := []) (rest := []) C0.1 (ctX6_isThere l D K aM M1 ML z2 hz2) (cwV 0 C0.1.2.2.2.2 (gdV wd25_2 wd25_3 wd25_4 wd1_5 wd25_5) rfl rfl rfl (by decide +kernel) ⟨Nat.le_of_ble_eq_true rfl, Nat.le_of_ble_eq_true rfl⟩) ⟨pcR_blind, va_recv C0.2.2.2.1 hPc (ci := 6) (q0 := 0) rfl rfl, pcR_of hPc C0.2.2.2⟩ rfl rfl hl.1 rfl (lv_room (Nat.le_of_ble_eq_true rfl)) dX6_bound_6 ⟨Nat.zero_le _, Nat.zero_le _⟩).run ?_
  refine r_if_eq h C0 21 dX6_bound_9 (by decide) (fun h => ?_) (fun h => ?_)
  · exact wX6_bound_21 C0 hA M1 ML h _ _ hP hD hS _ (lv_sub hl [] rfl)
  · refine r_iload_n C0 dX6_bound_12 hl 1 rfl ?_
    refine r_iconst C0 (nI 0) dX6_bound_13 (by decide) ?_
    refine r_iconst C0 (nI 2) dX6_bound_14 (by decide) ?_
    obtain ⟨z3, hz3, h⟩ := bnd_some h
    have hPc : va_P D vwCl [] H := va_P_nil
    refine r_cI (va_runS (As := [.int x1, .int (nI 0), .int (nI 2)]) (rest := []) C0.1 (ctX6_isIn l D K x1 (nI 0) (nI 2) z3 hz3) (va_cwS 3 C0.1.2.2.2.2 (gdS wd17_16 wd17_17 wd1_5 wd17_18) rfl rfl rfl (by decide +kernel) ⟨Nat.le_of_ble_eq_true rfl, Nat.le_of_ble_eq_true rfl⟩) ⟨pcR_blind, pcR_of hPc C0.2.2.2⟩ rfl rfl hl.1 rfl (lv_room (Nat.le_of_ble_eq_true rfl)) dX6_bound_15 ⟨Nat.zero_le _, Nat.zero_le _⟩).run ?_
    refine r_if_ne h C0 23 dX6_bound_18 (by decide) (fun h => ?_) (fun h => ?_)
    · refine r_iconst C0 (nI 0) dX6_bound_23 (by decide) ?_
      refine r_istore_n h C0 (fun v4 => [(2, .int v4), (0, .ref (aM 0)), (1, .int x1)]) dX6_bound_24 hl (by decide) (fun _ => rfl) (fun v4 ls h hl => ?_)
      refine r_aload_n C0 dX6_bound_25 hl 1 rfl ?_
      refine r_iconst C0 (nI 0) dX6_bound_26 (by decide) ?_
      obtain ⟨z5, hz5, h⟩ := bnd_some h
      have hPc := vaP_sel (Wc := [wModel K aM M1 ML]) hP [0] rfl
      refine r_cI (va_runV (As := [.int (nI 0)]) (rest := []) C0.1 (ctX6_ringOf l D K N aM M1 ML (nI 0) z5 hz5) (cwV 1 C0.1.2.2.2.2 (gdV wd30_10 wd30_11 wd30_12 wd1_5 wd30_13) rfl rfl rfl (by decide +kernel) ⟨Nat.le_of_ble_eq_true rfl, Nat.le_of_ble_eq_true rfl⟩) ⟨pcR_blind, va_recv C0.2.2.2.1 hPc (ci := 6) (q0 := 0) rfl rfl, pcR_of hPc C0.2.2.2⟩ rfl rfl hl.1 rfl (lv_room (Nat.le_of_ble_eq_true rfl)) dX6_bound_27 ⟨Nat.zero_le _, Nat.zero_le _⟩).run ?_
      refine r_istore_n h C0 (fun v6 => [(3, .int v6), (2, .int v4), (0, .ref (aM 0)), (1, .int x1)]) dX6_bound_30 hl (by decide) (fun _ => rfl) (fun v6 ls h hl => ?_)
      refine r_aload_n C0 dX6_bound_31 hl 2 rfl ?_
      refine r_get C0 6 inx6 hP 0 rfl rfl 11 (by decide) (mc wd5_11) (.ref (aM 12)) rfl dX6_bound_32 ?_
      refine r_bipush C0 (nI 17) dX6_bound_35 (by decide) ?_
      refine r_ialdC C0 hP 2 rfl 17 (by decide) dX6_bound_37 ?_
      refine r_istore h C0 (fun v7 => [(4, .int v7), (3, .int v6), (2, .int v4), (0, .ref (aM 0)), (1, .int x1)]) dX6_bound_38 hl (by decide) (fun _ => rfl) (fun v7 ls h hl => ?_)
      refine r_iconst C0 (nI 1) dX6_bound_40 (by decide) ?_
      refine r_istore h C0 (fun v8 => [(5, .int v8), (4, .int v7), (3, .int v6), (2, .int v4), (0, .ref (aM 0)), (1, .int x1)]) dX6_bound_41 hl (by decide) (fun _ => rfl) (fun v8 ls h hl => ?_)
      exact wX6_bound_43L C0 hA M1 ML x1 v4 v6 v7 v8 _ _ _ h hP hD hS (lv_sub hl [4, 5, 3, 2, 1, 0] rfl)
    · exact wX6_bound_21 C0 hA M1 ML h _ _ hP hD hS _ (lv_sub hl [] rfl)
set_option maxHeartbeats 1000000 in
set_option maxRecDepth 10000 in
theorem ctX6_bound (l : Launch) (D : va_G) (K : Nat → ClassId) (N : Nat) (aM : Nat → Nat) (M : Rc) (ML : RcL) (p1 : Int32) (sz : Nat) (z : Int32 × (Rc)) (hz : fX6_bound N M ML p1 = some z) : Met l yX6_bound wsX6_bound rmX6_bound (pcW D K [.ref (aM 0), .int p1] (fl [wModel K aM M ML]) sz) (qcI D z (fun (u : Rc) => (fl [wModel K aM u ML])) (va_A (fl [wModel K aM M ML]) sz)) 0 0 (va_A (fl [wModel K aM M ML]) sz) := by
  refine Met.ofW (cc := cX6_bound) (maxL := 9) (ret := (some .int)) (by decide) rfl ?_
  intro p e s m args below meth c s₁ B hml hv
  obtain ⟨rfl, hsz, hP, hK, hD0⟩ := hv
  subst hsz
  have C0 : cx p s m _ meth c cX6_bound 9 RX6 wsX6_bound (some .int) D K := ⟨⟨B.exec, B.bytes, hml, findClass_of_methodNamed B.named, atoms_spec (ws := wsX6_bound) B.pre⟩, B.returns, B.notSynchronized, hK⟩
  have hD := hD0.self (sz := s.heap.size)
  generalize hAe : va_A (fl [wModel K aM M ML]) s.heap.size = A at hD ⊢
  have hA : ∀ q : Nat, s.heap.size ≤ q → A q := fun q h => by rw [← hAe]; exact Or.inr h
  have hl := lv_entry ([.ref (aM 0), .int p1]) (n := 9) (Nat.le_of_ble_eq_true rfl)
  rw [lg_entry_eq]
  generalize (lg_sl ([.ref (aM 0), .int p1]) ++ List.replicate (9 - (lg_sl ([.ref (aM 0), .int p1])).length) Slot.unset).toArray = ls at hl ⊢
  have hl : lv_has ls 9 [(0, .ref (aM 0)), (1, .int p1)] := hl
  exact wX6_bound_0 C0 hA M ML p1 hz s.heap [] hP hD va_S.rf ls (lv_sub hl [0, 1] rfl)
end SX6_bound

section SX6_needs
/-! CardLoopsModel.needs(III)I -/
abbrev wsX6_needs : List Cond := Cond.code yX6_needs cX6_needs 5 (some .int) :: wsL_law0
abbrev rmX6_needs : Room := { frames := 2, cells := 0, slots := 0, locals := 43 }
variable {p : Program} {l : Launch} {e : Env} {s : State} {m : MethodId} {args : Array Value} {below : List Frame} {meth : Method} {c : Code} {D : va_G} {K : Nat → ClassId} {A : Nat → Prop} {N : Nat} {aM : Nat → Nat} {z : Int32 × (Rc)}
def IX6_needs_38 (p : Program) (l : Launch) (e : Env) (s : State) (m : MethodId) (args : Array Value) (below : List Frame) (meth : Method) (c : Code) (D : va_G) (K : Nat → ClassId) (aM : Nat → Nat) (A : Nat → Prop) (z : Int32 × (Rc)) (k : Rc → RcL → Int32 → Int32 → Int32 → Int32 → Option (Int32 × (Rc))) : Prop := ∀ (M : Rc) (ML : RcL) (x1 : Int32) (x2 : Int32) (x3 : Int32) (x4 : Int32) (H : Heap) (locs : List Loc) (ls : Array Slot), k M ML x1 x2 x3 x4 = some z → va_P D vwCl (fl [wModel K aM M ML]) H → va_D A (fl [wModel K aM M ML]) → va_S A s.heap H locs → lv_has ls 5 [(0, .ref (aM 0)), (1, .int x1), (2, .int x2), (3, .int x3), (4, .int x4)] → W p l e rmX6_needs s m args below meth c H locs 0 0 (MQ below (qcI D z (fun (u : Rc) => (fl [wModel K aM u ML])) A) args s 0 0 A) (F0 m 38 ls [])
set_option maxHeartbeats 1000000 in
set_option maxRecDepth 10000 in
theorem wX6_needs_38 (C0 : cx p s m args meth c cX6_needs 5 RX6 wsX6_needs (some .int) D K) (hA : ∀ q, s.heap.size ≤ q → A q) {k38 : Rc → RcL → Int32 → Int32 → Int32 → Int32 → Option (Int32 × (Rc))} (hk38 : IX6_needs_38 p l e s m args below meth c D K aM A z k38) (M : Rc) (ML : RcL) (x1 : Int32) (x2 : Int32) (x3 : Int32) (x4 : Int32) (h : fX6_needs_38b N k38 M ML x1 x2 x3 x4 = some z) (H : Heap) (locs : List Loc) (hP : va_P D vwCl (fl [wModel K aM M ML]) H) (hD : va_D A (fl [wModel K aM M ML])) (hS : va_S A s.heap H locs) (ls : Array Slot) (hl : lv_has ls 5 [(0, .ref (aM 0)), (1, .int x1), (2, .int x2), (3, .int x3), (4, .int x4)]) : W p l e rmX6_needs s m args below meth c H locs 0 0 (MQ below (qcI D z (fun (u : Rc) => (fl [wModel K aM u ML])) A) args s 0 0 A) (F0 m 38 ls []) := by
  unfold fX6_needs_38b at h
  refine r_iload C0 dX6_needs_38 hl 4 rfl ?_
  refine r_iload_n C0 dX6_needs_40 hl 3 rfl ?_
  refine r_imul C0 dX6_needs_41 ?_
  refine r_iload_n C0 dX6_needs_42 hl 2 rfl ?_
  refine r_aload_n C0 dX6_needs_43 hl 0 rfl ?_
  refine r_iload_n C0 dX6_needs_44 hl 1 rfl ?_
  obtain ⟨z1, hz1, h⟩ := bnd_some h
  have hPc := vaP_sel (Wc := [wModel K aM M ML]) hP [0] rfl
  refine r_cI (va_runV (As := [.int x1]) (rest := [.int x2, .int (x4 * x3)]) C0.1 (ctX6_ringOf l D K N aM M ML x1 z1 hz1) (cwV 1 C0.1.2.2.2.2 (gdV wd30_10 wd30_11 wd30_12 wd1_5 wd30_13) rfl rfl rfl (by decide +kernel) ⟨Nat.le_of_ble_eq_true rfl, Nat.le_of_ble_eq_true rfl⟩) ⟨pcR_blind, va_recv C0.2.2.2.1 hPc (ci := 6) (q0 := 0) rfl rfl, pcR_of hPc C0.2.2.2⟩ rfl rfl hl.1 rfl (lv_room (Nat.le_of_ble_eq_true rfl)) dX6_needs_45 ⟨Nat.zero_le _, Nat.zero_le _⟩).run ?_
  refine r_imul C0 dX6_needs_48 ?_
  refine r_icmp_ge h C0 58 dX6_needs_49 (by decide) (fun h => ?_) (fun h => ?_)
  · refine r_iload C0 dX6_needs_58 hl 4 rfl ?_
    exact r_iret h C0 (fun (u : Rc) => (fl [wModel K aM u ML])) hP hD hS dX6_needs_60
  · refine r_iinc h C0 4 (fun v2 => [(4, .int v2), (0, .ref (aM 0)), (1, .int x1), (2, .int x2), (3, .int x3)]) dX6_needs_52 hl rfl rfl (by decide) (fun _ => rfl) (fun v2 ls h hl => ?_)
    refine r_goto C0 38 dX6_needs_55 (by decide) ?_
    exact hk38 M ML x1 x2 x3 v2 _ _ _ h hP hD hS (lv_sub hl [1, 2, 3, 4, 0] rfl)
theorem wX6_needs_38L (C0 : cx p s m args meth c cX6_needs 5 RX6 wsX6_needs (some .int) D K) (hA : ∀ q, s.heap.size ≤ q → A q) : IX6_needs_38 p l e s m args below meth c D K aM A z (fX6_needs_38 N) := by
  refine itn_ind (IX6_needs_38 p l e s m args below meth c D K aM A z) ?_ ?_ N
  · intro _ _ _ _ _ _ _ _ _ h; cases h
  · intro k38 hk38 M ML x1 x2 x3 x4 H locs ls h hP hD hS hl
    exact wX6_needs_38 C0 hA hk38 M ML x1 x2 x3 x4 h H locs hP hD hS ls hl
set_option maxHeartbeats 1000000 in
set_option maxRecDepth 10000 in
theorem wX6_needs_33 (C0 : cx p s m args meth c cX6_needs 5 RX6 wsX6_needs (some .int) D K) (hA : ∀ q, s.heap.size ≤ q → A q) (M : Rc) (ML : RcL) (h : fX6_needs_33 N M ML = some z) (H : Heap) (locs : List Loc) (hP : va_P D vwCl (fl [wModel K aM M ML]) H) (hD : va_D A (fl [wModel K aM M ML])) (hS : va_S A s.heap H locs) (ls : Array Slot) (hl : lv_has ls 5 []) : W p l e rmX6_needs s m args below meth c H locs 0 0 (MQ below (qcI D z (fun (u : Rc) => (fl [wModel K aM u ML])) A) args s 0 0 A) (F0 m 33 ls []) := by
  unfold fX6_needs_33 at h
  refine r_iconst C0 (-1 : Int32) dX6_needs_33 (by decide) ?_
  exact r_iret h C0 (fun (u : Rc) => (fl [wModel K aM u ML])) hP hD hS dX6_needs_34
set_option maxHeartbeats 1000000 in
set_option maxRecDepth 10000 in
theorem wX6_needs_0 (C0 : cx p s m args meth c cX6_needs 5 RX6 wsX6_needs (some .int) D K) (hA : ∀ q, s.heap.size ≤ q → A q) (M : Rc) (ML : RcL) (x1 : Int32) (x2 : Int32) (x3 : Int32) (h : fX6_needs N M ML x1 x2 x3 = some z) (H : Heap) (locs : List Loc) (hP : va_P D vwCl (fl [wModel K aM M ML]) H) (hD : va_D A (fl [wModel K aM M ML])) (hS : va_S A s.heap H locs) (ls : Array Slot) (hl : lv_has ls 5 [(0, .ref (aM 0)), (1, .int x1), (2, .int x2), (3, .int x3)]) : W p l e rmX6_needs s m args below meth c H locs 0 0 (MQ below (qcI D z (fun (u : Rc) => (fl [wModel K aM u ML])) A) args s 0 0 A) (F0 m 0 ls []) := by
  unfold fX6_needs at h
  refine r_aload_n C0 dX6_needs_0 hl 0 rfl ?_
  refine r_iconst C0 (nI 0) dX6_needs_1 (by decide) ?_
  refine r_put (ty := .int) h C0 6 inx6 tyX6 tyX6_ok nmX6 hP hD hS 0 (fun uu => (fl [wModel K aM uu ML])) rfl rfl 0 (by decide) (mc wd6_10) rfl (by decide +kernel) rfl rfl (by simp) rfl dX6_needs_2 (fun M1 H locs h hP hD hS => ?_)
  refine r_aload_n C0 dX6_needs_5 hl 0 rfl ?_
  refine r_iload_n C0 dX6_needs_6 hl 1 rfl ?_
  obtain ⟨z2, hz2, h⟩ := bnd_some h
  have hPc := vaP_sel (Wc := [wModel K aM M1 ML]) hP [0] rfl
  refine r_cI (va_runV (As := [.int x1]) (rest := []) C0.1 (ctX6_isLoop l D K aM M1 ML x1 z2 hz2) (cwV 1 C0.1.2.2.2.2 (gdV wd24_10 wd24_11 wd24_12 wd1_5 wd24_13) rfl rfl rfl (by decide +kernel) ⟨Nat.le_of_ble_eq_true rfl, Nat.le_of_ble_eq_true rfl⟩) ⟨pcR_blind, va_recv C0.2.2.2.1 hPc (ci := 6) (q0 := 0) rfl rfl, pcR_of hPc C0.2.2.2⟩ rfl rfl hl.1 rfl (lv_room (Nat.le_of_ble_eq_true rfl)) dX6_needs_7 ⟨Nat.zero_le _, Nat.zero_le _⟩).run ?_
  refine r_if_eq h C0 33 dX6_needs_10 (by decide) (fun h => ?_) (fun h => ?_)
  · exact wX6_needs_33 C0 hA M1 ML h _ _ hP hD hS _ (lv_sub hl [] rfl)
  · refine r_iload_n C0 dX6_needs_13 hl 2 rfl ?_
    refine r_iconst C0 (nI 1) dX6_needs_14 (by decide) ?_
    refine r_bipush C0 (nI 99) dX6_needs_15 (by decide) ?_
    obtain ⟨z3, hz3, h⟩ := bnd_some h
    have hPc : va_P D vwCl [] H := va_P_nil
    refine r_cI (va_runS (As := [.int x2, .int (nI 1), .int (nI 99)]) (rest := []) C0.1 (ctX6_isIn l D K x2 (nI 1) (nI 99) z3 hz3) (va_cwS 3 C0.1.2.2.2.2 (gdS wd17_16 wd17_17 wd1_5 wd17_18) rfl rfl rfl (by decide +kernel) ⟨Nat.le_of_ble_eq_true rfl, Nat.le_of_ble_eq_true rfl⟩) ⟨pcR_blind, pcR_of hPc C0.2.2.2⟩ rfl rfl hl.1 rfl (lv_room (Nat.le_of_ble_eq_true rfl)) dX6_needs_17 ⟨Nat.zero_le _, Nat.zero_le _⟩).run ?_
    refine r_if_eq h C0 33 dX6_needs_20 (by decide) (fun h => ?_) (fun h => ?_)
    · exact wX6_needs_33 C0 hA M1 ML h _ _ hP hD hS _ (lv_sub hl [] rfl)
    · refine r_iload_n C0 dX6_needs_23 hl 3 rfl ?_
      refine r_iconst C0 (nI 1) dX6_needs_24 (by decide) ?_
      refine r_bipush C0 (nI 99) dX6_needs_25 (by decide) ?_
      obtain ⟨z4, hz4, h⟩ := bnd_some h
      have hPc : va_P D vwCl [] H := va_P_nil
      refine r_cI (va_runS (As := [.int x3, .int (nI 1), .int (nI 99)]) (rest := []) C0.1 (ctX6_isIn l D K x3 (nI 1) (nI 99) z4 hz4) (va_cwS 3 C0.1.2.2.2.2 (gdS wd17_16 wd17_17 wd1_5 wd17_18) rfl rfl rfl (by decide +kernel) ⟨Nat.le_of_ble_eq_true rfl, Nat.le_of_ble_eq_true rfl⟩) ⟨pcR_blind, pcR_of hPc C0.2.2.2⟩ rfl rfl hl.1 rfl (lv_room (Nat.le_of_ble_eq_true rfl)) dX6_needs_27 ⟨Nat.zero_le _, Nat.zero_le _⟩).run ?_
      refine r_if_ne h C0 35 dX6_needs_30 (by decide) (fun h => ?_) (fun h => ?_)
      · refine r_iconst C0 (nI 1) dX6_needs_35 (by decide) ?_
        refine r_istore h C0 (fun v5 => [(4, .int v5), (0, .ref (aM 0)), (1, .int x1), (2, .int x2), (3, .int x3)]) dX6_needs_36 hl (by decide) (fun _ => rfl) (fun v5 ls h hl => ?_)
        exact wX6_needs_38L C0 hA M1 ML x1 x2 x3 v5 _ _ _ h hP hD hS (lv_sub hl [1, 2, 3, 4, 0] rfl)
      · exact wX6_needs_33 C0 hA M1 ML h _ _ hP hD hS _ (lv_sub hl [] rfl)
set_option maxHeartbeats 1000000 in
set_option maxRecDepth 10000 in
theorem ctX6_needs (l : Launch) (D : va_G) (K : Nat → ClassId) (N : Nat) (aM : Nat → Nat) (M : Rc) (ML : RcL) (p1 : Int32) (p2 : Int32) (p3 : Int32) (sz : Nat) (z : Int32 × (Rc)) (hz : fX6_needs N M ML p1 p2 p3 = some z) : Met l yX6_needs wsX6_needs rmX6_needs (pcW D K [.ref (aM 0), .int p1, .int p2, .int p3] (fl [wModel K aM M ML]) sz) (qcI D z (fun (u : Rc) => (fl [wModel K aM u ML])) (va_A (fl [wModel K aM M ML]) sz)) 0 0 (va_A (fl [wModel K aM M ML]) sz) := by
  refine Met.ofW (cc := cX6_needs) (maxL := 5) (ret := (some .int)) (by decide) rfl ?_
  intro p e s m args below meth c s₁ B hml hv
  obtain ⟨rfl, hsz, hP, hK, hD0⟩ := hv
  subst hsz
  have C0 : cx p s m _ meth c cX6_needs 5 RX6 wsX6_needs (some .int) D K := ⟨⟨B.exec, B.bytes, hml, findClass_of_methodNamed B.named, atoms_spec (ws := wsX6_needs) B.pre⟩, B.returns, B.notSynchronized, hK⟩
  have hD := hD0.self (sz := s.heap.size)
  generalize hAe : va_A (fl [wModel K aM M ML]) s.heap.size = A at hD ⊢
  have hA : ∀ q : Nat, s.heap.size ≤ q → A q := fun q h => by rw [← hAe]; exact Or.inr h
  have hl := lv_entry ([.ref (aM 0), .int p1, .int p2, .int p3]) (n := 5) (Nat.le_of_ble_eq_true rfl)
  rw [lg_entry_eq]
  generalize (lg_sl ([.ref (aM 0), .int p1, .int p2, .int p3]) ++ List.replicate (5 - (lg_sl ([.ref (aM 0), .int p1, .int p2, .int p3])).length) Slot.unset).toArray = ls at hl ⊢
  have hl : lv_has ls 5 [(0, .ref (aM 0)), (1, .int p1), (2, .int p2), (3, .int p3)] := hl
  exact wX6_needs_0 C0 hA M ML p1 p2 p3 hz s.heap [] hP hD va_S.rf ls (lv_sub hl [0, 1, 2, 3] rfl)
end SX6_needs

section SX6_least
/-! CardLoopsModel.least(III)I -/
abbrev wsX6_least : List Cond := Cond.code yX6_least cX6_least 5 (some .int) :: wsL_law0
abbrev rmX6_least : Room := { frames := 1602, cells := 0, slots := 0, locals := 33644 }
variable {p : Program} {l : Launch} {e : Env} {s : State} {m : MethodId} {args : Array Value} {below : List Frame} {meth : Method} {c : Code} {D : va_G} {K : Nat → ClassId} {A : Nat → Prop} {N : Nat} {aM : Nat → Nat} {z : Int32 × (Rc × RcL)}
def IX6_least_38 (p : Program) (l : Launch) (e : Env) (s : State) (m : MethodId) (args : Array Value) (below : List Frame) (meth : Method) (c : Code) (D : va_G) (K : Nat → ClassId) (aM : Nat → Nat) (A : Nat → Prop) (z : Int32 × (Rc × RcL)) (k : Rc → RcL → Int32 → Int32 → Int32 → Int32 → Option (Int32 × (Rc × RcL))) : Prop := ∀ (M : Rc) (ML : RcL) (x1 : Int32) (x2 : Int32) (x3 : Int32) (x4 : Int32) (H : Heap) (locs : List Loc) (ls : Array Slot), k M ML x1 x2 x3 x4 = some z → va_P D vwCl (fl [wModel K aM M ML]) H → va_D A (fl [wModel K aM M ML]) → va_S A s.heap H locs → lv_has ls 5 [(0, .ref (aM 0)), (1, .int x1), (2, .int x2), (3, .int x3), (4, .int x4)] → W p l e rmX6_least s m args below meth c H locs 0 0 (MQ below (qcI D z (fun (u : Rc × RcL) => (fl [wModel K aM u.1 u.2])) A) args s 0 0 A) (F0 m 38 ls [])
set_option maxHeartbeats 1000000 in
set_option maxRecDepth 10000 in
theorem wX6_least_98 (C0 : cx p s m args meth c cX6_least 5 RX6 wsX6_least (some .int) D K) (hA : ∀ q, s.heap.size ≤ q → A q) {k38 : Rc → RcL → Int32 → Int32 → Int32 → Int32 → Option (Int32 × (Rc × RcL))} (hk38 : IX6_least_38 p l e s m args below meth c D K aM A z k38) (M : Rc) (ML : RcL) (x1 : Int32) (x2 : Int32) (x3 : Int32) (x4 : Int32) (h : fX6_least_98 N k38 M ML x1 x2 x3 x4 = some z) (H : Heap) (locs : List Loc) (hP : va_P D vwCl (fl [wModel K aM M ML]) H) (hD : va_D A (fl [wModel K aM M ML])) (hS : va_S A s.heap H locs) (ls : Array Slot) (hl : lv_has ls 5 [(0, .ref (aM 0)), (1, .int x1), (2, .int x2), (3, .int x3), (4, .int x4)]) : W p l e rmX6_least s m args below meth c H locs 0 0 (MQ below (qcI D z (fun (u : Rc × RcL) => (fl [wModel K aM u.1 u.2])) A) args s 0 0 A) (F0 m 98 ls []) := by
  unfold fX6_least_98 at h
  refine r_iinc h C0 4 (fun v1 => [(4, .int v1), (0, .ref (aM 0)), (1, .int x1), (2, .int x2), (3, .int x3)]) dX6_least_98 hl rfl rfl (by decide) (fun _ => rfl) (fun v1 ls h hl => ?_)
  refine r_goto C0 38 dX6_least_101 (by decide) ?_
  exact hk38 M ML x1 x2 x3 v1 _ _ _ h hP hD hS (lv_sub hl [1, 2, 3, 4, 0] rfl)
set_option maxHeartbeats 1000000 in
set_option maxRecDepth 10000 in
theorem wX6_least_38 (C0 : cx p s m args meth c cX6_least 5 RX6 wsX6_least (some .int) D K) (hA : ∀ q, s.heap.size ≤ q → A q) {k38 : Rc → RcL → Int32 → Int32 → Int32 → Int32 → Option (Int32 × (Rc × RcL))} (hk38 : IX6_least_38 p l e s m args below meth c D K aM A z k38) (M : Rc) (ML : RcL) (x1 : Int32) (x2 : Int32) (x3 : Int32) (x4 : Int32) (h : fX6_least_38b N k38 M ML x1 x2 x3 x4 = some z) (H : Heap) (locs : List Loc) (hP : va_P D vwCl (fl [wModel K aM M ML]) H) (hD : va_D A (fl [wModel K aM M ML])) (hS : va_S A s.heap H locs) (ls : Array Slot) (hl : lv_has ls 5 [(0, .ref (aM 0)), (1, .int x1), (2, .int x2), (3, .int x3), (4, .int x4)]) : W p l e rmX6_least s m args below meth c H locs 0 0 (MQ below (qcI D z (fun (u : Rc × RcL) => (fl [wModel K aM u.1 u.2])) A) args s 0 0 A) (F0 m 38 ls []) := by
  unfold fX6_least_38b at h
  refine r_iload C0 dX6_least_38 hl 4 rfl ?_
  refine r_bipush C0 (nI 20) dX6_least_40 (by decide) ?_
  refine r_icmp_gt h C0 104 dX6_least_42 (by decide) (fun h => ?_) (fun h => ?_)
  · refine r_bipush C0 (-2 : Int32) dX6_least_104 (by decide) ?_
    exact r_iret h C0 (fun (u : Rc × RcL) => (fl [wModel K aM u.1 u.2])) hP hD hS dX6_least_106
  · refine r_aload_n C0 dX6_least_45 hl 0 rfl ?_
    refine r_get C0 6 inx6 hP 0 rfl rfl 11 (by decide) (mc wd5_11) (.ref (aM 12)) rfl dX6_least_46 ?_
    refine r_iconst C0 (nI 0) dX6_least_49 (by decide) ?_
    refine r_aload_n C0 dX6_least_50 hl 0 rfl ?_
    refine r_get C0 6 inx6 hP 0 rfl rfl 13 (by decide) (mc wd5_13) (.ref (aM 14)) rfl dX6_least_51 ?_
    refine r_iconst C0 (nI 0) dX6_least_54 (by decide) ?_
    obtain ⟨z1, hz1, h⟩ := bnd_some h
    refine r_callV (wc := (fl [wArr K (aM 12) 353 (M 11), wArr K (aM 14) 353 (M 13)])) (wf := fun (u : (Nat → Int32)) => (fl [wArr K (aM 12) 353 (M 11), wArr K (aM 14) 353 u])) (wn := (fl [wModel K aM (va_up M 13 z1) ML])) hP hD hS hA [2, 4] [0, 1, 3, 5, 6, 7, 8] [0, 1, 7, 2, 8, 3, 4, 5, 6] rfl (by decide) rfl (by decide) (by decide) rfl (by decide) (fun hPc hDc => va_runS (As := [.ref (aM 12), .int (nI 0), .ref (aM 14), .int (nI 0)]) (rest := []) C0.1 (ctX6_copy l D K 353 353 N (aM 12) (aM 14) (M 11) (M 13) (nI 0) (nI 0) H.size z1 hz1) (va_cwS 4 C0.1.2.2.2.2 (gdS wd20_0 wd20_1 wd1_5 wd20_2) rfl rfl rfl (by decide +kernel) ⟨Nat.le_of_ble_eq_true rfl, Nat.le_of_ble_eq_true rfl⟩) ⟨pcW_blind, pcW_of hPc hDc C0.2.2.2⟩ rfl rfl hl.1 rfl (lv_room (Nat.le_of_ble_eq_true rfl)) dX6_least_55 ⟨Nat.zero_le _, Nat.zero_le _⟩) (fun H locs hP hD hS => ?_)
    refine nm_w h (fun uu => (fl [wModel K aM uu ML])) hP hD (fun M2 h hP hD => ?_)
    refine r_aload_n C0 dX6_least_58 hl 0 rfl ?_
    refine r_get C0 6 inx6 hP 0 rfl rfl 13 (by decide) (mc wd5_13) (.ref (aM 14)) rfl dX6_least_59 ?_
    refine r_bipush C0 (nI 15) dX6_least_62 (by decide) ?_
    refine r_iconst C0 (nI 4) dX6_least_64 (by decide) ?_
    refine r_iload_n C0 dX6_least_65 hl 1 rfl ?_
    refine r_imul C0 dX6_least_66 ?_
    refine r_iadd C0 dX6_least_67 ?_
    refine r_iconst C0 (nI 2) dX6_least_68 (by decide) ?_
    refine r_iadd C0 dX6_least_69 ?_
    refine r_iload C0 dX6_least_70 hl 4 rfl ?_
    refine r_iast h C0 hP hD hS 4 (fun uu => (fl [wModel K aM uu ML])) rfl rfl dX6_least_72 (fun M3 H locs h hP hD hS => ?_)
    refine r_aload_n C0 dX6_least_73 hl 0 rfl ?_
    obtain ⟨z4, hz4, h⟩ := bnd_some h
    refine r_callIC (Wc := [wModel K aM M3 ML]) (wf := fun (u : Rc × RcL) => [wModel K aM u.1 u.2]) (Wn := [wModel K aM z4.2.1 z4.2.2]) hP hD hS hA [0] [] [0] 1 rfl rfl (by decide) rfl rfl (by decide) (fun hPc hDc hFc => va_runV (As := []) (rest := []) C0.1 (ctX6_laysPace l D K N aM M3 ML H.size z4 hz4) (cwV 0 C0.1.2.2.2.2 (gdV wd28_15 wd28_16 wd28_17 wd1_5 wd28_18) rfl rfl rfl (by decide +kernel) ⟨Nat.le_of_ble_eq_true rfl, Nat.le_of_ble_eq_true rfl⟩) ⟨pcW_blind, va_recv C0.2.2.2.1 hPc (ci := 6) (q0 := 0) rfl rfl, pcW_of hPc hDc C0.2.2.2⟩ rfl rfl hl.1 rfl (lv_room (Nat.le_of_ble_eq_true rfl)) dX6_least_74 ⟨Nat.zero_le _, Nat.zero_le _⟩) (fun H locs hP hD hS => ?_)
    refine r_if_eq h C0 98 dX6_least_77 (by decide) (fun h => ?_) (fun h => ?_)
    · exact wX6_least_98 C0 hA hk38 z4.2.1 z4.2.2 x1 x2 x3 x4 h _ _ hP hD hS _ (lv_sub hl [0, 1, 2, 3, 4] rfl)
    · refine r_aload_n C0 dX6_least_80 hl 0 rfl ?_
      refine r_get C0 6 inx6 hP 0 rfl rfl 19 (by decide) (mc wd28_13) (.int (z4.2.1 19 0)) rfl dX6_least_81 ?_
      refine r_iload_n C0 dX6_least_84 hl 3 rfl ?_
      refine r_imul C0 dX6_least_85 ?_
      refine r_iload_n C0 dX6_least_86 hl 2 rfl ?_
      refine r_aload_n C0 dX6_least_87 hl 0 rfl ?_
      refine r_get C0 6 inx6 hP 0 rfl rfl 20 (by decide) (mc wd28_14) (.int (z4.2.1 20 0)) rfl dX6_least_88 ?_
      refine r_imul C0 dX6_least_91 ?_
      refine r_icmp_lt h C0 98 dX6_least_92 (by decide) (fun h => ?_) (fun h => ?_)
      · exact wX6_least_98 C0 hA hk38 z4.2.1 z4.2.2 x1 x2 x3 x4 h _ _ hP hD hS _ (lv_sub hl [0, 1, 2, 3, 4] rfl)
      · refine r_iload C0 dX6_least_95 hl 4 rfl ?_
        exact r_iret h C0 (fun (u : Rc × RcL) => (fl [wModel K aM u.1 u.2])) hP hD hS dX6_least_97
theorem wX6_least_38L (C0 : cx p s m args meth c cX6_least 5 RX6 wsX6_least (some .int) D K) (hA : ∀ q, s.heap.size ≤ q → A q) : IX6_least_38 p l e s m args below meth c D K aM A z (fX6_least_38 N) := by
  refine itn_ind (IX6_least_38 p l e s m args below meth c D K aM A z) ?_ ?_ N
  · intro _ _ _ _ _ _ _ _ _ h; cases h
  · intro k38 hk38 M ML x1 x2 x3 x4 H locs ls h hP hD hS hl
    exact wX6_least_38 C0 hA hk38 M ML x1 x2 x3 x4 h H locs hP hD hS ls hl
set_option maxHeartbeats 1000000 in
set_option maxRecDepth 10000 in
theorem wX6_least_33 (C0 : cx p s m args meth c cX6_least 5 RX6 wsX6_least (some .int) D K) (hA : ∀ q, s.heap.size ≤ q → A q) (M : Rc) (ML : RcL) (h : fX6_least_33 N M ML = some z) (H : Heap) (locs : List Loc) (hP : va_P D vwCl (fl [wModel K aM M ML]) H) (hD : va_D A (fl [wModel K aM M ML])) (hS : va_S A s.heap H locs) (ls : Array Slot) (hl : lv_has ls 5 []) : W p l e rmX6_least s m args below meth c H locs 0 0 (MQ below (qcI D z (fun (u : Rc × RcL) => (fl [wModel K aM u.1 u.2])) A) args s 0 0 A) (F0 m 33 ls []) := by
  unfold fX6_least_33 at h
  refine r_iconst C0 (-1 : Int32) dX6_least_33 (by decide) ?_
  exact r_iret h C0 (fun (u : Rc × RcL) => (fl [wModel K aM u.1 u.2])) hP hD hS dX6_least_34
set_option maxHeartbeats 1000000 in
set_option maxRecDepth 10000 in
theorem wX6_least_0 (C0 : cx p s m args meth c cX6_least 5 RX6 wsX6_least (some .int) D K) (hA : ∀ q, s.heap.size ≤ q → A q) (M : Rc) (ML : RcL) (x1 : Int32) (x2 : Int32) (x3 : Int32) (h : fX6_least N M ML x1 x2 x3 = some z) (H : Heap) (locs : List Loc) (hP : va_P D vwCl (fl [wModel K aM M ML]) H) (hD : va_D A (fl [wModel K aM M ML])) (hS : va_S A s.heap H locs) (ls : Array Slot) (hl : lv_has ls 5 [(0, .ref (aM 0)), (1, .int x1), (2, .int x2), (3, .int x3)]) : W p l e rmX6_least s m args below meth c H locs 0 0 (MQ below (qcI D z (fun (u : Rc × RcL) => (fl [wModel K aM u.1 u.2])) A) args s 0 0 A) (F0 m 0 ls []) := by
  unfold fX6_least at h
  refine r_aload_n C0 dX6_least_0 hl 0 rfl ?_
  refine r_iconst C0 (nI 0) dX6_least_1 (by decide) ?_
  refine r_put (ty := .int) h C0 6 inx6 tyX6 tyX6_ok nmX6 hP hD hS 0 (fun uu => (fl [wModel K aM uu ML])) rfl rfl 0 (by decide) (mc wd6_10) rfl (by decide +kernel) rfl rfl (by simp) rfl dX6_least_2 (fun M1 H locs h hP hD hS => ?_)
  refine r_aload_n C0 dX6_least_5 hl 0 rfl ?_
  refine r_iload_n C0 dX6_least_6 hl 1 rfl ?_
  obtain ⟨z2, hz2, h⟩ := bnd_some h
  have hPc := vaP_sel (Wc := [wModel K aM M1 ML]) hP [0] rfl
  refine r_cI (va_runV (As := [.int x1]) (rest := []) C0.1 (ctX6_isLoop l D K aM M1 ML x1 z2 hz2) (cwV 1 C0.1.2.2.2.2 (gdV wd24_10 wd24_11 wd24_12 wd1_5 wd24_13) rfl rfl rfl (by decide +kernel) ⟨Nat.le_of_ble_eq_true rfl, Nat.le_of_ble_eq_true rfl⟩) ⟨pcR_blind, va_recv C0.2.2.2.1 hPc (ci := 6) (q0 := 0) rfl rfl, pcR_of hPc C0.2.2.2⟩ rfl rfl hl.1 rfl (lv_room (Nat.le_of_ble_eq_true rfl)) dX6_least_7 ⟨Nat.zero_le _, Nat.zero_le _⟩).run ?_
  refine r_if_eq h C0 33 dX6_least_10 (by decide) (fun h => ?_) (fun h => ?_)
  · exact wX6_least_33 C0 hA M1 ML h _ _ hP hD hS _ (lv_sub hl [] rfl)
  · refine r_iload_n C0 dX6_least_13 hl 2 rfl ?_
    refine r_iconst C0 (nI 1) dX6_least_14 (by decide) ?_
    refine r_bipush C0 (nI 99) dX6_least_15 (by decide) ?_
    obtain ⟨z3, hz3, h⟩ := bnd_some h
    have hPc : va_P D vwCl [] H := va_P_nil
    refine r_cI (va_runS (As := [.int x2, .int (nI 1), .int (nI 99)]) (rest := []) C0.1 (ctX6_isIn l D K x2 (nI 1) (nI 99) z3 hz3) (va_cwS 3 C0.1.2.2.2.2 (gdS wd17_16 wd17_17 wd1_5 wd17_18) rfl rfl rfl (by decide +kernel) ⟨Nat.le_of_ble_eq_true rfl, Nat.le_of_ble_eq_true rfl⟩) ⟨pcR_blind, pcR_of hPc C0.2.2.2⟩ rfl rfl hl.1 rfl (lv_room (Nat.le_of_ble_eq_true rfl)) dX6_least_17 ⟨Nat.zero_le _, Nat.zero_le _⟩).run ?_
    refine r_if_eq h C0 33 dX6_least_20 (by decide) (fun h => ?_) (fun h => ?_)
    · exact wX6_least_33 C0 hA M1 ML h _ _ hP hD hS _ (lv_sub hl [] rfl)
    · refine r_iload_n C0 dX6_least_23 hl 3 rfl ?_
      refine r_iconst C0 (nI 1) dX6_least_24 (by decide) ?_
      refine r_bipush C0 (nI 99) dX6_least_25 (by decide) ?_
      obtain ⟨z4, hz4, h⟩ := bnd_some h
      have hPc : va_P D vwCl [] H := va_P_nil
      refine r_cI (va_runS (As := [.int x3, .int (nI 1), .int (nI 99)]) (rest := []) C0.1 (ctX6_isIn l D K x3 (nI 1) (nI 99) z4 hz4) (va_cwS 3 C0.1.2.2.2.2 (gdS wd17_16 wd17_17 wd1_5 wd17_18) rfl rfl rfl (by decide +kernel) ⟨Nat.le_of_ble_eq_true rfl, Nat.le_of_ble_eq_true rfl⟩) ⟨pcR_blind, pcR_of hPc C0.2.2.2⟩ rfl rfl hl.1 rfl (lv_room (Nat.le_of_ble_eq_true rfl)) dX6_least_27 ⟨Nat.zero_le _, Nat.zero_le _⟩).run ?_
      refine r_if_ne h C0 35 dX6_least_30 (by decide) (fun h => ?_) (fun h => ?_)
      · refine r_iconst C0 (nI 1) dX6_least_35 (by decide) ?_
        refine r_istore h C0 (fun v5 => [(4, .int v5), (0, .ref (aM 0)), (1, .int x1), (2, .int x2), (3, .int x3)]) dX6_least_36 hl (by decide) (fun _ => rfl) (fun v5 ls h hl => ?_)
        exact wX6_least_38L C0 hA M1 ML x1 x2 x3 v5 _ _ _ h hP hD hS (lv_sub hl [1, 2, 3, 4, 0] rfl)
      · exact wX6_least_33 C0 hA M1 ML h _ _ hP hD hS _ (lv_sub hl [] rfl)
set_option maxHeartbeats 1000000 in
set_option maxRecDepth 10000 in
theorem ctX6_least (l : Launch) (D : va_G) (K : Nat → ClassId) (N : Nat) (aM : Nat → Nat) (M : Rc) (ML : RcL) (p1 : Int32) (p2 : Int32) (p3 : Int32) (sz : Nat) (z : Int32 × (Rc × RcL)) (hz : fX6_least N M ML p1 p2 p3 = some z) : Met l yX6_least wsX6_least rmX6_least (pcW D K [.ref (aM 0), .int p1, .int p2, .int p3] (fl [wModel K aM M ML]) sz) (qcI D z (fun (u : Rc × RcL) => (fl [wModel K aM u.1 u.2])) (va_A (fl [wModel K aM M ML]) sz)) 0 0 (va_A (fl [wModel K aM M ML]) sz) := by
  refine Met.ofW (cc := cX6_least) (maxL := 5) (ret := (some .int)) (by decide) rfl ?_
  intro p e s m args below meth c s₁ B hml hv
  obtain ⟨rfl, hsz, hP, hK, hD0⟩ := hv
  subst hsz
  have C0 : cx p s m _ meth c cX6_least 5 RX6 wsX6_least (some .int) D K := ⟨⟨B.exec, B.bytes, hml, findClass_of_methodNamed B.named, atoms_spec (ws := wsX6_least) B.pre⟩, B.returns, B.notSynchronized, hK⟩
  have hD := hD0.self (sz := s.heap.size)
  generalize hAe : va_A (fl [wModel K aM M ML]) s.heap.size = A at hD ⊢
  have hA : ∀ q : Nat, s.heap.size ≤ q → A q := fun q h => by rw [← hAe]; exact Or.inr h
  have hl := lv_entry ([.ref (aM 0), .int p1, .int p2, .int p3]) (n := 5) (Nat.le_of_ble_eq_true rfl)
  rw [lg_entry_eq]
  generalize (lg_sl ([.ref (aM 0), .int p1, .int p2, .int p3]) ++ List.replicate (5 - (lg_sl ([.ref (aM 0), .int p1, .int p2, .int p3])).length) Slot.unset).toArray = ls at hl ⊢
  have hl : lv_has ls 5 [(0, .ref (aM 0)), (1, .int p1), (2, .int p2), (3, .int p3)] := hl
  exact wX6_least_0 C0 hA M ML p1 p2 p3 hz s.heap [] hP hD va_S.rf ls (lv_sub hl [0, 1, 2, 3] rfl)
end SX6_least

section SX6_laysLonger
/-! CardLoopsModel.laysLonger(I)Z -/
abbrev wsX6_laysLonger : List Cond := Cond.code yX6_laysLonger cX6_laysLonger 3 (some .boolean) :: wsL_law0
abbrev rmX6_laysLonger : Room := { frames := 1602, cells := 0, slots := 0, locals := 33644 }
variable {p : Program} {l : Launch} {e : Env} {s : State} {m : MethodId} {args : Array Value} {below : List Frame} {meth : Method} {c : Code} {D : va_G} {K : Nat → ClassId} {A : Nat → Prop} {N : Nat} {aM : Nat → Nat} {z : Int32 × (Rc × RcL)}
def IX6_laysLonger_15 (p : Program) (l : Launch) (e : Env) (s : State) (m : MethodId) (args : Array Value) (below : List Frame) (meth : Method) (c : Code) (D : va_G) (K : Nat → ClassId) (aM : Nat → Nat) (A : Nat → Prop) (z : Int32 × (Rc × RcL)) (k : Rc → RcL → Int32 → Int32 → Option (Int32 × (Rc × RcL))) : Prop := ∀ (M : Rc) (ML : RcL) (x1 : Int32) (x2 : Int32) (H : Heap) (locs : List Loc) (ls : Array Slot), k M ML x1 x2 = some z → va_P D vwCl (fl [wModel K aM M ML]) H → va_D A (fl [wModel K aM M ML]) → va_S A s.heap H locs → lv_has ls 3 [(0, .ref (aM 0)), (1, .int x1), (2, .int x2)] → W p l e rmX6_laysLonger s m args below meth c H locs 0 0 (MQ below (qcI D z (fun (u : Rc × RcL) => (fl [wModel K aM u.1 u.2])) A) args s 0 0 A) (F0 m 15 ls [])
set_option maxHeartbeats 1000000 in
set_option maxRecDepth 10000 in
theorem wX6_laysLonger_15 (C0 : cx p s m args meth c cX6_laysLonger 3 RX6 wsX6_laysLonger (some .boolean) D K) (hA : ∀ q, s.heap.size ≤ q → A q) {k15 : Rc → RcL → Int32 → Int32 → Option (Int32 × (Rc × RcL))} (hk15 : IX6_laysLonger_15 p l e s m args below meth c D K aM A z k15) (M : Rc) (ML : RcL) (x1 : Int32) (x2 : Int32) (h : fX6_laysLonger_15b N k15 M ML x1 x2 = some z) (H : Heap) (locs : List Loc) (hP : va_P D vwCl (fl [wModel K aM M ML]) H) (hD : va_D A (fl [wModel K aM M ML])) (hS : va_S A s.heap H locs) (ls : Array Slot) (hl : lv_has ls 3 [(0, .ref (aM 0)), (1, .int x1), (2, .int x2)]) : W p l e rmX6_laysLonger s m args below meth c H locs 0 0 (MQ below (qcI D z (fun (u : Rc × RcL) => (fl [wModel K aM u.1 u.2])) A) args s 0 0 A) (F0 m 15 ls []) := by
  unfold fX6_laysLonger_15b at h
  refine r_iload_n C0 dX6_laysLonger_15 hl 2 rfl ?_
  refine r_aload_n C0 dX6_laysLonger_16 hl 0 rfl ?_
  refine r_get C0 6 inx6 hP 0 rfl rfl 13 (by decide) (mc wd5_13) (.ref (aM 14)) rfl dX6_laysLonger_17 ?_
  refine r_bipush C0 (nI 35) dX6_laysLonger_20 (by decide) ?_
  refine r_ialdC C0 hP 4 rfl 35 (by decide) dX6_laysLonger_22 ?_
  refine r_icmp_ge h C0 49 dX6_laysLonger_23 (by decide) (fun h => ?_) (fun h => ?_)
  · refine r_aload_n C0 dX6_laysLonger_49 hl 0 rfl ?_
    obtain ⟨z1, hz1, h⟩ := bnd_some h
    refine r_callIC (Wc := [wModel K aM M ML]) (wf := fun (u : Rc × RcL) => [wModel K aM u.1 u.2]) (Wn := [wModel K aM z1.2.1 z1.2.2]) hP hD hS hA [0] [] [0] 1 rfl rfl (by decide) rfl rfl (by decide) (fun hPc hDc hFc => va_runV (As := []) (rest := []) C0.1 (ctX6_laysPace l D K N aM M ML H.size z1 hz1) (cwV 0 C0.1.2.2.2.2 (gdV wd28_15 wd28_16 wd28_17 wd1_5 wd28_18) rfl rfl rfl (by decide +kernel) ⟨Nat.le_of_ble_eq_true rfl, Nat.le_of_ble_eq_true rfl⟩) ⟨pcW_blind, va_recv C0.2.2.2.1 hPc (ci := 6) (q0 := 0) rfl rfl, pcW_of hPc hDc C0.2.2.2⟩ rfl rfl hl.1 rfl (lv_room (Nat.le_of_ble_eq_true rfl)) dX6_laysLonger_50 ⟨Nat.zero_le _, Nat.zero_le _⟩) (fun H locs hP hD hS => ?_)
    exact r_zret h C0 (fun (u : Rc × RcL) => (fl [wModel K aM u.1 u.2])) hP hD hS dX6_laysLonger_53
  · refine r_aload_n C0 dX6_laysLonger_26 hl 0 rfl ?_
    refine r_get C0 6 inx6 hP 0 rfl rfl 13 (by decide) (mc wd5_13) (.ref (aM 14)) rfl dX6_laysLonger_27 ?_
    refine r_bipush C0 (nI 36) dX6_laysLonger_30 (by decide) ?_
    refine r_iconst C0 (nI 2) dX6_laysLonger_32 (by decide) ?_
    refine r_iload_n C0 dX6_laysLonger_33 hl 2 rfl ?_
    refine r_imul C0 dX6_laysLonger_34 ?_
    refine r_iadd C0 dX6_laysLonger_35 ?_
    refine r_iconst C0 (nI 1) dX6_laysLonger_36 (by decide) ?_
    refine r_iadd C0 dX6_laysLonger_37 ?_
    refine r_dup2 C0 dX6_laysLonger_38 rfl rfl ?_
    refine r_iald h C0 hP 4 rfl dX6_laysLonger_39 (fun h => ?_)
    refine r_iload_n C0 dX6_laysLonger_40 hl 1 rfl ?_
    refine r_imul C0 dX6_laysLonger_41 ?_
    refine r_iast h C0 hP hD hS 4 (fun uu => (fl [wModel K aM uu ML])) rfl rfl dX6_laysLonger_42 (fun M2 H locs h hP hD hS => ?_)
    refine r_iinc h C0 2 (fun v3 => [(2, .int v3), (0, .ref (aM 0)), (1, .int x1)]) dX6_laysLonger_43 hl rfl rfl (by decide) (fun _ => rfl) (fun v3 ls h hl => ?_)
    refine r_goto C0 15 dX6_laysLonger_46 (by decide) ?_
    exact hk15 M2 ML x1 v3 _ _ _ h hP hD hS (lv_sub hl [1, 2, 0] rfl)
theorem wX6_laysLonger_15L (C0 : cx p s m args meth c cX6_laysLonger 3 RX6 wsX6_laysLonger (some .boolean) D K) (hA : ∀ q, s.heap.size ≤ q → A q) : IX6_laysLonger_15 p l e s m args below meth c D K aM A z (fX6_laysLonger_15 N) := by
  refine itn_ind (IX6_laysLonger_15 p l e s m args below meth c D K aM A z) ?_ ?_ N
  · intro _ _ _ _ _ _ _ h; cases h
  · intro k15 hk15 M ML x1 x2 H locs ls h hP hD hS hl
    exact wX6_laysLonger_15 C0 hA hk15 M ML x1 x2 h H locs hP hD hS ls hl
set_option maxHeartbeats 1000000 in
set_option maxRecDepth 10000 in
theorem wX6_laysLonger_0 (C0 : cx p s m args meth c cX6_laysLonger 3 RX6 wsX6_laysLonger (some .boolean) D K) (hA : ∀ q, s.heap.size ≤ q → A q) (M : Rc) (ML : RcL) (x1 : Int32) (h : fX6_laysLonger N M ML x1 = some z) (H : Heap) (locs : List Loc) (hP : va_P D vwCl (fl [wModel K aM M ML]) H) (hD : va_D A (fl [wModel K aM M ML])) (hS : va_S A s.heap H locs) (ls : Array Slot) (hl : lv_has ls 3 [(0, .ref (aM 0)), (1, .int x1)]) : W p l e rmX6_laysLonger s m args below meth c H locs 0 0 (MQ below (qcI D z (fun (u : Rc × RcL) => (fl [wModel K aM u.1 u.2])) A) args s 0 0 A) (F0 m 0 ls []) := by
  unfold fX6_laysLonger at h
  refine r_aload_n C0 dX6_laysLonger_0 hl 0 rfl ?_
  refine r_get C0 6 inx6 hP 0 rfl rfl 11 (by decide) (mc wd5_11) (.ref (aM 12)) rfl dX6_laysLonger_1 ?_
  refine r_iconst C0 (nI 0) dX6_laysLonger_4 (by decide) ?_
  refine r_aload_n C0 dX6_laysLonger_5 hl 0 rfl ?_
  refine r_get C0 6 inx6 hP 0 rfl rfl 13 (by decide) (mc wd5_13) (.ref (aM 14)) rfl dX6_laysLonger_6 ?_
  refine r_iconst C0 (nI 0) dX6_laysLonger_9 (by decide) ?_
  obtain ⟨z1, hz1, h⟩ := bnd_some h
  refine r_callV (wc := (fl [wArr K (aM 12) 353 (M 11), wArr K (aM 14) 353 (M 13)])) (wf := fun (u : (Nat → Int32)) => (fl [wArr K (aM 12) 353 (M 11), wArr K (aM 14) 353 u])) (wn := (fl [wModel K aM (va_up M 13 z1) ML])) hP hD hS hA [2, 4] [0, 1, 3, 5, 6, 7, 8] [0, 1, 7, 2, 8, 3, 4, 5, 6] rfl (by decide) rfl (by decide) (by decide) rfl (by decide) (fun hPc hDc => va_runS (As := [.ref (aM 12), .int (nI 0), .ref (aM 14), .int (nI 0)]) (rest := []) C0.1 (ctX6_copy l D K 353 353 N (aM 12) (aM 14) (M 11) (M 13) (nI 0) (nI 0) H.size z1 hz1) (va_cwS 4 C0.1.2.2.2.2 (gdS wd20_0 wd20_1 wd1_5 wd20_2) rfl rfl rfl (by decide +kernel) ⟨Nat.le_of_ble_eq_true rfl, Nat.le_of_ble_eq_true rfl⟩) ⟨pcW_blind, pcW_of hPc hDc C0.2.2.2⟩ rfl rfl hl.1 rfl (lv_room (Nat.le_of_ble_eq_true rfl)) dX6_laysLonger_10 ⟨Nat.zero_le _, Nat.zero_le _⟩) (fun H locs hP hD hS => ?_)
  refine nm_w h (fun uu => (fl [wModel K aM uu ML])) hP hD (fun M2 h hP hD => ?_)
  refine r_iconst C0 (nI 0) dX6_laysLonger_13 (by decide) ?_
  refine r_istore_n h C0 (fun v3 => [(2, .int v3), (0, .ref (aM 0)), (1, .int x1)]) dX6_laysLonger_14 hl (by decide) (fun _ => rfl) (fun v3 ls h hl => ?_)
  exact wX6_laysLonger_15L C0 hA M2 ML x1 v3 _ _ _ h hP hD hS (lv_sub hl [1, 2, 0] rfl)
set_option maxHeartbeats 1000000 in
set_option maxRecDepth 10000 in
theorem ctX6_laysLonger (l : Launch) (D : va_G) (K : Nat → ClassId) (N : Nat) (aM : Nat → Nat) (M : Rc) (ML : RcL) (p1 : Int32) (sz : Nat) (z : Int32 × (Rc × RcL)) (hz : fX6_laysLonger N M ML p1 = some z) : Met l yX6_laysLonger wsX6_laysLonger rmX6_laysLonger (pcW D K [.ref (aM 0), .int p1] (fl [wModel K aM M ML]) sz) (qcI D z (fun (u : Rc × RcL) => (fl [wModel K aM u.1 u.2])) (va_A (fl [wModel K aM M ML]) sz)) 0 0 (va_A (fl [wModel K aM M ML]) sz) := by
  refine Met.ofW (cc := cX6_laysLonger) (maxL := 3) (ret := (some .boolean)) (by decide) rfl ?_
  intro p e s m args below meth c s₁ B hml hv
  obtain ⟨rfl, hsz, hP, hK, hD0⟩ := hv
  subst hsz
  have C0 : cx p s m _ meth c cX6_laysLonger 3 RX6 wsX6_laysLonger (some .boolean) D K := ⟨⟨B.exec, B.bytes, hml, findClass_of_methodNamed B.named, atoms_spec (ws := wsX6_laysLonger) B.pre⟩, B.returns, B.notSynchronized, hK⟩
  have hD := hD0.self (sz := s.heap.size)
  generalize hAe : va_A (fl [wModel K aM M ML]) s.heap.size = A at hD ⊢
  have hA : ∀ q : Nat, s.heap.size ≤ q → A q := fun q h => by rw [← hAe]; exact Or.inr h
  have hl := lv_entry ([.ref (aM 0), .int p1]) (n := 3) (Nat.le_of_ble_eq_true rfl)
  rw [lg_entry_eq]
  generalize (lg_sl ([.ref (aM 0), .int p1]) ++ List.replicate (3 - (lg_sl ([.ref (aM 0), .int p1])).length) Slot.unset).toArray = ls at hl ⊢
  have hl : lv_has ls 3 [(0, .ref (aM 0)), (1, .int p1)] := hl
  exact wX6_laysLonger_0 C0 hA M ML p1 hz s.heap [] hP hD va_S.rf ls (lv_sub hl [0, 1] rfl)
end SX6_laysLonger

section SX6_longer
/-! CardLoopsModel.longer(II)I -/
abbrev wsX6_longer : List Cond := Cond.code yX6_longer cX6_longer 3 (some .int) :: wsL_law0
abbrev rmX6_longer : Room := { frames := 1603, cells := 0, slots := 0, locals := 33666 }
variable {p : Program} {l : Launch} {e : Env} {s : State} {m : MethodId} {args : Array Value} {below : List Frame} {meth : Method} {c : Code} {D : va_G} {K : Nat → ClassId} {A : Nat → Prop} {N : Nat} {aM : Nat → Nat} {z : Int32 × (Rc × RcL)}
set_option maxHeartbeats 1000000 in
set_option maxRecDepth 10000 in
theorem wX6_longer_38 (C0 : cx p s m args meth c cX6_longer 3 RX6 wsX6_longer (some .int) D K) (hA : ∀ q, s.heap.size ≤ q → A q) (M : Rc) (ML : RcL) (h : fX6_longer_38 N M ML = some z) (H : Heap) (locs : List Loc) (hP : va_P D vwCl (fl [wModel K aM M ML]) H) (hD : va_D A (fl [wModel K aM M ML])) (hS : va_S A s.heap H locs) (ls : Array Slot) (hl : lv_has ls 3 []) : W p l e rmX6_longer s m args below meth c H locs 0 0 (MQ below (qcI D z (fun (u : Rc × RcL) => (fl [wModel K aM u.1 u.2])) A) args s 0 0 A) (F0 m 38 ls []) := by
  unfold fX6_longer_38 at h
  refine r_iconst C0 (-1 : Int32) dX6_longer_38 (by decide) ?_
  exact r_iret h C0 (fun (u : Rc × RcL) => (fl [wModel K aM u.1 u.2])) hP hD hS dX6_longer_39
set_option maxHeartbeats 1000000 in
set_option maxRecDepth 10000 in
theorem wX6_longer_0 (C0 : cx p s m args meth c cX6_longer 3 RX6 wsX6_longer (some .int) D K) (hA : ∀ q, s.heap.size ≤ q → A q) (M : Rc) (ML : RcL) (x1 : Int32) (x2 : Int32) (h : fX6_longer N M ML x1 x2 = some z) (H : Heap) (locs : List Loc) (hP : va_P D vwCl (fl [wModel K aM M ML]) H) (hD : va_D A (fl [wModel K aM M ML])) (hS : va_S A s.heap H locs) (ls : Array Slot) (hl : lv_has ls 3 [(0, .ref (aM 0)), (1, .int x1), (2, .int x2)]) : W p l e rmX6_longer s m args below meth c H locs 0 0 (MQ below (qcI D z (fun (u : Rc × RcL) => (fl [wModel K aM u.1 u.2])) A) args s 0 0 A) (F0 m 0 ls []) := by
  unfold fX6_longer at h
  refine r_aload_n C0 dX6_longer_0 hl 0 rfl ?_
  refine r_iconst C0 (nI 0) dX6_longer_1 (by decide) ?_
  refine r_put (ty := .int) h C0 6 inx6 tyX6 tyX6_ok nmX6 hP hD hS 0 (fun uu => (fl [wModel K aM uu ML])) rfl rfl 0 (by decide) (mc wd6_10) rfl (by decide +kernel) rfl rfl (by simp) rfl dX6_longer_2 (fun M1 H locs h hP hD hS => ?_)
  refine r_aload_n C0 dX6_longer_5 hl 0 rfl ?_
  obtain ⟨z2, hz2, h⟩ := bnd_some h
  have hPc := vaP_sel (Wc := [wModel K aM M1 ML]) hP [0] rfl
  refine r_cI (va_runV (As := []) (rest := []) C0.1 (ctX6_isThere l D K aM M1 ML z2 hz2) (cwV 0 C0.1.2.2.2.2 (gdV wd25_2 wd25_3 wd25_4 wd1_5 wd25_5) rfl rfl rfl (by decide +kernel) ⟨Nat.le_of_ble_eq_true rfl, Nat.le_of_ble_eq_true rfl⟩) ⟨pcR_blind, va_recv C0.2.2.2.1 hPc (ci := 6) (q0 := 0) rfl rfl, pcR_of hPc C0.2.2.2⟩ rfl rfl hl.1 rfl (lv_room (Nat.le_of_ble_eq_true rfl)) dX6_longer_6 ⟨Nat.zero_le _, Nat.zero_le _⟩).run ?_
  refine r_if_eq h C0 38 dX6_longer_9 (by decide) (fun h => ?_) (fun h => ?_)
  · exact wX6_longer_38 C0 hA M1 ML h _ _ hP hD hS _ (lv_sub hl [] rfl)
  · refine r_iload_n C0 dX6_longer_12 hl 1 rfl ?_
    refine r_iconst C0 (nI 1) dX6_longer_13 (by decide) ?_
    refine r_iconst C0 (nI 5) dX6_longer_14 (by decide) ?_
    obtain ⟨z3, hz3, h⟩ := bnd_some h
    have hPc : va_P D vwCl [] H := va_P_nil
    refine r_cI (va_runS (As := [.int x1, .int (nI 1), .int (nI 5)]) (rest := []) C0.1 (ctX6_isIn l D K x1 (nI 1) (nI 5) z3 hz3) (va_cwS 3 C0.1.2.2.2.2 (gdS wd17_16 wd17_17 wd1_5 wd17_18) rfl rfl rfl (by decide +kernel) ⟨Nat.le_of_ble_eq_true rfl, Nat.le_of_ble_eq_true rfl⟩) ⟨pcR_blind, pcR_of hPc C0.2.2.2⟩ rfl rfl hl.1 rfl (lv_room (Nat.le_of_ble_eq_true rfl)) dX6_longer_15 ⟨Nat.zero_le _, Nat.zero_le _⟩).run ?_
    refine r_if_eq h C0 38 dX6_longer_18 (by decide) (fun h => ?_) (fun h => ?_)
    · exact wX6_longer_38 C0 hA M1 ML h _ _ hP hD hS _ (lv_sub hl [] rfl)
    · refine r_iload_n C0 dX6_longer_21 hl 2 rfl ?_
      refine r_iconst C0 (nI 0) dX6_longer_22 (by decide) ?_
      refine r_iconst C0 (nI 1) dX6_longer_23 (by decide) ?_
      obtain ⟨z4, hz4, h⟩ := bnd_some h
      have hPc : va_P D vwCl [] H := va_P_nil
      refine r_cI (va_runS (As := [.int x2, .int (nI 0), .int (nI 1)]) (rest := []) C0.1 (ctX6_isIn l D K x2 (nI 0) (nI 1) z4 hz4) (va_cwS 3 C0.1.2.2.2.2 (gdS wd17_16 wd17_17 wd1_5 wd17_18) rfl rfl rfl (by decide +kernel) ⟨Nat.le_of_ble_eq_true rfl, Nat.le_of_ble_eq_true rfl⟩) ⟨pcR_blind, pcR_of hPc C0.2.2.2⟩ rfl rfl hl.1 rfl (lv_room (Nat.le_of_ble_eq_true rfl)) dX6_longer_24 ⟨Nat.zero_le _, Nat.zero_le _⟩).run ?_
      refine r_if_eq h C0 38 dX6_longer_27 (by decide) (fun h => ?_) (fun h => ?_)
      · exact wX6_longer_38 C0 hA M1 ML h _ _ hP hD hS _ (lv_sub hl [] rfl)
      · refine r_aload_n C0 dX6_longer_30 hl 0 rfl ?_
        refine r_iload_n C0 dX6_longer_31 hl 1 rfl ?_
        obtain ⟨z5, hz5, h⟩ := bnd_some h
        refine r_callIC (Wc := [wModel K aM M1 ML]) (wf := fun (u : Rc × RcL) => [wModel K aM u.1 u.2]) (Wn := [wModel K aM z5.2.1 z5.2.2]) hP hD hS hA [0] [] [0] 1 rfl rfl (by decide) rfl rfl (by decide) (fun hPc hDc hFc => va_runV (As := [.int x1]) (rest := []) C0.1 (ctX6_laysLonger l D K N aM M1 ML x1 H.size z5 hz5) (cwV 1 C0.1.2.2.2.2 (gdV wd32_2 wd32_3 wd32_4 wd1_5 wd32_5) rfl rfl rfl (by decide +kernel) ⟨Nat.le_of_ble_eq_true rfl, Nat.le_of_ble_eq_true rfl⟩) ⟨pcW_blind, va_recv C0.2.2.2.1 hPc (ci := 6) (q0 := 0) rfl rfl, pcW_of hPc hDc C0.2.2.2⟩ rfl rfl hl.1 rfl (lv_room (Nat.le_of_ble_eq_true rfl)) dX6_longer_32 ⟨Nat.zero_le _, Nat.zero_le _⟩) (fun H locs hP hD hS => ?_)
        refine r_if_ne h C0 40 dX6_longer_35 (by decide) (fun h => ?_) (fun h => ?_)
        · refine r_iload_n C0 dX6_longer_40 hl 2 rfl ?_
          refine r_if_ne h C0 51 dX6_longer_41 (by decide) (fun h => ?_) (fun h => ?_)
          · refine r_aload_n C0 dX6_longer_51 hl 0 rfl ?_
            refine r_get C0 6 inx6 hP 0 rfl rfl 20 (by decide) (mc wd28_14) (.int (z5.2.1 20 0)) rfl dX6_longer_52 ?_
            exact r_iret h C0 (fun (u : Rc × RcL) => (fl [wModel K aM u.1 u.2])) hP hD hS dX6_longer_55
          · refine r_aload_n C0 dX6_longer_44 hl 0 rfl ?_
            refine r_get C0 6 inx6 hP 0 rfl rfl 19 (by decide) (mc wd28_13) (.int (z5.2.1 19 0)) rfl dX6_longer_45 ?_
            refine r_goto C0 55 dX6_longer_48 (by decide) ?_
            exact r_iret h C0 (fun (u : Rc × RcL) => (fl [wModel K aM u.1 u.2])) hP hD hS dX6_longer_55
        · exact wX6_longer_38 C0 hA z5.2.1 z5.2.2 h _ _ hP hD hS _ (lv_sub hl [] rfl)
set_option maxHeartbeats 1000000 in
set_option maxRecDepth 10000 in
theorem ctX6_longer (l : Launch) (D : va_G) (K : Nat → ClassId) (N : Nat) (aM : Nat → Nat) (M : Rc) (ML : RcL) (p1 : Int32) (p2 : Int32) (sz : Nat) (z : Int32 × (Rc × RcL)) (hz : fX6_longer N M ML p1 p2 = some z) : Met l yX6_longer wsX6_longer rmX6_longer (pcW D K [.ref (aM 0), .int p1, .int p2] (fl [wModel K aM M ML]) sz) (qcI D z (fun (u : Rc × RcL) => (fl [wModel K aM u.1 u.2])) (va_A (fl [wModel K aM M ML]) sz)) 0 0 (va_A (fl [wModel K aM M ML]) sz) := by
  refine Met.ofW (cc := cX6_longer) (maxL := 3) (ret := (some .int)) (by decide) rfl ?_
  intro p e s m args below meth c s₁ B hml hv
  obtain ⟨rfl, hsz, hP, hK, hD0⟩ := hv
  subst hsz
  have C0 : cx p s m _ meth c cX6_longer 3 RX6 wsX6_longer (some .int) D K := ⟨⟨B.exec, B.bytes, hml, findClass_of_methodNamed B.named, atoms_spec (ws := wsX6_longer) B.pre⟩, B.returns, B.notSynchronized, hK⟩
  have hD := hD0.self (sz := s.heap.size)
  generalize hAe : va_A (fl [wModel K aM M ML]) s.heap.size = A at hD ⊢
  have hA : ∀ q : Nat, s.heap.size ≤ q → A q := fun q h => by rw [← hAe]; exact Or.inr h
  have hl := lv_entry ([.ref (aM 0), .int p1, .int p2]) (n := 3) (Nat.le_of_ble_eq_true rfl)
  rw [lg_entry_eq]
  generalize (lg_sl ([.ref (aM 0), .int p1, .int p2]) ++ List.replicate (3 - (lg_sl ([.ref (aM 0), .int p1, .int p2])).length) Slot.unset).toArray = ls at hl ⊢
  have hl : lv_has ls 3 [(0, .ref (aM 0)), (1, .int p1), (2, .int p2)] := hl
  exact wX6_longer_0 C0 hA M ML p1 p2 hz s.heap [] hP hD va_S.rf ls (lv_sub hl [0, 1, 2] rfl)
end SX6_longer

section SX6_longest
/-! CardLoopsModel.longest()I -/
abbrev wsX6_longest : List Cond := Cond.code yX6_longest cX6_longest 5 (some .int) :: wsL_law0
abbrev rmX6_longest : Room := { frames := 1603, cells := 0, slots := 0, locals := 33666 }
variable {p : Program} {l : Launch} {e : Env} {s : State} {m : MethodId} {args : Array Value} {below : List Frame} {meth : Method} {c : Code} {D : va_G} {K : Nat → ClassId} {A : Nat → Prop} {N : Nat} {aM : Nat → Nat} {z : Int32 × (Rc × RcL)}
def IX6_longest_23 (p : Program) (l : Launch) (e : Env) (s : State) (m : MethodId) (args : Array Value) (below : List Frame) (meth : Method) (c : Code) (D : va_G) (K : Nat → ClassId) (aM : Nat → Nat) (A : Nat → Prop) (z : Int32 × (Rc × RcL)) (k : Rc → RcL → Int32 → Int32 → Int32 → Int32 → Option (Int32 × (Rc × RcL))) : Prop := ∀ (M : Rc) (ML : RcL) (x1 : Int32) (x2 : Int32) (x3 : Int32) (x4 : Int32) (H : Heap) (locs : List Loc) (ls : Array Slot), k M ML x1 x2 x3 x4 = some z → va_P D vwCl (fl [wModel K aM M ML]) H → va_D A (fl [wModel K aM M ML]) → va_S A s.heap H locs → lv_has ls 5 [(0, .ref (aM 0)), (1, .int x1), (2, .int x2), (3, .int x3), (4, .int x4)] → W p l e rmX6_longest s m args below meth c H locs 0 0 (MQ below (qcI D z (fun (u : Rc × RcL) => (fl [wModel K aM u.1 u.2])) A) args s 0 0 A) (F0 m 23 ls [])
set_option maxHeartbeats 1000000 in
set_option maxRecDepth 10000 in
theorem wX6_longest_74 (C0 : cx p s m args meth c cX6_longest 5 RX6 wsX6_longest (some .int) D K) (hA : ∀ q, s.heap.size ≤ q → A q) {k23 : Rc → RcL → Int32 → Int32 → Int32 → Int32 → Option (Int32 × (Rc × RcL))} (hk23 : IX6_longest_23 p l e s m args below meth c D K aM A z k23) (M : Rc) (ML : RcL) (x1 : Int32) (x2 : Int32) (x3 : Int32) (x4 : Int32) (h : fX6_longest_74 N k23 M ML x1 x2 x3 x4 = some z) (H : Heap) (locs : List Loc) (hP : va_P D vwCl (fl [wModel K aM M ML]) H) (hD : va_D A (fl [wModel K aM M ML])) (hS : va_S A s.heap H locs) (ls : Array Slot) (hl : lv_has ls 5 [(0, .ref (aM 0)), (1, .int x1), (2, .int x2), (3, .int x3), (4, .int x4)]) : W p l e rmX6_longest s m args below meth c H locs 0 0 (MQ below (qcI D z (fun (u : Rc × RcL) => (fl [wModel K aM u.1 u.2])) A) args s 0 0 A) (F0 m 74 ls []) := by
  unfold fX6_longest_74 at h
  refine r_iinc h C0 4 (fun v1 => [(4, .int v1), (0, .ref (aM 0)), (1, .int x1), (2, .int x2), (3, .int x3)]) dX6_longest_74 hl rfl rfl (by decide) (fun _ => rfl) (fun v1 ls h hl => ?_)
  refine r_goto C0 23 dX6_longest_77 (by decide) ?_
  exact hk23 M ML x1 x2 x3 v1 _ _ _ h hP hD hS (lv_sub hl [1, 2, 3, 4, 0] rfl)
set_option maxHeartbeats 1000000 in
set_option maxRecDepth 10000 in
theorem wX6_longest_23 (C0 : cx p s m args meth c cX6_longest 5 RX6 wsX6_longest (some .int) D K) (hA : ∀ q, s.heap.size ≤ q → A q) {k23 : Rc → RcL → Int32 → Int32 → Int32 → Int32 → Option (Int32 × (Rc × RcL))} (hk23 : IX6_longest_23 p l e s m args below meth c D K aM A z k23) (M : Rc) (ML : RcL) (x1 : Int32) (x2 : Int32) (x3 : Int32) (x4 : Int32) (h : fX6_longest_23b N k23 M ML x1 x2 x3 x4 = some z) (H : Heap) (locs : List Loc) (hP : va_P D vwCl (fl [wModel K aM M ML]) H) (hD : va_D A (fl [wModel K aM M ML])) (hS : va_S A s.heap H locs) (ls : Array Slot) (hl : lv_has ls 5 [(0, .ref (aM 0)), (1, .int x1), (2, .int x2), (3, .int x3), (4, .int x4)]) : W p l e rmX6_longest s m args below meth c H locs 0 0 (MQ below (qcI D z (fun (u : Rc × RcL) => (fl [wModel K aM u.1 u.2])) A) args s 0 0 A) (F0 m 23 ls []) := by
  unfold fX6_longest_23b at h
  refine r_iload C0 dX6_longest_23 hl 4 rfl ?_
  refine r_iconst C0 (nI 5) dX6_longest_25 (by decide) ?_
  refine r_icmp_gt h C0 80 dX6_longest_26 (by decide) (fun h => ?_) (fun h => ?_)
  · refine r_iload_n C0 dX6_longest_80 hl 1 rfl ?_
    exact r_iret h C0 (fun (u : Rc × RcL) => (fl [wModel K aM u.1 u.2])) hP hD hS dX6_longest_81
  · refine r_aload_n C0 dX6_longest_29 hl 0 rfl ?_
    refine r_iload C0 dX6_longest_30 hl 4 rfl ?_
    obtain ⟨z1, hz1, h⟩ := bnd_some h
    refine r_callIC (Wc := [wModel K aM M ML]) (wf := fun (u : Rc × RcL) => [wModel K aM u.1 u.2]) (Wn := [wModel K aM z1.2.1 z1.2.2]) hP hD hS hA [0] [] [0] 1 rfl rfl (by decide) rfl rfl (by decide) (fun hPc hDc hFc => va_runV (As := [.int x4]) (rest := []) C0.1 (ctX6_laysLonger l D K N aM M ML x4 H.size z1 hz1) (cwV 1 C0.1.2.2.2.2 (gdV wd32_2 wd32_3 wd32_4 wd1_5 wd32_5) rfl rfl rfl (by decide +kernel) ⟨Nat.le_of_ble_eq_true rfl, Nat.le_of_ble_eq_true rfl⟩) ⟨pcW_blind, va_recv C0.2.2.2.1 hPc (ci := 6) (q0 := 0) rfl rfl, pcW_of hPc hDc C0.2.2.2⟩ rfl rfl hl.1 rfl (lv_room (Nat.le_of_ble_eq_true rfl)) dX6_longest_32 ⟨Nat.zero_le _, Nat.zero_le _⟩) (fun H locs hP hD hS => ?_)
    refine r_if_eq h C0 74 dX6_longest_35 (by decide) (fun h => ?_) (fun h => ?_)
    · exact wX6_longest_74 C0 hA hk23 z1.2.1 z1.2.2 x1 x2 x3 x4 h _ _ hP hD hS _ (lv_sub hl [0, 1, 2, 3, 4] rfl)
    · refine r_aload_n C0 dX6_longest_38 hl 0 rfl ?_
      refine r_get C0 6 inx6 hP 0 rfl rfl 19 (by decide) (mc wd28_13) (.int (z1.2.1 19 0)) rfl dX6_longest_39 ?_
      refine r_i2l C0 dX6_longest_42 ?_
      refine r_iload_n C0 dX6_longest_43 hl 3 rfl ?_
      refine r_i2l C0 dX6_longest_44 ?_
      refine r_lmul C0 dX6_longest_45 ?_
      refine r_iload_n C0 dX6_longest_46 hl 2 rfl ?_
      refine r_i2l C0 dX6_longest_47 ?_
      refine r_aload_n C0 dX6_longest_48 hl 0 rfl ?_
      refine r_get C0 6 inx6 hP 0 rfl rfl 20 (by decide) (mc wd28_14) (.int (z1.2.1 20 0)) rfl dX6_longest_49 ?_
      refine r_i2l C0 dX6_longest_52 ?_
      refine r_lmul C0 dX6_longest_53 ?_
      refine r_lcmp C0 dX6_longest_54 ?_
      refine r_if_gt h C0 61 dX6_longest_55 (by decide) (fun h => ?_) (fun h => ?_)
      · refine r_iload C0 dX6_longest_61 hl 4 rfl ?_
        refine r_istore_n h C0 (fun v2 => [(1, .int v2), (0, .ref (aM 0)), (2, .int x2), (3, .int x3), (4, .int x4)]) dX6_longest_63 hl (by decide) (fun _ => rfl) (fun v2 ls h hl => ?_)
        refine r_aload_n C0 dX6_longest_64 hl 1 rfl ?_
        refine r_get C0 6 inx6 hP 0 rfl rfl 19 (by decide) (mc wd28_13) (.int (z1.2.1 19 0)) rfl dX6_longest_65 ?_
        refine r_istore_n h C0 (fun v3 => [(2, .int v3), (1, .int v2), (0, .ref (aM 0)), (3, .int x3), (4, .int x4)]) dX6_longest_68 hl (by decide) (fun _ => rfl) (fun v3 ls h hl => ?_)
        refine r_aload_n C0 dX6_longest_69 hl 2 rfl ?_
        refine r_get C0 6 inx6 hP 0 rfl rfl 20 (by decide) (mc wd28_14) (.int (z1.2.1 20 0)) rfl dX6_longest_70 ?_
        refine r_istore_n h C0 (fun v4 => [(3, .int v4), (2, .int v3), (1, .int v2), (0, .ref (aM 0)), (4, .int x4)]) dX6_longest_73 hl (by decide) (fun _ => rfl) (fun v4 ls h hl => ?_)
        exact wX6_longest_74 C0 hA hk23 z1.2.1 z1.2.2 v2 v3 v4 x4 h _ _ hP hD hS _ (lv_sub hl [3, 2, 1, 0, 4] rfl)
      · refine r_goto C0 74 dX6_longest_58 (by decide) ?_
        exact wX6_longest_74 C0 hA hk23 z1.2.1 z1.2.2 x1 x2 x3 x4 h _ _ hP hD hS _ (lv_sub hl [0, 1, 2, 3, 4] rfl)
theorem wX6_longest_23L (C0 : cx p s m args meth c cX6_longest 5 RX6 wsX6_longest (some .int) D K) (hA : ∀ q, s.heap.size ≤ q → A q) : IX6_longest_23 p l e s m args below meth c D K aM A z (fX6_longest_23 N) := by
  refine itn_ind (IX6_longest_23 p l e s m args below meth c D K aM A z) ?_ ?_ N
  · intro _ _ _ _ _ _ _ _ _ h; cases h
  · intro k23 hk23 M ML x1 x2 x3 x4 H locs ls h hP hD hS hl
    exact wX6_longest_23 C0 hA hk23 M ML x1 x2 x3 x4 h H locs hP hD hS ls hl
set_option maxHeartbeats 1000000 in
set_option maxRecDepth 10000 in
theorem wX6_longest_0 (C0 : cx p s m args meth c cX6_longest 5 RX6 wsX6_longest (some .int) D K) (hA : ∀ q, s.heap.size ≤ q → A q) (M : Rc) (ML : RcL) (h : fX6_longest N M ML = some z) (H : Heap) (locs : List Loc) (hP : va_P D vwCl (fl [wModel K aM M ML]) H) (hD : va_D A (fl [wModel K aM M ML])) (hS : va_S A s.heap H locs) (ls : Array Slot) (hl : lv_has ls 5 [(0, .ref (aM 0))]) : W p l e rmX6_longest s m args below meth c H locs 0 0 (MQ below (qcI D z (fun (u : Rc × RcL) => (fl [wModel K aM u.1 u.2])) A) args s 0 0 A) (F0 m 0 ls []) := by
  unfold fX6_longest at h
  refine r_aload_n C0 dX6_longest_0 hl 0 rfl ?_
  refine r_iconst C0 (nI 0) dX6_longest_1 (by decide) ?_
  refine r_put (ty := .int) h C0 6 inx6 tyX6 tyX6_ok nmX6 hP hD hS 0 (fun uu => (fl [wModel K aM uu ML])) rfl rfl 0 (by decide) (mc wd6_10) rfl (by decide +kernel) rfl rfl (by simp) rfl dX6_longest_2 (fun M1 H locs h hP hD hS => ?_)
  refine r_aload_n C0 dX6_longest_5 hl 0 rfl ?_
  obtain ⟨z2, hz2, h⟩ := bnd_some h
  have hPc := vaP_sel (Wc := [wModel K aM M1 ML]) hP [0] rfl
  refine r_cI (va_runV (As := []) (rest := []) C0.1 (ctX6_isThere l D K aM M1 ML z2 hz2) (cwV 0 C0.1.2.2.2.2 (gdV wd25_2 wd25_3 wd25_4 wd1_5 wd25_5) rfl rfl rfl (by decide +kernel) ⟨Nat.le_of_ble_eq_true rfl, Nat.le_of_ble_eq_true rfl⟩) ⟨pcR_blind, va_recv C0.2.2.2.1 hPc (ci := 6) (q0 := 0) rfl rfl, pcR_of hPc C0.2.2.2⟩ rfl rfl hl.1 rfl (lv_room (Nat.le_of_ble_eq_true rfl)) dX6_longest_6 ⟨Nat.zero_le _, Nat.zero_le _⟩).run ?_
  refine r_if_ne h C0 14 dX6_longest_9 (by decide) (fun h => ?_) (fun h => ?_)
  · refine r_iconst C0 (-1 : Int32) dX6_longest_14 (by decide) ?_
    refine r_istore_n h C0 (fun v3 => [(1, .int v3), (0, .ref (aM 0))]) dX6_longest_15 hl (by decide) (fun _ => rfl) (fun v3 ls h hl => ?_)
    refine r_iconst C0 (nI 0) dX6_longest_16 (by decide) ?_
    refine r_istore_n h C0 (fun v4 => [(2, .int v4), (1, .int v3), (0, .ref (aM 0))]) dX6_longest_17 hl (by decide) (fun _ => rfl) (fun v4 ls h hl => ?_)
    refine r_iconst C0 (nI 1) dX6_longest_18 (by decide) ?_
    refine r_istore_n h C0 (fun v5 => [(3, .int v5), (2, .int v4), (1, .int v3), (0, .ref (aM 0))]) dX6_longest_19 hl (by decide) (fun _ => rfl) (fun v5 ls h hl => ?_)
    refine r_iconst C0 (nI 1) dX6_longest_20 (by decide) ?_
    refine r_istore h C0 (fun v6 => [(4, .int v6), (3, .int v5), (2, .int v4), (1, .int v3), (0, .ref (aM 0))]) dX6_longest_21 hl (by decide) (fun _ => rfl) (fun v6 ls h hl => ?_)
    exact wX6_longest_23L C0 hA M1 ML v3 v4 v5 v6 _ _ _ h hP hD hS (lv_sub hl [4, 3, 2, 1, 0] rfl)
  · refine r_iconst C0 (-1 : Int32) dX6_longest_12 (by decide) ?_
    exact r_iret h C0 (fun (u : Rc × RcL) => (fl [wModel K aM u.1 u.2])) hP hD hS dX6_longest_13
set_option maxHeartbeats 1000000 in
set_option maxRecDepth 10000 in
theorem ctX6_longest (l : Launch) (D : va_G) (K : Nat → ClassId) (N : Nat) (aM : Nat → Nat) (M : Rc) (ML : RcL) (sz : Nat) (z : Int32 × (Rc × RcL)) (hz : fX6_longest N M ML = some z) : Met l yX6_longest wsX6_longest rmX6_longest (pcW D K [.ref (aM 0)] (fl [wModel K aM M ML]) sz) (qcI D z (fun (u : Rc × RcL) => (fl [wModel K aM u.1 u.2])) (va_A (fl [wModel K aM M ML]) sz)) 0 0 (va_A (fl [wModel K aM M ML]) sz) := by
  refine Met.ofW (cc := cX6_longest) (maxL := 5) (ret := (some .int)) (by decide) rfl ?_
  intro p e s m args below meth c s₁ B hml hv
  obtain ⟨rfl, hsz, hP, hK, hD0⟩ := hv
  subst hsz
  have C0 : cx p s m _ meth c cX6_longest 5 RX6 wsX6_longest (some .int) D K := ⟨⟨B.exec, B.bytes, hml, findClass_of_methodNamed B.named, atoms_spec (ws := wsX6_longest) B.pre⟩, B.returns, B.notSynchronized, hK⟩
  have hD := hD0.self (sz := s.heap.size)
  generalize hAe : va_A (fl [wModel K aM M ML]) s.heap.size = A at hD ⊢
  have hA : ∀ q : Nat, s.heap.size ≤ q → A q := fun q h => by rw [← hAe]; exact Or.inr h
  have hl := lv_entry ([.ref (aM 0)]) (n := 5) (Nat.le_of_ble_eq_true rfl)
  rw [lg_entry_eq]
  generalize (lg_sl ([.ref (aM 0)]) ++ List.replicate (5 - (lg_sl ([.ref (aM 0)])).length) Slot.unset).toArray = ls at hl ⊢
  have hl : lv_has ls 5 [(0, .ref (aM 0))] := hl
  exact wX6_longest_0 C0 hA M ML hz s.heap [] hP hD va_S.rf ls (lv_sub hl [0] rfl)
end SX6_longest

section SX6_snap
/-! CardLoopsModel.snap()V -/
abbrev wsX6_snap : List Cond := Cond.code yX6_snap cX6_snap 2 none :: wsL_law0
abbrev rmX6_snap : Room := { frames := 1, cells := 0, slots := 0, locals := 24 }
variable {p : Program} {l : Launch} {e : Env} {s : State} {m : MethodId} {args : Array Value} {below : List Frame} {meth : Method} {c : Code} {D : va_G} {K : Nat → ClassId} {A : Nat → Prop} {N : Nat} {aM : Nat → Nat} {z : Rc}
def IX6_snap_11 (p : Program) (l : Launch) (e : Env) (s : State) (m : MethodId) (args : Array Value) (below : List Frame) (meth : Method) (c : Code) (D : va_G) (K : Nat → ClassId) (aM : Nat → Nat) (A : Nat → Prop) (z : Rc) (k : Rc → RcL → Int32 → Option (Rc)) : Prop := ∀ (M : Rc) (ML : RcL) (x1 : Int32) (H : Heap) (locs : List Loc) (ls : Array Slot), k M ML x1 = some z → va_P D vwCl (fl [wModel K aM M ML]) H → va_D A (fl [wModel K aM M ML]) → va_S A s.heap H locs → lv_has ls 2 [(0, .ref (aM 0)), (1, .int x1)] → W p l e rmX6_snap s m args below meth c H locs 0 0 (MQ below (qcV D z (fun (u : Rc) => (fl [wModel K aM u ML])) A) args s 0 0 A) (F0 m 11 ls [])
set_option maxHeartbeats 1000000 in
set_option maxRecDepth 10000 in
theorem wX6_snap_50 (C0 : cx p s m args meth c cX6_snap 2 RX6 wsX6_snap none D K) (hA : ∀ q, s.heap.size ≤ q → A q) (M : Rc) (ML : RcL) (h : fX6_snap_50 N M ML = some z) (H : Heap) (locs : List Loc) (hP : va_P D vwCl (fl [wModel K aM M ML]) H) (hD : va_D A (fl [wModel K aM M ML])) (hS : va_S A s.heap H locs) (ls : Array Slot) (hl : lv_has ls 2 [(0, .ref (aM 0))]) : W p l e rmX6_snap s m args below meth c H locs 0 0 (MQ below (qcV D z (fun (u : Rc) => (fl [wModel K aM u ML])) A) args s 0 0 A) (F0 m 50 ls []) := by
  unfold fX6_snap_50 at h
  refine r_aload_n C0 dX6_snap_50 hl 0 rfl ?_
  refine r_get C0 6 inx6 hP 0 rfl rfl 11 (by decide) (mc wd5_11) (.ref (aM 12)) rfl dX6_snap_51 ?_
  refine r_iconst C0 (nI 0) dX6_snap_54 (by decide) ?_
  refine r_aload_n C0 dX6_snap_55 hl 0 rfl ?_
  refine r_get C0 6 inx6 hP 0 rfl rfl 14 (by decide) (mc wd5_14) (.ref (aM 15)) rfl dX6_snap_56 ?_
  refine r_sipush C0 (nI 353) dX6_snap_59 (by decide) ?_
  refine r_aload_n C0 dX6_snap_62 hl 0 rfl ?_
  refine r_get C0 6 inx6 hP 0 rfl rfl 15 (by decide) (mc wd15_15) (.int (M 15 0)) rfl dX6_snap_63 ?_
  refine r_imul C0 dX6_snap_66 ?_
  obtain ⟨z1, hz1, h⟩ := bnd_some h
  refine r_callV (wc := (fl [wArr K (aM 12) 353 (M 11), wArr K (aM 15) 2824 (M 14)])) (wf := fun (u : (Nat → Int32)) => (fl [wArr K (aM 12) 353 (M 11), wArr K (aM 15) 2824 u])) (wn := (fl [wModel K aM (va_up M 14 z1) ML])) hP hD hS hA [2, 5] [0, 1, 3, 4, 6, 7, 8] [0, 1, 7, 2, 3, 8, 4, 5, 6] rfl (by decide) rfl (by decide) (by decide) rfl (by decide) (fun hPc hDc => va_runS (As := [.ref (aM 12), .int (nI 0), .ref (aM 15), .int ((nI 353) * (M 15 0))]) (rest := []) C0.1 (ctX6_copy l D K 353 2824 N (aM 12) (aM 15) (M 11) (M 14) (nI 0) ((nI 353) * (M 15 0)) H.size z1 hz1) (va_cwS 4 C0.1.2.2.2.2 (gdS wd20_0 wd20_1 wd1_5 wd20_2) rfl rfl rfl (by decide +kernel) ⟨Nat.le_of_ble_eq_true rfl, Nat.le_of_ble_eq_true rfl⟩) ⟨pcW_blind, pcW_of hPc hDc C0.2.2.2⟩ rfl rfl hl.1 rfl (lv_room (Nat.le_of_ble_eq_true rfl)) dX6_snap_67 ⟨Nat.zero_le _, Nat.zero_le _⟩) (fun H locs hP hD hS => ?_)
  refine nm_w h (fun uu => (fl [wModel K aM uu ML])) hP hD (fun M2 h hP hD => ?_)
  refine r_aload_n C0 dX6_snap_70 hl 0 rfl ?_
  refine r_dup C0 dX6_snap_71 rfl ?_
  refine r_get C0 6 inx6 hP 0 rfl rfl 15 (by decide) (mc wd15_15) (.int (M2 15 0)) rfl dX6_snap_72 ?_
  refine r_iconst C0 (nI 1) dX6_snap_75 (by decide) ?_
  refine r_iadd C0 dX6_snap_76 ?_
  refine r_put (ty := .int) h C0 6 inx6 tyX6 tyX6_ok nmX6 hP hD hS 0 (fun uu => (fl [wModel K aM uu ML])) rfl rfl 15 (by decide) (mc wd15_15) rfl (by decide +kernel) rfl rfl (by simp) rfl dX6_snap_77 (fun M3 H locs h hP hD hS => ?_)
  exact r_vret h C0 (fun (u : Rc) => (fl [wModel K aM u ML])) hP hD hS dX6_snap_80
set_option maxHeartbeats 1000000 in
set_option maxRecDepth 10000 in
theorem wX6_snap_11 (C0 : cx p s m args meth c cX6_snap 2 RX6 wsX6_snap none D K) (hA : ∀ q, s.heap.size ≤ q → A q) {k11 : Rc → RcL → Int32 → Option (Rc)} (hk11 : IX6_snap_11 p l e s m args below meth c D K aM A z k11) (M : Rc) (ML : RcL) (x1 : Int32) (h : fX6_snap_11b N k11 M ML x1 = some z) (H : Heap) (locs : List Loc) (hP : va_P D vwCl (fl [wModel K aM M ML]) H) (hD : va_D A (fl [wModel K aM M ML])) (hS : va_S A s.heap H locs) (ls : Array Slot) (hl : lv_has ls 2 [(0, .ref (aM 0)), (1, .int x1)]) : W p l e rmX6_snap s m args below meth c H locs 0 0 (MQ below (qcV D z (fun (u : Rc) => (fl [wModel K aM u ML])) A) args s 0 0 A) (F0 m 11 ls []) := by
  unfold fX6_snap_11b at h
  refine r_iload_n C0 dX6_snap_11 hl 1 rfl ?_
  refine r_sipush C0 (nI 2471) dX6_snap_12 (by decide) ?_
  refine r_icmp_ge h C0 40 dX6_snap_15 (by decide) (fun h => ?_) (fun h => ?_)
  · refine r_aload_n C0 dX6_snap_40 hl 0 rfl ?_
    refine r_dup C0 dX6_snap_41 rfl ?_
    refine r_get C0 6 inx6 hP 0 rfl rfl 15 (by decide) (mc wd15_15) (.int (M 15 0)) rfl dX6_snap_42 ?_
    refine r_iconst C0 (nI 1) dX6_snap_45 (by decide) ?_
    refine r_isub C0 dX6_snap_46 ?_
    refine r_put (ty := .int) h C0 6 inx6 tyX6 tyX6_ok nmX6 hP hD hS 0 (fun uu => (fl [wModel K aM uu ML])) rfl rfl 15 (by decide) (mc wd15_15) rfl (by decide +kernel) rfl rfl (by simp) rfl dX6_snap_47 (fun M1 H locs h hP hD hS => ?_)
    exact wX6_snap_50 C0 hA M1 ML h _ _ hP hD hS _ (lv_sub hl [0] rfl)
  · refine r_aload_n C0 dX6_snap_18 hl 0 rfl ?_
    refine r_get C0 6 inx6 hP 0 rfl rfl 14 (by decide) (mc wd5_14) (.ref (aM 15)) rfl dX6_snap_19 ?_
    refine r_iload_n C0 dX6_snap_22 hl 1 rfl ?_
    refine r_aload_n C0 dX6_snap_23 hl 0 rfl ?_
    refine r_get C0 6 inx6 hP 0 rfl rfl 14 (by decide) (mc wd5_14) (.ref (aM 15)) rfl dX6_snap_24 ?_
    refine r_iload_n C0 dX6_snap_27 hl 1 rfl ?_
    refine r_sipush C0 (nI 353) dX6_snap_28 (by decide) ?_
    refine r_iadd C0 dX6_snap_31 ?_
    refine r_iald h C0 hP 5 rfl dX6_snap_32 (fun h => ?_)
    refine r_iast h C0 hP hD hS 5 (fun uu => (fl [wModel K aM uu ML])) rfl rfl dX6_snap_33 (fun M2 H locs h hP hD hS => ?_)
    refine r_iinc h C0 1 (fun v3 => [(1, .int v3), (0, .ref (aM 0))]) dX6_snap_34 hl rfl rfl (by decide) (fun _ => rfl) (fun v3 ls h hl => ?_)
    refine r_goto C0 11 dX6_snap_37 (by decide) ?_
    exact hk11 M2 ML v3 _ _ _ h hP hD hS (lv_sub hl [1, 0] rfl)
theorem wX6_snap_11L (C0 : cx p s m args meth c cX6_snap 2 RX6 wsX6_snap none D K) (hA : ∀ q, s.heap.size ≤ q → A q) : IX6_snap_11 p l e s m args below meth c D K aM A z (fX6_snap_11 N) := by
  refine itn_ind (IX6_snap_11 p l e s m args below meth c D K aM A z) ?_ ?_ N
  · intro _ _ _ _ _ _ h; cases h
  · intro k11 hk11 M ML x1 H locs ls h hP hD hS hl
    exact wX6_snap_11 C0 hA hk11 M ML x1 h H locs hP hD hS ls hl
set_option maxHeartbeats 1000000 in
set_option maxRecDepth 10000 in
theorem wX6_snap_0 (C0 : cx p s m args meth c cX6_snap 2 RX6 wsX6_snap none D K) (hA : ∀ q, s.heap.size ≤ q → A q) (M : Rc) (ML : RcL) (h : fX6_snap N M ML = some z) (H : Heap) (locs : List Loc) (hP : va_P D vwCl (fl [wModel K aM M ML]) H) (hD : va_D A (fl [wModel K aM M ML])) (hS : va_S A s.heap H locs) (ls : Array Slot) (hl : lv_has ls 2 [(0, .ref (aM 0))]) : W p l e rmX6_snap s m args below meth c H locs 0 0 (MQ below (qcV D z (fun (u : Rc) => (fl [wModel K aM u ML])) A) args s 0 0 A) (F0 m 0 ls []) := by
  unfold fX6_snap at h
  refine r_aload_n C0 dX6_snap_0 hl 0 rfl ?_
  refine r_get C0 6 inx6 hP 0 rfl rfl 15 (by decide) (mc wd15_15) (.int (M 15 0)) rfl dX6_snap_1 ?_
  refine r_bipush C0 (nI 8) dX6_snap_4 (by decide) ?_
  refine r_icmp_ne h C0 50 dX6_snap_6 (by decide) (fun h => ?_) (fun h => ?_)
  · exact wX6_snap_50 C0 hA M ML h _ _ hP hD hS _ (lv_sub hl [0] rfl)
  · refine r_iconst C0 (nI 0) dX6_snap_9 (by decide) ?_
    refine r_istore_n h C0 (fun v1 => [(1, .int v1), (0, .ref (aM 0))]) dX6_snap_10 hl (by decide) (fun _ => rfl) (fun v1 ls h hl => ?_)
    exact wX6_snap_11L C0 hA M ML v1 _ _ _ h hP hD hS (lv_sub hl [1, 0] rfl)
set_option maxHeartbeats 1000000 in
set_option maxRecDepth 10000 in
theorem ctX6_snap (l : Launch) (D : va_G) (K : Nat → ClassId) (N : Nat) (aM : Nat → Nat) (M : Rc) (ML : RcL) (sz : Nat) (z : Rc) (hz : fX6_snap N M ML = some z) : Met l yX6_snap wsX6_snap rmX6_snap (pcW D K [.ref (aM 0)] (fl [wModel K aM M ML]) sz) (qcV D z (fun (u : Rc) => (fl [wModel K aM u ML])) (va_A (fl [wModel K aM M ML]) sz)) 0 0 (va_A (fl [wModel K aM M ML]) sz) := by
  refine Met.ofW (cc := cX6_snap) (maxL := 2) (ret := none) (by decide) rfl ?_
  intro p e s m args below meth c s₁ B hml hv
  obtain ⟨rfl, hsz, hP, hK, hD0⟩ := hv
  subst hsz
  have C0 : cx p s m _ meth c cX6_snap 2 RX6 wsX6_snap none D K := ⟨⟨B.exec, B.bytes, hml, findClass_of_methodNamed B.named, atoms_spec (ws := wsX6_snap) B.pre⟩, B.returns, B.notSynchronized, hK⟩
  have hD := hD0.self (sz := s.heap.size)
  generalize hAe : va_A (fl [wModel K aM M ML]) s.heap.size = A at hD ⊢
  have hA : ∀ q : Nat, s.heap.size ≤ q → A q := fun q h => by rw [← hAe]; exact Or.inr h
  have hl := lv_entry ([.ref (aM 0)]) (n := 2) (Nat.le_of_ble_eq_true rfl)
  rw [lg_entry_eq]
  generalize (lg_sl ([.ref (aM 0)]) ++ List.replicate (2 - (lg_sl ([.ref (aM 0)])).length) Slot.unset).toArray = ls at hl ⊢
  have hl : lv_has ls 2 [(0, .ref (aM 0))] := hl
  exact wX6_snap_0 C0 hA M ML hz s.heap [] hP hD va_S.rf ls (lv_sub hl [0] rfl)
end SX6_snap

section SX6_pass
/-! CardLoopsModel.pass(I)I -/
abbrev wsX6_pass : List Cond := Cond.code yX6_pass cX6_pass 4 (some .int) :: wsL_law0
abbrev rmX6_pass : Room := { frames := 5, cells := 0, slots := 0, locals := 112 }
variable {p : Program} {l : Launch} {e : Env} {s : State} {m : MethodId} {args : Array Value} {below : List Frame} {meth : Method} {c : Code} {D : va_G} {K : Nat → ClassId} {A : Nat → Prop} {N : Nat} {aM : Nat → Nat} {z : Int32 × (Rc)}
def IX6_pass_55 (p : Program) (l : Launch) (e : Env) (s : State) (m : MethodId) (args : Array Value) (below : List Frame) (meth : Method) (c : Code) (D : va_G) (K : Nat → ClassId) (aM : Nat → Nat) (A : Nat → Prop) (z : Int32 × (Rc)) (k : Rc → RcL → Int32 → Int32 → Option (Int32 × (Rc))) : Prop := ∀ (M : Rc) (ML : RcL) (x2 : Int32) (x3 : Int32) (H : Heap) (locs : List Loc) (ls : Array Slot), k M ML x2 x3 = some z → va_P D vwCl (fl [wModel K aM M ML]) H → va_D A (fl [wModel K aM M ML]) → va_S A s.heap H locs → lv_has ls 4 [(0, .ref (aM 0)), (2, .int x2), (3, .int x3)] → W p l e rmX6_pass s m args below meth c H locs 0 0 (MQ below (qcI D z (fun (u : Rc) => (fl [wModel K aM u ML])) A) args s 0 0 A) (F0 m 55 ls [])
set_option maxHeartbeats 1000000 in
set_option maxRecDepth 10000 in
theorem wX6_pass_55 (C0 : cx p s m args meth c cX6_pass 4 RX6 wsX6_pass (some .int) D K) (hA : ∀ q, s.heap.size ≤ q → A q) {k55 : Rc → RcL → Int32 → Int32 → Option (Int32 × (Rc))} (hk55 : IX6_pass_55 p l e s m args below meth c D K aM A z k55) (M : Rc) (ML : RcL) (x2 : Int32) (x3 : Int32) (h : fX6_pass_55b N k55 M ML x2 x3 = some z) (H : Heap) (locs : List Loc) (hP : va_P D vwCl (fl [wModel K aM M ML]) H) (hD : va_D A (fl [wModel K aM M ML])) (hS : va_S A s.heap H locs) (ls : Array Slot) (hl : lv_has ls 4 [(0, .ref (aM 0)), (2, .int x2), (3, .int x3)]) : W p l e rmX6_pass s m args below meth c H locs 0 0 (MQ below (qcI D z (fun (u : Rc) => (fl [wModel K aM u ML])) A) args s 0 0 A) (F0 m 55 ls []) := by
  unfold fX6_pass_55b at h
  refine r_aload_n C0 dX6_pass_55 hl 0 rfl ?_
  refine r_get C0 6 inx6 hP 0 rfl rfl 11 (by decide) (mc wd5_11) (.ref (aM 12)) rfl dX6_pass_56 ?_
  obtain ⟨z1, hz1, h⟩ := bnd_some h
  have hPc := hP.sub (ws' := (fl [wArr K (aM 12) 353 (M 11)])) [2] rfl
  refine r_cI (va_runS (As := [.ref (aM 12)]) (rest := []) C0.1 (ctX6_nextTime l D K N (aM 12) (M 11) z1 hz1) (va_cwS 1 C0.1.2.2.2.2 (gdS wd26_7 wd26_8 wd1_5 wd26_9) rfl rfl rfl (by decide +kernel) ⟨Nat.le_of_ble_eq_true rfl, Nat.le_of_ble_eq_true rfl⟩) ⟨pcR_blind, pcR_of hPc C0.2.2.2⟩ rfl rfl hl.1 rfl (lv_room (Nat.le_of_ble_eq_true rfl)) dX6_pass_59 ⟨Nat.zero_le _, Nat.zero_le _⟩).run ?_
  refine r_iload_n C0 dX6_pass_62 hl 1 rfl ?_
  refine r_icmp_gt h C0 79 dX6_pass_63 (by decide) (fun h => ?_) (fun h => ?_)
  · refine r_aload_n C0 dX6_pass_79 hl 0 rfl ?_
    refine r_get C0 6 inx6 hP 0 rfl rfl 11 (by decide) (mc wd5_11) (.ref (aM 12)) rfl dX6_pass_80 ?_
    refine r_iload_n C0 dX6_pass_83 hl 1 rfl ?_
    refine r_aload_n C0 dX6_pass_84 hl 0 rfl ?_
    refine r_get C0 6 inx6 hP 0 rfl rfl 11 (by decide) (mc wd5_11) (.ref (aM 12)) rfl dX6_pass_85 ?_
    refine r_bipush C0 (nI 48) dX6_pass_88 (by decide) ?_
    refine r_ialdC C0 hP 2 rfl 48 (by decide) dX6_pass_90 ?_
    refine r_isub C0 dX6_pass_91 ?_
    obtain ⟨z2, hz2, h⟩ := bnd_some h
    refine r_callV (wc := (fl [wArr K (aM 12) 353 (M 11)])) (wf := fun (u : (Nat → Int32)) => (fl [wArr K (aM 12) 353 u])) (wn := (fl [wModel K aM (va_up M 11 z2) ML])) hP hD hS hA [2] [0, 1, 3, 4, 5, 6, 7, 8] [0, 1, 8, 2, 3, 4, 5, 6, 7] rfl (by decide) rfl (by decide) (by decide) rfl (by decide) (fun hPc hDc => va_runS (As := [.ref (aM 12), .int (x2 - (M 11 48))]) (rest := []) C0.1 (ctX6_waits l D K N (aM 12) (M 11) (x2 - (M 11 48)) H.size z2 hz2) (va_cwS 2 C0.1.2.2.2.2 (gdS wd26_10 wd26_11 wd1_5 wd26_12) rfl rfl rfl (by decide +kernel) ⟨Nat.le_of_ble_eq_true rfl, Nat.le_of_ble_eq_true rfl⟩) ⟨pcW_blind, pcW_of hPc hDc C0.2.2.2⟩ rfl rfl hl.1 rfl (lv_room (Nat.le_of_ble_eq_true rfl)) dX6_pass_92 ⟨Nat.zero_le _, Nat.zero_le _⟩) (fun H locs hP hD hS => ?_)
    refine nm_w h (fun uu => (fl [wModel K aM uu ML])) hP hD (fun M3 h hP hD => ?_)
    refine r_iload_n C0 dX6_pass_95 hl 2 rfl ?_
    exact r_iret h C0 (fun (u : Rc) => (fl [wModel K aM u ML])) hP hD hS dX6_pass_96
  · refine r_iload_n C0 dX6_pass_66 hl 2 rfl ?_
    refine r_aload_n C0 dX6_pass_67 hl 0 rfl ?_
    refine r_get C0 6 inx6 hP 0 rfl rfl 11 (by decide) (mc wd5_11) (.ref (aM 12)) rfl dX6_pass_68 ?_
    obtain ⟨z4, hz4, h⟩ := bnd_some h
    refine r_callI (wc := (fl [wArr K (aM 12) 353 (M 11)])) (wf := fun (u : (Nat → Int32)) => (fl [wArr K (aM 12) 353 u])) (wn := (fl [wModel K aM (va_up M 11 z4.2) ML])) hP hD hS hA [2] [0, 1, 3, 4, 5, 6, 7, 8] [0, 1, 8, 2, 3, 4, 5, 6, 7] rfl (by decide) rfl (by decide) (by decide) rfl (by decide) (fun hPc hDc => va_runS (As := [.ref (aM 12)]) (rest := [.int x3]) C0.1 (ctX6_steps l D K N (aM 12) (M 11) H.size z4 hz4) (va_cwS 1 C0.1.2.2.2.2 (gdS wd26_4 wd26_5 wd1_5 wd26_6) rfl rfl rfl (by decide +kernel) ⟨Nat.le_of_ble_eq_true rfl, Nat.le_of_ble_eq_true rfl⟩) ⟨pcW_blind, pcW_of hPc hDc C0.2.2.2⟩ rfl rfl hl.1 rfl (lv_room (Nat.le_of_ble_eq_true rfl)) dX6_pass_71 ⟨Nat.zero_le _, Nat.zero_le _⟩) (fun H locs hP hD hS => ?_)
    refine nm_w h (fun uu => (fl [wModel K aM uu ML])) hP hD (fun M5 h hP hD => ?_)
    refine r_iadd C0 dX6_pass_74 ?_
    refine r_istore_n h C0 (fun v6 => [(3, .int v6), (0, .ref (aM 0)), (2, .int x2)]) dX6_pass_75 hl (by decide) (fun _ => rfl) (fun v6 ls h hl => ?_)
    refine r_goto C0 55 dX6_pass_76 (by decide) ?_
    exact hk55 M5 ML x2 v6 _ _ _ h hP hD hS (lv_sub hl [1, 2, 0] rfl)
theorem wX6_pass_55L (C0 : cx p s m args meth c cX6_pass 4 RX6 wsX6_pass (some .int) D K) (hA : ∀ q, s.heap.size ≤ q → A q) : IX6_pass_55 p l e s m args below meth c D K aM A z (fX6_pass_55 N) := by
  refine itn_ind (IX6_pass_55 p l e s m args below meth c D K aM A z) ?_ ?_ N
  · intro _ _ _ _ _ _ _ h; cases h
  · intro k55 hk55 M ML x2 x3 H locs ls h hP hD hS hl
    exact wX6_pass_55 C0 hA hk55 M ML x2 x3 h H locs hP hD hS ls hl
set_option maxHeartbeats 1000000 in
set_option maxRecDepth 10000 in
theorem wX6_pass_37 (C0 : cx p s m args meth c cX6_pass 4 RX6 wsX6_pass (some .int) D K) (hA : ∀ q, s.heap.size ≤ q → A q) (M : Rc) (ML : RcL) (h : fX6_pass_37 N M ML = some z) (H : Heap) (locs : List Loc) (hP : va_P D vwCl (fl [wModel K aM M ML]) H) (hD : va_D A (fl [wModel K aM M ML])) (hS : va_S A s.heap H locs) (ls : Array Slot) (hl : lv_has ls 4 []) : W p l e rmX6_pass s m args below meth c H locs 0 0 (MQ below (qcI D z (fun (u : Rc) => (fl [wModel K aM u ML])) A) args s 0 0 A) (F0 m 37 ls []) := by
  unfold fX6_pass_37 at h
  refine r_iconst C0 (-1 : Int32) dX6_pass_37 (by decide) ?_
  exact r_iret h C0 (fun (u : Rc) => (fl [wModel K aM u ML])) hP hD hS dX6_pass_38
set_option maxHeartbeats 1000000 in
set_option maxRecDepth 10000 in
theorem wX6_pass_0 (C0 : cx p s m args meth c cX6_pass 4 RX6 wsX6_pass (some .int) D K) (hA : ∀ q, s.heap.size ≤ q → A q) (M : Rc) (ML : RcL) (x1 : Int32) (h : fX6_pass N M ML x1 = some z) (H : Heap) (locs : List Loc) (hP : va_P D vwCl (fl [wModel K aM M ML]) H) (hD : va_D A (fl [wModel K aM M ML])) (hS : va_S A s.heap H locs) (ls : Array Slot) (hl : lv_has ls 4 [(0, .ref (aM 0)), (1, .int x1)]) : W p l e rmX6_pass s m args below meth c H locs 0 0 (MQ below (qcI D z (fun (u : Rc) => (fl [wModel K aM u ML])) A) args s 0 0 A) (F0 m 0 ls []) := by
  unfold fX6_pass at h
  refine r_aload_n C0 dX6_pass_0 hl 0 rfl ?_
  refine r_iconst C0 (nI 0) dX6_pass_1 (by decide) ?_
  refine r_put (ty := .int) h C0 6 inx6 tyX6 tyX6_ok nmX6 hP hD hS 0 (fun uu => (fl [wModel K aM uu ML])) rfl rfl 0 (by decide) (mc wd6_10) rfl (by decide +kernel) rfl rfl (by simp) rfl dX6_pass_2 (fun M1 H locs h hP hD hS => ?_)
  refine r_aload_n C0 dX6_pass_5 hl 0 rfl ?_
  obtain ⟨z2, hz2, h⟩ := bnd_some h
  have hPc := vaP_sel (Wc := [wModel K aM M1 ML]) hP [0] rfl
  refine r_cI (va_runV (As := []) (rest := []) C0.1 (ctX6_isThere l D K aM M1 ML z2 hz2) (cwV 0 C0.1.2.2.2.2 (gdV wd25_2 wd25_3 wd25_4 wd1_5 wd25_5) rfl rfl rfl (by decide +kernel) ⟨Nat.le_of_ble_eq_true rfl, Nat.le_of_ble_eq_true rfl⟩) ⟨pcR_blind, va_recv C0.2.2.2.1 hPc (ci := 6) (q0 := 0) rfl rfl, pcR_of hPc C0.2.2.2⟩ rfl rfl hl.1 rfl (lv_room (Nat.le_of_ble_eq_true rfl)) dX6_pass_6 ⟨Nat.zero_le _, Nat.zero_le _⟩).run ?_
  refine r_if_eq h C0 37 dX6_pass_9 (by decide) (fun h => ?_) (fun h => ?_)
  · exact wX6_pass_37 C0 hA M1 ML h _ _ hP hD hS _ (lv_sub hl [] rfl)
  · refine r_iload_n C0 dX6_pass_12 hl 1 rfl ?_
    refine r_iconst C0 (nI 1) dX6_pass_13 (by decide) ?_
    refine r_sipush C0 (nI 999) dX6_pass_14 (by decide) ?_
    obtain ⟨z3, hz3, h⟩ := bnd_some h
    have hPc : va_P D vwCl [] H := va_P_nil
    refine r_cI (va_runS (As := [.int x1, .int (nI 1), .int (nI 999)]) (rest := []) C0.1 (ctX6_isIn l D K x1 (nI 1) (nI 999) z3 hz3) (va_cwS 3 C0.1.2.2.2.2 (gdS wd17_16 wd17_17 wd1_5 wd17_18) rfl rfl rfl (by decide +kernel) ⟨Nat.le_of_ble_eq_true rfl, Nat.le_of_ble_eq_true rfl⟩) ⟨pcR_blind, pcR_of hPc C0.2.2.2⟩ rfl rfl hl.1 rfl (lv_room (Nat.le_of_ble_eq_true rfl)) dX6_pass_17 ⟨Nat.zero_le _, Nat.zero_le _⟩).run ?_
    refine r_if_eq h C0 37 dX6_pass_20 (by decide) (fun h => ?_) (fun h => ?_)
    · exact wX6_pass_37 C0 hA M1 ML h _ _ hP hD hS _ (lv_sub hl [] rfl)
    · refine r_aload_n C0 dX6_pass_23 hl 0 rfl ?_
      refine r_get C0 6 inx6 hP 0 rfl rfl 11 (by decide) (mc wd5_11) (.ref (aM 12)) rfl dX6_pass_24 ?_
      refine r_bipush C0 (nI 48) dX6_pass_27 (by decide) ?_
      refine r_ialdC C0 hP 2 rfl 48 (by decide) dX6_pass_29 ?_
      refine r_iload_n C0 dX6_pass_30 hl 1 rfl ?_
      refine r_iadd C0 dX6_pass_31 ?_
      refine r_ldc (v := (nI 99999)) C0 dX6_pass_32 (mc wd33_19) ?_
      refine r_icmp_le h C0 39 dX6_pass_34 (by decide) (fun h => ?_) (fun h => ?_)
      · refine r_aload_n C0 dX6_pass_39 hl 0 rfl ?_
        obtain ⟨z4, hz4, h⟩ := bnd_some h
        refine r_callVC (Wc := [wModel K aM M1 ML]) (wf := fun (u : Rc) => [wModel K aM u ML]) (Wn := [wModel K aM z4 ML]) hP hD hS hA [0] [] [0] 1 rfl rfl (by decide) rfl rfl (by decide) (fun hPc hDc hFc => va_runV (As := []) (rest := []) C0.1 (ctX6_snap l D K N aM M1 ML H.size z4 hz4) (cwV 0 C0.1.2.2.2.2 (gdV wd33_20 wd33_21 wd33_22 wd1_5 wd33_23) rfl rfl rfl (by decide +kernel) ⟨Nat.le_of_ble_eq_true rfl, Nat.le_of_ble_eq_true rfl⟩) ⟨pcW_blind, va_recv C0.2.2.2.1 hPc (ci := 6) (q0 := 0) rfl rfl, pcW_of hPc hDc C0.2.2.2⟩ rfl rfl hl.1 rfl (lv_room (Nat.le_of_ble_eq_true rfl)) dX6_pass_40 ⟨Nat.zero_le _, Nat.zero_le _⟩) (fun H locs hP hD hS => ?_)
        refine r_aload_n C0 dX6_pass_43 hl 0 rfl ?_
        refine r_get C0 6 inx6 hP 0 rfl rfl 11 (by decide) (mc wd5_11) (.ref (aM 12)) rfl dX6_pass_44 ?_
        refine r_bipush C0 (nI 48) dX6_pass_47 (by decide) ?_
        refine r_ialdC C0 hP 2 rfl 48 (by decide) dX6_pass_49 ?_
        refine r_iload_n C0 dX6_pass_50 hl 1 rfl ?_
        refine r_iadd C0 dX6_pass_51 ?_
        refine r_istore_n h C0 (fun v5 => [(2, .int v5), (0, .ref (aM 0)), (1, .int x1)]) dX6_pass_52 hl (by decide) (fun _ => rfl) (fun v5 ls h hl => ?_)
        refine r_iconst C0 (nI 0) dX6_pass_53 (by decide) ?_
        refine r_istore_n h C0 (fun v6 => [(3, .int v6), (2, .int v5), (0, .ref (aM 0)), (1, .int x1)]) dX6_pass_54 hl (by decide) (fun _ => rfl) (fun v6 ls h hl => ?_)
        exact wX6_pass_55L C0 hA z4 ML v5 v6 _ _ _ h hP hD hS (lv_sub hl [2, 1, 0] rfl)
      · exact wX6_pass_37 C0 hA M1 ML h _ _ hP hD hS _ (lv_sub hl [] rfl)
set_option maxHeartbeats 1000000 in
set_option maxRecDepth 10000 in
theorem ctX6_pass (l : Launch) (D : va_G) (K : Nat → ClassId) (N : Nat) (aM : Nat → Nat) (M : Rc) (ML : RcL) (p1 : Int32) (sz : Nat) (z : Int32 × (Rc)) (hz : fX6_pass N M ML p1 = some z) : Met l yX6_pass wsX6_pass rmX6_pass (pcW D K [.ref (aM 0), .int p1] (fl [wModel K aM M ML]) sz) (qcI D z (fun (u : Rc) => (fl [wModel K aM u ML])) (va_A (fl [wModel K aM M ML]) sz)) 0 0 (va_A (fl [wModel K aM M ML]) sz) := by
  refine Met.ofW (cc := cX6_pass) (maxL := 4) (ret := (some .int)) (by decide) rfl ?_
  intro p e s m args below meth c s₁ B hml hv
  obtain ⟨rfl, hsz, hP, hK, hD0⟩ := hv
  subst hsz
  have C0 : cx p s m _ meth c cX6_pass 4 RX6 wsX6_pass (some .int) D K := ⟨⟨B.exec, B.bytes, hml, findClass_of_methodNamed B.named, atoms_spec (ws := wsX6_pass) B.pre⟩, B.returns, B.notSynchronized, hK⟩
  have hD := hD0.self (sz := s.heap.size)
  generalize hAe : va_A (fl [wModel K aM M ML]) s.heap.size = A at hD ⊢
  have hA : ∀ q : Nat, s.heap.size ≤ q → A q := fun q h => by rw [← hAe]; exact Or.inr h
  have hl := lv_entry ([.ref (aM 0), .int p1]) (n := 4) (Nat.le_of_ble_eq_true rfl)
  rw [lg_entry_eq]
  generalize (lg_sl ([.ref (aM 0), .int p1]) ++ List.replicate (4 - (lg_sl ([.ref (aM 0), .int p1])).length) Slot.unset).toArray = ls at hl ⊢
  have hl : lv_has ls 4 [(0, .ref (aM 0)), (1, .int p1)] := hl
  exact wX6_pass_0 C0 hA M ML p1 hz s.heap [] hP hD va_S.rf ls (lv_sub hl [0, 1] rfl)
end SX6_pass

section SX6_step
/-! CardLoopsModel.step()I -/
abbrev wsX6_step : List Cond := Cond.code yX6_step cX6_step 1 (some .int) :: wsL_law0
abbrev rmX6_step : Room := { frames := 5, cells := 0, slots := 0, locals := 112 }
variable {p : Program} {l : Launch} {e : Env} {s : State} {m : MethodId} {args : Array Value} {below : List Frame} {meth : Method} {c : Code} {D : va_G} {K : Nat → ClassId} {A : Nat → Prop} {N : Nat} {aM : Nat → Nat} {z : Int32 × (Rc)}
set_option maxHeartbeats 1000000 in
set_option maxRecDepth 10000 in
theorem wX6_step_24 (C0 : cx p s m args meth c cX6_step 1 RX6 wsX6_step (some .int) D K) (hA : ∀ q, s.heap.size ≤ q → A q) (M : Rc) (ML : RcL) (h : fX6_step_24 N M ML = some z) (H : Heap) (locs : List Loc) (hP : va_P D vwCl (fl [wModel K aM M ML]) H) (hD : va_D A (fl [wModel K aM M ML])) (hS : va_S A s.heap H locs) (ls : Array Slot) (hl : lv_has ls 1 []) : W p l e rmX6_step s m args below meth c H locs 0 0 (MQ below (qcI D z (fun (u : Rc) => (fl [wModel K aM u ML])) A) args s 0 0 A) (F0 m 24 ls []) := by
  unfold fX6_step_24 at h
  refine r_iconst C0 (-1 : Int32) dX6_step_24 (by decide) ?_
  exact r_iret h C0 (fun (u : Rc) => (fl [wModel K aM u ML])) hP hD hS dX6_step_25
set_option maxHeartbeats 1000000 in
set_option maxRecDepth 10000 in
theorem wX6_step_0 (C0 : cx p s m args meth c cX6_step 1 RX6 wsX6_step (some .int) D K) (hA : ∀ q, s.heap.size ≤ q → A q) (M : Rc) (ML : RcL) (h : fX6_step N M ML = some z) (H : Heap) (locs : List Loc) (hP : va_P D vwCl (fl [wModel K aM M ML]) H) (hD : va_D A (fl [wModel K aM M ML])) (hS : va_S A s.heap H locs) (ls : Array Slot) (hl : lv_has ls 1 [(0, .ref (aM 0))]) : W p l e rmX6_step s m args below meth c H locs 0 0 (MQ below (qcI D z (fun (u : Rc) => (fl [wModel K aM u ML])) A) args s 0 0 A) (F0 m 0 ls []) := by
  unfold fX6_step at h
  refine r_aload_n C0 dX6_step_0 hl 0 rfl ?_
  refine r_iconst C0 (nI 0) dX6_step_1 (by decide) ?_
  refine r_put (ty := .int) h C0 6 inx6 tyX6 tyX6_ok nmX6 hP hD hS 0 (fun uu => (fl [wModel K aM uu ML])) rfl rfl 0 (by decide) (mc wd6_10) rfl (by decide +kernel) rfl rfl (by simp) rfl dX6_step_2 (fun M1 H locs h hP hD hS => ?_)
  refine r_aload_n C0 dX6_step_5 hl 0 rfl ?_
  obtain ⟨z2, hz2, h⟩ := bnd_some h
  have hPc := vaP_sel (Wc := [wModel K aM M1 ML]) hP [0] rfl
  refine r_cI (va_runV (As := []) (rest := []) C0.1 (ctX6_isThere l D K aM M1 ML z2 hz2) (cwV 0 C0.1.2.2.2.2 (gdV wd25_2 wd25_3 wd25_4 wd1_5 wd25_5) rfl rfl rfl (by decide +kernel) ⟨Nat.le_of_ble_eq_true rfl, Nat.le_of_ble_eq_true rfl⟩) ⟨pcR_blind, va_recv C0.2.2.2.1 hPc (ci := 6) (q0 := 0) rfl rfl, pcR_of hPc C0.2.2.2⟩ rfl rfl hl.1 rfl (lv_room (Nat.le_of_ble_eq_true rfl)) dX6_step_6 ⟨Nat.zero_le _, Nat.zero_le _⟩).run ?_
  refine r_if_eq h C0 24 dX6_step_9 (by decide) (fun h => ?_) (fun h => ?_)
  · exact wX6_step_24 C0 hA M1 ML h _ _ hP hD hS _ (lv_sub hl [] rfl)
  · refine r_aload_n C0 dX6_step_12 hl 0 rfl ?_
    refine r_get C0 6 inx6 hP 0 rfl rfl 11 (by decide) (mc wd5_11) (.ref (aM 12)) rfl dX6_step_13 ?_
    obtain ⟨z3, hz3, h⟩ := bnd_some h
    have hPc := hP.sub (ws' := (fl [wArr K (aM 12) 353 (M1 11)])) [2] rfl
    refine r_cI (va_runS (As := [.ref (aM 12)]) (rest := []) C0.1 (ctX6_nextTime l D K N (aM 12) (M1 11) z3 hz3) (va_cwS 1 C0.1.2.2.2.2 (gdS wd26_7 wd26_8 wd1_5 wd26_9) rfl rfl rfl (by decide +kernel) ⟨Nat.le_of_ble_eq_true rfl, Nat.le_of_ble_eq_true rfl⟩) ⟨pcR_blind, pcR_of hPc C0.2.2.2⟩ rfl rfl hl.1 rfl (lv_room (Nat.le_of_ble_eq_true rfl)) dX6_step_16 ⟨Nat.zero_le _, Nat.zero_le _⟩).run ?_
    refine r_ldc (v := (nI 99999)) C0 dX6_step_19 (mc wd33_19) ?_
    refine r_icmp_le h C0 26 dX6_step_21 (by decide) (fun h => ?_) (fun h => ?_)
    · refine r_aload_n C0 dX6_step_26 hl 0 rfl ?_
      obtain ⟨z4, hz4, h⟩ := bnd_some h
      refine r_callVC (Wc := [wModel K aM M1 ML]) (wf := fun (u : Rc) => [wModel K aM u ML]) (Wn := [wModel K aM z4 ML]) hP hD hS hA [0] [] [0] 1 rfl rfl (by decide) rfl rfl (by decide) (fun hPc hDc hFc => va_runV (As := []) (rest := []) C0.1 (ctX6_snap l D K N aM M1 ML H.size z4 hz4) (cwV 0 C0.1.2.2.2.2 (gdV wd33_20 wd33_21 wd33_22 wd1_5 wd33_23) rfl rfl rfl (by decide +kernel) ⟨Nat.le_of_ble_eq_true rfl, Nat.le_of_ble_eq_true rfl⟩) ⟨pcW_blind, va_recv C0.2.2.2.1 hPc (ci := 6) (q0 := 0) rfl rfl, pcW_of hPc hDc C0.2.2.2⟩ rfl rfl hl.1 rfl (lv_room (Nat.le_of_ble_eq_true rfl)) dX6_step_27 ⟨Nat.zero_le _, Nat.zero_le _⟩) (fun H locs hP hD hS => ?_)
      refine r_aload_n C0 dX6_step_30 hl 0 rfl ?_
      refine r_get C0 6 inx6 hP 0 rfl rfl 11 (by decide) (mc wd5_11) (.ref (aM 12)) rfl dX6_step_31 ?_
      obtain ⟨z5, hz5, h⟩ := bnd_some h
      refine r_callI (wc := (fl [wArr K (aM 12) 353 (z4 11)])) (wf := fun (u : (Nat → Int32)) => (fl [wArr K (aM 12) 353 u])) (wn := (fl [wModel K aM (va_up z4 11 z5.2) ML])) hP hD hS hA [2] [0, 1, 3, 4, 5, 6, 7, 8] [0, 1, 8, 2, 3, 4, 5, 6, 7] rfl (by decide) rfl (by decide) (by decide) rfl (by decide) (fun hPc hDc => va_runS (As := [.ref (aM 12)]) (rest := []) C0.1 (ctX6_steps l D K N (aM 12) (z4 11) H.size z5 hz5) (va_cwS 1 C0.1.2.2.2.2 (gdS wd26_4 wd26_5 wd1_5 wd26_6) rfl rfl rfl (by decide +kernel) ⟨Nat.le_of_ble_eq_true rfl, Nat.le_of_ble_eq_true rfl⟩) ⟨pcW_blind, pcW_of hPc hDc C0.2.2.2⟩ rfl rfl hl.1 rfl (lv_room (Nat.le_of_ble_eq_true rfl)) dX6_step_34 ⟨Nat.zero_le _, Nat.zero_le _⟩) (fun H locs hP hD hS => ?_)
      refine nm_w h (fun uu => (fl [wModel K aM uu ML])) hP hD (fun M6 h hP hD => ?_)
      refine r_pop C0 dX6_step_37 rfl ?_
      refine r_aload_n C0 dX6_step_38 hl 0 rfl ?_
      refine r_get C0 6 inx6 hP 0 rfl rfl 11 (by decide) (mc wd5_11) (.ref (aM 12)) rfl dX6_step_39 ?_
      refine r_bipush C0 (nI 48) dX6_step_42 (by decide) ?_
      refine r_ialdC C0 hP 2 rfl 48 (by decide) dX6_step_44 ?_
      exact r_iret h C0 (fun (u : Rc) => (fl [wModel K aM u ML])) hP hD hS dX6_step_45
    · exact wX6_step_24 C0 hA M1 ML h _ _ hP hD hS _ (lv_sub hl [] rfl)
set_option maxHeartbeats 1000000 in
set_option maxRecDepth 10000 in
theorem ctX6_step (l : Launch) (D : va_G) (K : Nat → ClassId) (N : Nat) (aM : Nat → Nat) (M : Rc) (ML : RcL) (sz : Nat) (z : Int32 × (Rc)) (hz : fX6_step N M ML = some z) : Met l yX6_step wsX6_step rmX6_step (pcW D K [.ref (aM 0)] (fl [wModel K aM M ML]) sz) (qcI D z (fun (u : Rc) => (fl [wModel K aM u ML])) (va_A (fl [wModel K aM M ML]) sz)) 0 0 (va_A (fl [wModel K aM M ML]) sz) := by
  refine Met.ofW (cc := cX6_step) (maxL := 1) (ret := (some .int)) (by decide) rfl ?_
  intro p e s m args below meth c s₁ B hml hv
  obtain ⟨rfl, hsz, hP, hK, hD0⟩ := hv
  subst hsz
  have C0 : cx p s m _ meth c cX6_step 1 RX6 wsX6_step (some .int) D K := ⟨⟨B.exec, B.bytes, hml, findClass_of_methodNamed B.named, atoms_spec (ws := wsX6_step) B.pre⟩, B.returns, B.notSynchronized, hK⟩
  have hD := hD0.self (sz := s.heap.size)
  generalize hAe : va_A (fl [wModel K aM M ML]) s.heap.size = A at hD ⊢
  have hA : ∀ q : Nat, s.heap.size ≤ q → A q := fun q h => by rw [← hAe]; exact Or.inr h
  have hl := lv_entry ([.ref (aM 0)]) (n := 1) (Nat.le_of_ble_eq_true rfl)
  rw [lg_entry_eq]
  generalize (lg_sl ([.ref (aM 0)]) ++ List.replicate (1 - (lg_sl ([.ref (aM 0)])).length) Slot.unset).toArray = ls at hl ⊢
  have hl : lv_has ls 1 [(0, .ref (aM 0))] := hl
  exact wX6_step_0 C0 hA M ML hz s.heap [] hP hD va_S.rf ls (lv_sub hl [0] rfl)
end SX6_step

section SX6_cards
/-! CardLoopsModel.cards(II)I -/
abbrev wsX6_cards : List Cond := Cond.code yX6_cards cX6_cards 4 (some .int) :: wsL_law0
abbrev rmX6_cards : Room := { frames := 4, cells := 0, slots := 0, locals := 92 }
variable {p : Program} {l : Launch} {e : Env} {s : State} {m : MethodId} {args : Array Value} {below : List Frame} {meth : Method} {c : Code} {D : va_G} {K : Nat → ClassId} {A : Nat → Prop} {N : Nat} {aM : Nat → Nat} {z : Int32 × (Rc)}
set_option maxHeartbeats 1000000 in
set_option maxRecDepth 10000 in
theorem wX6_cards_112 (C0 : cx p s m args meth c cX6_cards 4 RX6 wsX6_cards (some .int) D K) (hA : ∀ q, s.heap.size ≤ q → A q) (M : Rc) (ML : RcL) (x1 : Int32) (h : fX6_cards_112 N M ML x1 = some z) (H : Heap) (locs : List Loc) (hP : va_P D vwCl (fl [wModel K aM M ML]) H) (hD : va_D A (fl [wModel K aM M ML])) (hS : va_S A s.heap H locs) (ls : Array Slot) (hl : lv_has ls 4 [(0, .ref (aM 0)), (1, .int x1)]) : W p l e rmX6_cards s m args below meth c H locs 0 0 (MQ below (qcI D z (fun (u : Rc) => (fl [wModel K aM u ML])) A) args s 0 0 A) (F0 m 112 ls []) := by
  unfold fX6_cards_112 at h
  refine r_aload_n C0 dX6_cards_112 hl 0 rfl ?_
  refine r_get C0 6 inx6 hP 0 rfl rfl 11 (by decide) (mc wd5_11) (.ref (aM 12)) rfl dX6_cards_113 ?_
  refine r_bipush C0 (nI 15) dX6_cards_116 (by decide) ?_
  refine r_iconst C0 (nI 4) dX6_cards_118 (by decide) ?_
  refine r_iload_n C0 dX6_cards_119 hl 1 rfl ?_
  refine r_imul C0 dX6_cards_120 ?_
  refine r_iadd C0 dX6_cards_121 ?_
  refine r_iconst C0 (nI 3) dX6_cards_122 (by decide) ?_
  refine r_iadd C0 dX6_cards_123 ?_
  refine r_iald h C0 hP 2 rfl dX6_cards_124 (fun h => ?_)
  exact r_iret h C0 (fun (u : Rc) => (fl [wModel K aM u ML])) hP hD hS dX6_cards_125
set_option maxHeartbeats 1000000 in
set_option maxRecDepth 10000 in
theorem wX6_cards_63 (C0 : cx p s m args meth c cX6_cards 4 RX6 wsX6_cards (some .int) D K) (hA : ∀ q, s.heap.size ≤ q → A q) (M : Rc) (ML : RcL) (h : fX6_cards_63 N M ML = some z) (H : Heap) (locs : List Loc) (hP : va_P D vwCl (fl [wModel K aM M ML]) H) (hD : va_D A (fl [wModel K aM M ML])) (hS : va_S A s.heap H locs) (ls : Array Slot) (hl : lv_has ls 4 []) : W p l e rmX6_cards s m args below meth c H locs 0 0 (MQ below (qcI D z (fun (u : Rc) => (fl [wModel K aM u ML])) A) args s 0 0 A) (F0 m 63 ls []) := by
  unfold fX6_cards_63 at h
  refine r_iconst C0 (-1 : Int32) dX6_cards_63 (by decide) ?_
  exact r_iret h C0 (fun (u : Rc) => (fl [wModel K aM u ML])) hP hD hS dX6_cards_64
set_option maxHeartbeats 1000000 in
set_option maxRecDepth 10000 in
theorem wX6_cards_23 (C0 : cx p s m args meth c cX6_cards 4 RX6 wsX6_cards (some .int) D K) (hA : ∀ q, s.heap.size ≤ q → A q) (M : Rc) (ML : RcL) (h : fX6_cards_23 N M ML = some z) (H : Heap) (locs : List Loc) (hP : va_P D vwCl (fl [wModel K aM M ML]) H) (hD : va_D A (fl [wModel K aM M ML])) (hS : va_S A s.heap H locs) (ls : Array Slot) (hl : lv_has ls 4 []) : W p l e rmX6_cards s m args below meth c H locs 0 0 (MQ below (qcI D z (fun (u : Rc) => (fl [wModel K aM u ML])) A) args s 0 0 A) (F0 m 23 ls []) := by
  unfold fX6_cards_23 at h
  refine r_iconst C0 (-1 : Int32) dX6_cards_23 (by decide) ?_
  exact r_iret h C0 (fun (u : Rc) => (fl [wModel K aM u ML])) hP hD hS dX6_cards_24
set_option maxHeartbeats 1000000 in
set_option maxRecDepth 10000 in
theorem wX6_cards_0 (C0 : cx p s m args meth c cX6_cards 4 RX6 wsX6_cards (some .int) D K) (hA : ∀ q, s.heap.size ≤ q → A q) (M : Rc) (ML : RcL) (x1 : Int32) (x2 : Int32) (h : fX6_cards N M ML x1 x2 = some z) (H : Heap) (locs : List Loc) (hP : va_P D vwCl (fl [wModel K aM M ML]) H) (hD : va_D A (fl [wModel K aM M ML])) (hS : va_S A s.heap H locs) (ls : Array Slot) (hl : lv_has ls 4 [(0, .ref (aM 0)), (1, .int x1), (2, .int x2)]) : W p l e rmX6_cards s m args below meth c H locs 0 0 (MQ below (qcI D z (fun (u : Rc) => (fl [wModel K aM u ML])) A) args s 0 0 A) (F0 m 0 ls []) := by
  unfold fX6_cards at h
  refine r_aload_n C0 dX6_cards_0 hl 0 rfl ?_
  refine r_iconst C0 (nI 0) dX6_cards_1 (by decide) ?_
  refine r_put (ty := .int) h C0 6 inx6 tyX6 tyX6_ok nmX6 hP hD hS 0 (fun uu => (fl [wModel K aM uu ML])) rfl rfl 0 (by decide) (mc wd6_10) rfl (by decide +kernel) rfl rfl (by simp) rfl dX6_cards_2 (fun M1 H locs h hP hD hS => ?_)
  refine r_aload_n C0 dX6_cards_5 hl 0 rfl ?_
  refine r_iload_n C0 dX6_cards_6 hl 1 rfl ?_
  obtain ⟨z2, hz2, h⟩ := bnd_some h
  have hPc := vaP_sel (Wc := [wModel K aM M1 ML]) hP [0] rfl
  refine r_cI (va_runV (As := [.int x1]) (rest := []) C0.1 (ctX6_isLoop l D K aM M1 ML x1 z2 hz2) (cwV 1 C0.1.2.2.2.2 (gdV wd24_10 wd24_11 wd24_12 wd1_5 wd24_13) rfl rfl rfl (by decide +kernel) ⟨Nat.le_of_ble_eq_true rfl, Nat.le_of_ble_eq_true rfl⟩) ⟨pcR_blind, va_recv C0.2.2.2.1 hPc (ci := 6) (q0 := 0) rfl rfl, pcR_of hPc C0.2.2.2⟩ rfl rfl hl.1 rfl (lv_room (Nat.le_of_ble_eq_true rfl)) dX6_cards_7 ⟨Nat.zero_le _, Nat.zero_le _⟩).run ?_
  refine r_if_eq h C0 23 dX6_cards_10 (by decide) (fun h => ?_) (fun h => ?_)
  · exact wX6_cards_23 C0 hA M1 ML h _ _ hP hD hS _ (lv_sub hl [] rfl)
  · refine r_iload_n C0 dX6_cards_13 hl 2 rfl ?_
    refine r_iconst C0 (nI 1) dX6_cards_14 (by decide) ?_
    refine r_bipush C0 (nI 20) dX6_cards_15 (by decide) ?_
    obtain ⟨z3, hz3, h⟩ := bnd_some h
    have hPc : va_P D vwCl [] H := va_P_nil
    refine r_cI (va_runS (As := [.int x2, .int (nI 1), .int (nI 20)]) (rest := []) C0.1 (ctX6_isIn l D K x2 (nI 1) (nI 20) z3 hz3) (va_cwS 3 C0.1.2.2.2.2 (gdS wd17_16 wd17_17 wd1_5 wd17_18) rfl rfl rfl (by decide +kernel) ⟨Nat.le_of_ble_eq_true rfl, Nat.le_of_ble_eq_true rfl⟩) ⟨pcR_blind, pcR_of hPc C0.2.2.2⟩ rfl rfl hl.1 rfl (lv_room (Nat.le_of_ble_eq_true rfl)) dX6_cards_17 ⟨Nat.zero_le _, Nat.zero_le _⟩).run ?_
    refine r_if_ne h C0 25 dX6_cards_20 (by decide) (fun h => ?_) (fun h => ?_)
    · refine r_iload_n C0 dX6_cards_25 hl 2 rfl ?_
      refine r_aload_n C0 dX6_cards_26 hl 0 rfl ?_
      refine r_get C0 6 inx6 hP 0 rfl rfl 11 (by decide) (mc wd5_11) (.ref (aM 12)) rfl dX6_cards_27 ?_
      refine r_bipush C0 (nI 15) dX6_cards_30 (by decide) ?_
      refine r_iconst C0 (nI 4) dX6_cards_32 (by decide) ?_
      refine r_iload_n C0 dX6_cards_33 hl 1 rfl ?_
      refine r_imul C0 dX6_cards_34 ?_
      refine r_iadd C0 dX6_cards_35 ?_
      refine r_iconst C0 (nI 2) dX6_cards_36 (by decide) ?_
      refine r_iadd C0 dX6_cards_37 ?_
      refine r_iald h C0 hP 2 rfl dX6_cards_38 (fun h => ?_)
      refine r_isub C0 dX6_cards_39 ?_
      refine r_istore_n h C0 (fun v4 => [(3, .int v4), (0, .ref (aM 0)), (1, .int x1), (2, .int x2)]) dX6_cards_40 hl (by decide) (fun _ => rfl) (fun v4 ls h hl => ?_)
      refine r_iload_n C0 dX6_cards_41 hl 0 rfl ?_
      refine r_if_eq h C0 63 dX6_cards_42 (by decide) (fun h => ?_) (fun h => ?_)
      · exact wX6_cards_63 C0 hA M1 ML h _ _ hP hD hS _ (lv_sub hl [] rfl)
      · refine r_aload_n C0 dX6_cards_45 hl 1 rfl ?_
        refine r_get C0 6 inx6 hP 0 rfl rfl 11 (by decide) (mc wd5_11) (.ref (aM 12)) rfl dX6_cards_46 ?_
        refine r_bipush C0 (nI 15) dX6_cards_49 (by decide) ?_
        refine r_iconst C0 (nI 4) dX6_cards_51 (by decide) ?_
        refine r_iload_n C0 dX6_cards_52 hl 2 rfl ?_
        refine r_imul C0 dX6_cards_53 ?_
        refine r_iadd C0 dX6_cards_54 ?_
        refine r_iconst C0 (nI 3) dX6_cards_55 (by decide) ?_
        refine r_iadd C0 dX6_cards_56 ?_
        refine r_iald h C0 hP 2 rfl dX6_cards_57 (fun h => ?_)
        refine r_iload_n C0 dX6_cards_58 hl 0 rfl ?_
        refine r_iadd C0 dX6_cards_59 ?_
        refine r_if_ge h C0 65 dX6_cards_60 (by decide) (fun h => ?_) (fun h => ?_)
        · refine r_aload_n C0 dX6_cards_65 hl 1 rfl ?_
          obtain ⟨z5, hz5, h⟩ := bnd_some h
          refine r_callVC (Wc := [wModel K aM M1 ML]) (wf := fun (u : Rc) => [wModel K aM u ML]) (Wn := [wModel K aM z5 ML]) hP hD hS hA [0] [] [0] 1 rfl rfl (by decide) rfl rfl (by decide) (fun hPc hDc hFc => va_runV (As := []) (rest := []) C0.1 (ctX6_snap l D K N aM M1 ML H.size z5 hz5) (cwV 0 C0.1.2.2.2.2 (gdV wd33_20 wd33_21 wd33_22 wd1_5 wd33_23) rfl rfl rfl (by decide +kernel) ⟨Nat.le_of_ble_eq_true rfl, Nat.le_of_ble_eq_true rfl⟩) ⟨pcW_blind, va_recv C0.2.2.2.1 hPc (ci := 6) (q0 := 0) rfl rfl, pcW_of hPc hDc C0.2.2.2⟩ rfl rfl hl.1 rfl (lv_room (Nat.le_of_ble_eq_true rfl)) dX6_cards_66 ⟨Nat.zero_le _, Nat.zero_le _⟩) (fun H locs hP hD hS => ?_)
          refine r_aload_n C0 dX6_cards_69 hl 1 rfl ?_
          refine r_get C0 6 inx6 hP 0 rfl rfl 11 (by decide) (mc wd5_11) (.ref (aM 12)) rfl dX6_cards_70 ?_
          refine r_bipush C0 (nI 15) dX6_cards_73 (by decide) ?_
          refine r_iconst C0 (nI 4) dX6_cards_75 (by decide) ?_
          refine r_iload_n C0 dX6_cards_76 hl 2 rfl ?_
          refine r_imul C0 dX6_cards_77 ?_
          refine r_iadd C0 dX6_cards_78 ?_
          refine r_iconst C0 (nI 2) dX6_cards_79 (by decide) ?_
          refine r_iadd C0 dX6_cards_80 ?_
          refine r_iload_n C0 dX6_cards_81 hl 3 rfl ?_
          refine r_iast h C0 hP hD hS 2 (fun uu => (fl [wModel K aM uu ML])) rfl rfl dX6_cards_82 (fun M6 H locs h hP hD hS => ?_)
          refine r_aload_n C0 dX6_cards_83 hl 1 rfl ?_
          refine r_get C0 6 inx6 hP 0 rfl rfl 11 (by decide) (mc wd5_11) (.ref (aM 12)) rfl dX6_cards_84 ?_
          refine r_bipush C0 (nI 15) dX6_cards_87 (by decide) ?_
          refine r_iconst C0 (nI 4) dX6_cards_89 (by decide) ?_
          refine r_iload_n C0 dX6_cards_90 hl 2 rfl ?_
          refine r_imul C0 dX6_cards_91 ?_
          refine r_iadd C0 dX6_cards_92 ?_
          refine r_iconst C0 (nI 3) dX6_cards_93 (by decide) ?_
          refine r_iadd C0 dX6_cards_94 ?_
          refine r_dup2 C0 dX6_cards_95 rfl rfl ?_
          refine r_iald h C0 hP 2 rfl dX6_cards_96 (fun h => ?_)
          refine r_iload_n C0 dX6_cards_97 hl 0 rfl ?_
          refine r_iadd C0 dX6_cards_98 ?_
          refine r_iast h C0 hP hD hS 2 (fun uu => (fl [wModel K aM uu ML])) rfl rfl dX6_cards_99 (fun M7 H locs h hP hD hS => ?_)
          refine r_iload_n C0 dX6_cards_100 hl 0 rfl ?_
          refine r_if_le h C0 112 dX6_cards_101 (by decide) (fun h => ?_) (fun h => ?_)
          · exact wX6_cards_112 C0 hA M7 ML x1 h _ _ hP hD hS _ (lv_sub hl [1, 2] rfl)
          · refine r_aload_n C0 dX6_cards_104 hl 1 rfl ?_
            refine r_get C0 6 inx6 hP 0 rfl rfl 11 (by decide) (mc wd5_11) (.ref (aM 12)) rfl dX6_cards_105 ?_
            obtain ⟨z8, hz8, h⟩ := bnd_some h
            refine r_callI (wc := (fl [wArr K (aM 12) 353 (M7 11)])) (wf := fun (u : (Nat → Int32)) => (fl [wArr K (aM 12) 353 u])) (wn := (fl [wModel K aM (va_up M7 11 z8.2) ML])) hP hD hS hA [2] [0, 1, 3, 4, 5, 6, 7, 8] [0, 1, 8, 2, 3, 4, 5, 6, 7] rfl (by decide) rfl (by decide) (by decide) rfl (by decide) (fun hPc hDc => va_runS (As := [.ref (aM 12)]) (rest := []) C0.1 (ctX6_rounds l D K N (aM 12) (M7 11) H.size z8 hz8) (va_cwS 1 C0.1.2.2.2.2 (gdS wd18_21 wd18_22 wd1_5 wd18_23) rfl rfl rfl (by decide +kernel) ⟨Nat.le_of_ble_eq_true rfl, Nat.le_of_ble_eq_true rfl⟩) ⟨pcW_blind, pcW_of hPc hDc C0.2.2.2⟩ rfl rfl hl.1 rfl (lv_room (Nat.le_of_ble_eq_true rfl)) dX6_cards_108 ⟨Nat.zero_le _, Nat.zero_le _⟩) (fun H locs hP hD hS => ?_)
            refine nm_w h (fun uu => (fl [wModel K aM uu ML])) hP hD (fun M9 h hP hD => ?_)
            refine r_pop C0 dX6_cards_111 rfl ?_
            exact wX6_cards_112 C0 hA M9 ML x1 h _ _ hP hD hS _ (lv_sub hl [1, 2] rfl)
        · exact wX6_cards_63 C0 hA M1 ML h _ _ hP hD hS _ (lv_sub hl [] rfl)
    · exact wX6_cards_23 C0 hA M1 ML h _ _ hP hD hS _ (lv_sub hl [] rfl)
set_option maxHeartbeats 1000000 in
set_option maxRecDepth 10000 in
theorem ctX6_cards (l : Launch) (D : va_G) (K : Nat → ClassId) (N : Nat) (aM : Nat → Nat) (M : Rc) (ML : RcL) (p1 : Int32) (p2 : Int32) (sz : Nat) (z : Int32 × (Rc)) (hz : fX6_cards N M ML p1 p2 = some z) : Met l yX6_cards wsX6_cards rmX6_cards (pcW D K [.ref (aM 0), .int p1, .int p2] (fl [wModel K aM M ML]) sz) (qcI D z (fun (u : Rc) => (fl [wModel K aM u ML])) (va_A (fl [wModel K aM M ML]) sz)) 0 0 (va_A (fl [wModel K aM M ML]) sz) := by
  refine Met.ofW (cc := cX6_cards) (maxL := 4) (ret := (some .int)) (by decide) rfl ?_
  intro p e s m args below meth c s₁ B hml hv
  obtain ⟨rfl, hsz, hP, hK, hD0⟩ := hv
  subst hsz
  have C0 : cx p s m _ meth c cX6_cards 4 RX6 wsX6_cards (some .int) D K := ⟨⟨B.exec, B.bytes, hml, findClass_of_methodNamed B.named, atoms_spec (ws := wsX6_cards) B.pre⟩, B.returns, B.notSynchronized, hK⟩
  have hD := hD0.self (sz := s.heap.size)
  generalize hAe : va_A (fl [wModel K aM M ML]) s.heap.size = A at hD ⊢
  have hA : ∀ q : Nat, s.heap.size ≤ q → A q := fun q h => by rw [← hAe]; exact Or.inr h
  have hl := lv_entry ([.ref (aM 0), .int p1, .int p2]) (n := 4) (Nat.le_of_ble_eq_true rfl)
  rw [lg_entry_eq]
  generalize (lg_sl ([.ref (aM 0), .int p1, .int p2]) ++ List.replicate (4 - (lg_sl ([.ref (aM 0), .int p1, .int p2])).length) Slot.unset).toArray = ls at hl ⊢
  have hl : lv_has ls 4 [(0, .ref (aM 0)), (1, .int p1), (2, .int p2)] := hl
  exact wX6_cards_0 C0 hA M ML p1 p2 hz s.heap [] hP hD va_S.rf ls (lv_sub hl [0, 1, 2] rfl)
end SX6_cards

section SX6_anew
/-! CardLoopsModel.anew()I -/
abbrev wsX6_anew : List Cond := Cond.code yX6_anew cX6_anew 1 (some .int) :: wsL_law0
abbrev rmX6_anew : Room := { frames := 5, cells := 0, slots := 0, locals := 112 }
variable {p : Program} {l : Launch} {e : Env} {s : State} {m : MethodId} {args : Array Value} {below : List Frame} {meth : Method} {c : Code} {D : va_G} {K : Nat → ClassId} {A : Nat → Prop} {N : Nat} {aM : Nat → Nat} {z : Int32 × (Rc)}
set_option maxHeartbeats 1000000 in
set_option maxRecDepth 10000 in
theorem wX6_anew_0 (C0 : cx p s m args meth c cX6_anew 1 RX6 wsX6_anew (some .int) D K) (hA : ∀ q, s.heap.size ≤ q → A q) (M : Rc) (ML : RcL) (h : fX6_anew N M ML = some z) (H : Heap) (locs : List Loc) (hP : va_P D vwCl (fl [wModel K aM M ML]) H) (hD : va_D A (fl [wModel K aM M ML])) (hS : va_S A s.heap H locs) (ls : Array Slot) (hl : lv_has ls 1 [(0, .ref (aM 0))]) : W p l e rmX6_anew s m args below meth c H locs 0 0 (MQ below (qcI D z (fun (u : Rc) => (fl [wModel K aM u ML])) A) args s 0 0 A) (F0 m 0 ls []) := by
  unfold fX6_anew at h
  refine r_aload_n C0 dX6_anew_0 hl 0 rfl ?_
  refine r_iconst C0 (nI 0) dX6_anew_1 (by decide) ?_
  refine r_put (ty := .int) h C0 6 inx6 tyX6 tyX6_ok nmX6 hP hD hS 0 (fun uu => (fl [wModel K aM uu ML])) rfl rfl 0 (by decide) (mc wd6_10) rfl (by decide +kernel) rfl rfl (by simp) rfl dX6_anew_2 (fun M1 H locs h hP hD hS => ?_)
  refine r_aload_n C0 dX6_anew_5 hl 0 rfl ?_
  obtain ⟨z2, hz2, h⟩ := bnd_some h
  have hPc := vaP_sel (Wc := [wModel K aM M1 ML]) hP [0] rfl
  refine r_cI (va_runV (As := []) (rest := []) C0.1 (ctX6_isThere l D K aM M1 ML z2 hz2) (cwV 0 C0.1.2.2.2.2 (gdV wd25_2 wd25_3 wd25_4 wd1_5 wd25_5) rfl rfl rfl (by decide +kernel) ⟨Nat.le_of_ble_eq_true rfl, Nat.le_of_ble_eq_true rfl⟩) ⟨pcR_blind, va_recv C0.2.2.2.1 hPc (ci := 6) (q0 := 0) rfl rfl, pcR_of hPc C0.2.2.2⟩ rfl rfl hl.1 rfl (lv_room (Nat.le_of_ble_eq_true rfl)) dX6_anew_6 ⟨Nat.zero_le _, Nat.zero_le _⟩).run ?_
  refine r_if_ne h C0 14 dX6_anew_9 (by decide) (fun h => ?_) (fun h => ?_)
  · refine r_aload_n C0 dX6_anew_14 hl 0 rfl ?_
    obtain ⟨z3, hz3, h⟩ := bnd_some h
    refine r_callVC (Wc := [wModel K aM M1 ML]) (wf := fun (u : Rc) => [wModel K aM u ML]) (Wn := [wModel K aM z3 ML]) hP hD hS hA [0] [] [0] 1 rfl rfl (by decide) rfl rfl (by decide) (fun hPc hDc hFc => va_runV (As := []) (rest := []) C0.1 (ctX6_snap l D K N aM M1 ML H.size z3 hz3) (cwV 0 C0.1.2.2.2.2 (gdV wd33_20 wd33_21 wd33_22 wd1_5 wd33_23) rfl rfl rfl (by decide +kernel) ⟨Nat.le_of_ble_eq_true rfl, Nat.le_of_ble_eq_true rfl⟩) ⟨pcW_blind, va_recv C0.2.2.2.1 hPc (ci := 6) (q0 := 0) rfl rfl, pcW_of hPc hDc C0.2.2.2⟩ rfl rfl hl.1 rfl (lv_room (Nat.le_of_ble_eq_true rfl)) dX6_anew_15 ⟨Nat.zero_le _, Nat.zero_le _⟩) (fun H locs hP hD hS => ?_)
    refine r_aload_n C0 dX6_anew_18 hl 0 rfl ?_
    refine r_get C0 6 inx6 hP 0 rfl rfl 11 (by decide) (mc wd5_11) (.ref (aM 12)) rfl dX6_anew_19 ?_
    obtain ⟨z4, hz4, h⟩ := bnd_some h
    refine r_callV (wc := (fl [wArr K (aM 12) 353 (z3 11)])) (wf := fun (u : (Nat → Int32)) => (fl [wArr K (aM 12) 353 u])) (wn := (fl [wModel K aM (va_up z3 11 z4) ML])) hP hD hS hA [2] [0, 1, 3, 4, 5, 6, 7, 8] [0, 1, 8, 2, 3, 4, 5, 6, 7] rfl (by decide) rfl (by decide) (by decide) rfl (by decide) (fun hPc hDc => va_runS (As := [.ref (aM 12)]) (rest := []) C0.1 (ctX6_begins l D K N (aM 12) (z3 11) H.size z4 hz4) (va_cwS 1 C0.1.2.2.2.2 (gdS wd18_18 wd18_19 wd1_5 wd18_20) rfl rfl rfl (by decide +kernel) ⟨Nat.le_of_ble_eq_true rfl, Nat.le_of_ble_eq_true rfl⟩) ⟨pcW_blind, pcW_of hPc hDc C0.2.2.2⟩ rfl rfl hl.1 rfl (lv_room (Nat.le_of_ble_eq_true rfl)) dX6_anew_22 ⟨Nat.zero_le _, Nat.zero_le _⟩) (fun H locs hP hD hS => ?_)
    refine nm_w h (fun uu => (fl [wModel K aM uu ML])) hP hD (fun M5 h hP hD => ?_)
    refine r_aload_n C0 dX6_anew_25 hl 0 rfl ?_
    refine r_get C0 6 inx6 hP 0 rfl rfl 11 (by decide) (mc wd5_11) (.ref (aM 12)) rfl dX6_anew_26 ?_
    refine r_bipush C0 (nI 50) dX6_anew_29 (by decide) ?_
    refine r_ialdC C0 hP 2 rfl 50 (by decide) dX6_anew_31 ?_
    refine r_aload_n C0 dX6_anew_32 hl 0 rfl ?_
    refine r_get C0 6 inx6 hP 0 rfl rfl 11 (by decide) (mc wd5_11) (.ref (aM 12)) rfl dX6_anew_33 ?_
    refine r_bipush C0 (nI 49) dX6_anew_36 (by decide) ?_
    refine r_ialdC C0 hP 2 rfl 49 (by decide) dX6_anew_38 ?_
    refine r_isub C0 dX6_anew_39 ?_
    exact r_iret h C0 (fun (u : Rc) => (fl [wModel K aM u ML])) hP hD hS dX6_anew_40
  · refine r_iconst C0 (-1 : Int32) dX6_anew_12 (by decide) ?_
    exact r_iret h C0 (fun (u : Rc) => (fl [wModel K aM u ML])) hP hD hS dX6_anew_13
set_option maxHeartbeats 1000000 in
set_option maxRecDepth 10000 in
theorem ctX6_anew (l : Launch) (D : va_G) (K : Nat → ClassId) (N : Nat) (aM : Nat → Nat) (M : Rc) (ML : RcL) (sz : Nat) (z : Int32 × (Rc)) (hz : fX6_anew N M ML = some z) : Met l yX6_anew wsX6_anew rmX6_anew (pcW D K [.ref (aM 0)] (fl [wModel K aM M ML]) sz) (qcI D z (fun (u : Rc) => (fl [wModel K aM u ML])) (va_A (fl [wModel K aM M ML]) sz)) 0 0 (va_A (fl [wModel K aM M ML]) sz) := by
  refine Met.ofW (cc := cX6_anew) (maxL := 1) (ret := (some .int)) (by decide) rfl ?_
  intro p e s m args below meth c s₁ B hml hv
  obtain ⟨rfl, hsz, hP, hK, hD0⟩ := hv
  subst hsz
  have C0 : cx p s m _ meth c cX6_anew 1 RX6 wsX6_anew (some .int) D K := ⟨⟨B.exec, B.bytes, hml, findClass_of_methodNamed B.named, atoms_spec (ws := wsX6_anew) B.pre⟩, B.returns, B.notSynchronized, hK⟩
  have hD := hD0.self (sz := s.heap.size)
  generalize hAe : va_A (fl [wModel K aM M ML]) s.heap.size = A at hD ⊢
  have hA : ∀ q : Nat, s.heap.size ≤ q → A q := fun q h => by rw [← hAe]; exact Or.inr h
  have hl := lv_entry ([.ref (aM 0)]) (n := 1) (Nat.le_of_ble_eq_true rfl)
  rw [lg_entry_eq]
  generalize (lg_sl ([.ref (aM 0)]) ++ List.replicate (1 - (lg_sl ([.ref (aM 0)])).length) Slot.unset).toArray = ls at hl ⊢
  have hl : lv_has ls 1 [(0, .ref (aM 0))] := hl
  exact wX6_anew_0 C0 hA M ML hz s.heap [] hP hD va_S.rf ls (lv_sub hl [0] rfl)
end SX6_anew

section SX6_undo
/-! CardLoopsModel.undo()I -/
abbrev wsX6_undo : List Cond := Cond.code yX6_undo cX6_undo 1 (some .int) :: wsL_law0
abbrev rmX6_undo : Room := { frames := 1, cells := 0, slots := 0, locals := 24 }
variable {p : Program} {l : Launch} {e : Env} {s : State} {m : MethodId} {args : Array Value} {below : List Frame} {meth : Method} {c : Code} {D : va_G} {K : Nat → ClassId} {A : Nat → Prop} {N : Nat} {aM : Nat → Nat} {z : Int32 × (Rc)}
set_option maxHeartbeats 1000000 in
set_option maxRecDepth 10000 in
theorem wX6_undo_0 (C0 : cx p s m args meth c cX6_undo 1 RX6 wsX6_undo (some .int) D K) (hA : ∀ q, s.heap.size ≤ q → A q) (M : Rc) (ML : RcL) (h : fX6_undo N M ML = some z) (H : Heap) (locs : List Loc) (hP : va_P D vwCl (fl [wModel K aM M ML]) H) (hD : va_D A (fl [wModel K aM M ML])) (hS : va_S A s.heap H locs) (ls : Array Slot) (hl : lv_has ls 1 [(0, .ref (aM 0))]) : W p l e rmX6_undo s m args below meth c H locs 0 0 (MQ below (qcI D z (fun (u : Rc) => (fl [wModel K aM u ML])) A) args s 0 0 A) (F0 m 0 ls []) := by
  unfold fX6_undo at h
  refine r_aload_n C0 dX6_undo_0 hl 0 rfl ?_
  refine r_iconst C0 (nI 0) dX6_undo_1 (by decide) ?_
  refine r_put (ty := .int) h C0 6 inx6 tyX6 tyX6_ok nmX6 hP hD hS 0 (fun uu => (fl [wModel K aM uu ML])) rfl rfl 0 (by decide) (mc wd6_10) rfl (by decide +kernel) rfl rfl (by simp) rfl dX6_undo_2 (fun M1 H locs h hP hD hS => ?_)
  refine r_aload_n C0 dX6_undo_5 hl 0 rfl ?_
  refine r_get C0 6 inx6 hP 0 rfl rfl 15 (by decide) (mc wd15_15) (.int (M1 15 0)) rfl dX6_undo_6 ?_
  refine r_if_ne h C0 14 dX6_undo_9 (by decide) (fun h => ?_) (fun h => ?_)
  · refine r_aload_n C0 dX6_undo_14 hl 0 rfl ?_
    refine r_dup C0 dX6_undo_15 rfl ?_
    refine r_get C0 6 inx6 hP 0 rfl rfl 15 (by decide) (mc wd15_15) (.int (M1 15 0)) rfl dX6_undo_16 ?_
    refine r_iconst C0 (nI 1) dX6_undo_19 (by decide) ?_
    refine r_isub C0 dX6_undo_20 ?_
    refine r_put (ty := .int) h C0 6 inx6 tyX6 tyX6_ok nmX6 hP hD hS 0 (fun uu => (fl [wModel K aM uu ML])) rfl rfl 15 (by decide) (mc wd15_15) rfl (by decide +kernel) rfl rfl (by simp) rfl dX6_undo_21 (fun M2 H locs h hP hD hS => ?_)
    refine r_aload_n C0 dX6_undo_24 hl 0 rfl ?_
    refine r_get C0 6 inx6 hP 0 rfl rfl 14 (by decide) (mc wd5_14) (.ref (aM 15)) rfl dX6_undo_25 ?_
    refine r_sipush C0 (nI 353) dX6_undo_28 (by decide) ?_
    refine r_aload_n C0 dX6_undo_31 hl 0 rfl ?_
    refine r_get C0 6 inx6 hP 0 rfl rfl 15 (by decide) (mc wd15_15) (.int (M2 15 0)) rfl dX6_undo_32 ?_
    refine r_imul C0 dX6_undo_35 ?_
    refine r_aload_n C0 dX6_undo_36 hl 0 rfl ?_
    refine r_get C0 6 inx6 hP 0 rfl rfl 11 (by decide) (mc wd5_11) (.ref (aM 12)) rfl dX6_undo_37 ?_
    refine r_iconst C0 (nI 0) dX6_undo_40 (by decide) ?_
    obtain ⟨z3, hz3, h⟩ := bnd_some h
    refine r_callV (wc := (fl [wArr K (aM 15) 2824 (M2 14), wArr K (aM 12) 353 (M2 11)])) (wf := fun (u : (Nat → Int32)) => (fl [wArr K (aM 15) 2824 (M2 14), wArr K (aM 12) 353 u])) (wn := (fl [wModel K aM (va_up M2 11 z3) ML])) hP hD hS hA [5, 2] [0, 1, 3, 4, 6, 7, 8] [0, 1, 8, 2, 3, 7, 4, 5, 6] rfl (by decide) rfl (by decide) (by decide) rfl (by decide) (fun hPc hDc => va_runS (As := [.ref (aM 15), .int ((nI 353) * (M2 15 0)), .ref (aM 12), .int (nI 0)]) (rest := []) C0.1 (ctX6_copy l D K 2824 353 N (aM 15) (aM 12) (M2 14) (M2 11) ((nI 353) * (M2 15 0)) (nI 0) H.size z3 hz3) (va_cwS 4 C0.1.2.2.2.2 (gdS wd20_0 wd20_1 wd1_5 wd20_2) rfl rfl rfl (by decide +kernel) ⟨Nat.le_of_ble_eq_true rfl, Nat.le_of_ble_eq_true rfl⟩) ⟨pcW_blind, pcW_of hPc hDc C0.2.2.2⟩ rfl rfl hl.1 rfl (lv_room (Nat.le_of_ble_eq_true rfl)) dX6_undo_41 ⟨Nat.zero_le _, Nat.zero_le _⟩) (fun H locs hP hD hS => ?_)
    refine nm_w h (fun uu => (fl [wModel K aM uu ML])) hP hD (fun M4 h hP hD => ?_)
    refine r_aload_n C0 dX6_undo_44 hl 0 rfl ?_
    refine r_get C0 6 inx6 hP 0 rfl rfl 15 (by decide) (mc wd15_15) (.int (M4 15 0)) rfl dX6_undo_45 ?_
    exact r_iret h C0 (fun (u : Rc) => (fl [wModel K aM u ML])) hP hD hS dX6_undo_48
  · refine r_iconst C0 (-1 : Int32) dX6_undo_12 (by decide) ?_
    exact r_iret h C0 (fun (u : Rc) => (fl [wModel K aM u ML])) hP hD hS dX6_undo_13
set_option maxHeartbeats 1000000 in
set_option maxRecDepth 10000 in
theorem ctX6_undo (l : Launch) (D : va_G) (K : Nat → ClassId) (N : Nat) (aM : Nat → Nat) (M : Rc) (ML : RcL) (sz : Nat) (z : Int32 × (Rc)) (hz : fX6_undo N M ML = some z) : Met l yX6_undo wsX6_undo rmX6_undo (pcW D K [.ref (aM 0)] (fl [wModel K aM M ML]) sz) (qcI D z (fun (u : Rc) => (fl [wModel K aM u ML])) (va_A (fl [wModel K aM M ML]) sz)) 0 0 (va_A (fl [wModel K aM M ML]) sz) := by
  refine Met.ofW (cc := cX6_undo) (maxL := 1) (ret := (some .int)) (by decide) rfl ?_
  intro p e s m args below meth c s₁ B hml hv
  obtain ⟨rfl, hsz, hP, hK, hD0⟩ := hv
  subst hsz
  have C0 : cx p s m _ meth c cX6_undo 1 RX6 wsX6_undo (some .int) D K := ⟨⟨B.exec, B.bytes, hml, findClass_of_methodNamed B.named, atoms_spec (ws := wsX6_undo) B.pre⟩, B.returns, B.notSynchronized, hK⟩
  have hD := hD0.self (sz := s.heap.size)
  generalize hAe : va_A (fl [wModel K aM M ML]) s.heap.size = A at hD ⊢
  have hA : ∀ q : Nat, s.heap.size ≤ q → A q := fun q h => by rw [← hAe]; exact Or.inr h
  have hl := lv_entry ([.ref (aM 0)]) (n := 1) (Nat.le_of_ble_eq_true rfl)
  rw [lg_entry_eq]
  generalize (lg_sl ([.ref (aM 0)]) ++ List.replicate (1 - (lg_sl ([.ref (aM 0)])).length) Slot.unset).toArray = ls at hl ⊢
  have hl : lv_has ls 1 [(0, .ref (aM 0))] := hl
  exact wX6_undo_0 C0 hA M ML hz s.heap [] hP hD va_S.rf ls (lv_sub hl [0] rfl)
end SX6_undo
