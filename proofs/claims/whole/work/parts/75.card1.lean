section SX5_putBytes
/-! CardLoops.putBytes(I)V -/
abbrev wsX5_putBytes : List Cond := Cond.code yX5_putBytes cX5_putBytes 3 none :: wsL_law0
abbrev rmX5_putBytes : Room := { frames := 0, cells := 0, slots := 0, locals := 0 }
variable {p : Program} {l : Launch} {e : Env} {s : State} {m : MethodId} {args : Array Value} {below : List Frame} {meth : Method} {c : Code} {D : va_G} {K : Nat → ClassId} {A : Nat → Prop} {N : Nat} {aX : Nat → Nat} {aT : Nat} {rX2 : Nat} {rX3 : Nat} {rX4 : Nat} {rX5 : Nat} {rX7 : Nat} {rX8 : Nat} {z : Rc × (Nat → Int32)}
def IX5_putBytes_3 (p : Program) (l : Launch) (e : Env) (s : State) (m : MethodId) (args : Array Value) (below : List Frame) (meth : Method) (c : Code) (D : va_G) (K : Nat → ClassId) (aX : Nat → Nat) (aT : Nat) (rX2 : Nat) (rX3 : Nat) (rX4 : Nat) (rX5 : Nat) (rX7 : Nat) (rX8 : Nat) (A : Nat → Prop) (z : Rc × (Nat → Int32)) (k : Rc → (Nat → Int32) → Int32 → Int32 → Option (Rc × (Nat → Int32))) : Prop := ∀ (X : Rc) (T : Nat → Int32) (x1 : Int32) (x2 : Int32) (H : Heap) (locs : List Loc) (ls : Array Slot), k X T x1 x2 = some z → va_P D vwCl (fl [wCard K aX aT rX2 rX3 rX4 rX5 rX7 rX8 X, wArr K aT 440 T]) H → va_D A (fl [wCard K aX aT rX2 rX3 rX4 rX5 rX7 rX8 X, wArr K aT 440 T]) → va_S A s.heap H locs → lv_has ls 3 [(0, .ref (aX 0)), (1, .int x1), (2, .int x2)] → W p l e rmX5_putBytes s m args below meth c H locs 0 0 (MQ below (qcV D z (fun (u : Rc × (Nat → Int32)) => (fl [wCard K aX aT rX2 rX3 rX4 rX5 rX7 rX8 u.1, wArr K aT 440 u.2])) A) args s 0 0 A) (F0 m 3 ls [])
set_option maxHeartbeats 1000000 in
set_option maxRecDepth 10000 in
theorem wX5_putBytes_3 (C0 : cx p s m args meth c cX5_putBytes 3 RX5 wsX5_putBytes none D K) (hA : ∀ q, s.heap.size ≤ q → A q) {k3 : Rc → (Nat → Int32) → Int32 → Int32 → Option (Rc × (Nat → Int32))} (hk3 : IX5_putBytes_3 p l e s m args below meth c D K aX aT rX2 rX3 rX4 rX5 rX7 rX8 A z k3) (X : Rc) (T : Nat → Int32) (x1 : Int32) (x2 : Int32) (h : fX5_putBytes_3b N k3 X T x1 x2 = some z) (H : Heap) (locs : List Loc) (hP : va_P D vwCl (fl [wCard K aX aT rX2 rX3 rX4 rX5 rX7 rX8 X, wArr K aT 440 T]) H) (hD : va_D A (fl [wCard K aX aT rX2 rX3 rX4 rX5 rX7 rX8 X, wArr K aT 440 T])) (hS : va_S A s.heap H locs) (ls : Array Slot) (hl : lv_has ls 3 [(0, .ref (aX 0)), (1, .int x1), (2, .int x2)]) : W p l e rmX5_putBytes s m args below meth c H locs 0 0 (MQ below (qcV D z (fun (u : Rc × (Nat → Int32)) => (fl [wCard K aX aT rX2 rX3 rX4 rX5 rX7 rX8 u.1, wArr K aT 440 u.2])) A) args s 0 0 A) (F0 m 3 ls []) := by
  unfold fX5_putBytes_3b at h
  refine r_iload_n C0 dX5_putBytes_3 hl 2 rfl ?_
  refine r_if_lt h C0 49 dX5_putBytes_4 (by decide) (fun h => ?_) (fun h => ?_)
  · exact r_vret h C0 (fun (u : Rc × (Nat → Int32)) => (fl [wCard K aX aT rX2 rX3 rX4 rX5 rX7 rX8 u.1, wArr K aT 440 u.2])) hP hD hS dX5_putBytes_49
  · refine r_aload_n C0 dX5_putBytes_7 hl 0 rfl ?_
    refine r_get C0 5 inx5 hP 0 rfl rfl 1 (by decide) (mc wd1_13) (.int (X 1 0)) rfl dX5_putBytes_8 ?_
    refine r_sipush C0 (nI 440) dX5_putBytes_11 (by decide) ?_
    refine r_icmp_ge h C0 49 dX5_putBytes_14 (by decide) (fun h => ?_) (fun h => ?_)
    · exact r_vret h C0 (fun (u : Rc × (Nat → Int32)) => (fl [wCard K aX aT rX2 rX3 rX4 rX5 rX7 rX8 u.1, wArr K aT 440 u.2])) hP hD hS dX5_putBytes_49
    · refine r_aload_n C0 dX5_putBytes_17 hl 0 rfl ?_
      refine r_get C0 5 inx5 hP 0 rfl rfl 0 (by decide) (mc wd2_0) (.ref aT) rfl dX5_putBytes_18 ?_
      refine r_aload_n C0 dX5_putBytes_21 hl 0 rfl ?_
      refine r_get C0 5 inx5 hP 0 rfl rfl 1 (by decide) (mc wd1_13) (.int (X 1 0)) rfl dX5_putBytes_22 ?_
      refine r_iload_n C0 dX5_putBytes_25 hl 1 rfl ?_
      refine r_iload_n C0 dX5_putBytes_26 hl 2 rfl ?_
      refine r_iushr C0 dX5_putBytes_27 ?_
      refine r_sipush C0 (nI 255) dX5_putBytes_28 (by decide) ?_
      refine r_iand C0 dX5_putBytes_31 ?_
      refine r_iast h C0 hP hD hS 4 (fun uu => (fl [wCard K aX aT rX2 rX3 rX4 rX5 rX7 rX8 X, wArr K aT 440 uu])) rfl rfl dX5_putBytes_32 (fun T1 H locs h hP hD hS => ?_)
      refine r_aload_n C0 dX5_putBytes_33 hl 0 rfl ?_
      refine r_dup C0 dX5_putBytes_34 rfl ?_
      refine r_get C0 5 inx5 hP 0 rfl rfl 1 (by decide) (mc wd1_13) (.int (X 1 0)) rfl dX5_putBytes_35 ?_
      refine r_iconst C0 (nI 1) dX5_putBytes_38 (by decide) ?_
      refine r_iadd C0 dX5_putBytes_39 ?_
      refine r_put (ty := .int) h C0 5 inx5 tyX5 tyX5_ok nmX5 hP hD hS 0 (fun uu => (fl [wCard K aX aT rX2 rX3 rX4 rX5 rX7 rX8 uu, wArr K aT 440 T1])) rfl rfl 1 (by decide) (mc wd1_13) rfl (by decide +kernel) rfl rfl (by simp) rfl dX5_putBytes_40 (fun X2 H locs h hP hD hS => ?_)
      refine r_iinc h C0 2 (fun v3 => [(2, .int v3), (0, .ref (aX 0)), (1, .int x1)]) dX5_putBytes_43 hl rfl rfl (by decide) (fun _ => rfl) (fun v3 ls h hl => ?_)
      refine r_goto C0 3 dX5_putBytes_46 (by decide) ?_
      exact hk3 X2 T1 x1 v3 _ _ _ h hP hD hS (lv_sub hl [1, 2, 0] rfl)
theorem wX5_putBytes_3L (C0 : cx p s m args meth c cX5_putBytes 3 RX5 wsX5_putBytes none D K) (hA : ∀ q, s.heap.size ≤ q → A q) : IX5_putBytes_3 p l e s m args below meth c D K aX aT rX2 rX3 rX4 rX5 rX7 rX8 A z (fX5_putBytes_3 N) := by
  refine itn_ind (IX5_putBytes_3 p l e s m args below meth c D K aX aT rX2 rX3 rX4 rX5 rX7 rX8 A z) ?_ ?_ N
  · intro _ _ _ _ _ _ _ h; cases h
  · intro k3 hk3 X T x1 x2 H locs ls h hP hD hS hl
    exact wX5_putBytes_3 C0 hA hk3 X T x1 x2 h H locs hP hD hS ls hl
set_option maxHeartbeats 1000000 in
set_option maxRecDepth 10000 in
theorem wX5_putBytes_0 (C0 : cx p s m args meth c cX5_putBytes 3 RX5 wsX5_putBytes none D K) (hA : ∀ q, s.heap.size ≤ q → A q) (X : Rc) (T : Nat → Int32) (x1 : Int32) (h : fX5_putBytes N X T x1 = some z) (H : Heap) (locs : List Loc) (hP : va_P D vwCl (fl [wCard K aX aT rX2 rX3 rX4 rX5 rX7 rX8 X, wArr K aT 440 T]) H) (hD : va_D A (fl [wCard K aX aT rX2 rX3 rX4 rX5 rX7 rX8 X, wArr K aT 440 T])) (hS : va_S A s.heap H locs) (ls : Array Slot) (hl : lv_has ls 3 [(0, .ref (aX 0)), (1, .int x1)]) : W p l e rmX5_putBytes s m args below meth c H locs 0 0 (MQ below (qcV D z (fun (u : Rc × (Nat → Int32)) => (fl [wCard K aX aT rX2 rX3 rX4 rX5 rX7 rX8 u.1, wArr K aT 440 u.2])) A) args s 0 0 A) (F0 m 0 ls []) := by
  unfold fX5_putBytes at h
  refine r_bipush C0 (nI 24) dX5_putBytes_0 (by decide) ?_
  refine r_istore_n h C0 (fun v1 => [(2, .int v1), (0, .ref (aX 0)), (1, .int x1)]) dX5_putBytes_2 hl (by decide) (fun _ => rfl) (fun v1 ls h hl => ?_)
  exact wX5_putBytes_3L C0 hA X T x1 v1 _ _ _ h hP hD hS (lv_sub hl [1, 2, 0] rfl)
set_option maxHeartbeats 1000000 in
set_option maxRecDepth 10000 in
theorem ctX5_putBytes (l : Launch) (D : va_G) (K : Nat → ClassId) (N : Nat) (aX : Nat → Nat) (aT : Nat) (rX2 : Nat) (rX3 : Nat) (rX4 : Nat) (rX5 : Nat) (rX7 : Nat) (rX8 : Nat) (X : Rc) (T : Nat → Int32) (p1 : Int32) (sz : Nat) (z : Rc × (Nat → Int32)) (hz : fX5_putBytes N X T p1 = some z) : Met l yX5_putBytes wsX5_putBytes rmX5_putBytes (pcW D K [.ref (aX 0), .int p1] (fl [wCard K aX aT rX2 rX3 rX4 rX5 rX7 rX8 X, wArr K aT 440 T]) sz) (qcV D z (fun (u : Rc × (Nat → Int32)) => (fl [wCard K aX aT rX2 rX3 rX4 rX5 rX7 rX8 u.1, wArr K aT 440 u.2])) (va_A (fl [wCard K aX aT rX2 rX3 rX4 rX5 rX7 rX8 X, wArr K aT 440 T]) sz)) 0 0 (va_A (fl [wCard K aX aT rX2 rX3 rX4 rX5 rX7 rX8 X, wArr K aT 440 T]) sz) := by
  refine Met.ofW (cc := cX5_putBytes) (maxL := 3) (ret := none) (by decide) rfl ?_
  intro p e s m args below meth c s₁ B hml hv
  obtain ⟨rfl, hsz, hP, hK, hD0⟩ := hv
  subst hsz
  have C0 : cx p s m _ meth c cX5_putBytes 3 RX5 wsX5_putBytes none D K := ⟨⟨B.exec, B.bytes, hml, findClass_of_methodNamed B.named, atoms_spec (ws := wsX5_putBytes) B.pre⟩, B.returns, B.notSynchronized, hK⟩
  have hD := hD0.self (sz := s.heap.size)
  generalize hAe : va_A (fl [wCard K aX aT rX2 rX3 rX4 rX5 rX7 rX8 X, wArr K aT 440 T]) s.heap.size = A at hD ⊢
  have hA : ∀ q : Nat, s.heap.size ≤ q → A q := fun q h => by rw [← hAe]; exact Or.inr h
  have hl := lv_entry ([.ref (aX 0), .int p1]) (n := 3) (Nat.le_of_ble_eq_true rfl)
  rw [lg_entry_eq]
  generalize (lg_sl ([.ref (aX 0), .int p1]) ++ List.replicate (3 - (lg_sl ([.ref (aX 0), .int p1])).length) Slot.unset).toArray = ls at hl ⊢
  have hl : lv_has ls 3 [(0, .ref (aX 0)), (1, .int p1)] := hl
  exact wX5_putBytes_0 C0 hA X T p1 hz s.heap [] hP hD va_S.rf ls (lv_sub hl [0, 1] rfl)
end SX5_putBytes

section SX5_feed
/-! CardLoops.feed(IIIII)I -/
abbrev wsX5_feed : List Cond := Cond.code yX5_feed cX5_feed 6 (some .int) :: wsL_law0
abbrev rmX5_feed : Room := { frames := 1, cells := 0, slots := 0, locals := 22 }
variable {p : Program} {l : Launch} {e : Env} {s : State} {m : MethodId} {args : Array Value} {below : List Frame} {meth : Method} {c : Code} {D : va_G} {K : Nat → ClassId} {A : Nat → Prop} {N : Nat} {aX : Nat → Nat} {aT : Nat} {rX2 : Nat} {rX3 : Nat} {rX4 : Nat} {rX5 : Nat} {rX7 : Nat} {rX8 : Nat} {z : Int32 × (Rc × (Nat → Int32))}
set_option maxHeartbeats 1000000 in
set_option maxRecDepth 10000 in
theorem wX5_feed_0 (C0 : cx p s m args meth c cX5_feed 6 RX5 wsX5_feed (some .int) D K) (hA : ∀ q, s.heap.size ≤ q → A q) (X : Rc) (T : Nat → Int32) (x1 : Int32) (x2 : Int32) (x3 : Int32) (x4 : Int32) (x5 : Int32) (h : fX5_feed N X T x1 x2 x3 x4 x5 = some z) (H : Heap) (locs : List Loc) (hP : va_P D vwCl (fl [wCard K aX aT rX2 rX3 rX4 rX5 rX7 rX8 X, wArr K aT 440 T]) H) (hD : va_D A (fl [wCard K aX aT rX2 rX3 rX4 rX5 rX7 rX8 X, wArr K aT 440 T])) (hS : va_S A s.heap H locs) (ls : Array Slot) (hl : lv_has ls 6 [(0, .ref (aX 0)), (1, .int x1), (2, .int x2), (3, .int x3), (4, .int x4), (5, .int x5)]) : W p l e rmX5_feed s m args below meth c H locs 0 0 (MQ below (qcI D z (fun (u : Rc × (Nat → Int32)) => (fl [wCard K aX aT rX2 rX3 rX4 rX5 rX7 rX8 u.1, wArr K aT 440 u.2])) A) args s 0 0 A) (F0 m 0 ls []) := by
  unfold fX5_feed at h
  refine r_aload_n C0 dX5_feed_0 hl 0 rfl ?_
  refine r_get C0 5 inx5 hP 0 rfl rfl 1 (by decide) (mc wd1_13) (.int (X 1 0)) rfl dX5_feed_1 ?_
  refine r_sipush C0 (nI 420) dX5_feed_4 (by decide) ?_
  refine r_icmp_le h C0 12 dX5_feed_7 (by decide) (fun h => ?_) (fun h => ?_)
  · refine r_aload_n C0 dX5_feed_12 hl 0 rfl ?_
    refine r_iload_n C0 dX5_feed_13 hl 1 rfl ?_
    obtain ⟨z1, hz1, h⟩ := bnd_some h
    refine r_callVC (Wc := [wCard K aX aT rX2 rX3 rX4 rX5 rX7 rX8 X, wArr K aT 440 T]) (wf := fun (u : Rc × (Nat → Int32)) => [wCard K aX aT rX2 rX3 rX4 rX5 rX7 rX8 u.1, wArr K aT 440 u.2]) (Wn := [wCard K aX aT rX2 rX3 rX4 rX5 rX7 rX8 z1.1, wArr K aT 440 z1.2]) hP hD hS hA [0, 1] [] [0, 1] 2 rfl rfl (by decide) rfl rfl (by decide) (fun hPc hDc hFc => va_runV (As := [.int x1]) (rest := []) C0.1 (ctX5_putBytes l D K N aX aT rX2 rX3 rX4 rX5 rX7 rX8 X T x1 H.size z1 hz1) (cwV 1 C0.1.2.2.2.2 (gdV wd6_2 wd6_3 wd6_4 wd1_2 wd6_5) rfl rfl rfl (by decide +kernel) ⟨Nat.le_of_ble_eq_true rfl, Nat.le_of_ble_eq_true rfl⟩) ⟨pcW_blind, va_recv C0.2.2.2.1 hPc (ci := 5) (q0 := 0) rfl rfl, pcW_of hPc hDc C0.2.2.2⟩ rfl rfl hl.1 rfl (lv_room (Nat.le_of_ble_eq_true rfl)) dX5_feed_14 ⟨Nat.zero_le _, Nat.zero_le _⟩) (fun H locs hP hD hS => ?_)
    refine r_aload_n C0 dX5_feed_17 hl 0 rfl ?_
    refine r_iload_n C0 dX5_feed_18 hl 2 rfl ?_
    obtain ⟨z2, hz2, h⟩ := bnd_some h
    refine r_callVC (Wc := [wCard K aX aT rX2 rX3 rX4 rX5 rX7 rX8 z1.1, wArr K aT 440 z1.2]) (wf := fun (u : Rc × (Nat → Int32)) => [wCard K aX aT rX2 rX3 rX4 rX5 rX7 rX8 u.1, wArr K aT 440 u.2]) (Wn := [wCard K aX aT rX2 rX3 rX4 rX5 rX7 rX8 z2.1, wArr K aT 440 z2.2]) hP hD hS hA [0, 1] [] [0, 1] 2 rfl rfl (by decide) rfl rfl (by decide) (fun hPc hDc hFc => va_runV (As := [.int x2]) (rest := []) C0.1 (ctX5_putBytes l D K N aX aT rX2 rX3 rX4 rX5 rX7 rX8 z1.1 z1.2 x2 H.size z2 hz2) (cwV 1 C0.1.2.2.2.2 (gdV wd6_2 wd6_3 wd6_4 wd1_2 wd6_5) rfl rfl rfl (by decide +kernel) ⟨Nat.le_of_ble_eq_true rfl, Nat.le_of_ble_eq_true rfl⟩) ⟨pcW_blind, va_recv C0.2.2.2.1 hPc (ci := 5) (q0 := 0) rfl rfl, pcW_of hPc hDc C0.2.2.2⟩ rfl rfl hl.1 rfl (lv_room (Nat.le_of_ble_eq_true rfl)) dX5_feed_19 ⟨Nat.zero_le _, Nat.zero_le _⟩) (fun H locs hP hD hS => ?_)
    refine r_aload_n C0 dX5_feed_22 hl 0 rfl ?_
    refine r_iload_n C0 dX5_feed_23 hl 3 rfl ?_
    obtain ⟨z3, hz3, h⟩ := bnd_some h
    refine r_callVC (Wc := [wCard K aX aT rX2 rX3 rX4 rX5 rX7 rX8 z2.1, wArr K aT 440 z2.2]) (wf := fun (u : Rc × (Nat → Int32)) => [wCard K aX aT rX2 rX3 rX4 rX5 rX7 rX8 u.1, wArr K aT 440 u.2]) (Wn := [wCard K aX aT rX2 rX3 rX4 rX5 rX7 rX8 z3.1, wArr K aT 440 z3.2]) hP hD hS hA [0, 1] [] [0, 1] 2 rfl rfl (by decide) rfl rfl (by decide) (fun hPc hDc hFc => va_runV (As := [.int x3]) (rest := []) C0.1 (ctX5_putBytes l D K N aX aT rX2 rX3 rX4 rX5 rX7 rX8 z2.1 z2.2 x3 H.size z3 hz3) (cwV 1 C0.1.2.2.2.2 (gdV wd6_2 wd6_3 wd6_4 wd1_2 wd6_5) rfl rfl rfl (by decide +kernel) ⟨Nat.le_of_ble_eq_true rfl, Nat.le_of_ble_eq_true rfl⟩) ⟨pcW_blind, va_recv C0.2.2.2.1 hPc (ci := 5) (q0 := 0) rfl rfl, pcW_of hPc hDc C0.2.2.2⟩ rfl rfl hl.1 rfl (lv_room (Nat.le_of_ble_eq_true rfl)) dX5_feed_24 ⟨Nat.zero_le _, Nat.zero_le _⟩) (fun H locs hP hD hS => ?_)
    refine r_aload_n C0 dX5_feed_27 hl 0 rfl ?_
    refine r_iload C0 dX5_feed_28 hl 4 rfl ?_
    obtain ⟨z4, hz4, h⟩ := bnd_some h
    refine r_callVC (Wc := [wCard K aX aT rX2 rX3 rX4 rX5 rX7 rX8 z3.1, wArr K aT 440 z3.2]) (wf := fun (u : Rc × (Nat → Int32)) => [wCard K aX aT rX2 rX3 rX4 rX5 rX7 rX8 u.1, wArr K aT 440 u.2]) (Wn := [wCard K aX aT rX2 rX3 rX4 rX5 rX7 rX8 z4.1, wArr K aT 440 z4.2]) hP hD hS hA [0, 1] [] [0, 1] 2 rfl rfl (by decide) rfl rfl (by decide) (fun hPc hDc hFc => va_runV (As := [.int x4]) (rest := []) C0.1 (ctX5_putBytes l D K N aX aT rX2 rX3 rX4 rX5 rX7 rX8 z3.1 z3.2 x4 H.size z4 hz4) (cwV 1 C0.1.2.2.2.2 (gdV wd6_2 wd6_3 wd6_4 wd1_2 wd6_5) rfl rfl rfl (by decide +kernel) ⟨Nat.le_of_ble_eq_true rfl, Nat.le_of_ble_eq_true rfl⟩) ⟨pcW_blind, va_recv C0.2.2.2.1 hPc (ci := 5) (q0 := 0) rfl rfl, pcW_of hPc hDc C0.2.2.2⟩ rfl rfl hl.1 rfl (lv_room (Nat.le_of_ble_eq_true rfl)) dX5_feed_30 ⟨Nat.zero_le _, Nat.zero_le _⟩) (fun H locs hP hD hS => ?_)
    refine r_aload_n C0 dX5_feed_33 hl 0 rfl ?_
    refine r_iload C0 dX5_feed_34 hl 5 rfl ?_
    obtain ⟨z5, hz5, h⟩ := bnd_some h
    refine r_callVC (Wc := [wCard K aX aT rX2 rX3 rX4 rX5 rX7 rX8 z4.1, wArr K aT 440 z4.2]) (wf := fun (u : Rc × (Nat → Int32)) => [wCard K aX aT rX2 rX3 rX4 rX5 rX7 rX8 u.1, wArr K aT 440 u.2]) (Wn := [wCard K aX aT rX2 rX3 rX4 rX5 rX7 rX8 z5.1, wArr K aT 440 z5.2]) hP hD hS hA [0, 1] [] [0, 1] 2 rfl rfl (by decide) rfl rfl (by decide) (fun hPc hDc hFc => va_runV (As := [.int x5]) (rest := []) C0.1 (ctX5_putBytes l D K N aX aT rX2 rX3 rX4 rX5 rX7 rX8 z4.1 z4.2 x5 H.size z5 hz5) (cwV 1 C0.1.2.2.2.2 (gdV wd6_2 wd6_3 wd6_4 wd1_2 wd6_5) rfl rfl rfl (by decide +kernel) ⟨Nat.le_of_ble_eq_true rfl, Nat.le_of_ble_eq_true rfl⟩) ⟨pcW_blind, va_recv C0.2.2.2.1 hPc (ci := 5) (q0 := 0) rfl rfl, pcW_of hPc hDc C0.2.2.2⟩ rfl rfl hl.1 rfl (lv_room (Nat.le_of_ble_eq_true rfl)) dX5_feed_36 ⟨Nat.zero_le _, Nat.zero_le _⟩) (fun H locs hP hD hS => ?_)
    refine r_aload_n C0 dX5_feed_39 hl 0 rfl ?_
    refine r_get C0 5 inx5 hP 0 rfl rfl 1 (by decide) (mc wd1_13) (.int (z5.1 1 0)) rfl dX5_feed_40 ?_
    exact r_iret h C0 (fun (u : Rc × (Nat → Int32)) => (fl [wCard K aX aT rX2 rX3 rX4 rX5 rX7 rX8 u.1, wArr K aT 440 u.2])) hP hD hS dX5_feed_43
  · refine r_iconst C0 (-1 : Int32) dX5_feed_10 (by decide) ?_
    exact r_iret h C0 (fun (u : Rc × (Nat → Int32)) => (fl [wCard K aX aT rX2 rX3 rX4 rX5 rX7 rX8 u.1, wArr K aT 440 u.2])) hP hD hS dX5_feed_11
set_option maxHeartbeats 1000000 in
set_option maxRecDepth 10000 in
theorem ctX5_feed (l : Launch) (D : va_G) (K : Nat → ClassId) (N : Nat) (aX : Nat → Nat) (aT : Nat) (rX2 : Nat) (rX3 : Nat) (rX4 : Nat) (rX5 : Nat) (rX7 : Nat) (rX8 : Nat) (X : Rc) (T : Nat → Int32) (p1 : Int32) (p2 : Int32) (p3 : Int32) (p4 : Int32) (p5 : Int32) (sz : Nat) (z : Int32 × (Rc × (Nat → Int32))) (hz : fX5_feed N X T p1 p2 p3 p4 p5 = some z) : Met l yX5_feed wsX5_feed rmX5_feed (pcW D K [.ref (aX 0), .int p1, .int p2, .int p3, .int p4, .int p5] (fl [wCard K aX aT rX2 rX3 rX4 rX5 rX7 rX8 X, wArr K aT 440 T]) sz) (qcI D z (fun (u : Rc × (Nat → Int32)) => (fl [wCard K aX aT rX2 rX3 rX4 rX5 rX7 rX8 u.1, wArr K aT 440 u.2])) (va_A (fl [wCard K aX aT rX2 rX3 rX4 rX5 rX7 rX8 X, wArr K aT 440 T]) sz)) 0 0 (va_A (fl [wCard K aX aT rX2 rX3 rX4 rX5 rX7 rX8 X, wArr K aT 440 T]) sz) := by
  refine Met.ofW (cc := cX5_feed) (maxL := 6) (ret := (some .int)) (by decide) rfl ?_
  intro p e s m args below meth c s₁ B hml hv
  obtain ⟨rfl, hsz, hP, hK, hD0⟩ := hv
  subst hsz
  have C0 : cx p s m _ meth c cX5_feed 6 RX5 wsX5_feed (some .int) D K := ⟨⟨B.exec, B.bytes, hml, findClass_of_methodNamed B.named, atoms_spec (ws := wsX5_feed) B.pre⟩, B.returns, B.notSynchronized, hK⟩
  have hD := hD0.self (sz := s.heap.size)
  generalize hAe : va_A (fl [wCard K aX aT rX2 rX3 rX4 rX5 rX7 rX8 X, wArr K aT 440 T]) s.heap.size = A at hD ⊢
  have hA : ∀ q : Nat, s.heap.size ≤ q → A q := fun q h => by rw [← hAe]; exact Or.inr h
  have hl := lv_entry ([.ref (aX 0), .int p1, .int p2, .int p3, .int p4, .int p5]) (n := 6) (Nat.le_of_ble_eq_true rfl)
  rw [lg_entry_eq]
  generalize (lg_sl ([.ref (aX 0), .int p1, .int p2, .int p3, .int p4, .int p5]) ++ List.replicate (6 - (lg_sl ([.ref (aX 0), .int p1, .int p2, .int p3, .int p4, .int p5])).length) Slot.unset).toArray = ls at hl ⊢
  have hl : lv_has ls 6 [(0, .ref (aX 0)), (1, .int p1), (2, .int p2), (3, .int p3), (4, .int p4), (5, .int p5)] := hl
  exact wX5_feed_0 C0 hA X T p1 p2 p3 p4 p5 hz s.heap [] hP hD va_S.rf ls (lv_sub hl [0, 1, 2, 3, 4, 5] rfl)
end SX5_feed

section SX5_end
/-! CardLoops.end(I)Z -/
abbrev wsX5_end : List Cond := Cond.code yX5_end cX5_end 2 (some .boolean) :: wsL_law0
abbrev rmX5_end : Room := { frames := 0, cells := 0, slots := 0, locals := 0 }
variable {p : Program} {l : Launch} {e : Env} {s : State} {m : MethodId} {args : Array Value} {below : List Frame} {meth : Method} {c : Code} {D : va_G} {K : Nat → ClassId} {A : Nat → Prop} {aX : Nat → Nat} {rX0 : Nat} {rX2 : Nat} {rX3 : Nat} {rX4 : Nat} {rX5 : Nat} {rX7 : Nat} {rX8 : Nat} {z : Int32 × (Rc)}
set_option maxHeartbeats 1000000 in
set_option maxRecDepth 10000 in
theorem wX5_end_12 (C0 : cx p s m args meth c cX5_end 2 RX5 wsX5_end (some .boolean) D K) (hA : ∀ q, s.heap.size ≤ q → A q) (X : Rc) (h : fX5_end_12 X = some z) (H : Heap) (locs : List Loc) (hP : va_P D vwCl (fl [wCard K aX rX0 rX2 rX3 rX4 rX5 rX7 rX8 X]) H) (hD : va_D A (fl [wCard K aX rX0 rX2 rX3 rX4 rX5 rX7 rX8 X])) (hS : va_S A s.heap H locs) (ls : Array Slot) (hl : lv_has ls 2 []) : W p l e rmX5_end s m args below meth c H locs 0 0 (MQ below (qcI D z (fun (u : Rc) => (fl [wCard K aX rX0 rX2 rX3 rX4 rX5 rX7 rX8 u])) A) args s 0 0 A) (F0 m 12 ls []) := by
  unfold fX5_end_12 at h
  refine r_iconst C0 (nI 0) dX5_end_12 (by decide) ?_
  exact r_zretC h (by decide) C0 (fun (u : Rc) => (fl [wCard K aX rX0 rX2 rX3 rX4 rX5 rX7 rX8 u])) hP hD hS dX5_end_13
set_option maxHeartbeats 1000000 in
set_option maxRecDepth 10000 in
theorem wX5_end_0 (C0 : cx p s m args meth c cX5_end 2 RX5 wsX5_end (some .boolean) D K) (hA : ∀ q, s.heap.size ≤ q → A q) (X : Rc) (x1 : Int32) (h : fX5_end X x1 = some z) (H : Heap) (locs : List Loc) (hP : va_P D vwCl (fl [wCard K aX rX0 rX2 rX3 rX4 rX5 rX7 rX8 X]) H) (hD : va_D A (fl [wCard K aX rX0 rX2 rX3 rX4 rX5 rX7 rX8 X])) (hS : va_S A s.heap H locs) (ls : Array Slot) (hl : lv_has ls 2 [(0, .ref (aX 0)), (1, .int x1)]) : W p l e rmX5_end s m args below meth c H locs 0 0 (MQ below (qcI D z (fun (u : Rc) => (fl [wCard K aX rX0 rX2 rX3 rX4 rX5 rX7 rX8 u])) A) args s 0 0 A) (F0 m 0 ls []) := by
  unfold fX5_end at h
  refine r_iload_n C0 dX5_end_0 hl 1 rfl ?_
  refine r_if_lt h C0 12 dX5_end_1 (by decide) (fun h => ?_) (fun h => ?_)
  · exact wX5_end_12 C0 hA X h _ _ hP hD hS _ (lv_sub hl [] rfl)
  · refine r_iload_n C0 dX5_end_4 hl 1 rfl ?_
    refine r_aload_n C0 dX5_end_5 hl 0 rfl ?_
    refine r_get C0 5 inx5 hP 0 rfl rfl 1 (by decide) (mc wd1_13) (.int (X 1 0)) rfl dX5_end_6 ?_
    refine r_icmp_le h C0 14 dX5_end_9 (by decide) (fun h => ?_) (fun h => ?_)
    · refine r_aload_n C0 dX5_end_14 hl 0 rfl ?_
      refine r_iload_n C0 dX5_end_15 hl 1 rfl ?_
      refine r_put (ty := .int) h C0 5 inx5 tyX5 tyX5_ok nmX5 hP hD hS 0 (fun uu => (fl [wCard K aX rX0 rX2 rX3 rX4 rX5 rX7 rX8 uu])) rfl rfl 1 (by decide) (mc wd1_13) rfl (by decide +kernel) rfl rfl (by simp) rfl dX5_end_16 (fun X1 H locs h hP hD hS => ?_)
      refine r_iconst C0 (nI 1) dX5_end_19 (by decide) ?_
      exact r_zretC h (by decide) C0 (fun (u : Rc) => (fl [wCard K aX rX0 rX2 rX3 rX4 rX5 rX7 rX8 u])) hP hD hS dX5_end_20
    · exact wX5_end_12 C0 hA X h _ _ hP hD hS _ (lv_sub hl [] rfl)
set_option maxHeartbeats 1000000 in
set_option maxRecDepth 10000 in
theorem ctX5_end (l : Launch) (D : va_G) (K : Nat → ClassId) (aX : Nat → Nat) (rX0 : Nat) (rX2 : Nat) (rX3 : Nat) (rX4 : Nat) (rX5 : Nat) (rX7 : Nat) (rX8 : Nat) (X : Rc) (p1 : Int32) (sz : Nat) (z : Int32 × (Rc)) (hz : fX5_end X p1 = some z) : Met l yX5_end wsX5_end rmX5_end (pcW D K [.ref (aX 0), .int p1] (fl [wCard K aX rX0 rX2 rX3 rX4 rX5 rX7 rX8 X]) sz) (qcI D z (fun (u : Rc) => (fl [wCard K aX rX0 rX2 rX3 rX4 rX5 rX7 rX8 u])) (va_A (fl [wCard K aX rX0 rX2 rX3 rX4 rX5 rX7 rX8 X]) sz)) 0 0 (va_A (fl [wCard K aX rX0 rX2 rX3 rX4 rX5 rX7 rX8 X]) sz) := by
  refine Met.ofW (cc := cX5_end) (maxL := 2) (ret := (some .boolean)) (by decide) rfl ?_
  intro p e s m args below meth c s₁ B hml hv
  obtain ⟨rfl, hsz, hP, hK, hD0⟩ := hv
  subst hsz
  have C0 : cx p s m _ meth c cX5_end 2 RX5 wsX5_end (some .boolean) D K := ⟨⟨B.exec, B.bytes, hml, findClass_of_methodNamed B.named, atoms_spec (ws := wsX5_end) B.pre⟩, B.returns, B.notSynchronized, hK⟩
  have hD := hD0.self (sz := s.heap.size)
  generalize hAe : va_A (fl [wCard K aX rX0 rX2 rX3 rX4 rX5 rX7 rX8 X]) s.heap.size = A at hD ⊢
  have hA : ∀ q : Nat, s.heap.size ≤ q → A q := fun q h => by rw [← hAe]; exact Or.inr h
  have hl := lv_entry ([.ref (aX 0), .int p1]) (n := 2) (Nat.le_of_ble_eq_true rfl)
  rw [lg_entry_eq]
  generalize (lg_sl ([.ref (aX 0), .int p1]) ++ List.replicate (2 - (lg_sl ([.ref (aX 0), .int p1])).length) Slot.unset).toArray = ls at hl ⊢
  have hl : lv_has ls 2 [(0, .ref (aX 0)), (1, .int p1)] := hl
  exact wX5_end_0 C0 hA X p1 hz s.heap [] hP hD va_S.rf ls (lv_sub hl [0, 1] rfl)
end SX5_end

section SX5_fault
/-! CardLoops.fault()I -/
abbrev wsX5_fault : List Cond := Cond.code yX5_fault cX5_fault 1 (some .int) :: wsL_law0
abbrev rmX5_fault : Room := { frames := 0, cells := 0, slots := 0, locals := 0 }
variable {p : Program} {l : Launch} {e : Env} {s : State} {m : MethodId} {args : Array Value} {below : List Frame} {meth : Method} {c : Code} {D : va_G} {K : Nat → ClassId} {A : Nat → Prop} {aX : Nat → Nat} {aR : Nat → Nat} {rX0 : Nat} {rX2 : Nat} {rX4 : Nat} {rX5 : Nat} {rX7 : Nat} {rX8 : Nat} {rR0 : Nat} {rR1 : Nat} {z : Int32}
set_option maxHeartbeats 1000000 in
set_option maxRecDepth 10000 in
theorem wX5_fault_0 (C0 : cx p s m args meth c cX5_fault 1 RX5 wsX5_fault (some .int) D K) (X : Rc) (R : Rc) (h : fX5_fault X R = some z) (hP : va_P D vwCl (fl [wCard K aX rX0 rX2 (aR 0) rX4 rX5 rX7 rX8 X, wReader K aR rR0 rR1 R]) s.heap) (ls : Array Slot) (hl : lv_has ls 1 [(0, .ref (aX 0))]) : W p l e rmX5_fault s m args below meth c s.heap [] 0 0 (MQ below (vp_Si (fun r => r = z)) args s 0 0 (fun _ => False)) (F0 m 0 ls []) := by
  unfold fX5_fault at h
  refine r_aload_n C0 dX5_fault_0 hl 0 rfl ?_
  refine r_get C0 5 inx5 hP 0 rfl rfl 3 (by decide) (mc wd2_5) (.ref (aR 0)) rfl dX5_fault_1 ?_
  refine r_get C0 4 inx4 hP 4 rfl rfl 3 (by decide) (mc wd20_7) (.int (R 3 0)) rfl dX5_fault_4 ?_
  exact r_iretR C0 h dX5_fault_7
set_option maxHeartbeats 1000000 in
set_option maxRecDepth 10000 in
theorem ctX5_fault (l : Launch) (D : va_G) (K : Nat → ClassId) (aX : Nat → Nat) (aR : Nat → Nat) (rX0 : Nat) (rX2 : Nat) (rX4 : Nat) (rX5 : Nat) (rX7 : Nat) (rX8 : Nat) (rR0 : Nat) (rR1 : Nat) (X : Rc) (R : Rc) (z : Int32) (hz : fX5_fault X R = some z) : Met l yX5_fault wsX5_fault rmX5_fault (pcR D K [.ref (aX 0)] (fl [wCard K aX rX0 rX2 (aR 0) rX4 rX5 rX7 rX8 X, wReader K aR rR0 rR1 R])) (vp_Si (fun r => r = z)) 0 0 (fun _ => False) := by
  refine Met.ofW (cc := cX5_fault) (maxL := 1) (ret := (some .int)) (by decide) rfl ?_
  intro p e s m args below meth c s₁ B hml hv
  obtain ⟨rfl, hP, hK⟩ := hv
  have C0 : cx p s m _ meth c cX5_fault 1 RX5 wsX5_fault (some .int) D K := ⟨⟨B.exec, B.bytes, hml, findClass_of_methodNamed B.named, atoms_spec (ws := wsX5_fault) B.pre⟩, B.returns, B.notSynchronized, hK⟩
  have hl := lv_entry ([.ref (aX 0)]) (n := 1) (Nat.le_of_ble_eq_true rfl)
  rw [lg_entry_eq]
  generalize (lg_sl ([.ref (aX 0)]) ++ List.replicate (1 - (lg_sl ([.ref (aX 0)])).length) Slot.unset).toArray = ls at hl ⊢
  have hl : lv_has ls 1 [(0, .ref (aX 0))] := hl
  exact wX5_fault_0 C0 X R hz hP ls (lv_sub hl [0] rfl)
end SX5_fault

section SX5_isEmpty
/-! CardLoops.isEmpty()Z -/
abbrev wsX5_isEmpty : List Cond := Cond.code yX5_isEmpty cX5_isEmpty 1 (some .boolean) :: wsL_law0
abbrev rmX5_isEmpty : Room := { frames := 0, cells := 0, slots := 0, locals := 0 }
variable {p : Program} {l : Launch} {e : Env} {s : State} {m : MethodId} {args : Array Value} {below : List Frame} {meth : Method} {c : Code} {D : va_G} {K : Nat → ClassId} {A : Nat → Prop} {aX : Nat → Nat} {aP : Nat → Nat} {rX0 : Nat} {rX3 : Nat} {rX4 : Nat} {rX5 : Nat} {rX7 : Nat} {rX8 : Nat} {z : Int32}
set_option maxHeartbeats 1000000 in
set_option maxRecDepth 10000 in
theorem wX5_isEmpty_0 (C0 : cx p s m args meth c cX5_isEmpty 1 RX5 wsX5_isEmpty (some .boolean) D K) (X : Rc) (P : Rc) (h : fX5_isEmpty X P = some z) (hP : va_P D vwCl (fl [wCard K aX rX0 (aP 0) rX3 rX4 rX5 rX7 rX8 X, wPlan K aP P]) s.heap) (ls : Array Slot) (hl : lv_has ls 1 [(0, .ref (aX 0))]) : W p l e rmX5_isEmpty s m args below meth c s.heap [] 0 0 (MQ below (vp_Si (fun r => r = z)) args s 0 0 (fun _ => False)) (F0 m 0 ls []) := by
  unfold fX5_isEmpty at h
  refine r_aload_n C0 dX5_isEmpty_0 hl 0 rfl ?_
  refine r_get C0 5 inx5 hP 0 rfl rfl 2 (by decide) (mc wd2_1) (.ref (aP 0)) rfl dX5_isEmpty_1 ?_
  refine r_get C0 3 inx3 hP 4 rfl rfl 6 (by decide) (mc wd20_16) (.int (P 6 0)) rfl dX5_isEmpty_4 ?_
  refine r_iconst C0 (nI 1) dX5_isEmpty_7 (by decide) ?_
  refine r_icmp_ge h C0 15 dX5_isEmpty_8 (by decide) (fun h => ?_) (fun h => ?_)
  · refine r_iconst C0 (nI 0) dX5_isEmpty_15 (by decide) ?_
    exact r_zretRC C0 h (by decide) dX5_isEmpty_16
  · refine r_iconst C0 (nI 1) dX5_isEmpty_11 (by decide) ?_
    refine r_goto C0 16 dX5_isEmpty_12 (by decide) ?_
    exact r_zretRC C0 h (by decide) dX5_isEmpty_16
set_option maxHeartbeats 1000000 in
set_option maxRecDepth 10000 in
theorem ctX5_isEmpty (l : Launch) (D : va_G) (K : Nat → ClassId) (aX : Nat → Nat) (aP : Nat → Nat) (rX0 : Nat) (rX3 : Nat) (rX4 : Nat) (rX5 : Nat) (rX7 : Nat) (rX8 : Nat) (X : Rc) (P : Rc) (z : Int32) (hz : fX5_isEmpty X P = some z) : Met l yX5_isEmpty wsX5_isEmpty rmX5_isEmpty (pcR D K [.ref (aX 0)] (fl [wCard K aX rX0 (aP 0) rX3 rX4 rX5 rX7 rX8 X, wPlan K aP P])) (vp_Si (fun r => r = z)) 0 0 (fun _ => False) := by
  refine Met.ofW (cc := cX5_isEmpty) (maxL := 1) (ret := (some .boolean)) (by decide) rfl ?_
  intro p e s m args below meth c s₁ B hml hv
  obtain ⟨rfl, hP, hK⟩ := hv
  have C0 : cx p s m _ meth c cX5_isEmpty 1 RX5 wsX5_isEmpty (some .boolean) D K := ⟨⟨B.exec, B.bytes, hml, findClass_of_methodNamed B.named, atoms_spec (ws := wsX5_isEmpty) B.pre⟩, B.returns, B.notSynchronized, hK⟩
  have hl := lv_entry ([.ref (aX 0)]) (n := 1) (Nat.le_of_ble_eq_true rfl)
  rw [lg_entry_eq]
  generalize (lg_sl ([.ref (aX 0)]) ++ List.replicate (1 - (lg_sl ([.ref (aX 0)])).length) Slot.unset).toArray = ls at hl ⊢
  have hl : lv_has ls 1 [(0, .ref (aX 0))] := hl
  exact wX5_isEmpty_0 C0 X P hz hP ls (lv_sub hl [0] rfl)
end SX5_isEmpty

section SX5_isLoop
/-! CardLoops.isLoop(I)Z -/
abbrev wsX5_isLoop : List Cond := Cond.code yX5_isLoop cX5_isLoop 2 (some .boolean) :: wsL_law0
abbrev rmX5_isLoop : Room := { frames := 0, cells := 0, slots := 0, locals := 0 }
variable {p : Program} {l : Launch} {e : Env} {s : State} {m : MethodId} {args : Array Value} {below : List Frame} {meth : Method} {c : Code} {D : va_G} {K : Nat → ClassId} {A : Nat → Prop} {aX : Nat → Nat} {aP : Nat → Nat} {rX0 : Nat} {rX3 : Nat} {rX4 : Nat} {rX5 : Nat} {rX7 : Nat} {rX8 : Nat} {z : Int32}
set_option maxHeartbeats 1000000 in
set_option maxRecDepth 10000 in
theorem wX5_isLoop_19 (C0 : cx p s m args meth c cX5_isLoop 2 RX5 wsX5_isLoop (some .boolean) D K) (X : Rc) (P : Rc) (h : fX5_isLoop_19 X P = some z) (hP : va_P D vwCl (fl [wCard K aX rX0 (aP 0) rX3 rX4 rX5 rX7 rX8 X, wPlan K aP P]) s.heap) (ls : Array Slot) (hl : lv_has ls 2 []) : W p l e rmX5_isLoop s m args below meth c s.heap [] 0 0 (MQ below (vp_Si (fun r => r = z)) args s 0 0 (fun _ => False)) (F0 m 19 ls []) := by
  unfold fX5_isLoop_19 at h
  refine r_iconst C0 (nI 0) dX5_isLoop_19 (by decide) ?_
  exact r_zretRC C0 h (by decide) dX5_isLoop_20
set_option maxHeartbeats 1000000 in
set_option maxRecDepth 10000 in
theorem wX5_isLoop_0 (C0 : cx p s m args meth c cX5_isLoop 2 RX5 wsX5_isLoop (some .boolean) D K) (X : Rc) (P : Rc) (x1 : Int32) (h : fX5_isLoop X P x1 = some z) (hP : va_P D vwCl (fl [wCard K aX rX0 (aP 0) rX3 rX4 rX5 rX7 rX8 X, wPlan K aP P]) s.heap) (ls : Array Slot) (hl : lv_has ls 2 [(0, .ref (aX 0)), (1, .int x1)]) : W p l e rmX5_isLoop s m args below meth c s.heap [] 0 0 (MQ below (vp_Si (fun r => r = z)) args s 0 0 (fun _ => False)) (F0 m 0 ls []) := by
  unfold fX5_isLoop at h
  refine r_iload_n C0 dX5_isLoop_0 hl 1 rfl ?_
  refine r_if_lt h C0 19 dX5_isLoop_1 (by decide) (fun h => ?_) (fun h => ?_)
  · exact wX5_isLoop_19 C0 X P h hP _ (lv_sub hl [] rfl)
  · refine r_iload_n C0 dX5_isLoop_4 hl 1 rfl ?_
    refine r_aload_n C0 dX5_isLoop_5 hl 0 rfl ?_
    refine r_get C0 5 inx5 hP 0 rfl rfl 2 (by decide) (mc wd2_1) (.ref (aP 0)) rfl dX5_isLoop_6 ?_
    refine r_get C0 3 inx3 hP 4 rfl rfl 7 (by decide) (mc wd20_17) (.int (P 7 0)) rfl dX5_isLoop_9 ?_
    refine r_icmp_ge h C0 19 dX5_isLoop_12 (by decide) (fun h => ?_) (fun h => ?_)
    · exact wX5_isLoop_19 C0 X P h hP _ (lv_sub hl [] rfl)
    · refine r_iconst C0 (nI 1) dX5_isLoop_15 (by decide) ?_
      refine r_goto C0 20 dX5_isLoop_16 (by decide) ?_
      exact r_zretRC C0 h (by decide) dX5_isLoop_20
set_option maxHeartbeats 1000000 in
set_option maxRecDepth 10000 in
theorem ctX5_isLoop (l : Launch) (D : va_G) (K : Nat → ClassId) (aX : Nat → Nat) (aP : Nat → Nat) (rX0 : Nat) (rX3 : Nat) (rX4 : Nat) (rX5 : Nat) (rX7 : Nat) (rX8 : Nat) (X : Rc) (P : Rc) (p1 : Int32) (z : Int32) (hz : fX5_isLoop X P p1 = some z) : Met l yX5_isLoop wsX5_isLoop rmX5_isLoop (pcR D K [.ref (aX 0), .int p1] (fl [wCard K aX rX0 (aP 0) rX3 rX4 rX5 rX7 rX8 X, wPlan K aP P])) (vp_Si (fun r => r = z)) 0 0 (fun _ => False) := by
  refine Met.ofW (cc := cX5_isLoop) (maxL := 2) (ret := (some .boolean)) (by decide) rfl ?_
  intro p e s m args below meth c s₁ B hml hv
  obtain ⟨rfl, hP, hK⟩ := hv
  have C0 : cx p s m _ meth c cX5_isLoop 2 RX5 wsX5_isLoop (some .boolean) D K := ⟨⟨B.exec, B.bytes, hml, findClass_of_methodNamed B.named, atoms_spec (ws := wsX5_isLoop) B.pre⟩, B.returns, B.notSynchronized, hK⟩
  have hl := lv_entry ([.ref (aX 0), .int p1]) (n := 2) (Nat.le_of_ble_eq_true rfl)
  rw [lg_entry_eq]
  generalize (lg_sl ([.ref (aX 0), .int p1]) ++ List.replicate (2 - (lg_sl ([.ref (aX 0), .int p1])).length) Slot.unset).toArray = ls at hl ⊢
  have hl : lv_has ls 2 [(0, .ref (aX 0)), (1, .int p1)] := hl
  exact wX5_isLoop_0 C0 X P p1 hz hP ls (lv_sub hl [0, 1] rfl)
end SX5_isLoop

section SX5_isPromise
/-! CardLoops.isPromise(II)Z -/
abbrev wsX5_isPromise : List Cond := Cond.code yX5_isPromise cX5_isPromise 2 (some .boolean) :: wsL_law0
abbrev rmX5_isPromise : Room := { frames := 0, cells := 0, slots := 0, locals := 0 }
variable {p : Program} {l : Launch} {e : Env} {s : State} {m : MethodId} {args : Array Value} {below : List Frame} {meth : Method} {c : Code} {D : va_G} {K : Nat → ClassId} {A : Nat → Prop} {z : Int32}
set_option maxHeartbeats 1000000 in
set_option maxRecDepth 10000 in
theorem wX5_isPromise_26 (C0 : cx p s m args meth c cX5_isPromise 2 RX5 wsX5_isPromise (some .boolean) D K) (h : fX5_isPromise_26 = some z) (ls : Array Slot) (hl : lv_has ls 2 []) : W p l e rmX5_isPromise s m args below meth c s.heap [] 0 0 (MQ below (vp_Si (fun r => r = z)) args s 0 0 (fun _ => False)) (F0 m 26 ls []) := by
  unfold fX5_isPromise_26 at h
  refine r_iconst C0 (nI 0) dX5_isPromise_26 (by decide) ?_
  exact r_zretRC C0 h (by decide) dX5_isPromise_27
set_option maxHeartbeats 1000000 in
set_option maxRecDepth 10000 in
theorem wX5_isPromise_0 (C0 : cx p s m args meth c cX5_isPromise 2 RX5 wsX5_isPromise (some .boolean) D K) (x0 : Int32) (x1 : Int32) (h : fX5_isPromise x0 x1 = some z) (ls : Array Slot) (hl : lv_has ls 2 [(0, .int x0), (1, .int x1)]) : W p l e rmX5_isPromise s m args below meth c s.heap [] 0 0 (MQ below (vp_Si (fun r => r = z)) args s 0 0 (fun _ => False)) (F0 m 0 ls []) := by
  unfold fX5_isPromise at h
  refine r_iload_n C0 dX5_isPromise_0 hl 0 rfl ?_
  refine r_iconst C0 (nI 1) dX5_isPromise_1 (by decide) ?_
  refine r_icmp_lt h C0 26 dX5_isPromise_2 (by decide) (fun h => ?_) (fun h => ?_)
  · exact wX5_isPromise_26 C0 h _ (lv_sub hl [] rfl)
  · refine r_iload_n C0 dX5_isPromise_5 hl 0 rfl ?_
    refine r_bipush C0 (nI 99) dX5_isPromise_6 (by decide) ?_
    refine r_icmp_gt h C0 26 dX5_isPromise_8 (by decide) (fun h => ?_) (fun h => ?_)
    · exact wX5_isPromise_26 C0 h _ (lv_sub hl [] rfl)
    · refine r_iload_n C0 dX5_isPromise_11 hl 1 rfl ?_
      refine r_iconst C0 (nI 1) dX5_isPromise_12 (by decide) ?_
      refine r_icmp_lt h C0 26 dX5_isPromise_13 (by decide) (fun h => ?_) (fun h => ?_)
      · exact wX5_isPromise_26 C0 h _ (lv_sub hl [] rfl)
      · refine r_iload_n C0 dX5_isPromise_16 hl 1 rfl ?_
        refine r_bipush C0 (nI 99) dX5_isPromise_17 (by decide) ?_
        refine r_icmp_gt h C0 26 dX5_isPromise_19 (by decide) (fun h => ?_) (fun h => ?_)
        · exact wX5_isPromise_26 C0 h _ (lv_sub hl [] rfl)
        · refine r_iconst C0 (nI 1) dX5_isPromise_22 (by decide) ?_
          refine r_goto C0 27 dX5_isPromise_23 (by decide) ?_
          exact r_zretRC C0 h (by decide) dX5_isPromise_27
set_option maxHeartbeats 1000000 in
set_option maxRecDepth 10000 in
theorem ctX5_isPromise (l : Launch) (D : va_G) (K : Nat → ClassId) (p0 : Int32) (p1 : Int32) (z : Int32) (hz : fX5_isPromise p0 p1 = some z) : Met l yX5_isPromise wsX5_isPromise rmX5_isPromise (pcR D K [.int p0, .int p1] []) (vp_Si (fun r => r = z)) 0 0 (fun _ => False) := by
  refine Met.ofW (cc := cX5_isPromise) (maxL := 2) (ret := (some .boolean)) (by decide) rfl ?_
  intro p e s m args below meth c s₁ B hml hv
  obtain ⟨rfl, hP, hK⟩ := hv
  have C0 : cx p s m _ meth c cX5_isPromise 2 RX5 wsX5_isPromise (some .boolean) D K := ⟨⟨B.exec, B.bytes, hml, findClass_of_methodNamed B.named, atoms_spec (ws := wsX5_isPromise) B.pre⟩, B.returns, B.notSynchronized, hK⟩
  have hl := lv_entry ([.int p0, .int p1]) (n := 2) (Nat.le_of_ble_eq_true rfl)
  rw [lg_entry_eq]
  generalize (lg_sl ([.int p0, .int p1]) ++ List.replicate (2 - (lg_sl ([.int p0, .int p1])).length) Slot.unset).toArray = ls at hl ⊢
  have hl : lv_has ls 2 [(0, .int p0), (1, .int p1)] := hl
  exact wX5_isPromise_0 C0 p0 p1 hz ls (lv_sub hl [0, 1] rfl)
end SX5_isPromise

section SX5_now
/-! CardLoops.now(I)I -/
abbrev wsX5_now : List Cond := Cond.code yX5_now cX5_now 2 (some .int) :: wsL_law0
abbrev rmX5_now : Room := { frames := 2, cells := 0, slots := 0, locals := 40 }
variable {p : Program} {l : Launch} {e : Env} {s : State} {m : MethodId} {args : Array Value} {below : List Frame} {meth : Method} {c : Code} {D : va_G} {K : Nat → ClassId} {A : Nat → Prop} {aX : Nat → Nat} {aP : Nat → Nat} {aL : Nat → Nat} {aY : Nat → Nat} {gH : Nat → Option Nat} {rX0 : Nat} {rX3 : Nat} {rX5 : Nat} {rX7 : Nat} {z : Int32}
set_option maxHeartbeats 1000000 in
set_option maxRecDepth 10000 in
theorem wX5_now_0 (C0 : cx p s m args meth c cX5_now 2 RX5 wsX5_now (some .int) D K) (X : Rc) (P : Rc) (L : Rc) (Y : Rc) (x1 : Int32) (h : fX5_now X P L Y x1 = some z) (hP : va_P D vwCl (fl [wCard K aX rX0 (aP 0) rX3 (aL 0) rX5 rX7 (aY 0) X, wPlan K aP P, wLine K aL (aP 0) L, wHist K aY gH Y]) s.heap) (ls : Array Slot) (hl : lv_has ls 2 [(0, .ref (aX 0)), (1, .int x1)]) : W p l e rmX5_now s m args below meth c s.heap [] 0 0 (MQ below (vp_Si (fun r => r = z)) args s 0 0 (fun _ => False)) (F0 m 0 ls []) := by
  unfold fX5_now at h
  refine r_iload_n C0 dX5_now_0 hl 1 rfl ?_
  refine sw_if h (fun hx h => ?_) (fun hx0 h => ?_)
  · refine lv_tableIn C0.1.1 C0.1.2.1 (tgt := 56) dX5_now_1 (by rw [hx]; decide) (by rw [hx]; decide) (by rw [hx]; rfl) (by decide) ?_
    refine r_aload_n C0 dX5_now_56 hl 0 rfl ?_
    refine r_get C0 5 inx5 hP 0 rfl rfl 2 (by decide) (mc wd2_1) (.ref (aP 0)) rfl dX5_now_57 ?_
    refine r_get C0 3 inx3 hP 4 rfl rfl 6 (by decide) (mc wd20_16) (.int (P 6 0)) rfl dX5_now_60 ?_
    exact r_iretR C0 h dX5_now_63
  refine sw_if h (fun hx h => ?_) (fun hx1 h => ?_)
  · refine lv_tableIn C0.1.1 C0.1.2.1 (tgt := 64) dX5_now_1 (by rw [hx]; decide) (by rw [hx]; decide) (by rw [hx]; rfl) (by decide) ?_
    refine r_aload_n C0 dX5_now_64 hl 0 rfl ?_
    refine r_get C0 5 inx5 hP 0 rfl rfl 2 (by decide) (mc wd2_1) (.ref (aP 0)) rfl dX5_now_65 ?_
    refine r_get C0 3 inx3 hP 4 rfl rfl 7 (by decide) (mc wd20_17) (.int (P 7 0)) rfl dX5_now_68 ?_
    exact r_iretR C0 h dX5_now_71
  refine sw_if h (fun hx h => ?_) (fun hx2 h => ?_)
  · refine lv_tableIn C0.1.1 C0.1.2.1 (tgt := 72) dX5_now_1 (by rw [hx]; decide) (by rw [hx]; decide) (by rw [hx]; rfl) (by decide) ?_
    refine r_aload_n C0 dX5_now_72 hl 0 rfl ?_
    refine r_get C0 5 inx5 hP 0 rfl rfl 2 (by decide) (mc wd2_1) (.ref (aP 0)) rfl dX5_now_73 ?_
    refine r_get C0 3 inx3 hP 4 rfl rfl 8 (by decide) (mc wd20_18) (.int (P 8 0)) rfl dX5_now_76 ?_
    exact r_iretR C0 h dX5_now_79
  refine sw_if h (fun hx h => ?_) (fun hx3 h => ?_)
  · refine lv_tableIn C0.1.1 C0.1.2.1 (tgt := 80) dX5_now_1 (by rw [hx]; decide) (by rw [hx]; decide) (by rw [hx]; rfl) (by decide) ?_
    refine r_aload_n C0 dX5_now_80 hl 0 rfl ?_
    refine r_get C0 5 inx5 hP 0 rfl rfl 4 (by decide) (mc wd2_6) (.ref (aL 0)) rfl dX5_now_81 ?_
    refine r_get C0 1 inx1 hP 11 rfl rfl 8 (by decide) (mc wd20_19) (.int (L 8 0)) rfl dX5_now_84 ?_
    exact r_iretR C0 h dX5_now_87
  refine sw_if h (fun hx h => ?_) (fun hx4 h => ?_)
  · refine lv_tableIn C0.1.1 C0.1.2.1 (tgt := 88) dX5_now_1 (by rw [hx]; decide) (by rw [hx]; decide) (by rw [hx]; rfl) (by decide) ?_
    refine r_aload_n C0 dX5_now_88 hl 0 rfl ?_
    refine r_get C0 5 inx5 hP 0 rfl rfl 4 (by decide) (mc wd2_6) (.ref (aL 0)) rfl dX5_now_89 ?_
    obtain ⟨z1, hz1, h⟩ := bnd_some h
    have hPc := vaP_sel (Wc := [wPlan K aP P, wLine K aL (aP 0) L]) hP [1, 2] rfl
    refine r_cI (va_runV (As := []) (rest := []) C0.1 (ctX1_out l D K aP aL P L z1 hz1) (cwV 0 C0.1.2.2.2.2 (gdV wd20_23 wd21_0 wd21_1 wd1_23 wd21_2) rfl rfl rfl (by decide +kernel) ⟨Nat.le_of_ble_eq_true rfl, Nat.le_of_ble_eq_true rfl⟩) ⟨pcR_blind, va_recv C0.2.2.2.1 hPc (ci := 1) (q0 := 7) rfl rfl, pcR_of hPc C0.2.2.2⟩ rfl rfl hl.1 rfl (lv_room (Nat.le_of_ble_eq_true rfl)) dX5_now_92 ⟨Nat.zero_le _, Nat.zero_le _⟩).run ?_
    exact r_iretR C0 h dX5_now_95
  refine sw_if h (fun hx h => ?_) (fun hx5 h => ?_)
  · refine lv_tableIn C0.1.1 C0.1.2.1 (tgt := 96) dX5_now_1 (by rw [hx]; decide) (by rw [hx]; decide) (by rw [hx]; rfl) (by decide) ?_
    refine r_aload_n C0 dX5_now_96 hl 0 rfl ?_
    refine r_get C0 5 inx5 hP 0 rfl rfl 4 (by decide) (mc wd2_6) (.ref (aL 0)) rfl dX5_now_97 ?_
    obtain ⟨z2, hz2, h⟩ := bnd_some h
    have hPc := vaP_sel (Wc := [wPlan K aP P, wLine K aL (aP 0) L]) hP [1, 2] rfl
    refine r_cI (va_runV (As := []) (rest := []) C0.1 (ctX1_onTheirWay l D K aP aL P L z2 hz2) (cwV 0 C0.1.2.2.2.2 (gdV wd21_3 wd21_4 wd21_5 wd1_23 wd21_6) rfl rfl rfl (by decide +kernel) ⟨Nat.le_of_ble_eq_true rfl, Nat.le_of_ble_eq_true rfl⟩) ⟨pcR_blind, va_recv C0.2.2.2.1 hPc (ci := 1) (q0 := 7) rfl rfl, pcR_of hPc C0.2.2.2⟩ rfl rfl hl.1 rfl (lv_room (Nat.le_of_ble_eq_true rfl)) dX5_now_100 ⟨Nat.zero_le _, Nat.zero_le _⟩).run ?_
    exact r_iretR C0 h dX5_now_103
  refine sw_if h (fun hx h => ?_) (fun hx6 h => ?_)
  · refine lv_tableIn C0.1.1 C0.1.2.1 (tgt := 104) dX5_now_1 (by rw [hx]; decide) (by rw [hx]; decide) (by rw [hx]; rfl) (by decide) ?_
    refine r_aload_n C0 dX5_now_104 hl 0 rfl ?_
    refine r_get C0 5 inx5 hP 0 rfl rfl 4 (by decide) (mc wd2_6) (.ref (aL 0)) rfl dX5_now_105 ?_
    refine r_get C0 1 inx1 hP 11 rfl rfl 9 (by decide) (mc wd20_20) (.int (L 9 0)) rfl dX5_now_108 ?_
    exact r_iretR C0 h dX5_now_111
  refine sw_if h (fun hx h => ?_) (fun hx7 h => ?_)
  · refine lv_tableIn C0.1.1 C0.1.2.1 (tgt := 112) dX5_now_1 (by rw [hx]; decide) (by rw [hx]; decide) (by rw [hx]; rfl) (by decide) ?_
    refine r_aload_n C0 dX5_now_112 hl 0 rfl ?_
    refine r_get C0 5 inx5 hP 0 rfl rfl 4 (by decide) (mc wd2_6) (.ref (aL 0)) rfl dX5_now_113 ?_
    refine r_get C0 1 inx1 hP 11 rfl rfl 10 (by decide) (mc wd20_21) (.int (L 10 0)) rfl dX5_now_116 ?_
    exact r_iretR C0 h dX5_now_119
  refine sw_if h (fun hx h => ?_) (fun hx8 h => ?_)
  · refine lv_tableIn C0.1.1 C0.1.2.1 (tgt := 120) dX5_now_1 (by rw [hx]; decide) (by rw [hx]; decide) (by rw [hx]; rfl) (by decide) ?_
    refine r_aload_n C0 dX5_now_120 hl 0 rfl ?_
    refine r_get C0 5 inx5 hP 0 rfl rfl 8 (by decide) (mc wd2_15) (.ref (aY 0)) rfl dX5_now_121 ?_
    refine r_get C0 0 inx0 hP 18 rfl rfl 1 (by decide) (mc wd20_22) (.int (Y 1 0)) rfl dX5_now_124 ?_
    exact r_iretR C0 h dX5_now_127
  refine sw_if h (fun hx h => ?_) (fun hx9 h => ?_)
  · refine lv_tableIn C0.1.1 C0.1.2.1 (tgt := 128) dX5_now_1 (by rw [hx]; decide) (by rw [hx]; decide) (by rw [hx]; rfl) (by decide) ?_
    refine r_aload_n C0 dX5_now_128 hl 0 rfl ?_
    refine r_get C0 5 inx5 hP 0 rfl rfl 1 (by decide) (mc wd1_13) (.int (X 1 0)) rfl dX5_now_129 ?_
    exact r_iretR C0 h dX5_now_132
  refine lv_tableOut C0.1.1 C0.1.2.1 (tgt := 133) dX5_now_1 (sw_out10 hx0 hx1 hx2 hx3 hx4 hx5 hx6 hx7 hx8 hx9) (by decide) ?_
  refine r_iconst C0 (-1 : Int32) dX5_now_133 (by decide) ?_
  exact r_iretR C0 h dX5_now_134
set_option maxHeartbeats 1000000 in
set_option maxRecDepth 10000 in
theorem ctX5_now (l : Launch) (D : va_G) (K : Nat → ClassId) (aX : Nat → Nat) (aP : Nat → Nat) (aL : Nat → Nat) (aY : Nat → Nat) (gH : Nat → Option Nat) (rX0 : Nat) (rX3 : Nat) (rX5 : Nat) (rX7 : Nat) (X : Rc) (P : Rc) (L : Rc) (Y : Rc) (p1 : Int32) (z : Int32) (hz : fX5_now X P L Y p1 = some z) : Met l yX5_now wsX5_now rmX5_now (pcR D K [.ref (aX 0), .int p1] (fl [wCard K aX rX0 (aP 0) rX3 (aL 0) rX5 rX7 (aY 0) X, wPlan K aP P, wLine K aL (aP 0) L, wHist K aY gH Y])) (vp_Si (fun r => r = z)) 0 0 (fun _ => False) := by
  refine Met.ofW (cc := cX5_now) (maxL := 2) (ret := (some .int)) (by decide) rfl ?_
  intro p e s m args below meth c s₁ B hml hv
  obtain ⟨rfl, hP, hK⟩ := hv
  have C0 : cx p s m _ meth c cX5_now 2 RX5 wsX5_now (some .int) D K := ⟨⟨B.exec, B.bytes, hml, findClass_of_methodNamed B.named, atoms_spec (ws := wsX5_now) B.pre⟩, B.returns, B.notSynchronized, hK⟩
  have hl := lv_entry ([.ref (aX 0), .int p1]) (n := 2) (Nat.le_of_ble_eq_true rfl)
  rw [lg_entry_eq]
  generalize (lg_sl ([.ref (aX 0), .int p1]) ++ List.replicate (2 - (lg_sl ([.ref (aX 0), .int p1])).length) Slot.unset).toArray = ls at hl ⊢
  have hl : lv_has ls 2 [(0, .ref (aX 0)), (1, .int p1)] := hl
  exact wX5_now_0 C0 X P L Y p1 hz hP ls (lv_sub hl [0, 1] rfl)
end SX5_now

section SX5_waits
/-! CardLoops.waits(II)I -/
abbrev wsX5_waits : List Cond := Cond.code yX5_waits cX5_waits 3 (some .int) :: wsL_law0
abbrev rmX5_waits : Room := { frames := 1, cells := 0, slots := 0, locals := 21 }
variable {p : Program} {l : Launch} {e : Env} {s : State} {m : MethodId} {args : Array Value} {below : List Frame} {meth : Method} {c : Code} {D : va_G} {K : Nat → ClassId} {A : Nat → Prop} {aX : Nat → Nat} {aP : Nat → Nat} {aL : Nat → Nat} {rX0 : Nat} {rX3 : Nat} {rX5 : Nat} {rX7 : Nat} {rX8 : Nat} {z : Int32}
set_option maxHeartbeats 1000000 in
set_option maxRecDepth 10000 in
theorem wX5_waits_31 (C0 : cx p s m args meth c cX5_waits 3 RX5 wsX5_waits (some .int) D K) (X : Rc) (P : Rc) (L : Rc) (h : fX5_waits_31 X P L = some z) (hP : va_P D vwCl (fl [wCard K aX rX0 (aP 0) rX3 (aL 0) rX5 rX7 rX8 X, wPlan K aP P, wLine K aL (aP 0) L]) s.heap) (ls : Array Slot) (hl : lv_has ls 3 []) : W p l e rmX5_waits s m args below meth c s.heap [] 0 0 (MQ below (vp_Si (fun r => r = z)) args s 0 0 (fun _ => False)) (F0 m 31 ls []) := by
  unfold fX5_waits_31 at h
  refine r_iconst C0 (-1 : Int32) dX5_waits_31 (by decide) ?_
  exact r_iretR C0 h dX5_waits_32
set_option maxHeartbeats 1000000 in
set_option maxRecDepth 10000 in
theorem wX5_waits_0 (C0 : cx p s m args meth c cX5_waits 3 RX5 wsX5_waits (some .int) D K) (X : Rc) (P : Rc) (L : Rc) (x1 : Int32) (x2 : Int32) (h : fX5_waits X P L x1 x2 = some z) (hP : va_P D vwCl (fl [wCard K aX rX0 (aP 0) rX3 (aL 0) rX5 rX7 rX8 X, wPlan K aP P, wLine K aL (aP 0) L]) s.heap) (ls : Array Slot) (hl : lv_has ls 3 [(0, .ref (aX 0)), (1, .int x1), (2, .int x2)]) : W p l e rmX5_waits s m args below meth c s.heap [] 0 0 (MQ below (vp_Si (fun r => r = z)) args s 0 0 (fun _ => False)) (F0 m 0 ls []) := by
  unfold fX5_waits at h
  refine r_iload_n C0 dX5_waits_0 hl 1 rfl ?_
  refine r_if_lt h C0 31 dX5_waits_1 (by decide) (fun h => ?_) (fun h => ?_)
  · exact wX5_waits_31 C0 X P L h hP _ (lv_sub hl [] rfl)
  · refine r_iload_n C0 dX5_waits_4 hl 1 rfl ?_
    refine r_aload_n C0 dX5_waits_5 hl 0 rfl ?_
    refine r_get C0 5 inx5 hP 0 rfl rfl 2 (by decide) (mc wd2_1) (.ref (aP 0)) rfl dX5_waits_6 ?_
    refine r_get C0 3 inx3 hP 4 rfl rfl 6 (by decide) (mc wd20_16) (.int (P 6 0)) rfl dX5_waits_9 ?_
    refine r_icmp_ge h C0 31 dX5_waits_12 (by decide) (fun h => ?_) (fun h => ?_)
    · exact wX5_waits_31 C0 X P L h hP _ (lv_sub hl [] rfl)
    · refine r_iload_n C0 dX5_waits_15 hl 2 rfl ?_
      refine r_if_lt h C0 31 dX5_waits_16 (by decide) (fun h => ?_) (fun h => ?_)
      · exact wX5_waits_31 C0 X P L h hP _ (lv_sub hl [] rfl)
      · refine r_iload_n C0 dX5_waits_19 hl 2 rfl ?_
        refine r_aload_n C0 dX5_waits_20 hl 0 rfl ?_
        refine r_get C0 5 inx5 hP 0 rfl rfl 4 (by decide) (mc wd2_6) (.ref (aL 0)) rfl dX5_waits_21 ?_
        refine r_iload_n C0 dX5_waits_24 hl 1 rfl ?_
        obtain ⟨z1, hz1, h⟩ := bnd_some h
        have hPc := vaP_sel (Wc := [wLine K aL (aP 0) L]) hP [2] rfl
        refine r_cI (va_runV (As := [.int x1]) (rest := [.int x2]) C0.1 (ctX1_waiting l D K aL (aP 0) L x1 z1 hz1) (cwV 1 C0.1.2.2.2.2 (gdV wd22_15 wd14_1 wd14_2 wd1_23 wd14_3) rfl rfl rfl (by decide +kernel) ⟨Nat.le_of_ble_eq_true rfl, Nat.le_of_ble_eq_true rfl⟩) ⟨pcR_blind, va_recv C0.2.2.2.1 hPc (ci := 1) (q0 := 0) rfl rfl, pcR_of hPc C0.2.2.2⟩ rfl rfl hl.1 rfl (lv_room (Nat.le_of_ble_eq_true rfl)) dX5_waits_25 ⟨Nat.zero_le _, Nat.zero_le _⟩).run ?_
        refine r_icmp_lt h C0 33 dX5_waits_28 (by decide) (fun h => ?_) (fun h => ?_)
        · refine r_aload_n C0 dX5_waits_33 hl 0 rfl ?_
          refine r_get C0 5 inx5 hP 0 rfl rfl 4 (by decide) (mc wd2_6) (.ref (aL 0)) rfl dX5_waits_34 ?_
          refine r_aload_n C0 dX5_waits_37 hl 0 rfl ?_
          refine r_get C0 5 inx5 hP 0 rfl rfl 4 (by decide) (mc wd2_6) (.ref (aL 0)) rfl dX5_waits_38 ?_
          refine r_get C0 1 inx1 hP 11 rfl rfl 1 (by decide) (mc wd23_12) (.ref (aL 2)) rfl dX5_waits_41 ?_
          refine r_iload_n C0 dX5_waits_44 hl 1 rfl ?_
          refine r_iald h C0 hP 12 rfl dX5_waits_45 (fun h => ?_)
          refine r_iload_n C0 dX5_waits_46 hl 2 rfl ?_
          refine r_iadd C0 dX5_waits_47 ?_
          obtain ⟨z2, hz2, h⟩ := bnd_some h
          have hPc := vaP_sel (Wc := [wPlan K aP P, wLine K aL (aP 0) L]) hP [1, 2] rfl
          refine r_cI (va_runV (As := [.int ((L 1 x1.toNatClampNeg) + x2)]) (rest := []) C0.1 (ctX1_kindOf l D K aP aL P L ((L 1 x1.toNatClampNeg) + x2) z2 hz2) (cwV 1 C0.1.2.2.2.2 (gdV wd23_13 wd14_16 wd14_17 wd1_23 wd14_18) rfl rfl rfl (by decide +kernel) ⟨Nat.le_of_ble_eq_true rfl, Nat.le_of_ble_eq_true rfl⟩) ⟨pcR_blind, va_recv C0.2.2.2.1 hPc (ci := 1) (q0 := 7) rfl rfl, pcR_of hPc C0.2.2.2⟩ rfl rfl hl.1 rfl (lv_room (Nat.le_of_ble_eq_true rfl)) dX5_waits_48 ⟨Nat.zero_le _, Nat.zero_le _⟩).run ?_
          exact r_iretR C0 h dX5_waits_51
        · exact wX5_waits_31 C0 X P L h hP _ (lv_sub hl [] rfl)
set_option maxHeartbeats 1000000 in
set_option maxRecDepth 10000 in
theorem ctX5_waits (l : Launch) (D : va_G) (K : Nat → ClassId) (aX : Nat → Nat) (aP : Nat → Nat) (aL : Nat → Nat) (rX0 : Nat) (rX3 : Nat) (rX5 : Nat) (rX7 : Nat) (rX8 : Nat) (X : Rc) (P : Rc) (L : Rc) (p1 : Int32) (p2 : Int32) (z : Int32) (hz : fX5_waits X P L p1 p2 = some z) : Met l yX5_waits wsX5_waits rmX5_waits (pcR D K [.ref (aX 0), .int p1, .int p2] (fl [wCard K aX rX0 (aP 0) rX3 (aL 0) rX5 rX7 rX8 X, wPlan K aP P, wLine K aL (aP 0) L])) (vp_Si (fun r => r = z)) 0 0 (fun _ => False) := by
  refine Met.ofW (cc := cX5_waits) (maxL := 3) (ret := (some .int)) (by decide) rfl ?_
  intro p e s m args below meth c s₁ B hml hv
  obtain ⟨rfl, hP, hK⟩ := hv
  have C0 : cx p s m _ meth c cX5_waits 3 RX5 wsX5_waits (some .int) D K := ⟨⟨B.exec, B.bytes, hml, findClass_of_methodNamed B.named, atoms_spec (ws := wsX5_waits) B.pre⟩, B.returns, B.notSynchronized, hK⟩
  have hl := lv_entry ([.ref (aX 0), .int p1, .int p2]) (n := 3) (Nat.le_of_ble_eq_true rfl)
  rw [lg_entry_eq]
  generalize (lg_sl ([.ref (aX 0), .int p1, .int p2]) ++ List.replicate (3 - (lg_sl ([.ref (aX 0), .int p1, .int p2])).length) Slot.unset).toArray = ls at hl ⊢
  have hl : lv_has ls 3 [(0, .ref (aX 0)), (1, .int p1), (2, .int p2)] := hl
  exact wX5_waits_0 C0 X P L p1 p2 hz hP ls (lv_sub hl [0, 1, 2] rfl)
end SX5_waits

section SX5_loop
/-! CardLoops.loop(II)I -/
abbrev wsX5_loop : List Cond := Cond.code yX5_loop cX5_loop 3 (some .int) :: wsL_law0
abbrev rmX5_loop : Room := { frames := 1, cells := 0, slots := 0, locals := 21 }
variable {p : Program} {l : Launch} {e : Env} {s : State} {m : MethodId} {args : Array Value} {below : List Frame} {meth : Method} {c : Code} {D : va_G} {K : Nat → ClassId} {A : Nat → Prop} {aX : Nat → Nat} {aP : Nat → Nat} {aL : Nat → Nat} {rX0 : Nat} {rX3 : Nat} {rX5 : Nat} {rX7 : Nat} {rX8 : Nat} {z : Int32}
set_option maxHeartbeats 1000000 in
set_option maxRecDepth 10000 in
theorem wX5_loop_0 (C0 : cx p s m args meth c cX5_loop 3 RX5 wsX5_loop (some .int) D K) (X : Rc) (P : Rc) (L : Rc) (x1 : Int32) (x2 : Int32) (h : fX5_loop X P L x1 x2 = some z) (hP : va_P D vwCl (fl [wCard K aX rX0 (aP 0) rX3 (aL 0) rX5 rX7 rX8 X, wPlan K aP P, wLine K aL (aP 0) L]) s.heap) (ls : Array Slot) (hl : lv_has ls 3 [(0, .ref (aX 0)), (1, .int x1), (2, .int x2)]) : W p l e rmX5_loop s m args below meth c s.heap [] 0 0 (MQ below (vp_Si (fun r => r = z)) args s 0 0 (fun _ => False)) (F0 m 0 ls []) := by
  unfold fX5_loop at h
  refine r_aload_n C0 dX5_loop_0 hl 0 rfl ?_
  refine r_iload_n C0 dX5_loop_1 hl 1 rfl ?_
  obtain ⟨z1, hz1, h⟩ := bnd_some h
  have hPc := vaP_sel (Wc := [wCard K aX rX0 (aP 0) rX3 (aL 0) rX5 rX7 rX8 X, wPlan K aP P]) hP [0, 1] rfl
  refine r_cI (va_runV (As := [.int x1]) (rest := []) C0.1 (ctX5_isLoop l D K aX aP rX0 rX3 (aL 0) rX5 rX7 rX8 X P x1 z1 hz1) (cwV 1 C0.1.2.2.2.2 (gdV wd24_1 wd24_2 wd24_3 wd1_2 wd24_4) rfl rfl rfl (by decide +kernel) ⟨Nat.le_of_ble_eq_true rfl, Nat.le_of_ble_eq_true rfl⟩) ⟨pcR_blind, va_recv C0.2.2.2.1 hPc (ci := 5) (q0 := 0) rfl rfl, pcR_of hPc C0.2.2.2⟩ rfl rfl hl.1 rfl (lv_room (Nat.le_of_ble_eq_true rfl)) dX5_loop_2 ⟨Nat.zero_le _, Nat.zero_le _⟩).run ?_
  refine r_if_ne h C0 10 dX5_loop_5 (by decide) (fun h => ?_) (fun h => ?_)
  · refine r_iload_n C0 dX5_loop_10 hl 2 rfl ?_
    refine sw_if h (fun hx h => ?_) (fun hx0 h => ?_)
    · refine lv_tableIn C0.1.1 C0.1.2.1 (tgt := 40) dX5_loop_11 (by rw [hx]; decide) (by rw [hx]; decide) (by rw [hx]; rfl) (by decide) ?_
      refine r_aload_n C0 dX5_loop_40 hl 0 rfl ?_
      refine r_get C0 5 inx5 hP 0 rfl rfl 2 (by decide) (mc wd2_1) (.ref (aP 0)) rfl dX5_loop_41 ?_
      refine r_get C0 3 inx3 hP 4 rfl rfl 2 (by decide) (mc wd23_22) (.ref (aP 3)) rfl dX5_loop_44 ?_
      refine r_iload_n C0 dX5_loop_47 hl 1 rfl ?_
      refine r_iald h C0 hP 7 rfl dX5_loop_48 (fun h => ?_)
      exact r_iretR C0 h dX5_loop_49
    refine sw_if h (fun hx h => ?_) (fun hx1 h => ?_)
    · refine lv_tableIn C0.1.1 C0.1.2.1 (tgt := 50) dX5_loop_11 (by rw [hx]; decide) (by rw [hx]; decide) (by rw [hx]; rfl) (by decide) ?_
      refine r_aload_n C0 dX5_loop_50 hl 0 rfl ?_
      refine r_get C0 5 inx5 hP 0 rfl rfl 2 (by decide) (mc wd2_1) (.ref (aP 0)) rfl dX5_loop_51 ?_
      refine r_get C0 3 inx3 hP 4 rfl rfl 3 (by decide) (mc wd23_23) (.ref (aP 4)) rfl dX5_loop_54 ?_
      refine r_iload_n C0 dX5_loop_57 hl 1 rfl ?_
      refine r_iald h C0 hP 8 rfl dX5_loop_58 (fun h => ?_)
      exact r_iretR C0 h dX5_loop_59
    refine sw_if h (fun hx h => ?_) (fun hx2 h => ?_)
    · refine lv_tableIn C0.1.1 C0.1.2.1 (tgt := 60) dX5_loop_11 (by rw [hx]; decide) (by rw [hx]; decide) (by rw [hx]; rfl) (by decide) ?_
      refine r_aload_n C0 dX5_loop_60 hl 0 rfl ?_
      refine r_get C0 5 inx5 hP 0 rfl rfl 4 (by decide) (mc wd2_6) (.ref (aL 0)) rfl dX5_loop_61 ?_
      refine r_get C0 1 inx1 hP 11 rfl rfl 4 (by decide) (mc wd24_0) (.ref (aL 5)) rfl dX5_loop_64 ?_
      refine r_iload_n C0 dX5_loop_67 hl 1 rfl ?_
      refine r_iald h C0 hP 15 rfl dX5_loop_68 (fun h => ?_)
      exact r_iretR C0 h dX5_loop_69
    refine sw_if h (fun hx h => ?_) (fun hx3 h => ?_)
    · refine lv_tableIn C0.1.1 C0.1.2.1 (tgt := 70) dX5_loop_11 (by rw [hx]; decide) (by rw [hx]; decide) (by rw [hx]; rfl) (by decide) ?_
      refine r_aload_n C0 dX5_loop_70 hl 0 rfl ?_
      refine r_get C0 5 inx5 hP 0 rfl rfl 4 (by decide) (mc wd2_6) (.ref (aL 0)) rfl dX5_loop_71 ?_
      refine r_iload_n C0 dX5_loop_74 hl 1 rfl ?_
      obtain ⟨z2, hz2, h⟩ := bnd_some h
      have hPc := vaP_sel (Wc := [wPlan K aP P, wLine K aL (aP 0) L]) hP [1, 2] rfl
      refine r_cI (va_runV (As := [.int x1]) (rest := []) C0.1 (ctX1_free l D K aP aL P L x1 z2 hz2) (cwV 1 C0.1.2.2.2.2 (gdV wd24_5 wd14_5 wd14_6 wd1_23 wd14_7) rfl rfl rfl (by decide +kernel) ⟨Nat.le_of_ble_eq_true rfl, Nat.le_of_ble_eq_true rfl⟩) ⟨pcR_blind, va_recv C0.2.2.2.1 hPc (ci := 1) (q0 := 7) rfl rfl, pcR_of hPc C0.2.2.2⟩ rfl rfl hl.1 rfl (lv_room (Nat.le_of_ble_eq_true rfl)) dX5_loop_75 ⟨Nat.zero_le _, Nat.zero_le _⟩).run ?_
      exact r_iretR C0 h dX5_loop_78
    refine lv_tableOut C0.1.1 C0.1.2.1 (tgt := 79) dX5_loop_11 (sw_out4 hx0 hx1 hx2 hx3) (by decide) ?_
    refine r_iconst C0 (-1 : Int32) dX5_loop_79 (by decide) ?_
    exact r_iretR C0 h dX5_loop_80
  · refine r_iconst C0 (-1 : Int32) dX5_loop_8 (by decide) ?_
    exact r_iretR C0 h dX5_loop_9
set_option maxHeartbeats 1000000 in
set_option maxRecDepth 10000 in
theorem ctX5_loop (l : Launch) (D : va_G) (K : Nat → ClassId) (aX : Nat → Nat) (aP : Nat → Nat) (aL : Nat → Nat) (rX0 : Nat) (rX3 : Nat) (rX5 : Nat) (rX7 : Nat) (rX8 : Nat) (X : Rc) (P : Rc) (L : Rc) (p1 : Int32) (p2 : Int32) (z : Int32) (hz : fX5_loop X P L p1 p2 = some z) : Met l yX5_loop wsX5_loop rmX5_loop (pcR D K [.ref (aX 0), .int p1, .int p2] (fl [wCard K aX rX0 (aP 0) rX3 (aL 0) rX5 rX7 rX8 X, wPlan K aP P, wLine K aL (aP 0) L])) (vp_Si (fun r => r = z)) 0 0 (fun _ => False) := by
  refine Met.ofW (cc := cX5_loop) (maxL := 3) (ret := (some .int)) (by decide) rfl ?_
  intro p e s m args below meth c s₁ B hml hv
  obtain ⟨rfl, hP, hK⟩ := hv
  have C0 : cx p s m _ meth c cX5_loop 3 RX5 wsX5_loop (some .int) D K := ⟨⟨B.exec, B.bytes, hml, findClass_of_methodNamed B.named, atoms_spec (ws := wsX5_loop) B.pre⟩, B.returns, B.notSynchronized, hK⟩
  have hl := lv_entry ([.ref (aX 0), .int p1, .int p2]) (n := 3) (Nat.le_of_ble_eq_true rfl)
  rw [lg_entry_eq]
  generalize (lg_sl ([.ref (aX 0), .int p1, .int p2]) ++ List.replicate (3 - (lg_sl ([.ref (aX 0), .int p1, .int p2])).length) Slot.unset).toArray = ls at hl ⊢
  have hl : lv_has ls 3 [(0, .ref (aX 0)), (1, .int p1), (2, .int p2)] := hl
  exact wX5_loop_0 C0 X P L p1 p2 hz hP ls (lv_sub hl [0, 1, 2] rfl)
end SX5_loop

section SX5_next
/-! CardLoops.next(I)I -/
abbrev wsX5_next : List Cond := Cond.code yX5_next cX5_next 2 (some .int) :: wsL_law0
abbrev rmX5_next : Room := { frames := 1, cells := 0, slots := 0, locals := 21 }
variable {p : Program} {l : Launch} {e : Env} {s : State} {m : MethodId} {args : Array Value} {below : List Frame} {meth : Method} {c : Code} {D : va_G} {K : Nat → ClassId} {A : Nat → Prop} {aX : Nat → Nat} {aP : Nat → Nat} {aL : Nat → Nat} {rX0 : Nat} {rX3 : Nat} {rX5 : Nat} {rX7 : Nat} {rX8 : Nat} {z : Int32}
set_option maxHeartbeats 1000000 in
set_option maxRecDepth 10000 in
theorem wX5_next_18 (C0 : cx p s m args meth c cX5_next 2 RX5 wsX5_next (some .int) D K) (X : Rc) (P : Rc) (L : Rc) (h : fX5_next_18 X P L = some z) (hP : va_P D vwCl (fl [wCard K aX rX0 (aP 0) rX3 (aL 0) rX5 rX7 rX8 X, wPlan K aP P, wLine K aL (aP 0) L]) s.heap) (ls : Array Slot) (hl : lv_has ls 2 []) : W p l e rmX5_next s m args below meth c s.heap [] 0 0 (MQ below (vp_Si (fun r => r = z)) args s 0 0 (fun _ => False)) (F0 m 18 ls []) := by
  unfold fX5_next_18 at h
  refine r_iconst C0 (-1 : Int32) dX5_next_18 (by decide) ?_
  exact r_iretR C0 h dX5_next_19
set_option maxHeartbeats 1000000 in
set_option maxRecDepth 10000 in
theorem wX5_next_0 (C0 : cx p s m args meth c cX5_next 2 RX5 wsX5_next (some .int) D K) (X : Rc) (P : Rc) (L : Rc) (x1 : Int32) (h : fX5_next X P L x1 = some z) (hP : va_P D vwCl (fl [wCard K aX rX0 (aP 0) rX3 (aL 0) rX5 rX7 rX8 X, wPlan K aP P, wLine K aL (aP 0) L]) s.heap) (ls : Array Slot) (hl : lv_has ls 2 [(0, .ref (aX 0)), (1, .int x1)]) : W p l e rmX5_next s m args below meth c s.heap [] 0 0 (MQ below (vp_Si (fun r => r = z)) args s 0 0 (fun _ => False)) (F0 m 0 ls []) := by
  unfold fX5_next at h
  refine r_aload_n C0 dX5_next_0 hl 0 rfl ?_
  obtain ⟨z1, hz1, h⟩ := bnd_some h
  have hPc := vaP_sel (Wc := [wCard K aX rX0 (aP 0) rX3 (aL 0) rX5 rX7 rX8 X, wPlan K aP P]) hP [0, 1] rfl
  refine r_cI (va_runV (As := []) (rest := []) C0.1 (ctX5_isEmpty l D K aX aP rX0 rX3 (aL 0) rX5 rX7 rX8 X P z1 hz1) (cwV 0 C0.1.2.2.2.2 (gdV wd24_18 wd24_19 wd24_20 wd1_2 wd24_21) rfl rfl rfl (by decide +kernel) ⟨Nat.le_of_ble_eq_true rfl, Nat.le_of_ble_eq_true rfl⟩) ⟨pcR_blind, va_recv C0.2.2.2.1 hPc (ci := 5) (q0 := 0) rfl rfl, pcR_of hPc C0.2.2.2⟩ rfl rfl hl.1 rfl (lv_room (Nat.le_of_ble_eq_true rfl)) dX5_next_1 ⟨Nat.zero_le _, Nat.zero_le _⟩).run ?_
  refine r_if_ne h C0 18 dX5_next_4 (by decide) (fun h => ?_) (fun h => ?_)
  · exact wX5_next_18 C0 X P L h hP _ (lv_sub hl [] rfl)
  · refine r_iload_n C0 dX5_next_7 hl 1 rfl ?_
    refine r_if_lt h C0 18 dX5_next_8 (by decide) (fun h => ?_) (fun h => ?_)
    · exact wX5_next_18 C0 X P L h hP _ (lv_sub hl [] rfl)
    · refine r_iload_n C0 dX5_next_11 hl 1 rfl ?_
      refine r_sipush C0 (nI 999) dX5_next_12 (by decide) ?_
      refine r_icmp_le h C0 20 dX5_next_15 (by decide) (fun h => ?_) (fun h => ?_)
      · refine r_aload_n C0 dX5_next_20 hl 0 rfl ?_
        refine r_get C0 5 inx5 hP 0 rfl rfl 4 (by decide) (mc wd2_6) (.ref (aL 0)) rfl dX5_next_21 ?_
        refine r_aload_n C0 dX5_next_24 hl 0 rfl ?_
        refine r_get C0 5 inx5 hP 0 rfl rfl 4 (by decide) (mc wd2_6) (.ref (aL 0)) rfl dX5_next_25 ?_
        refine r_get C0 1 inx1 hP 11 rfl rfl 1 (by decide) (mc wd23_12) (.ref (aL 2)) rfl dX5_next_28 ?_
        refine r_iconst C0 (nI 0) dX5_next_31 (by decide) ?_
        refine r_ialdC C0 hP 12 rfl 0 (by decide) dX5_next_32 ?_
        refine r_iload_n C0 dX5_next_33 hl 1 rfl ?_
        refine r_iadd C0 dX5_next_34 ?_
        obtain ⟨z2, hz2, h⟩ := bnd_some h
        have hPc := vaP_sel (Wc := [wPlan K aP P, wLine K aL (aP 0) L]) hP [1, 2] rfl
        refine r_cI (va_runV (As := [.int ((L 1 0) + x1)]) (rest := []) C0.1 (ctX1_kindOf l D K aP aL P L ((L 1 0) + x1) z2 hz2) (cwV 1 C0.1.2.2.2.2 (gdV wd23_13 wd14_16 wd14_17 wd1_23 wd14_18) rfl rfl rfl (by decide +kernel) ⟨Nat.le_of_ble_eq_true rfl, Nat.le_of_ble_eq_true rfl⟩) ⟨pcR_blind, va_recv C0.2.2.2.1 hPc (ci := 1) (q0 := 7) rfl rfl, pcR_of hPc C0.2.2.2⟩ rfl rfl hl.1 rfl (lv_room (Nat.le_of_ble_eq_true rfl)) dX5_next_35 ⟨Nat.zero_le _, Nat.zero_le _⟩).run ?_
        exact r_iretR C0 h dX5_next_38
      · exact wX5_next_18 C0 X P L h hP _ (lv_sub hl [] rfl)
set_option maxHeartbeats 1000000 in
set_option maxRecDepth 10000 in
theorem ctX5_next (l : Launch) (D : va_G) (K : Nat → ClassId) (aX : Nat → Nat) (aP : Nat → Nat) (aL : Nat → Nat) (rX0 : Nat) (rX3 : Nat) (rX5 : Nat) (rX7 : Nat) (rX8 : Nat) (X : Rc) (P : Rc) (L : Rc) (p1 : Int32) (z : Int32) (hz : fX5_next X P L p1 = some z) : Met l yX5_next wsX5_next rmX5_next (pcR D K [.ref (aX 0), .int p1] (fl [wCard K aX rX0 (aP 0) rX3 (aL 0) rX5 rX7 rX8 X, wPlan K aP P, wLine K aL (aP 0) L])) (vp_Si (fun r => r = z)) 0 0 (fun _ => False) := by
  refine Met.ofW (cc := cX5_next) (maxL := 2) (ret := (some .int)) (by decide) rfl ?_
  intro p e s m args below meth c s₁ B hml hv
  obtain ⟨rfl, hP, hK⟩ := hv
  have C0 : cx p s m _ meth c cX5_next 2 RX5 wsX5_next (some .int) D K := ⟨⟨B.exec, B.bytes, hml, findClass_of_methodNamed B.named, atoms_spec (ws := wsX5_next) B.pre⟩, B.returns, B.notSynchronized, hK⟩
  have hl := lv_entry ([.ref (aX 0), .int p1]) (n := 2) (Nat.le_of_ble_eq_true rfl)
  rw [lg_entry_eq]
  generalize (lg_sl ([.ref (aX 0), .int p1]) ++ List.replicate (2 - (lg_sl ([.ref (aX 0), .int p1])).length) Slot.unset).toArray = ls at hl ⊢
  have hl : lv_has ls 2 [(0, .ref (aX 0)), (1, .int p1)] := hl
  exact wX5_next_0 C0 X P L p1 hz hP ls (lv_sub hl [0, 1] rfl)
end SX5_next

section SX5_when
/-! CardLoops.when(II)I -/
abbrev wsX5_when : List Cond := Cond.code yX5_when cX5_when 4 (some .int) :: wsL_law0
abbrev rmX5_when : Room := { frames := 4, cells := 0, slots := 0, locals := 87 }
variable {p : Program} {l : Launch} {e : Env} {s : State} {m : MethodId} {args : Array Value} {below : List Frame} {meth : Method} {c : Code} {D : va_G} {K : Nat → ClassId} {A : Nat → Prop} {N : Nat} {aX : Nat → Nat} {aP : Nat → Nat} {aL : Nat → Nat} {aJ : Nat → Nat} {rX0 : Nat} {rX3 : Nat} {rX7 : Nat} {rX8 : Nat} {z : Int32 × (Rc)}
def IX5_when_43 (p : Program) (l : Launch) (e : Env) (s : State) (m : MethodId) (args : Array Value) (below : List Frame) (meth : Method) (c : Code) (D : va_G) (K : Nat → ClassId) (aX : Nat → Nat) (aP : Nat → Nat) (aL : Nat → Nat) (aJ : Nat → Nat) (rX0 : Nat) (rX3 : Nat) (rX7 : Nat) (rX8 : Nat) (A : Nat → Prop) (z : Int32 × (Rc)) (k : Rc → Rc → Rc → Rc → Int32 → Int32 → Int32 → Option (Int32 × (Rc))) : Prop := ∀ (X : Rc) (P : Rc) (L : Rc) (J : Rc) (x1 : Int32) (x2 : Int32) (x3 : Int32) (H : Heap) (locs : List Loc) (ls : Array Slot), k X P L J x1 x2 x3 = some z → va_P D vwCl (fl [wCard K aX rX0 (aP 0) rX3 (aL 0) (aJ 0) rX7 rX8 X, wPlan K aP P, wLine K aL (aP 0) L, wLine K aJ (aP 0) J]) H → va_D A (fl [wCard K aX rX0 (aP 0) rX3 (aL 0) (aJ 0) rX7 rX8 X, wPlan K aP P, wLine K aL (aP 0) L, wLine K aJ (aP 0) J]) → va_S A s.heap H locs → lv_has ls 4 [(0, .ref (aX 0)), (1, .int x1), (2, .int x2), (3, .int x3)] → W p l e rmX5_when s m args below meth c H locs 0 0 (MQ below (qcI D z (fun (u : Rc) => (fl [wCard K aX rX0 (aP 0) rX3 (aL 0) (aJ 0) rX7 rX8 X, wPlan K aP P, wLine K aL (aP 0) L, wLine K aJ (aP 0) u])) A) args s 0 0 A) (F0 m 43 ls [])
set_option maxHeartbeats 1000000 in
set_option maxRecDepth 10000 in
theorem wX5_when_43 (C0 : cx p s m args meth c cX5_when 4 RX5 wsX5_when (some .int) D K) (hA : ∀ q, s.heap.size ≤ q → A q) {k43 : Rc → Rc → Rc → Rc → Int32 → Int32 → Int32 → Option (Int32 × (Rc))} (hk43 : IX5_when_43 p l e s m args below meth c D K aX aP aL aJ rX0 rX3 rX7 rX8 A z k43) (X : Rc) (P : Rc) (L : Rc) (J : Rc) (x1 : Int32) (x2 : Int32) (x3 : Int32) (h : fX5_when_43b N k43 X P L J x1 x2 x3 = some z) (H : Heap) (locs : List Loc) (hP : va_P D vwCl (fl [wCard K aX rX0 (aP 0) rX3 (aL 0) (aJ 0) rX7 rX8 X, wPlan K aP P, wLine K aL (aP 0) L, wLine K aJ (aP 0) J]) H) (hD : va_D A (fl [wCard K aX rX0 (aP 0) rX3 (aL 0) (aJ 0) rX7 rX8 X, wPlan K aP P, wLine K aL (aP 0) L, wLine K aJ (aP 0) J])) (hS : va_S A s.heap H locs) (ls : Array Slot) (hl : lv_has ls 4 [(0, .ref (aX 0)), (1, .int x1), (2, .int x2), (3, .int x3)]) : W p l e rmX5_when s m args below meth c H locs 0 0 (MQ below (qcI D z (fun (u : Rc) => (fl [wCard K aX rX0 (aP 0) rX3 (aL 0) (aJ 0) rX7 rX8 X, wPlan K aP P, wLine K aL (aP 0) L, wLine K aJ (aP 0) u])) A) args s 0 0 A) (F0 m 43 ls []) := by
  unfold fX5_when_43b at h
  refine r_iload_n C0 dX5_when_43 hl 3 rfl ?_
  refine r_iload_n C0 dX5_when_44 hl 1 rfl ?_
  refine r_icmp_ge h C0 61 dX5_when_45 (by decide) (fun h => ?_) (fun h => ?_)
  · refine r_iload_n C0 dX5_when_61 hl 2 rfl ?_
    refine r_if_ne h C0 75 dX5_when_62 (by decide) (fun h => ?_) (fun h => ?_)
    · refine r_aload_n C0 dX5_when_75 hl 0 rfl ?_
      refine r_get C0 5 inx5 hP 0 rfl rfl 5 (by decide) (mc wd2_7) (.ref (aJ 0)) rfl dX5_when_76 ?_
      refine r_get C0 1 inx1 hP 18 rfl rfl 9 (by decide) (mc wd20_20) (.int (J 9 0)) rfl dX5_when_79 ?_
      exact r_iret h C0 (fun (u : Rc) => (fl [wCard K aX rX0 (aP 0) rX3 (aL 0) (aJ 0) rX7 rX8 X, wPlan K aP P, wLine K aL (aP 0) L, wLine K aJ (aP 0) u])) hP hD hS dX5_when_82
    · refine r_aload_n C0 dX5_when_65 hl 0 rfl ?_
      refine r_get C0 5 inx5 hP 0 rfl rfl 5 (by decide) (mc wd2_7) (.ref (aJ 0)) rfl dX5_when_66 ?_
      refine r_get C0 1 inx1 hP 18 rfl rfl 8 (by decide) (mc wd20_19) (.int (J 8 0)) rfl dX5_when_69 ?_
      refine r_goto C0 82 dX5_when_72 (by decide) ?_
      exact r_iret h C0 (fun (u : Rc) => (fl [wCard K aX rX0 (aP 0) rX3 (aL 0) (aJ 0) rX7 rX8 X, wPlan K aP P, wLine K aL (aP 0) L, wLine K aJ (aP 0) u])) hP hD hS dX5_when_82
  · refine r_aload_n C0 dX5_when_48 hl 0 rfl ?_
    refine r_get C0 5 inx5 hP 0 rfl rfl 5 (by decide) (mc wd2_7) (.ref (aJ 0)) rfl dX5_when_49 ?_
    obtain ⟨z1, hz1, h⟩ := bnd_some h
    refine r_callVC (Wc := [wPlan K aP P, wLine K aJ (aP 0) J]) (wf := fun (u : Rc) => [wPlan K aP P, wLine K aJ (aP 0) u]) (Wn := [wCard K aX rX0 (aP 0) rX3 (aL 0) (aJ 0) rX7 rX8 X, wPlan K aP P, wLine K aL (aP 0) L, wLine K aJ (aP 0) z1]) hP hD hS hA [1, 3] [0, 2] [0, 2, 1, 3] 4 rfl rfl (by decide) rfl rfl (by decide) (fun hPc hDc hFc => va_runV (As := []) (rest := []) C0.1 (ctX1_leapTillOut l D K N aP aJ P J H.size z1 hz1) (cwV 0 C0.1.2.2.2.2 (gdV wd25_14 wd25_15 wd25_16 wd1_23 wd25_17) rfl rfl rfl (by decide +kernel) ⟨Nat.le_of_ble_eq_true rfl, Nat.le_of_ble_eq_true rfl⟩) ⟨pcW_blind, va_recv C0.2.2.2.1 hPc (ci := 1) (q0 := 7) rfl rfl, pcW_of hPc hDc C0.2.2.2⟩ rfl rfl hl.1 rfl (lv_room (Nat.le_of_ble_eq_true rfl)) dX5_when_52 ⟨Nat.zero_le _, Nat.zero_le _⟩) (fun H locs hP hD hS => ?_)
    refine r_iinc h C0 3 (fun v2 => [(3, .int v2), (0, .ref (aX 0)), (1, .int x1), (2, .int x2)]) dX5_when_55 hl rfl rfl (by decide) (fun _ => rfl) (fun v2 ls h hl => ?_)
    refine r_goto C0 43 dX5_when_58 (by decide) ?_
    exact hk43 X P L z1 x1 x2 v2 _ _ _ h hP hD hS (lv_sub hl [1, 2, 3, 0] rfl)
theorem wX5_when_43L (C0 : cx p s m args meth c cX5_when 4 RX5 wsX5_when (some .int) D K) (hA : ∀ q, s.heap.size ≤ q → A q) : IX5_when_43 p l e s m args below meth c D K aX aP aL aJ rX0 rX3 rX7 rX8 A z (fX5_when_43 N) := by
  refine itn_ind (IX5_when_43 p l e s m args below meth c D K aX aP aL aJ rX0 rX3 rX7 rX8 A z) ?_ ?_ N
  · intro _ _ _ _ _ _ _ _ _ _ h; cases h
  · intro k43 hk43 X P L J x1 x2 x3 H locs ls h hP hD hS hl
    exact wX5_when_43 C0 hA hk43 X P L J x1 x2 x3 h H locs hP hD hS ls hl
set_option maxHeartbeats 1000000 in
set_option maxRecDepth 10000 in
theorem wX5_when_28 (C0 : cx p s m args meth c cX5_when 4 RX5 wsX5_when (some .int) D K) (hA : ∀ q, s.heap.size ≤ q → A q) (X : Rc) (P : Rc) (L : Rc) (J : Rc) (h : fX5_when_28 N X P L J = some z) (H : Heap) (locs : List Loc) (hP : va_P D vwCl (fl [wCard K aX rX0 (aP 0) rX3 (aL 0) (aJ 0) rX7 rX8 X, wPlan K aP P, wLine K aL (aP 0) L, wLine K aJ (aP 0) J]) H) (hD : va_D A (fl [wCard K aX rX0 (aP 0) rX3 (aL 0) (aJ 0) rX7 rX8 X, wPlan K aP P, wLine K aL (aP 0) L, wLine K aJ (aP 0) J])) (hS : va_S A s.heap H locs) (ls : Array Slot) (hl : lv_has ls 4 []) : W p l e rmX5_when s m args below meth c H locs 0 0 (MQ below (qcI D z (fun (u : Rc) => (fl [wCard K aX rX0 (aP 0) rX3 (aL 0) (aJ 0) rX7 rX8 X, wPlan K aP P, wLine K aL (aP 0) L, wLine K aJ (aP 0) u])) A) args s 0 0 A) (F0 m 28 ls []) := by
  unfold fX5_when_28 at h
  refine r_iconst C0 (-1 : Int32) dX5_when_28 (by decide) ?_
  exact r_iret h C0 (fun (u : Rc) => (fl [wCard K aX rX0 (aP 0) rX3 (aL 0) (aJ 0) rX7 rX8 X, wPlan K aP P, wLine K aL (aP 0) L, wLine K aJ (aP 0) u])) hP hD hS dX5_when_29
set_option maxHeartbeats 1000000 in
set_option maxRecDepth 10000 in
theorem wX5_when_0 (C0 : cx p s m args meth c cX5_when 4 RX5 wsX5_when (some .int) D K) (hA : ∀ q, s.heap.size ≤ q → A q) (X : Rc) (P : Rc) (L : Rc) (J : Rc) (x1 : Int32) (x2 : Int32) (h : fX5_when N X P L J x1 x2 = some z) (H : Heap) (locs : List Loc) (hP : va_P D vwCl (fl [wCard K aX rX0 (aP 0) rX3 (aL 0) (aJ 0) rX7 rX8 X, wPlan K aP P, wLine K aL (aP 0) L, wLine K aJ (aP 0) J]) H) (hD : va_D A (fl [wCard K aX rX0 (aP 0) rX3 (aL 0) (aJ 0) rX7 rX8 X, wPlan K aP P, wLine K aL (aP 0) L, wLine K aJ (aP 0) J])) (hS : va_S A s.heap H locs) (ls : Array Slot) (hl : lv_has ls 4 [(0, .ref (aX 0)), (1, .int x1), (2, .int x2)]) : W p l e rmX5_when s m args below meth c H locs 0 0 (MQ below (qcI D z (fun (u : Rc) => (fl [wCard K aX rX0 (aP 0) rX3 (aL 0) (aJ 0) rX7 rX8 X, wPlan K aP P, wLine K aL (aP 0) L, wLine K aJ (aP 0) u])) A) args s 0 0 A) (F0 m 0 ls []) := by
  unfold fX5_when at h
  refine r_aload_n C0 dX5_when_0 hl 0 rfl ?_
  obtain ⟨z1, hz1, h⟩ := bnd_some h
  have hPc := vaP_sel (Wc := [wCard K aX rX0 (aP 0) rX3 (aL 0) (aJ 0) rX7 rX8 X, wPlan K aP P]) hP [0, 1] rfl
  refine r_cI (va_runV (As := []) (rest := []) C0.1 (ctX5_isEmpty l D K aX aP rX0 rX3 (aL 0) (aJ 0) rX7 rX8 X P z1 hz1) (cwV 0 C0.1.2.2.2.2 (gdV wd24_18 wd24_19 wd24_20 wd1_2 wd24_21) rfl rfl rfl (by decide +kernel) ⟨Nat.le_of_ble_eq_true rfl, Nat.le_of_ble_eq_true rfl⟩) ⟨pcR_blind, va_recv C0.2.2.2.1 hPc (ci := 5) (q0 := 0) rfl rfl, pcR_of hPc C0.2.2.2⟩ rfl rfl hl.1 rfl (lv_room (Nat.le_of_ble_eq_true rfl)) dX5_when_1 ⟨Nat.zero_le _, Nat.zero_le _⟩).run ?_
  refine r_if_ne h C0 28 dX5_when_4 (by decide) (fun h => ?_) (fun h => ?_)
  · exact wX5_when_28 C0 hA X P L J h _ _ hP hD hS _ (lv_sub hl [] rfl)
  · refine r_iload_n C0 dX5_when_7 hl 1 rfl ?_
    refine r_iconst C0 (nI 1) dX5_when_8 (by decide) ?_
    refine r_icmp_lt h C0 28 dX5_when_9 (by decide) (fun h => ?_) (fun h => ?_)
    · exact wX5_when_28 C0 hA X P L J h _ _ hP hD hS _ (lv_sub hl [] rfl)
    · refine r_iload_n C0 dX5_when_12 hl 1 rfl ?_
      refine r_sipush C0 (nI 200) dX5_when_13 (by decide) ?_
      refine r_icmp_gt h C0 28 dX5_when_16 (by decide) (fun h => ?_) (fun h => ?_)
      · exact wX5_when_28 C0 hA X P L J h _ _ hP hD hS _ (lv_sub hl [] rfl)
      · refine r_iload_n C0 dX5_when_19 hl 2 rfl ?_
        refine r_if_lt h C0 28 dX5_when_20 (by decide) (fun h => ?_) (fun h => ?_)
        · exact wX5_when_28 C0 hA X P L J h _ _ hP hD hS _ (lv_sub hl [] rfl)
        · refine r_iload_n C0 dX5_when_23 hl 2 rfl ?_
          refine r_iconst C0 (nI 1) dX5_when_24 (by decide) ?_
          refine r_icmp_le h C0 30 dX5_when_25 (by decide) (fun h => ?_) (fun h => ?_)
          · refine r_aload_n C0 dX5_when_30 hl 0 rfl ?_
            refine r_get C0 5 inx5 hP 0 rfl rfl 5 (by decide) (mc wd2_7) (.ref (aJ 0)) rfl dX5_when_31 ?_
            refine r_aload_n C0 dX5_when_34 hl 0 rfl ?_
            refine r_get C0 5 inx5 hP 0 rfl rfl 4 (by decide) (mc wd2_6) (.ref (aL 0)) rfl dX5_when_35 ?_
            obtain ⟨z2, hz2, h⟩ := bnd_some h
            refine r_callVC (Wc := [wLine K aJ (aP 0) J, wLine K aL (aP 0) L]) (wf := fun (u : Rc) => [wLine K aJ (aP 0) u, wLine K aL (aP 0) L]) (Wn := [wCard K aX rX0 (aP 0) rX3 (aL 0) (aJ 0) rX7 rX8 X, wPlan K aP P, wLine K aL (aP 0) L, wLine K aJ (aP 0) z2]) hP hD hS hA [3, 2] [0, 1] [0, 1, 3, 2] 4 rfl rfl (by decide) rfl rfl (by decide) (fun hPc hDc hFc => va_runV (As := [.ref (aL 0)]) (rest := []) C0.1 (ctX1_copyFrom l D K aJ aL (aP 0) (aP 0) J L H.size z2 hz2) (cwV 1 C0.1.2.2.2.2 (gdV wd25_10 wd25_11 wd25_12 wd1_23 wd25_13) rfl rfl rfl (by decide +kernel) ⟨Nat.le_of_ble_eq_true rfl, Nat.le_of_ble_eq_true rfl⟩) ⟨pcW_blind, va_recv C0.2.2.2.1 hPc (ci := 1) (q0 := 0) rfl rfl, pcW_of hPc hDc C0.2.2.2⟩ rfl rfl hl.1 rfl (lv_room (Nat.le_of_ble_eq_true rfl)) dX5_when_38 ⟨Nat.zero_le _, Nat.zero_le _⟩) (fun H locs hP hD hS => ?_)
            refine r_iconst C0 (nI 0) dX5_when_41 (by decide) ?_
            refine r_istore_n h C0 (fun v3 => [(3, .int v3), (0, .ref (aX 0)), (1, .int x1), (2, .int x2)]) dX5_when_42 hl (by decide) (fun _ => rfl) (fun v3 ls h hl => ?_)
            exact wX5_when_43L C0 hA X P L z2 x1 x2 v3 _ _ _ h hP hD hS (lv_sub hl [1, 2, 3, 0] rfl)
          · exact wX5_when_28 C0 hA X P L J h _ _ hP hD hS _ (lv_sub hl [] rfl)
set_option maxHeartbeats 1000000 in
set_option maxRecDepth 10000 in
theorem ctX5_when (l : Launch) (D : va_G) (K : Nat → ClassId) (N : Nat) (aX : Nat → Nat) (aP : Nat → Nat) (aL : Nat → Nat) (aJ : Nat → Nat) (rX0 : Nat) (rX3 : Nat) (rX7 : Nat) (rX8 : Nat) (X : Rc) (P : Rc) (L : Rc) (J : Rc) (p1 : Int32) (p2 : Int32) (sz : Nat) (z : Int32 × (Rc)) (hz : fX5_when N X P L J p1 p2 = some z) : Met l yX5_when wsX5_when rmX5_when (pcW D K [.ref (aX 0), .int p1, .int p2] (fl [wCard K aX rX0 (aP 0) rX3 (aL 0) (aJ 0) rX7 rX8 X, wPlan K aP P, wLine K aL (aP 0) L, wLine K aJ (aP 0) J]) sz) (qcI D z (fun (u : Rc) => (fl [wCard K aX rX0 (aP 0) rX3 (aL 0) (aJ 0) rX7 rX8 X, wPlan K aP P, wLine K aL (aP 0) L, wLine K aJ (aP 0) u])) (va_A (fl [wCard K aX rX0 (aP 0) rX3 (aL 0) (aJ 0) rX7 rX8 X, wPlan K aP P, wLine K aL (aP 0) L, wLine K aJ (aP 0) J]) sz)) 0 0 (va_A (fl [wCard K aX rX0 (aP 0) rX3 (aL 0) (aJ 0) rX7 rX8 X, wPlan K aP P, wLine K aL (aP 0) L, wLine K aJ (aP 0) J]) sz) := by
  refine Met.ofW (cc := cX5_when) (maxL := 4) (ret := (some .int)) (by decide) rfl ?_
  intro p e s m args below meth c s₁ B hml hv
  obtain ⟨rfl, hsz, hP, hK, hD0⟩ := hv
  subst hsz
  have C0 : cx p s m _ meth c cX5_when 4 RX5 wsX5_when (some .int) D K := ⟨⟨B.exec, B.bytes, hml, findClass_of_methodNamed B.named, atoms_spec (ws := wsX5_when) B.pre⟩, B.returns, B.notSynchronized, hK⟩
  have hD := hD0.self (sz := s.heap.size)
  generalize hAe : va_A (fl [wCard K aX rX0 (aP 0) rX3 (aL 0) (aJ 0) rX7 rX8 X, wPlan K aP P, wLine K aL (aP 0) L, wLine K aJ (aP 0) J]) s.heap.size = A at hD ⊢
  have hA : ∀ q : Nat, s.heap.size ≤ q → A q := fun q h => by rw [← hAe]; exact Or.inr h
  have hl := lv_entry ([.ref (aX 0), .int p1, .int p2]) (n := 4) (Nat.le_of_ble_eq_true rfl)
  rw [lg_entry_eq]
  generalize (lg_sl ([.ref (aX 0), .int p1, .int p2]) ++ List.replicate (4 - (lg_sl ([.ref (aX 0), .int p1, .int p2])).length) Slot.unset).toArray = ls at hl ⊢
  have hl : lv_has ls 4 [(0, .ref (aX 0)), (1, .int p1), (2, .int p2)] := hl
  exact wX5_when_0 C0 hA X P L J p1 p2 hz s.heap [] hP hD va_S.rf ls (lv_sub hl [0, 1, 2] rfl)
end SX5_when

section SX5_forgetPaces
/-! CardLoops.forgetPaces()V -/
abbrev wsX5_forgetPaces : List Cond := Cond.code yX5_forgetPaces cX5_forgetPaces 1 none :: wsL_law0
abbrev rmX5_forgetPaces : Room := { frames := 1, cells := 0, slots := 0, locals := 23 }
variable {p : Program} {l : Launch} {e : Env} {s : State} {m : MethodId} {args : Array Value} {below : List Frame} {meth : Method} {c : Code} {D : va_G} {K : Nat → ClassId} {A : Nat → Prop} {N : Nat} {aX : Nat → Nat} {rX0 : Nat} {rX2 : Nat} {rX3 : Nat} {rX4 : Nat} {rX5 : Nat} {rX7 : Nat} {rX8 : Nat} {z : Rc}
set_option maxHeartbeats 1000000 in
set_option maxRecDepth 10000 in
theorem wX5_forgetPaces_0 (C0 : cx p s m args meth c cX5_forgetPaces 1 RX5 wsX5_forgetPaces none D K) (hA : ∀ q, s.heap.size ≤ q → A q) (X : Rc) (h : fX5_forgetPaces N X = some z) (H : Heap) (locs : List Loc) (hP : va_P D vwCl (fl [wCard K aX rX0 rX2 rX3 rX4 rX5 rX7 rX8 X]) H) (hD : va_D A (fl [wCard K aX rX0 rX2 rX3 rX4 rX5 rX7 rX8 X])) (hS : va_S A s.heap H locs) (ls : Array Slot) (hl : lv_has ls 1 [(0, .ref (aX 0))]) : W p l e rmX5_forgetPaces s m args below meth c H locs 0 0 (MQ below (qcV D z (fun (u : Rc) => (fl [wCard K aX rX0 rX2 rX3 rX4 rX5 rX7 rX8 u])) A) args s 0 0 A) (F0 m 0 ls []) := by
  unfold fX5_forgetPaces at h
  refine r_aload_n C0 dX5_forgetPaces_0 hl 0 rfl ?_
  refine r_get C0 5 inx5 hP 0 rfl rfl 9 (by decide) (mc wd1_16) (.ref (aX 10)) rfl dX5_forgetPaces_1 ?_
  refine r_iconst C0 (nI 0) dX5_forgetPaces_4 (by decide) ?_
  obtain ⟨z1, hz1, h⟩ := bnd_some h
  refine r_callV (wc := (fl [wArr K (aX 10) 6 (X 9)])) (wf := fun (u : (Nat → Int32)) => (fl [wArr K (aX 10) 6 u])) (wn := (fl [wCard K aX rX0 rX2 rX3 rX4 rX5 rX7 rX8 (va_up X 9 z1)])) hP hD hS hA [2] [0, 1, 3] [0, 1, 3, 2] rfl (by decide) rfl (by decide) (by decide) rfl (by decide) (fun hPc hDc => va_runS (As := [.ref (aX 10), .int (nI 0)]) (rest := []) C0.1 (ctJ7_fill_53178 l D K 6 N (aX 10) (X 9) (nI 0) H.size z1 hz1) (va_cwS 2 C0.1.2.2.2.2 (gdS wd15_5 wd12_23 wd13_0 wd13_1) rfl rfl rfl (by decide +kernel) ⟨Nat.le_of_ble_eq_true rfl, Nat.le_of_ble_eq_true rfl⟩) ⟨pcW_blind, pcW_of hPc hDc C0.2.2.2⟩ rfl rfl hl.1 rfl (lv_room (Nat.le_of_ble_eq_true rfl)) dX5_forgetPaces_5 ⟨Nat.zero_le _, Nat.zero_le _⟩) (fun H locs hP hD hS => ?_)
  refine nm_w h (fun uu => (fl [wCard K aX rX0 rX2 rX3 rX4 rX5 rX7 rX8 uu])) hP hD (fun X2 h hP hD => ?_)
  exact r_vret h C0 (fun (u : Rc) => (fl [wCard K aX rX0 rX2 rX3 rX4 rX5 rX7 rX8 u])) hP hD hS dX5_forgetPaces_8
set_option maxHeartbeats 1000000 in
set_option maxRecDepth 10000 in
theorem ctX5_forgetPaces (l : Launch) (D : va_G) (K : Nat → ClassId) (N : Nat) (aX : Nat → Nat) (rX0 : Nat) (rX2 : Nat) (rX3 : Nat) (rX4 : Nat) (rX5 : Nat) (rX7 : Nat) (rX8 : Nat) (X : Rc) (sz : Nat) (z : Rc) (hz : fX5_forgetPaces N X = some z) : Met l yX5_forgetPaces wsX5_forgetPaces rmX5_forgetPaces (pcW D K [.ref (aX 0)] (fl [wCard K aX rX0 rX2 rX3 rX4 rX5 rX7 rX8 X]) sz) (qcV D z (fun (u : Rc) => (fl [wCard K aX rX0 rX2 rX3 rX4 rX5 rX7 rX8 u])) (va_A (fl [wCard K aX rX0 rX2 rX3 rX4 rX5 rX7 rX8 X]) sz)) 0 0 (va_A (fl [wCard K aX rX0 rX2 rX3 rX4 rX5 rX7 rX8 X]) sz) := by
  refine Met.ofW (cc := cX5_forgetPaces) (maxL := 1) (ret := none) (by decide) rfl ?_
  intro p e s m args below meth c s₁ B hml hv
  obtain ⟨rfl, hsz, hP, hK, hD0⟩ := hv
  subst hsz
  have C0 : cx p s m _ meth c cX5_forgetPaces 1 RX5 wsX5_forgetPaces none D K := ⟨⟨B.exec, B.bytes, hml, findClass_of_methodNamed B.named, atoms_spec (ws := wsX5_forgetPaces) B.pre⟩, B.returns, B.notSynchronized, hK⟩
  have hD := hD0.self (sz := s.heap.size)
  generalize hAe : va_A (fl [wCard K aX rX0 rX2 rX3 rX4 rX5 rX7 rX8 X]) s.heap.size = A at hD ⊢
  have hA : ∀ q : Nat, s.heap.size ≤ q → A q := fun q h => by rw [← hAe]; exact Or.inr h
  have hl := lv_entry ([.ref (aX 0)]) (n := 1) (Nat.le_of_ble_eq_true rfl)
  rw [lg_entry_eq]
  generalize (lg_sl ([.ref (aX 0)]) ++ List.replicate (1 - (lg_sl ([.ref (aX 0)])).length) Slot.unset).toArray = ls at hl ⊢
  have hl : lv_has ls 1 [(0, .ref (aX 0))] := hl
  exact wX5_forgetPaces_0 C0 hA X hz s.heap [] hP hD va_S.rf ls (lv_sub hl [0] rfl)
end SX5_forgetPaces
