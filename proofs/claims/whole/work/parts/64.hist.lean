section SX0_clear
/-! CardLoops$History.clear()V -/
abbrev wsX0_clear : List Cond := Cond.code yX0_clear cX0_clear 1 none :: wsL_law0
abbrev rmX0_clear : Room := { frames := 0, cells := 0, slots := 0, locals := 0 }
variable {p : Program} {l : Launch} {e : Env} {s : State} {m : MethodId} {args : Array Value} {below : List Frame} {meth : Method} {c : Code} {D : va_G} {K : Nat → ClassId} {A : Nat → Prop} {aY : Nat → Nat} {gH : Nat → Option Nat} {z : Rc}
set_option maxHeartbeats 1000000 in
set_option maxRecDepth 10000 in
theorem wX0_clear_0 (C0 : cx p s m args meth c cX0_clear 1 RX0 wsX0_clear none D K) (hA : ∀ q, s.heap.size ≤ q → A q) (Y : Rc) (h : fX0_clear Y = some z) (H : Heap) (locs : List Loc) (hP : va_P D vwCl (fl [wHist K aY gH Y]) H) (hD : va_D A (fl [wHist K aY gH Y])) (hS : va_S A s.heap H locs) (ls : Array Slot) (hl : lv_has ls 1 [(0, .ref (aY 0))]) : W p l e rmX0_clear s m args below meth c H locs 0 0 (MQ below (qcV D z (fun (u : Rc) => (fl [wHist K aY gH u])) A) args s 0 0 A) (F0 m 0 ls []) := by
  unfold fX0_clear at h
  refine r_aload_n C0 dX0_clear_0 hl 0 rfl ?_
  refine r_iconst C0 (nI 0) dX0_clear_1 (by decide) ?_
  refine r_put (ty := .int) h C0 0 inx0 tyX0 tyX0_ok nmX0 hP hD hS 0 (fun uu => (fl [wHist K aY gH uu])) rfl rfl 1 (by decide) (mc wd5_3) rfl (by decide +kernel) rfl rfl (by simp) rfl dX0_clear_2 (fun Y1 H locs h hP hD hS => ?_)
  exact r_vret h C0 (fun (u : Rc) => (fl [wHist K aY gH u])) hP hD hS dX0_clear_5
set_option maxHeartbeats 1000000 in
set_option maxRecDepth 10000 in
theorem ctX0_clear (l : Launch) (D : va_G) (K : Nat → ClassId) (aY : Nat → Nat) (gH : Nat → Option Nat) (Y : Rc) (sz : Nat) (z : Rc) (hz : fX0_clear Y = some z) : Met l yX0_clear wsX0_clear rmX0_clear (pcW D K [.ref (aY 0)] (fl [wHist K aY gH Y]) sz) (qcV D z (fun (u : Rc) => (fl [wHist K aY gH u])) (va_A (fl [wHist K aY gH Y]) sz)) 0 0 (va_A (fl [wHist K aY gH Y]) sz) := by
  refine Met.ofW (cc := cX0_clear) (maxL := 1) (ret := none) (by decide) rfl ?_
  intro p e s m args below meth c s₁ B hml hv
  obtain ⟨rfl, hsz, hP, hK, hD0⟩ := hv
  subst hsz
  have C0 : cx p s m _ meth c cX0_clear 1 RX0 wsX0_clear none D K := ⟨⟨B.exec, B.bytes, hml, findClass_of_methodNamed B.named, atoms_spec (ws := wsX0_clear) B.pre⟩, B.returns, B.notSynchronized, hK⟩
  have hD := hD0.self (sz := s.heap.size)
  generalize hAe : va_A (fl [wHist K aY gH Y]) s.heap.size = A at hD ⊢
  have hA : ∀ q : Nat, s.heap.size ≤ q → A q := fun q h => by rw [← hAe]; exact Or.inr h
  have hl := lv_entry ([.ref (aY 0)]) (n := 1) (Nat.le_of_ble_eq_true rfl)
  rw [lg_entry_eq]
  generalize (lg_sl ([.ref (aY 0)]) ++ List.replicate (1 - (lg_sl ([.ref (aY 0)])).length) Slot.unset).toArray = ls at hl ⊢
  have hl : lv_has ls 1 [(0, .ref (aY 0))] := hl
  exact wX0_clear_0 C0 hA Y hz s.heap [] hP hD va_S.rf ls (lv_sub hl [0] rfl)
end SX0_clear

section SX0_keep
/-! CardLoops$History.keep(LCardLoops$Line;)V -/
abbrev wsX0_keep : List Cond := Cond.code yX0_keep cX0_keep 2 none :: wsL_law0
abbrev rmX0_keep : Room := { frames := 2, cells := 0, slots := 0, locals := 61 }
variable {p : Program} {l : Launch} {e : Env} {s : State} {m : MethodId} {args : Array Value} {below : List Frame} {meth : Method} {c : Code} {D : va_G} {K : Nat → ClassId} {A : Nat → Prop} {aL : Nat → Nat} {aY : Nat → Nat} {ak0 : Nat → Nat} {ak1 : Nat → Nat} {ak2 : Nat → Nat} {ak3 : Nat → Nat} {ak4 : Nat → Nat} {ak5 : Nat → Nat} {ak6 : Nat → Nat} {ak7 : Nat → Nat} {gH : Nat → Option Nat} {rL0 : Nat} {rk00 : Nat} {rk10 : Nat} {rk20 : Nat} {rk30 : Nat} {rk40 : Nat} {rk50 : Nat} {rk60 : Nat} {rk70 : Nat} {z : Rc × Rc × Rc × Rc × Rc × Rc × Rc × Rc × Rc}
set_option maxHeartbeats 1000000 in
set_option maxRecDepth 10000 in
theorem wX0_keep_0 (C0 : cx p s m args meth c cX0_keep 2 RX0 wsX0_keep none D K) (hA : ∀ q, s.heap.size ≤ q → A q) (hG : gHok gH ak0 ak1 ak2 ak3 ak4 ak5 ak6 ak7) (L : Rc) (Y : Rc) (k0 : Rc) (k1 : Rc) (k2 : Rc) (k3 : Rc) (k4 : Rc) (k5 : Rc) (k6 : Rc) (k7 : Rc) (h : fX0_keep L Y k0 k1 k2 k3 k4 k5 k6 k7 = some z) (H : Heap) (locs : List Loc) (hP : va_P D vwCl (fl [wLine K aL rL0 L, wHist K aY gH Y, wLine K ak0 rk00 k0, wLine K ak1 rk10 k1, wLine K ak2 rk20 k2, wLine K ak3 rk30 k3, wLine K ak4 rk40 k4, wLine K ak5 rk50 k5, wLine K ak6 rk60 k6, wLine K ak7 rk70 k7]) H) (hD : va_D A (fl [wLine K aL rL0 L, wHist K aY gH Y, wLine K ak0 rk00 k0, wLine K ak1 rk10 k1, wLine K ak2 rk20 k2, wLine K ak3 rk30 k3, wLine K ak4 rk40 k4, wLine K ak5 rk50 k5, wLine K ak6 rk60 k6, wLine K ak7 rk70 k7])) (hS : va_S A s.heap H locs) (ls : Array Slot) (hl : lv_has ls 2 [(0, .ref (aY 0)), (1, .ref (aL 0))]) : W p l e rmX0_keep s m args below meth c H locs 0 0 (MQ below (qcV D z (fun (u : Rc × Rc × Rc × Rc × Rc × Rc × Rc × Rc × Rc) => (fl [wLine K aL rL0 L, wHist K aY gH u.1, wLine K ak0 rk00 u.2.1, wLine K ak1 rk10 u.2.2.1, wLine K ak2 rk20 u.2.2.2.1, wLine K ak3 rk30 u.2.2.2.2.1, wLine K ak4 rk40 u.2.2.2.2.2.1, wLine K ak5 rk50 u.2.2.2.2.2.2.1, wLine K ak6 rk60 u.2.2.2.2.2.2.2.1, wLine K ak7 rk70 u.2.2.2.2.2.2.2.2])) A) args s 0 0 A) (F0 m 0 ls []) := by
  unfold fX0_keep at h
  refine r_aload_n C0 dX0_keep_0 hl 0 rfl ?_
  refine r_get C0 0 inx0 hP 7 rfl rfl 0 (by decide) (mc wd5_2) (.ref (aY 1)) rfl dX0_keep_1 ?_
  refine r_aload_n C0 dX0_keep_4 hl 0 rfl ?_
  refine r_get C0 0 inx0 hP 7 rfl rfl 2 (by decide) (mc wd5_4) (.int (Y 2 0)) rfl dX0_keep_5 ?_
  refine sw_if h (fun hx h => ?_) (fun hx0 h => ?_)
  · refine r_aald8 C0 hP 8 rfl 0 (by rw [hx]; exact hG.1) (by rw [hx]; decide) dX0_keep_8 ?_
    refine r_aload_n C0 dX0_keep_9 hl 1 rfl ?_
    obtain ⟨z1, hz1, h⟩ := bnd_some h
    refine r_callVC (Wc := [wLine K ak0 rk00 k0, wLine K aL rL0 L]) (wf := fun (u : Rc) => [wLine K ak0 rk00 u, wLine K aL rL0 L]) (Wn := [wLine K aL rL0 L, wHist K aY gH Y, wLine K ak0 rk00 z1, wLine K ak1 rk10 k1, wLine K ak2 rk20 k2, wLine K ak3 rk30 k3, wLine K ak4 rk40 k4, wLine K ak5 rk50 k5, wLine K ak6 rk60 k6, wLine K ak7 rk70 k7]) hP hD hS hA [2, 0] [1, 3, 4, 5, 6, 7, 8, 9] [9, 0, 8, 1, 2, 3, 4, 5, 6, 7] 10 rfl rfl (by decide) rfl rfl (by decide) (fun hPc hDc hFc => va_runV (As := [.ref (aL 0)]) (rest := []) C0.1 (ctX1_copyFrom l D K ak0 aL rk00 rL0 k0 L H.size z1 hz1) (cwV 1 C0.1.2.2.2.2 (gdV wd33_4 wd25_11 wd25_12 wd1_23 wd25_13) rfl rfl rfl (by decide +kernel) ⟨Nat.le_of_ble_eq_true rfl, Nat.le_of_ble_eq_true rfl⟩) ⟨pcW_blind, va_recv C0.2.2.2.1 hPc (ci := 1) (q0 := 0) rfl rfl, pcW_of hPc hDc C0.2.2.2⟩ rfl rfl hl.1 rfl (lv_room (Nat.le_of_ble_eq_true rfl)) dX0_keep_10 ⟨Nat.zero_le _, Nat.zero_le _⟩) (fun H locs hP hD hS => ?_)
    refine r_aload_n C0 dX0_keep_13 hl 0 rfl ?_
    refine r_aload_n C0 dX0_keep_14 hl 0 rfl ?_
    refine r_get C0 0 inx0 hP 7 rfl rfl 2 (by decide) (mc wd5_4) (.int (Y 2 0)) rfl dX0_keep_15 ?_
    refine r_iconst C0 (nI 1) dX0_keep_18 (by decide) ?_
    refine r_iadd C0 dX0_keep_19 ?_
    refine r_bipush C0 (nI 8) dX0_keep_20 (by decide) ?_
    refine r_iremC C0 (by decide) dX0_keep_22 ?_
    refine r_put (ty := .int) h C0 0 inx0 tyX0 tyX0_ok nmX0 hP hD hS 7 (fun uu => (fl [wLine K aL rL0 L, wHist K aY gH uu, wLine K ak0 rk00 z1, wLine K ak1 rk10 k1, wLine K ak2 rk20 k2, wLine K ak3 rk30 k3, wLine K ak4 rk40 k4, wLine K ak5 rk50 k5, wLine K ak6 rk60 k6, wLine K ak7 rk70 k7])) rfl rfl 2 (by decide) (mc wd5_4) rfl (by decide +kernel) rfl rfl (by simp) rfl dX0_keep_23 (fun Y2 H locs h hP hD hS => ?_)
    refine r_aload_n C0 dX0_keep_26 hl 0 rfl ?_
    refine r_aload_n C0 dX0_keep_27 hl 0 rfl ?_
    refine r_get C0 0 inx0 hP 7 rfl rfl 1 (by decide) (mc wd5_3) (.int (Y2 1 0)) rfl dX0_keep_28 ?_
    refine r_iconst C0 (nI 1) dX0_keep_31 (by decide) ?_
    refine r_iadd C0 dX0_keep_32 ?_
    refine r_bipush C0 (nI 8) dX0_keep_33 (by decide) ?_
    refine r_mmin C0 ⟨(mc wd33_3), (mc wd7_11), (mc wd7_12), (mc wd7_13)⟩ hl ⟨Nat.le_of_ble_eq_true rfl, Nat.le_of_ble_eq_true rfl⟩ ⟨Nat.zero_le _, Nat.zero_le _⟩ dX0_keep_35 ?_
    refine r_put (ty := .int) h C0 0 inx0 tyX0 tyX0_ok nmX0 hP hD hS 7 (fun uu => (fl [wLine K aL rL0 L, wHist K aY gH uu, wLine K ak0 rk00 z1, wLine K ak1 rk10 k1, wLine K ak2 rk20 k2, wLine K ak3 rk30 k3, wLine K ak4 rk40 k4, wLine K ak5 rk50 k5, wLine K ak6 rk60 k6, wLine K ak7 rk70 k7])) rfl rfl 1 (by decide) (mc wd5_3) rfl (by decide +kernel) rfl rfl (by simp) rfl dX0_keep_38 (fun Y3 H locs h hP hD hS => ?_)
    exact r_vret h C0 (fun (u : Rc × Rc × Rc × Rc × Rc × Rc × Rc × Rc × Rc) => (fl [wLine K aL rL0 L, wHist K aY gH u.1, wLine K ak0 rk00 u.2.1, wLine K ak1 rk10 u.2.2.1, wLine K ak2 rk20 u.2.2.2.1, wLine K ak3 rk30 u.2.2.2.2.1, wLine K ak4 rk40 u.2.2.2.2.2.1, wLine K ak5 rk50 u.2.2.2.2.2.2.1, wLine K ak6 rk60 u.2.2.2.2.2.2.2.1, wLine K ak7 rk70 u.2.2.2.2.2.2.2.2])) hP hD hS dX0_keep_41
  refine sw_if h (fun hx h => ?_) (fun hx1 h => ?_)
  · refine r_aald8 C0 hP 8 rfl 1 (by rw [hx]; exact hG.2.1) (by rw [hx]; decide) dX0_keep_8 ?_
    refine r_aload_n C0 dX0_keep_9 hl 1 rfl ?_
    obtain ⟨z4, hz4, h⟩ := bnd_some h
    refine r_callVC (Wc := [wLine K ak1 rk10 k1, wLine K aL rL0 L]) (wf := fun (u : Rc) => [wLine K ak1 rk10 u, wLine K aL rL0 L]) (Wn := [wLine K aL rL0 L, wHist K aY gH Y, wLine K ak0 rk00 k0, wLine K ak1 rk10 z4, wLine K ak2 rk20 k2, wLine K ak3 rk30 k3, wLine K ak4 rk40 k4, wLine K ak5 rk50 k5, wLine K ak6 rk60 k6, wLine K ak7 rk70 k7]) hP hD hS hA [3, 0] [1, 2, 4, 5, 6, 7, 8, 9] [9, 0, 1, 8, 2, 3, 4, 5, 6, 7] 10 rfl rfl (by decide) rfl rfl (by decide) (fun hPc hDc hFc => va_runV (As := [.ref (aL 0)]) (rest := []) C0.1 (ctX1_copyFrom l D K ak1 aL rk10 rL0 k1 L H.size z4 hz4) (cwV 1 C0.1.2.2.2.2 (gdV wd33_4 wd25_11 wd25_12 wd1_23 wd25_13) rfl rfl rfl (by decide +kernel) ⟨Nat.le_of_ble_eq_true rfl, Nat.le_of_ble_eq_true rfl⟩) ⟨pcW_blind, va_recv C0.2.2.2.1 hPc (ci := 1) (q0 := 0) rfl rfl, pcW_of hPc hDc C0.2.2.2⟩ rfl rfl hl.1 rfl (lv_room (Nat.le_of_ble_eq_true rfl)) dX0_keep_10 ⟨Nat.zero_le _, Nat.zero_le _⟩) (fun H locs hP hD hS => ?_)
    refine r_aload_n C0 dX0_keep_13 hl 0 rfl ?_
    refine r_aload_n C0 dX0_keep_14 hl 0 rfl ?_
    refine r_get C0 0 inx0 hP 7 rfl rfl 2 (by decide) (mc wd5_4) (.int (Y 2 0)) rfl dX0_keep_15 ?_
    refine r_iconst C0 (nI 1) dX0_keep_18 (by decide) ?_
    refine r_iadd C0 dX0_keep_19 ?_
    refine r_bipush C0 (nI 8) dX0_keep_20 (by decide) ?_
    refine r_iremC C0 (by decide) dX0_keep_22 ?_
    refine r_put (ty := .int) h C0 0 inx0 tyX0 tyX0_ok nmX0 hP hD hS 7 (fun uu => (fl [wLine K aL rL0 L, wHist K aY gH uu, wLine K ak0 rk00 k0, wLine K ak1 rk10 z4, wLine K ak2 rk20 k2, wLine K ak3 rk30 k3, wLine K ak4 rk40 k4, wLine K ak5 rk50 k5, wLine K ak6 rk60 k6, wLine K ak7 rk70 k7])) rfl rfl 2 (by decide) (mc wd5_4) rfl (by decide +kernel) rfl rfl (by simp) rfl dX0_keep_23 (fun Y5 H locs h hP hD hS => ?_)
    refine r_aload_n C0 dX0_keep_26 hl 0 rfl ?_
    refine r_aload_n C0 dX0_keep_27 hl 0 rfl ?_
    refine r_get C0 0 inx0 hP 7 rfl rfl 1 (by decide) (mc wd5_3) (.int (Y5 1 0)) rfl dX0_keep_28 ?_
    refine r_iconst C0 (nI 1) dX0_keep_31 (by decide) ?_
    refine r_iadd C0 dX0_keep_32 ?_
    refine r_bipush C0 (nI 8) dX0_keep_33 (by decide) ?_
    refine r_mmin C0 ⟨(mc wd33_3), (mc wd7_11), (mc wd7_12), (mc wd7_13)⟩ hl ⟨Nat.le_of_ble_eq_true rfl, Nat.le_of_ble_eq_true rfl⟩ ⟨Nat.zero_le _, Nat.zero_le _⟩ dX0_keep_35 ?_
    refine r_put (ty := .int) h C0 0 inx0 tyX0 tyX0_ok nmX0 hP hD hS 7 (fun uu => (fl [wLine K aL rL0 L, wHist K aY gH uu, wLine K ak0 rk00 k0, wLine K ak1 rk10 z4, wLine K ak2 rk20 k2, wLine K ak3 rk30 k3, wLine K ak4 rk40 k4, wLine K ak5 rk50 k5, wLine K ak6 rk60 k6, wLine K ak7 rk70 k7])) rfl rfl 1 (by decide) (mc wd5_3) rfl (by decide +kernel) rfl rfl (by simp) rfl dX0_keep_38 (fun Y6 H locs h hP hD hS => ?_)
    exact r_vret h C0 (fun (u : Rc × Rc × Rc × Rc × Rc × Rc × Rc × Rc × Rc) => (fl [wLine K aL rL0 L, wHist K aY gH u.1, wLine K ak0 rk00 u.2.1, wLine K ak1 rk10 u.2.2.1, wLine K ak2 rk20 u.2.2.2.1, wLine K ak3 rk30 u.2.2.2.2.1, wLine K ak4 rk40 u.2.2.2.2.2.1, wLine K ak5 rk50 u.2.2.2.2.2.2.1, wLine K ak6 rk60 u.2.2.2.2.2.2.2.1, wLine K ak7 rk70 u.2.2.2.2.2.2.2.2])) hP hD hS dX0_keep_41
  refine sw_if h (fun hx h => ?_) (fun hx2 h => ?_)
  · refine r_aald8 C0 hP 8 rfl 2 (by rw [hx]; exact hG.2.2.1) (by rw [hx]; decide) dX0_keep_8 ?_
    refine r_aload_n C0 dX0_keep_9 hl 1 rfl ?_
    obtain ⟨z7, hz7, h⟩ := bnd_some h
    refine r_callVC (Wc := [wLine K ak2 rk20 k2, wLine K aL rL0 L]) (wf := fun (u : Rc) => [wLine K ak2 rk20 u, wLine K aL rL0 L]) (Wn := [wLine K aL rL0 L, wHist K aY gH Y, wLine K ak0 rk00 k0, wLine K ak1 rk10 k1, wLine K ak2 rk20 z7, wLine K ak3 rk30 k3, wLine K ak4 rk40 k4, wLine K ak5 rk50 k5, wLine K ak6 rk60 k6, wLine K ak7 rk70 k7]) hP hD hS hA [4, 0] [1, 2, 3, 5, 6, 7, 8, 9] [9, 0, 1, 2, 8, 3, 4, 5, 6, 7] 10 rfl rfl (by decide) rfl rfl (by decide) (fun hPc hDc hFc => va_runV (As := [.ref (aL 0)]) (rest := []) C0.1 (ctX1_copyFrom l D K ak2 aL rk20 rL0 k2 L H.size z7 hz7) (cwV 1 C0.1.2.2.2.2 (gdV wd33_4 wd25_11 wd25_12 wd1_23 wd25_13) rfl rfl rfl (by decide +kernel) ⟨Nat.le_of_ble_eq_true rfl, Nat.le_of_ble_eq_true rfl⟩) ⟨pcW_blind, va_recv C0.2.2.2.1 hPc (ci := 1) (q0 := 0) rfl rfl, pcW_of hPc hDc C0.2.2.2⟩ rfl rfl hl.1 rfl (lv_room (Nat.le_of_ble_eq_true rfl)) dX0_keep_10 ⟨Nat.zero_le _, Nat.zero_le _⟩) (fun H locs hP hD hS => ?_)
    refine r_aload_n C0 dX0_keep_13 hl 0 rfl ?_
    refine r_aload_n C0 dX0_keep_14 hl 0 rfl ?_
    refine r_get C0 0 inx0 hP 7 rfl rfl 2 (by decide) (mc wd5_4) (.int (Y 2 0)) rfl dX0_keep_15 ?_
    refine r_iconst C0 (nI 1) dX0_keep_18 (by decide) ?_
    refine r_iadd C0 dX0_keep_19 ?_
    refine r_bipush C0 (nI 8) dX0_keep_20 (by decide) ?_
    refine r_iremC C0 (by decide) dX0_keep_22 ?_
    refine r_put (ty := .int) h C0 0 inx0 tyX0 tyX0_ok nmX0 hP hD hS 7 (fun uu => (fl [wLine K aL rL0 L, wHist K aY gH uu, wLine K ak0 rk00 k0, wLine K ak1 rk10 k1, wLine K ak2 rk20 z7, wLine K ak3 rk30 k3, wLine K ak4 rk40 k4, wLine K ak5 rk50 k5, wLine K ak6 rk60 k6, wLine K ak7 rk70 k7])) rfl rfl 2 (by decide) (mc wd5_4) rfl (by decide +kernel) rfl rfl (by simp) rfl dX0_keep_23 (fun Y8 H locs h hP hD hS => ?_)
    refine r_aload_n C0 dX0_keep_26 hl 0 rfl ?_
    refine r_aload_n C0 dX0_keep_27 hl 0 rfl ?_
    refine r_get C0 0 inx0 hP 7 rfl rfl 1 (by decide) (mc wd5_3) (.int (Y8 1 0)) rfl dX0_keep_28 ?_
    refine r_iconst C0 (nI 1) dX0_keep_31 (by decide) ?_
    refine r_iadd C0 dX0_keep_32 ?_
    refine r_bipush C0 (nI 8) dX0_keep_33 (by decide) ?_
    refine r_mmin C0 ⟨(mc wd33_3), (mc wd7_11), (mc wd7_12), (mc wd7_13)⟩ hl ⟨Nat.le_of_ble_eq_true rfl, Nat.le_of_ble_eq_true rfl⟩ ⟨Nat.zero_le _, Nat.zero_le _⟩ dX0_keep_35 ?_
    refine r_put (ty := .int) h C0 0 inx0 tyX0 tyX0_ok nmX0 hP hD hS 7 (fun uu => (fl [wLine K aL rL0 L, wHist K aY gH uu, wLine K ak0 rk00 k0, wLine K ak1 rk10 k1, wLine K ak2 rk20 z7, wLine K ak3 rk30 k3, wLine K ak4 rk40 k4, wLine K ak5 rk50 k5, wLine K ak6 rk60 k6, wLine K ak7 rk70 k7])) rfl rfl 1 (by decide) (mc wd5_3) rfl (by decide +kernel) rfl rfl (by simp) rfl dX0_keep_38 (fun Y9 H locs h hP hD hS => ?_)
    exact r_vret h C0 (fun (u : Rc × Rc × Rc × Rc × Rc × Rc × Rc × Rc × Rc) => (fl [wLine K aL rL0 L, wHist K aY gH u.1, wLine K ak0 rk00 u.2.1, wLine K ak1 rk10 u.2.2.1, wLine K ak2 rk20 u.2.2.2.1, wLine K ak3 rk30 u.2.2.2.2.1, wLine K ak4 rk40 u.2.2.2.2.2.1, wLine K ak5 rk50 u.2.2.2.2.2.2.1, wLine K ak6 rk60 u.2.2.2.2.2.2.2.1, wLine K ak7 rk70 u.2.2.2.2.2.2.2.2])) hP hD hS dX0_keep_41
  refine sw_if h (fun hx h => ?_) (fun hx3 h => ?_)
  · refine r_aald8 C0 hP 8 rfl 3 (by rw [hx]; exact hG.2.2.2.1) (by rw [hx]; decide) dX0_keep_8 ?_
    refine r_aload_n C0 dX0_keep_9 hl 1 rfl ?_
    obtain ⟨z10, hz10, h⟩ := bnd_some h
    refine r_callVC (Wc := [wLine K ak3 rk30 k3, wLine K aL rL0 L]) (wf := fun (u : Rc) => [wLine K ak3 rk30 u, wLine K aL rL0 L]) (Wn := [wLine K aL rL0 L, wHist K aY gH Y, wLine K ak0 rk00 k0, wLine K ak1 rk10 k1, wLine K ak2 rk20 k2, wLine K ak3 rk30 z10, wLine K ak4 rk40 k4, wLine K ak5 rk50 k5, wLine K ak6 rk60 k6, wLine K ak7 rk70 k7]) hP hD hS hA [5, 0] [1, 2, 3, 4, 6, 7, 8, 9] [9, 0, 1, 2, 3, 8, 4, 5, 6, 7] 10 rfl rfl (by decide) rfl rfl (by decide) (fun hPc hDc hFc => va_runV (As := [.ref (aL 0)]) (rest := []) C0.1 (ctX1_copyFrom l D K ak3 aL rk30 rL0 k3 L H.size z10 hz10) (cwV 1 C0.1.2.2.2.2 (gdV wd33_4 wd25_11 wd25_12 wd1_23 wd25_13) rfl rfl rfl (by decide +kernel) ⟨Nat.le_of_ble_eq_true rfl, Nat.le_of_ble_eq_true rfl⟩) ⟨pcW_blind, va_recv C0.2.2.2.1 hPc (ci := 1) (q0 := 0) rfl rfl, pcW_of hPc hDc C0.2.2.2⟩ rfl rfl hl.1 rfl (lv_room (Nat.le_of_ble_eq_true rfl)) dX0_keep_10 ⟨Nat.zero_le _, Nat.zero_le _⟩) (fun H locs hP hD hS => ?_)
    refine r_aload_n C0 dX0_keep_13 hl 0 rfl ?_
    refine r_aload_n C0 dX0_keep_14 hl 0 rfl ?_
    refine r_get C0 0 inx0 hP 7 rfl rfl 2 (by decide) (mc wd5_4) (.int (Y 2 0)) rfl dX0_keep_15 ?_
    refine r_iconst C0 (nI 1) dX0_keep_18 (by decide) ?_
    refine r_iadd C0 dX0_keep_19 ?_
    refine r_bipush C0 (nI 8) dX0_keep_20 (by decide) ?_
    refine r_iremC C0 (by decide) dX0_keep_22 ?_
    refine r_put (ty := .int) h C0 0 inx0 tyX0 tyX0_ok nmX0 hP hD hS 7 (fun uu => (fl [wLine K aL rL0 L, wHist K aY gH uu, wLine K ak0 rk00 k0, wLine K ak1 rk10 k1, wLine K ak2 rk20 k2, wLine K ak3 rk30 z10, wLine K ak4 rk40 k4, wLine K ak5 rk50 k5, wLine K ak6 rk60 k6, wLine K ak7 rk70 k7])) rfl rfl 2 (by decide) (mc wd5_4) rfl (by decide +kernel) rfl rfl (by simp) rfl dX0_keep_23 (fun Y11 H locs h hP hD hS => ?_)
    refine r_aload_n C0 dX0_keep_26 hl 0 rfl ?_
    refine r_aload_n C0 dX0_keep_27 hl 0 rfl ?_
    refine r_get C0 0 inx0 hP 7 rfl rfl 1 (by decide) (mc wd5_3) (.int (Y11 1 0)) rfl dX0_keep_28 ?_
    refine r_iconst C0 (nI 1) dX0_keep_31 (by decide) ?_
    refine r_iadd C0 dX0_keep_32 ?_
    refine r_bipush C0 (nI 8) dX0_keep_33 (by decide) ?_
    refine r_mmin C0 ⟨(mc wd33_3), (mc wd7_11), (mc wd7_12), (mc wd7_13)⟩ hl ⟨Nat.le_of_ble_eq_true rfl, Nat.le_of_ble_eq_true rfl⟩ ⟨Nat.zero_le _, Nat.zero_le _⟩ dX0_keep_35 ?_
    refine r_put (ty := .int) h C0 0 inx0 tyX0 tyX0_ok nmX0 hP hD hS 7 (fun uu => (fl [wLine K aL rL0 L, wHist K aY gH uu, wLine K ak0 rk00 k0, wLine K ak1 rk10 k1, wLine K ak2 rk20 k2, wLine K ak3 rk30 z10, wLine K ak4 rk40 k4, wLine K ak5 rk50 k5, wLine K ak6 rk60 k6, wLine K ak7 rk70 k7])) rfl rfl 1 (by decide) (mc wd5_3) rfl (by decide +kernel) rfl rfl (by simp) rfl dX0_keep_38 (fun Y12 H locs h hP hD hS => ?_)
    exact r_vret h C0 (fun (u : Rc × Rc × Rc × Rc × Rc × Rc × Rc × Rc × Rc) => (fl [wLine K aL rL0 L, wHist K aY gH u.1, wLine K ak0 rk00 u.2.1, wLine K ak1 rk10 u.2.2.1, wLine K ak2 rk20 u.2.2.2.1, wLine K ak3 rk30 u.2.2.2.2.1, wLine K ak4 rk40 u.2.2.2.2.2.1, wLine K ak5 rk50 u.2.2.2.2.2.2.1, wLine K ak6 rk60 u.2.2.2.2.2.2.2.1, wLine K ak7 rk70 u.2.2.2.2.2.2.2.2])) hP hD hS dX0_keep_41
  refine sw_if h (fun hx h => ?_) (fun hx4 h => ?_)
  · refine r_aald8 C0 hP 8 rfl 4 (by rw [hx]; exact hG.2.2.2.2.1) (by rw [hx]; decide) dX0_keep_8 ?_
    refine r_aload_n C0 dX0_keep_9 hl 1 rfl ?_
    obtain ⟨z13, hz13, h⟩ := bnd_some h
    refine r_callVC (Wc := [wLine K ak4 rk40 k4, wLine K aL rL0 L]) (wf := fun (u : Rc) => [wLine K ak4 rk40 u, wLine K aL rL0 L]) (Wn := [wLine K aL rL0 L, wHist K aY gH Y, wLine K ak0 rk00 k0, wLine K ak1 rk10 k1, wLine K ak2 rk20 k2, wLine K ak3 rk30 k3, wLine K ak4 rk40 z13, wLine K ak5 rk50 k5, wLine K ak6 rk60 k6, wLine K ak7 rk70 k7]) hP hD hS hA [6, 0] [1, 2, 3, 4, 5, 7, 8, 9] [9, 0, 1, 2, 3, 4, 8, 5, 6, 7] 10 rfl rfl (by decide) rfl rfl (by decide) (fun hPc hDc hFc => va_runV (As := [.ref (aL 0)]) (rest := []) C0.1 (ctX1_copyFrom l D K ak4 aL rk40 rL0 k4 L H.size z13 hz13) (cwV 1 C0.1.2.2.2.2 (gdV wd33_4 wd25_11 wd25_12 wd1_23 wd25_13) rfl rfl rfl (by decide +kernel) ⟨Nat.le_of_ble_eq_true rfl, Nat.le_of_ble_eq_true rfl⟩) ⟨pcW_blind, va_recv C0.2.2.2.1 hPc (ci := 1) (q0 := 0) rfl rfl, pcW_of hPc hDc C0.2.2.2⟩ rfl rfl hl.1 rfl (lv_room (Nat.le_of_ble_eq_true rfl)) dX0_keep_10 ⟨Nat.zero_le _, Nat.zero_le _⟩) (fun H locs hP hD hS => ?_)
    refine r_aload_n C0 dX0_keep_13 hl 0 rfl ?_
    refine r_aload_n C0 dX0_keep_14 hl 0 rfl ?_
    refine r_get C0 0 inx0 hP 7 rfl rfl 2 (by decide) (mc wd5_4) (.int (Y 2 0)) rfl dX0_keep_15 ?_
    refine r_iconst C0 (nI 1) dX0_keep_18 (by decide) ?_
    refine r_iadd C0 dX0_keep_19 ?_
    refine r_bipush C0 (nI 8) dX0_keep_20 (by decide) ?_
    refine r_iremC C0 (by decide) dX0_keep_22 ?_
    refine r_put (ty := .int) h C0 0 inx0 tyX0 tyX0_ok nmX0 hP hD hS 7 (fun uu => (fl [wLine K aL rL0 L, wHist K aY gH uu, wLine K ak0 rk00 k0, wLine K ak1 rk10 k1, wLine K ak2 rk20 k2, wLine K ak3 rk30 k3, wLine K ak4 rk40 z13, wLine K ak5 rk50 k5, wLine K ak6 rk60 k6, wLine K ak7 rk70 k7])) rfl rfl 2 (by decide) (mc wd5_4) rfl (by decide +kernel) rfl rfl (by simp) rfl dX0_keep_23 (fun Y14 H locs h hP hD hS => ?_)
    refine r_aload_n C0 dX0_keep_26 hl 0 rfl ?_
    refine r_aload_n C0 dX0_keep_27 hl 0 rfl ?_
    refine r_get C0 0 inx0 hP 7 rfl rfl 1 (by decide) (mc wd5_3) (.int (Y14 1 0)) rfl dX0_keep_28 ?_
    refine r_iconst C0 (nI 1) dX0_keep_31 (by decide) ?_
    refine r_iadd C0 dX0_keep_32 ?_
    refine r_bipush C0 (nI 8) dX0_keep_33 (by decide) ?_
    refine r_mmin C0 ⟨(mc wd33_3), (mc wd7_11), (mc wd7_12), (mc wd7_13)⟩ hl ⟨Nat.le_of_ble_eq_true rfl, Nat.le_of_ble_eq_true rfl⟩ ⟨Nat.zero_le _, Nat.zero_le _⟩ dX0_keep_35 ?_
    refine r_put (ty := .int) h C0 0 inx0 tyX0 tyX0_ok nmX0 hP hD hS 7 (fun uu => (fl [wLine K aL rL0 L, wHist K aY gH uu, wLine K ak0 rk00 k0, wLine K ak1 rk10 k1, wLine K ak2 rk20 k2, wLine K ak3 rk30 k3, wLine K ak4 rk40 z13, wLine K ak5 rk50 k5, wLine K ak6 rk60 k6, wLine K ak7 rk70 k7])) rfl rfl 1 (by decide) (mc wd5_3) rfl (by decide +kernel) rfl rfl (by simp) rfl dX0_keep_38 (fun Y15 H locs h hP hD hS => ?_)
    exact r_vret h C0 (fun (u : Rc × Rc × Rc × Rc × Rc × Rc × Rc × Rc × Rc) => (fl [wLine K aL rL0 L, wHist K aY gH u.1, wLine K ak0 rk00 u.2.1, wLine K ak1 rk10 u.2.2.1, wLine K ak2 rk20 u.2.2.2.1, wLine K ak3 rk30 u.2.2.2.2.1, wLine K ak4 rk40 u.2.2.2.2.2.1, wLine K ak5 rk50 u.2.2.2.2.2.2.1, wLine K ak6 rk60 u.2.2.2.2.2.2.2.1, wLine K ak7 rk70 u.2.2.2.2.2.2.2.2])) hP hD hS dX0_keep_41
  refine sw_if h (fun hx h => ?_) (fun hx5 h => ?_)
  · refine r_aald8 C0 hP 8 rfl 5 (by rw [hx]; exact hG.2.2.2.2.2.1) (by rw [hx]; decide) dX0_keep_8 ?_
    refine r_aload_n C0 dX0_keep_9 hl 1 rfl ?_
    obtain ⟨z16, hz16, h⟩ := bnd_some h
    refine r_callVC (Wc := [wLine K ak5 rk50 k5, wLine K aL rL0 L]) (wf := fun (u : Rc) => [wLine K ak5 rk50 u, wLine K aL rL0 L]) (Wn := [wLine K aL rL0 L, wHist K aY gH Y, wLine K ak0 rk00 k0, wLine K ak1 rk10 k1, wLine K ak2 rk20 k2, wLine K ak3 rk30 k3, wLine K ak4 rk40 k4, wLine K ak5 rk50 z16, wLine K ak6 rk60 k6, wLine K ak7 rk70 k7]) hP hD hS hA [7, 0] [1, 2, 3, 4, 5, 6, 8, 9] [9, 0, 1, 2, 3, 4, 5, 8, 6, 7] 10 rfl rfl (by decide) rfl rfl (by decide) (fun hPc hDc hFc => va_runV (As := [.ref (aL 0)]) (rest := []) C0.1 (ctX1_copyFrom l D K ak5 aL rk50 rL0 k5 L H.size z16 hz16) (cwV 1 C0.1.2.2.2.2 (gdV wd33_4 wd25_11 wd25_12 wd1_23 wd25_13) rfl rfl rfl (by decide +kernel) ⟨Nat.le_of_ble_eq_true rfl, Nat.le_of_ble_eq_true rfl⟩) ⟨pcW_blind, va_recv C0.2.2.2.1 hPc (ci := 1) (q0 := 0) rfl rfl, pcW_of hPc hDc C0.2.2.2⟩ rfl rfl hl.1 rfl (lv_room (Nat.le_of_ble_eq_true rfl)) dX0_keep_10 ⟨Nat.zero_le _, Nat.zero_le _⟩) (fun H locs hP hD hS => ?_)
    refine r_aload_n C0 dX0_keep_13 hl 0 rfl ?_
    refine r_aload_n C0 dX0_keep_14 hl 0 rfl ?_
    refine r_get C0 0 inx0 hP 7 rfl rfl 2 (by decide) (mc wd5_4) (.int (Y 2 0)) rfl dX0_keep_15 ?_
    refine r_iconst C0 (nI 1) dX0_keep_18 (by decide) ?_
    refine r_iadd C0 dX0_keep_19 ?_
    refine r_bipush C0 (nI 8) dX0_keep_20 (by decide) ?_
    refine r_iremC C0 (by decide) dX0_keep_22 ?_
    refine r_put (ty := .int) h C0 0 inx0 tyX0 tyX0_ok nmX0 hP hD hS 7 (fun uu => (fl [wLine K aL rL0 L, wHist K aY gH uu, wLine K ak0 rk00 k0, wLine K ak1 rk10 k1, wLine K ak2 rk20 k2, wLine K ak3 rk30 k3, wLine K ak4 rk40 k4, wLine K ak5 rk50 z16, wLine K ak6 rk60 k6, wLine K ak7 rk70 k7])) rfl rfl 2 (by decide) (mc wd5_4) rfl (by decide +kernel) rfl rfl (by simp) rfl dX0_keep_23 (fun Y17 H locs h hP hD hS => ?_)
    refine r_aload_n C0 dX0_keep_26 hl 0 rfl ?_
    refine r_aload_n C0 dX0_keep_27 hl 0 rfl ?_
    refine r_get C0 0 inx0 hP 7 rfl rfl 1 (by decide) (mc wd5_3) (.int (Y17 1 0)) rfl dX0_keep_28 ?_
    refine r_iconst C0 (nI 1) dX0_keep_31 (by decide) ?_
    refine r_iadd C0 dX0_keep_32 ?_
    refine r_bipush C0 (nI 8) dX0_keep_33 (by decide) ?_
    refine r_mmin C0 ⟨(mc wd33_3), (mc wd7_11), (mc wd7_12), (mc wd7_13)⟩ hl ⟨Nat.le_of_ble_eq_true rfl, Nat.le_of_ble_eq_true rfl⟩ ⟨Nat.zero_le _, Nat.zero_le _⟩ dX0_keep_35 ?_
    refine r_put (ty := .int) h C0 0 inx0 tyX0 tyX0_ok nmX0 hP hD hS 7 (fun uu => (fl [wLine K aL rL0 L, wHist K aY gH uu, wLine K ak0 rk00 k0, wLine K ak1 rk10 k1, wLine K ak2 rk20 k2, wLine K ak3 rk30 k3, wLine K ak4 rk40 k4, wLine K ak5 rk50 z16, wLine K ak6 rk60 k6, wLine K ak7 rk70 k7])) rfl rfl 1 (by decide) (mc wd5_3) rfl (by decide +kernel) rfl rfl (by simp) rfl dX0_keep_38 (fun Y18 H locs h hP hD hS => ?_)
    exact r_vret h C0 (fun (u : Rc × Rc × Rc × Rc × Rc × Rc × Rc × Rc × Rc) => (fl [wLine K aL rL0 L, wHist K aY gH u.1, wLine K ak0 rk00 u.2.1, wLine K ak1 rk10 u.2.2.1, wLine K ak2 rk20 u.2.2.2.1, wLine K ak3 rk30 u.2.2.2.2.1, wLine K ak4 rk40 u.2.2.2.2.2.1, wLine K ak5 rk50 u.2.2.2.2.2.2.1, wLine K ak6 rk60 u.2.2.2.2.2.2.2.1, wLine K ak7 rk70 u.2.2.2.2.2.2.2.2])) hP hD hS dX0_keep_41
  refine sw_if h (fun hx h => ?_) (fun hx6 h => ?_)
  · refine r_aald8 C0 hP 8 rfl 6 (by rw [hx]; exact hG.2.2.2.2.2.2.1) (by rw [hx]; decide) dX0_keep_8 ?_
    refine r_aload_n C0 dX0_keep_9 hl 1 rfl ?_
    obtain ⟨z19, hz19, h⟩ := bnd_some h
    refine r_callVC (Wc := [wLine K ak6 rk60 k6, wLine K aL rL0 L]) (wf := fun (u : Rc) => [wLine K ak6 rk60 u, wLine K aL rL0 L]) (Wn := [wLine K aL rL0 L, wHist K aY gH Y, wLine K ak0 rk00 k0, wLine K ak1 rk10 k1, wLine K ak2 rk20 k2, wLine K ak3 rk30 k3, wLine K ak4 rk40 k4, wLine K ak5 rk50 k5, wLine K ak6 rk60 z19, wLine K ak7 rk70 k7]) hP hD hS hA [8, 0] [1, 2, 3, 4, 5, 6, 7, 9] [9, 0, 1, 2, 3, 4, 5, 6, 8, 7] 10 rfl rfl (by decide) rfl rfl (by decide) (fun hPc hDc hFc => va_runV (As := [.ref (aL 0)]) (rest := []) C0.1 (ctX1_copyFrom l D K ak6 aL rk60 rL0 k6 L H.size z19 hz19) (cwV 1 C0.1.2.2.2.2 (gdV wd33_4 wd25_11 wd25_12 wd1_23 wd25_13) rfl rfl rfl (by decide +kernel) ⟨Nat.le_of_ble_eq_true rfl, Nat.le_of_ble_eq_true rfl⟩) ⟨pcW_blind, va_recv C0.2.2.2.1 hPc (ci := 1) (q0 := 0) rfl rfl, pcW_of hPc hDc C0.2.2.2⟩ rfl rfl hl.1 rfl (lv_room (Nat.le_of_ble_eq_true rfl)) dX0_keep_10 ⟨Nat.zero_le _, Nat.zero_le _⟩) (fun H locs hP hD hS => ?_)
    refine r_aload_n C0 dX0_keep_13 hl 0 rfl ?_
    refine r_aload_n C0 dX0_keep_14 hl 0 rfl ?_
    refine r_get C0 0 inx0 hP 7 rfl rfl 2 (by decide) (mc wd5_4) (.int (Y 2 0)) rfl dX0_keep_15 ?_
    refine r_iconst C0 (nI 1) dX0_keep_18 (by decide) ?_
    refine r_iadd C0 dX0_keep_19 ?_
    refine r_bipush C0 (nI 8) dX0_keep_20 (by decide) ?_
    refine r_iremC C0 (by decide) dX0_keep_22 ?_
    refine r_put (ty := .int) h C0 0 inx0 tyX0 tyX0_ok nmX0 hP hD hS 7 (fun uu => (fl [wLine K aL rL0 L, wHist K aY gH uu, wLine K ak0 rk00 k0, wLine K ak1 rk10 k1, wLine K ak2 rk20 k2, wLine K ak3 rk30 k3, wLine K ak4 rk40 k4, wLine K ak5 rk50 k5, wLine K ak6 rk60 z19, wLine K ak7 rk70 k7])) rfl rfl 2 (by decide) (mc wd5_4) rfl (by decide +kernel) rfl rfl (by simp) rfl dX0_keep_23 (fun Y20 H locs h hP hD hS => ?_)
    refine r_aload_n C0 dX0_keep_26 hl 0 rfl ?_
    refine r_aload_n C0 dX0_keep_27 hl 0 rfl ?_
    refine r_get C0 0 inx0 hP 7 rfl rfl 1 (by decide) (mc wd5_3) (.int (Y20 1 0)) rfl dX0_keep_28 ?_
    refine r_iconst C0 (nI 1) dX0_keep_31 (by decide) ?_
    refine r_iadd C0 dX0_keep_32 ?_
    refine r_bipush C0 (nI 8) dX0_keep_33 (by decide) ?_
    refine r_mmin C0 ⟨(mc wd33_3), (mc wd7_11), (mc wd7_12), (mc wd7_13)⟩ hl ⟨Nat.le_of_ble_eq_true rfl, Nat.le_of_ble_eq_true rfl⟩ ⟨Nat.zero_le _, Nat.zero_le _⟩ dX0_keep_35 ?_
    refine r_put (ty := .int) h C0 0 inx0 tyX0 tyX0_ok nmX0 hP hD hS 7 (fun uu => (fl [wLine K aL rL0 L, wHist K aY gH uu, wLine K ak0 rk00 k0, wLine K ak1 rk10 k1, wLine K ak2 rk20 k2, wLine K ak3 rk30 k3, wLine K ak4 rk40 k4, wLine K ak5 rk50 k5, wLine K ak6 rk60 z19, wLine K ak7 rk70 k7])) rfl rfl 1 (by decide) (mc wd5_3) rfl (by decide +kernel) rfl rfl (by simp) rfl dX0_keep_38 (fun Y21 H locs h hP hD hS => ?_)
    exact r_vret h C0 (fun (u : Rc × Rc × Rc × Rc × Rc × Rc × Rc × Rc × Rc) => (fl [wLine K aL rL0 L, wHist K aY gH u.1, wLine K ak0 rk00 u.2.1, wLine K ak1 rk10 u.2.2.1, wLine K ak2 rk20 u.2.2.2.1, wLine K ak3 rk30 u.2.2.2.2.1, wLine K ak4 rk40 u.2.2.2.2.2.1, wLine K ak5 rk50 u.2.2.2.2.2.2.1, wLine K ak6 rk60 u.2.2.2.2.2.2.2.1, wLine K ak7 rk70 u.2.2.2.2.2.2.2.2])) hP hD hS dX0_keep_41
  refine sw_if h (fun hx h => ?_) (fun hx7 h => ?_)
  · refine r_aald8 C0 hP 8 rfl 7 (by rw [hx]; exact hG.2.2.2.2.2.2.2) (by rw [hx]; decide) dX0_keep_8 ?_
    refine r_aload_n C0 dX0_keep_9 hl 1 rfl ?_
    obtain ⟨z22, hz22, h⟩ := bnd_some h
    refine r_callVC (Wc := [wLine K ak7 rk70 k7, wLine K aL rL0 L]) (wf := fun (u : Rc) => [wLine K ak7 rk70 u, wLine K aL rL0 L]) (Wn := [wLine K aL rL0 L, wHist K aY gH Y, wLine K ak0 rk00 k0, wLine K ak1 rk10 k1, wLine K ak2 rk20 k2, wLine K ak3 rk30 k3, wLine K ak4 rk40 k4, wLine K ak5 rk50 k5, wLine K ak6 rk60 k6, wLine K ak7 rk70 z22]) hP hD hS hA [9, 0] [1, 2, 3, 4, 5, 6, 7, 8] [9, 0, 1, 2, 3, 4, 5, 6, 7, 8] 10 rfl rfl (by decide) rfl rfl (by decide) (fun hPc hDc hFc => va_runV (As := [.ref (aL 0)]) (rest := []) C0.1 (ctX1_copyFrom l D K ak7 aL rk70 rL0 k7 L H.size z22 hz22) (cwV 1 C0.1.2.2.2.2 (gdV wd33_4 wd25_11 wd25_12 wd1_23 wd25_13) rfl rfl rfl (by decide +kernel) ⟨Nat.le_of_ble_eq_true rfl, Nat.le_of_ble_eq_true rfl⟩) ⟨pcW_blind, va_recv C0.2.2.2.1 hPc (ci := 1) (q0 := 0) rfl rfl, pcW_of hPc hDc C0.2.2.2⟩ rfl rfl hl.1 rfl (lv_room (Nat.le_of_ble_eq_true rfl)) dX0_keep_10 ⟨Nat.zero_le _, Nat.zero_le _⟩) (fun H locs hP hD hS => ?_)
    refine r_aload_n C0 dX0_keep_13 hl 0 rfl ?_
    refine r_aload_n C0 dX0_keep_14 hl 0 rfl ?_
    refine r_get C0 0 inx0 hP 7 rfl rfl 2 (by decide) (mc wd5_4) (.int (Y 2 0)) rfl dX0_keep_15 ?_
    refine r_iconst C0 (nI 1) dX0_keep_18 (by decide) ?_
    refine r_iadd C0 dX0_keep_19 ?_
    refine r_bipush C0 (nI 8) dX0_keep_20 (by decide) ?_
    refine r_iremC C0 (by decide) dX0_keep_22 ?_
    refine r_put (ty := .int) h C0 0 inx0 tyX0 tyX0_ok nmX0 hP hD hS 7 (fun uu => (fl [wLine K aL rL0 L, wHist K aY gH uu, wLine K ak0 rk00 k0, wLine K ak1 rk10 k1, wLine K ak2 rk20 k2, wLine K ak3 rk30 k3, wLine K ak4 rk40 k4, wLine K ak5 rk50 k5, wLine K ak6 rk60 k6, wLine K ak7 rk70 z22])) rfl rfl 2 (by decide) (mc wd5_4) rfl (by decide +kernel) rfl rfl (by simp) rfl dX0_keep_23 (fun Y23 H locs h hP hD hS => ?_)
    refine r_aload_n C0 dX0_keep_26 hl 0 rfl ?_
    refine r_aload_n C0 dX0_keep_27 hl 0 rfl ?_
    refine r_get C0 0 inx0 hP 7 rfl rfl 1 (by decide) (mc wd5_3) (.int (Y23 1 0)) rfl dX0_keep_28 ?_
    refine r_iconst C0 (nI 1) dX0_keep_31 (by decide) ?_
    refine r_iadd C0 dX0_keep_32 ?_
    refine r_bipush C0 (nI 8) dX0_keep_33 (by decide) ?_
    refine r_mmin C0 ⟨(mc wd33_3), (mc wd7_11), (mc wd7_12), (mc wd7_13)⟩ hl ⟨Nat.le_of_ble_eq_true rfl, Nat.le_of_ble_eq_true rfl⟩ ⟨Nat.zero_le _, Nat.zero_le _⟩ dX0_keep_35 ?_
    refine r_put (ty := .int) h C0 0 inx0 tyX0 tyX0_ok nmX0 hP hD hS 7 (fun uu => (fl [wLine K aL rL0 L, wHist K aY gH uu, wLine K ak0 rk00 k0, wLine K ak1 rk10 k1, wLine K ak2 rk20 k2, wLine K ak3 rk30 k3, wLine K ak4 rk40 k4, wLine K ak5 rk50 k5, wLine K ak6 rk60 k6, wLine K ak7 rk70 z22])) rfl rfl 1 (by decide) (mc wd5_3) rfl (by decide +kernel) rfl rfl (by simp) rfl dX0_keep_38 (fun Y24 H locs h hP hD hS => ?_)
    exact r_vret h C0 (fun (u : Rc × Rc × Rc × Rc × Rc × Rc × Rc × Rc × Rc) => (fl [wLine K aL rL0 L, wHist K aY gH u.1, wLine K ak0 rk00 u.2.1, wLine K ak1 rk10 u.2.2.1, wLine K ak2 rk20 u.2.2.2.1, wLine K ak3 rk30 u.2.2.2.2.1, wLine K ak4 rk40 u.2.2.2.2.2.1, wLine K ak5 rk50 u.2.2.2.2.2.2.1, wLine K ak6 rk60 u.2.2.2.2.2.2.2.1, wLine K ak7 rk70 u.2.2.2.2.2.2.2.2])) hP hD hS dX0_keep_41
  cases h

set_option maxHeartbeats 1000000 in
set_option maxRecDepth 10000 in
theorem ctX0_keep (l : Launch) (D : va_G) (K : Nat → ClassId) (aL : Nat → Nat) (aY : Nat → Nat) (ak0 : Nat → Nat) (ak1 : Nat → Nat) (ak2 : Nat → Nat) (ak3 : Nat → Nat) (ak4 : Nat → Nat) (ak5 : Nat → Nat) (ak6 : Nat → Nat) (ak7 : Nat → Nat) (gH : Nat → Option Nat) (rL0 : Nat) (rk00 : Nat) (rk10 : Nat) (rk20 : Nat) (rk30 : Nat) (rk40 : Nat) (rk50 : Nat) (rk60 : Nat) (rk70 : Nat) (hG : gHok gH ak0 ak1 ak2 ak3 ak4 ak5 ak6 ak7) (L : Rc) (Y : Rc) (k0 : Rc) (k1 : Rc) (k2 : Rc) (k3 : Rc) (k4 : Rc) (k5 : Rc) (k6 : Rc) (k7 : Rc) (sz : Nat) (z : Rc × Rc × Rc × Rc × Rc × Rc × Rc × Rc × Rc) (hz : fX0_keep L Y k0 k1 k2 k3 k4 k5 k6 k7 = some z) : Met l yX0_keep wsX0_keep rmX0_keep (pcW D K [.ref (aY 0), .ref (aL 0)] (fl [wLine K aL rL0 L, wHist K aY gH Y, wLine K ak0 rk00 k0, wLine K ak1 rk10 k1, wLine K ak2 rk20 k2, wLine K ak3 rk30 k3, wLine K ak4 rk40 k4, wLine K ak5 rk50 k5, wLine K ak6 rk60 k6, wLine K ak7 rk70 k7]) sz) (qcV D z (fun (u : Rc × Rc × Rc × Rc × Rc × Rc × Rc × Rc × Rc) => (fl [wLine K aL rL0 L, wHist K aY gH u.1, wLine K ak0 rk00 u.2.1, wLine K ak1 rk10 u.2.2.1, wLine K ak2 rk20 u.2.2.2.1, wLine K ak3 rk30 u.2.2.2.2.1, wLine K ak4 rk40 u.2.2.2.2.2.1, wLine K ak5 rk50 u.2.2.2.2.2.2.1, wLine K ak6 rk60 u.2.2.2.2.2.2.2.1, wLine K ak7 rk70 u.2.2.2.2.2.2.2.2])) (va_A (fl [wLine K aL rL0 L, wHist K aY gH Y, wLine K ak0 rk00 k0, wLine K ak1 rk10 k1, wLine K ak2 rk20 k2, wLine K ak3 rk30 k3, wLine K ak4 rk40 k4, wLine K ak5 rk50 k5, wLine K ak6 rk60 k6, wLine K ak7 rk70 k7]) sz)) 0 0 (va_A (fl [wLine K aL rL0 L, wHist K aY gH Y, wLine K ak0 rk00 k0, wLine K ak1 rk10 k1, wLine K ak2 rk20 k2, wLine K ak3 rk30 k3, wLine K ak4 rk40 k4, wLine K ak5 rk50 k5, wLine K ak6 rk60 k6, wLine K ak7 rk70 k7]) sz) := by
  refine Met.ofW (cc := cX0_keep) (maxL := 2) (ret := none) (by decide) rfl ?_
  intro p e s m args below meth c s₁ B hml hv
  obtain ⟨rfl, hsz, hP, hK, hD0⟩ := hv
  subst hsz
  have C0 : cx p s m _ meth c cX0_keep 2 RX0 wsX0_keep none D K := ⟨⟨B.exec, B.bytes, hml, findClass_of_methodNamed B.named, atoms_spec (ws := wsX0_keep) B.pre⟩, B.returns, B.notSynchronized, hK⟩
  have hD := hD0.self (sz := s.heap.size)
  generalize hAe : va_A (fl [wLine K aL rL0 L, wHist K aY gH Y, wLine K ak0 rk00 k0, wLine K ak1 rk10 k1, wLine K ak2 rk20 k2, wLine K ak3 rk30 k3, wLine K ak4 rk40 k4, wLine K ak5 rk50 k5, wLine K ak6 rk60 k6, wLine K ak7 rk70 k7]) s.heap.size = A at hD ⊢
  have hA : ∀ q : Nat, s.heap.size ≤ q → A q := fun q h => by rw [← hAe]; exact Or.inr h
  have hl := lv_entry ([.ref (aY 0), .ref (aL 0)]) (n := 2) (Nat.le_of_ble_eq_true rfl)
  rw [lg_entry_eq]
  generalize (lg_sl ([.ref (aY 0), .ref (aL 0)]) ++ List.replicate (2 - (lg_sl ([.ref (aY 0), .ref (aL 0)])).length) Slot.unset).toArray = ls at hl ⊢
  have hl : lv_has ls 2 [(0, .ref (aY 0)), (1, .ref (aL 0))] := hl
  exact wX0_keep_0 C0 hA hG L Y k0 k1 k2 k3 k4 k5 k6 k7 hz s.heap [] hP hD va_S.rf ls (lv_sub hl [0, 1] rfl)
end SX0_keep

section SX0_giveBack
/-! CardLoops$History.giveBack(LCardLoops$Line;)V -/
abbrev wsX0_giveBack : List Cond := Cond.code yX0_giveBack cX0_giveBack 2 none :: wsL_law0
abbrev rmX0_giveBack : Room := { frames := 2, cells := 0, slots := 0, locals := 61 }
variable {p : Program} {l : Launch} {e : Env} {s : State} {m : MethodId} {args : Array Value} {below : List Frame} {meth : Method} {c : Code} {D : va_G} {K : Nat → ClassId} {A : Nat → Prop} {aL : Nat → Nat} {aY : Nat → Nat} {ak0 : Nat → Nat} {ak1 : Nat → Nat} {ak2 : Nat → Nat} {ak3 : Nat → Nat} {ak4 : Nat → Nat} {ak5 : Nat → Nat} {ak6 : Nat → Nat} {ak7 : Nat → Nat} {gH : Nat → Option Nat} {rL0 : Nat} {rk00 : Nat} {rk10 : Nat} {rk20 : Nat} {rk30 : Nat} {rk40 : Nat} {rk50 : Nat} {rk60 : Nat} {rk70 : Nat} {z : Rc × Rc}
set_option maxHeartbeats 1000000 in
set_option maxRecDepth 10000 in
theorem wX0_giveBack_0 (C0 : cx p s m args meth c cX0_giveBack 2 RX0 wsX0_giveBack none D K) (hA : ∀ q, s.heap.size ≤ q → A q) (hG : gHok gH ak0 ak1 ak2 ak3 ak4 ak5 ak6 ak7) (L : Rc) (Y : Rc) (k0 : Rc) (k1 : Rc) (k2 : Rc) (k3 : Rc) (k4 : Rc) (k5 : Rc) (k6 : Rc) (k7 : Rc) (h : fX0_giveBack L Y k0 k1 k2 k3 k4 k5 k6 k7 = some z) (H : Heap) (locs : List Loc) (hP : va_P D vwCl (fl [wLine K aL rL0 L, wHist K aY gH Y, wLine K ak0 rk00 k0, wLine K ak1 rk10 k1, wLine K ak2 rk20 k2, wLine K ak3 rk30 k3, wLine K ak4 rk40 k4, wLine K ak5 rk50 k5, wLine K ak6 rk60 k6, wLine K ak7 rk70 k7]) H) (hD : va_D A (fl [wLine K aL rL0 L, wHist K aY gH Y, wLine K ak0 rk00 k0, wLine K ak1 rk10 k1, wLine K ak2 rk20 k2, wLine K ak3 rk30 k3, wLine K ak4 rk40 k4, wLine K ak5 rk50 k5, wLine K ak6 rk60 k6, wLine K ak7 rk70 k7])) (hS : va_S A s.heap H locs) (ls : Array Slot) (hl : lv_has ls 2 [(0, .ref (aY 0)), (1, .ref (aL 0))]) : W p l e rmX0_giveBack s m args below meth c H locs 0 0 (MQ below (qcV D z (fun (u : Rc × Rc) => (fl [wLine K aL rL0 u.1, wHist K aY gH u.2, wLine K ak0 rk00 k0, wLine K ak1 rk10 k1, wLine K ak2 rk20 k2, wLine K ak3 rk30 k3, wLine K ak4 rk40 k4, wLine K ak5 rk50 k5, wLine K ak6 rk60 k6, wLine K ak7 rk70 k7])) A) args s 0 0 A) (F0 m 0 ls []) := by
  unfold fX0_giveBack at h
  refine r_aload_n C0 dX0_giveBack_0 hl 0 rfl ?_
  refine r_get C0 0 inx0 hP 7 rfl rfl 1 (by decide) (mc wd5_3) (.int (Y 1 0)) rfl dX0_giveBack_1 ?_
  refine r_iconst C0 (nI 1) dX0_giveBack_4 (by decide) ?_
  refine r_icmp_ge h C0 9 dX0_giveBack_5 (by decide) (fun h => ?_) (fun h => ?_)
  · refine r_aload_n C0 dX0_giveBack_9 hl 0 rfl ?_
    refine r_aload_n C0 dX0_giveBack_10 hl 0 rfl ?_
    refine r_get C0 0 inx0 hP 7 rfl rfl 2 (by decide) (mc wd5_4) (.int (Y 2 0)) rfl dX0_giveBack_11 ?_
    refine r_bipush C0 (nI 8) dX0_giveBack_14 (by decide) ?_
    refine r_iadd C0 dX0_giveBack_16 ?_
    refine r_iconst C0 (nI 1) dX0_giveBack_17 (by decide) ?_
    refine r_isub C0 dX0_giveBack_18 ?_
    refine r_bipush C0 (nI 8) dX0_giveBack_19 (by decide) ?_
    refine r_iremC C0 (by decide) dX0_giveBack_21 ?_
    refine r_put (ty := .int) h C0 0 inx0 tyX0 tyX0_ok nmX0 hP hD hS 7 (fun uu => (fl [wLine K aL rL0 L, wHist K aY gH uu, wLine K ak0 rk00 k0, wLine K ak1 rk10 k1, wLine K ak2 rk20 k2, wLine K ak3 rk30 k3, wLine K ak4 rk40 k4, wLine K ak5 rk50 k5, wLine K ak6 rk60 k6, wLine K ak7 rk70 k7])) rfl rfl 2 (by decide) (mc wd5_4) rfl (by decide +kernel) rfl rfl (by simp) rfl dX0_giveBack_22 (fun Y1 H locs h hP hD hS => ?_)
    refine r_aload_n C0 dX0_giveBack_25 hl 0 rfl ?_
    refine r_dup C0 dX0_giveBack_26 rfl ?_
    refine r_get C0 0 inx0 hP 7 rfl rfl 1 (by decide) (mc wd5_3) (.int (Y1 1 0)) rfl dX0_giveBack_27 ?_
    refine r_iconst C0 (nI 1) dX0_giveBack_30 (by decide) ?_
    refine r_isub C0 dX0_giveBack_31 ?_
    refine r_put (ty := .int) h C0 0 inx0 tyX0 tyX0_ok nmX0 hP hD hS 7 (fun uu => (fl [wLine K aL rL0 L, wHist K aY gH uu, wLine K ak0 rk00 k0, wLine K ak1 rk10 k1, wLine K ak2 rk20 k2, wLine K ak3 rk30 k3, wLine K ak4 rk40 k4, wLine K ak5 rk50 k5, wLine K ak6 rk60 k6, wLine K ak7 rk70 k7])) rfl rfl 1 (by decide) (mc wd5_3) rfl (by decide +kernel) rfl rfl (by simp) rfl dX0_giveBack_32 (fun Y2 H locs h hP hD hS => ?_)
    refine r_aload_n C0 dX0_giveBack_35 hl 1 rfl ?_
    refine r_aload_n C0 dX0_giveBack_36 hl 0 rfl ?_
    refine r_get C0 0 inx0 hP 7 rfl rfl 0 (by decide) (mc wd5_2) (.ref (aY 1)) rfl dX0_giveBack_37 ?_
    refine r_aload_n C0 dX0_giveBack_40 hl 0 rfl ?_
    refine r_get C0 0 inx0 hP 7 rfl rfl 2 (by decide) (mc wd5_4) (.int (Y2 2 0)) rfl dX0_giveBack_41 ?_
    refine sw_if h (fun hx h => ?_) (fun hx0 h => ?_)
    · refine r_aald8 C0 hP 8 rfl 0 (by rw [hx]; exact hG.1) (by rw [hx]; decide) dX0_giveBack_44 ?_
      obtain ⟨z3, hz3, h⟩ := bnd_some h
      refine r_callVC (Wc := [wLine K aL rL0 L, wLine K ak0 rk00 k0]) (wf := fun (u : Rc) => [wLine K aL rL0 u, wLine K ak0 rk00 k0]) (Wn := [wLine K aL rL0 z3, wHist K aY gH Y2, wLine K ak0 rk00 k0, wLine K ak1 rk10 k1, wLine K ak2 rk20 k2, wLine K ak3 rk30 k3, wLine K ak4 rk40 k4, wLine K ak5 rk50 k5, wLine K ak6 rk60 k6, wLine K ak7 rk70 k7]) hP hD hS hA [0, 2] [1, 3, 4, 5, 6, 7, 8, 9] [8, 0, 9, 1, 2, 3, 4, 5, 6, 7] 10 rfl rfl (by decide) rfl rfl (by decide) (fun hPc hDc hFc => va_runV (As := [.ref (ak0 0)]) (rest := []) C0.1 (ctX1_copyFrom l D K aL ak0 rL0 rk00 L k0 H.size z3 hz3) (cwV 1 C0.1.2.2.2.2 (gdV wd33_4 wd25_11 wd25_12 wd1_23 wd25_13) rfl rfl rfl (by decide +kernel) ⟨Nat.le_of_ble_eq_true rfl, Nat.le_of_ble_eq_true rfl⟩) ⟨pcW_blind, va_recv C0.2.2.2.1 hPc (ci := 1) (q0 := 0) rfl rfl, pcW_of hPc hDc C0.2.2.2⟩ rfl rfl hl.1 rfl (lv_room (Nat.le_of_ble_eq_true rfl)) dX0_giveBack_45 ⟨Nat.zero_le _, Nat.zero_le _⟩) (fun H locs hP hD hS => ?_)
      exact r_vret h C0 (fun (u : Rc × Rc) => (fl [wLine K aL rL0 u.1, wHist K aY gH u.2, wLine K ak0 rk00 k0, wLine K ak1 rk10 k1, wLine K ak2 rk20 k2, wLine K ak3 rk30 k3, wLine K ak4 rk40 k4, wLine K ak5 rk50 k5, wLine K ak6 rk60 k6, wLine K ak7 rk70 k7])) hP hD hS dX0_giveBack_48
    refine sw_if h (fun hx h => ?_) (fun hx1 h => ?_)
    · refine r_aald8 C0 hP 8 rfl 1 (by rw [hx]; exact hG.2.1) (by rw [hx]; decide) dX0_giveBack_44 ?_
      obtain ⟨z4, hz4, h⟩ := bnd_some h
      refine r_callVC (Wc := [wLine K aL rL0 L, wLine K ak1 rk10 k1]) (wf := fun (u : Rc) => [wLine K aL rL0 u, wLine K ak1 rk10 k1]) (Wn := [wLine K aL rL0 z4, wHist K aY gH Y2, wLine K ak0 rk00 k0, wLine K ak1 rk10 k1, wLine K ak2 rk20 k2, wLine K ak3 rk30 k3, wLine K ak4 rk40 k4, wLine K ak5 rk50 k5, wLine K ak6 rk60 k6, wLine K ak7 rk70 k7]) hP hD hS hA [0, 3] [1, 2, 4, 5, 6, 7, 8, 9] [8, 0, 1, 9, 2, 3, 4, 5, 6, 7] 10 rfl rfl (by decide) rfl rfl (by decide) (fun hPc hDc hFc => va_runV (As := [.ref (ak1 0)]) (rest := []) C0.1 (ctX1_copyFrom l D K aL ak1 rL0 rk10 L k1 H.size z4 hz4) (cwV 1 C0.1.2.2.2.2 (gdV wd33_4 wd25_11 wd25_12 wd1_23 wd25_13) rfl rfl rfl (by decide +kernel) ⟨Nat.le_of_ble_eq_true rfl, Nat.le_of_ble_eq_true rfl⟩) ⟨pcW_blind, va_recv C0.2.2.2.1 hPc (ci := 1) (q0 := 0) rfl rfl, pcW_of hPc hDc C0.2.2.2⟩ rfl rfl hl.1 rfl (lv_room (Nat.le_of_ble_eq_true rfl)) dX0_giveBack_45 ⟨Nat.zero_le _, Nat.zero_le _⟩) (fun H locs hP hD hS => ?_)
      exact r_vret h C0 (fun (u : Rc × Rc) => (fl [wLine K aL rL0 u.1, wHist K aY gH u.2, wLine K ak0 rk00 k0, wLine K ak1 rk10 k1, wLine K ak2 rk20 k2, wLine K ak3 rk30 k3, wLine K ak4 rk40 k4, wLine K ak5 rk50 k5, wLine K ak6 rk60 k6, wLine K ak7 rk70 k7])) hP hD hS dX0_giveBack_48
    refine sw_if h (fun hx h => ?_) (fun hx2 h => ?_)
    · refine r_aald8 C0 hP 8 rfl 2 (by rw [hx]; exact hG.2.2.1) (by rw [hx]; decide) dX0_giveBack_44 ?_
      obtain ⟨z5, hz5, h⟩ := bnd_some h
      refine r_callVC (Wc := [wLine K aL rL0 L, wLine K ak2 rk20 k2]) (wf := fun (u : Rc) => [wLine K aL rL0 u, wLine K ak2 rk20 k2]) (Wn := [wLine K aL rL0 z5, wHist K aY gH Y2, wLine K ak0 rk00 k0, wLine K ak1 rk10 k1, wLine K ak2 rk20 k2, wLine K ak3 rk30 k3, wLine K ak4 rk40 k4, wLine K ak5 rk50 k5, wLine K ak6 rk60 k6, wLine K ak7 rk70 k7]) hP hD hS hA [0, 4] [1, 2, 3, 5, 6, 7, 8, 9] [8, 0, 1, 2, 9, 3, 4, 5, 6, 7] 10 rfl rfl (by decide) rfl rfl (by decide) (fun hPc hDc hFc => va_runV (As := [.ref (ak2 0)]) (rest := []) C0.1 (ctX1_copyFrom l D K aL ak2 rL0 rk20 L k2 H.size z5 hz5) (cwV 1 C0.1.2.2.2.2 (gdV wd33_4 wd25_11 wd25_12 wd1_23 wd25_13) rfl rfl rfl (by decide +kernel) ⟨Nat.le_of_ble_eq_true rfl, Nat.le_of_ble_eq_true rfl⟩) ⟨pcW_blind, va_recv C0.2.2.2.1 hPc (ci := 1) (q0 := 0) rfl rfl, pcW_of hPc hDc C0.2.2.2⟩ rfl rfl hl.1 rfl (lv_room (Nat.le_of_ble_eq_true rfl)) dX0_giveBack_45 ⟨Nat.zero_le _, Nat.zero_le _⟩) (fun H locs hP hD hS => ?_)
      exact r_vret h C0 (fun (u : Rc × Rc) => (fl [wLine K aL rL0 u.1, wHist K aY gH u.2, wLine K ak0 rk00 k0, wLine K ak1 rk10 k1, wLine K ak2 rk20 k2, wLine K ak3 rk30 k3, wLine K ak4 rk40 k4, wLine K ak5 rk50 k5, wLine K ak6 rk60 k6, wLine K ak7 rk70 k7])) hP hD hS dX0_giveBack_48
    refine sw_if h (fun hx h => ?_) (fun hx3 h => ?_)
    · refine r_aald8 C0 hP 8 rfl 3 (by rw [hx]; exact hG.2.2.2.1) (by rw [hx]; decide) dX0_giveBack_44 ?_
      obtain ⟨z6, hz6, h⟩ := bnd_some h
      refine r_callVC (Wc := [wLine K aL rL0 L, wLine K ak3 rk30 k3]) (wf := fun (u : Rc) => [wLine K aL rL0 u, wLine K ak3 rk30 k3]) (Wn := [wLine K aL rL0 z6, wHist K aY gH Y2, wLine K ak0 rk00 k0, wLine K ak1 rk10 k1, wLine K ak2 rk20 k2, wLine K ak3 rk30 k3, wLine K ak4 rk40 k4, wLine K ak5 rk50 k5, wLine K ak6 rk60 k6, wLine K ak7 rk70 k7]) hP hD hS hA [0, 5] [1, 2, 3, 4, 6, 7, 8, 9] [8, 0, 1, 2, 3, 9, 4, 5, 6, 7] 10 rfl rfl (by decide) rfl rfl (by decide) (fun hPc hDc hFc => va_runV (As := [.ref (ak3 0)]) (rest := []) C0.1 (ctX1_copyFrom l D K aL ak3 rL0 rk30 L k3 H.size z6 hz6) (cwV 1 C0.1.2.2.2.2 (gdV wd33_4 wd25_11 wd25_12 wd1_23 wd25_13) rfl rfl rfl (by decide +kernel) ⟨Nat.le_of_ble_eq_true rfl, Nat.le_of_ble_eq_true rfl⟩) ⟨pcW_blind, va_recv C0.2.2.2.1 hPc (ci := 1) (q0 := 0) rfl rfl, pcW_of hPc hDc C0.2.2.2⟩ rfl rfl hl.1 rfl (lv_room (Nat.le_of_ble_eq_true rfl)) dX0_giveBack_45 ⟨Nat.zero_le _, Nat.zero_le _⟩) (fun H locs hP hD hS => ?_)
      exact r_vret h C0 (fun (u : Rc × Rc) => (fl [wLine K aL rL0 u.1, wHist K aY gH u.2, wLine K ak0 rk00 k0, wLine K ak1 rk10 k1, wLine K ak2 rk20 k2, wLine K ak3 rk30 k3, wLine K ak4 rk40 k4, wLine K ak5 rk50 k5, wLine K ak6 rk60 k6, wLine K ak7 rk70 k7])) hP hD hS dX0_giveBack_48
    refine sw_if h (fun hx h => ?_) (fun hx4 h => ?_)
    · refine r_aald8 C0 hP 8 rfl 4 (by rw [hx]; exact hG.2.2.2.2.1) (by rw [hx]; decide) dX0_giveBack_44 ?_
      obtain ⟨z7, hz7, h⟩ := bnd_some h
      refine r_callVC (Wc := [wLine K aL rL0 L, wLine K ak4 rk40 k4]) (wf := fun (u : Rc) => [wLine K aL rL0 u, wLine K ak4 rk40 k4]) (Wn := [wLine K aL rL0 z7, wHist K aY gH Y2, wLine K ak0 rk00 k0, wLine K ak1 rk10 k1, wLine K ak2 rk20 k2, wLine K ak3 rk30 k3, wLine K ak4 rk40 k4, wLine K ak5 rk50 k5, wLine K ak6 rk60 k6, wLine K ak7 rk70 k7]) hP hD hS hA [0, 6] [1, 2, 3, 4, 5, 7, 8, 9] [8, 0, 1, 2, 3, 4, 9, 5, 6, 7] 10 rfl rfl (by decide) rfl rfl (by decide) (fun hPc hDc hFc => va_runV (As := [.ref (ak4 0)]) (rest := []) C0.1 (ctX1_copyFrom l D K aL ak4 rL0 rk40 L k4 H.size z7 hz7) (cwV 1 C0.1.2.2.2.2 (gdV wd33_4 wd25_11 wd25_12 wd1_23 wd25_13) rfl rfl rfl (by decide +kernel) ⟨Nat.le_of_ble_eq_true rfl, Nat.le_of_ble_eq_true rfl⟩) ⟨pcW_blind, va_recv C0.2.2.2.1 hPc (ci := 1) (q0 := 0) rfl rfl, pcW_of hPc hDc C0.2.2.2⟩ rfl rfl hl.1 rfl (lv_room (Nat.le_of_ble_eq_true rfl)) dX0_giveBack_45 ⟨Nat.zero_le _, Nat.zero_le _⟩) (fun H locs hP hD hS => ?_)
      exact r_vret h C0 (fun (u : Rc × Rc) => (fl [wLine K aL rL0 u.1, wHist K aY gH u.2, wLine K ak0 rk00 k0, wLine K ak1 rk10 k1, wLine K ak2 rk20 k2, wLine K ak3 rk30 k3, wLine K ak4 rk40 k4, wLine K ak5 rk50 k5, wLine K ak6 rk60 k6, wLine K ak7 rk70 k7])) hP hD hS dX0_giveBack_48
    refine sw_if h (fun hx h => ?_) (fun hx5 h => ?_)
    · refine r_aald8 C0 hP 8 rfl 5 (by rw [hx]; exact hG.2.2.2.2.2.1) (by rw [hx]; decide) dX0_giveBack_44 ?_
      obtain ⟨z8, hz8, h⟩ := bnd_some h
      refine r_callVC (Wc := [wLine K aL rL0 L, wLine K ak5 rk50 k5]) (wf := fun (u : Rc) => [wLine K aL rL0 u, wLine K ak5 rk50 k5]) (Wn := [wLine K aL rL0 z8, wHist K aY gH Y2, wLine K ak0 rk00 k0, wLine K ak1 rk10 k1, wLine K ak2 rk20 k2, wLine K ak3 rk30 k3, wLine K ak4 rk40 k4, wLine K ak5 rk50 k5, wLine K ak6 rk60 k6, wLine K ak7 rk70 k7]) hP hD hS hA [0, 7] [1, 2, 3, 4, 5, 6, 8, 9] [8, 0, 1, 2, 3, 4, 5, 9, 6, 7] 10 rfl rfl (by decide) rfl rfl (by decide) (fun hPc hDc hFc => va_runV (As := [.ref (ak5 0)]) (rest := []) C0.1 (ctX1_copyFrom l D K aL ak5 rL0 rk50 L k5 H.size z8 hz8) (cwV 1 C0.1.2.2.2.2 (gdV wd33_4 wd25_11 wd25_12 wd1_23 wd25_13) rfl rfl rfl (by decide +kernel) ⟨Nat.le_of_ble_eq_true rfl, Nat.le_of_ble_eq_true rfl⟩) ⟨pcW_blind, va_recv C0.2.2.2.1 hPc (ci := 1) (q0 := 0) rfl rfl, pcW_of hPc hDc C0.2.2.2⟩ rfl rfl hl.1 rfl (lv_room (Nat.le_of_ble_eq_true rfl)) dX0_giveBack_45 ⟨Nat.zero_le _, Nat.zero_le _⟩) (fun H locs hP hD hS => ?_)
      exact r_vret h C0 (fun (u : Rc × Rc) => (fl [wLine K aL rL0 u.1, wHist K aY gH u.2, wLine K ak0 rk00 k0, wLine K ak1 rk10 k1, wLine K ak2 rk20 k2, wLine K ak3 rk30 k3, wLine K ak4 rk40 k4, wLine K ak5 rk50 k5, wLine K ak6 rk60 k6, wLine K ak7 rk70 k7])) hP hD hS dX0_giveBack_48
    refine sw_if h (fun hx h => ?_) (fun hx6 h => ?_)
    · refine r_aald8 C0 hP 8 rfl 6 (by rw [hx]; exact hG.2.2.2.2.2.2.1) (by rw [hx]; decide) dX0_giveBack_44 ?_
      obtain ⟨z9, hz9, h⟩ := bnd_some h
      refine r_callVC (Wc := [wLine K aL rL0 L, wLine K ak6 rk60 k6]) (wf := fun (u : Rc) => [wLine K aL rL0 u, wLine K ak6 rk60 k6]) (Wn := [wLine K aL rL0 z9, wHist K aY gH Y2, wLine K ak0 rk00 k0, wLine K ak1 rk10 k1, wLine K ak2 rk20 k2, wLine K ak3 rk30 k3, wLine K ak4 rk40 k4, wLine K ak5 rk50 k5, wLine K ak6 rk60 k6, wLine K ak7 rk70 k7]) hP hD hS hA [0, 8] [1, 2, 3, 4, 5, 6, 7, 9] [8, 0, 1, 2, 3, 4, 5, 6, 9, 7] 10 rfl rfl (by decide) rfl rfl (by decide) (fun hPc hDc hFc => va_runV (As := [.ref (ak6 0)]) (rest := []) C0.1 (ctX1_copyFrom l D K aL ak6 rL0 rk60 L k6 H.size z9 hz9) (cwV 1 C0.1.2.2.2.2 (gdV wd33_4 wd25_11 wd25_12 wd1_23 wd25_13) rfl rfl rfl (by decide +kernel) ⟨Nat.le_of_ble_eq_true rfl, Nat.le_of_ble_eq_true rfl⟩) ⟨pcW_blind, va_recv C0.2.2.2.1 hPc (ci := 1) (q0 := 0) rfl rfl, pcW_of hPc hDc C0.2.2.2⟩ rfl rfl hl.1 rfl (lv_room (Nat.le_of_ble_eq_true rfl)) dX0_giveBack_45 ⟨Nat.zero_le _, Nat.zero_le _⟩) (fun H locs hP hD hS => ?_)
      exact r_vret h C0 (fun (u : Rc × Rc) => (fl [wLine K aL rL0 u.1, wHist K aY gH u.2, wLine K ak0 rk00 k0, wLine K ak1 rk10 k1, wLine K ak2 rk20 k2, wLine K ak3 rk30 k3, wLine K ak4 rk40 k4, wLine K ak5 rk50 k5, wLine K ak6 rk60 k6, wLine K ak7 rk70 k7])) hP hD hS dX0_giveBack_48
    refine sw_if h (fun hx h => ?_) (fun hx7 h => ?_)
    · refine r_aald8 C0 hP 8 rfl 7 (by rw [hx]; exact hG.2.2.2.2.2.2.2) (by rw [hx]; decide) dX0_giveBack_44 ?_
      obtain ⟨z10, hz10, h⟩ := bnd_some h
      refine r_callVC (Wc := [wLine K aL rL0 L, wLine K ak7 rk70 k7]) (wf := fun (u : Rc) => [wLine K aL rL0 u, wLine K ak7 rk70 k7]) (Wn := [wLine K aL rL0 z10, wHist K aY gH Y2, wLine K ak0 rk00 k0, wLine K ak1 rk10 k1, wLine K ak2 rk20 k2, wLine K ak3 rk30 k3, wLine K ak4 rk40 k4, wLine K ak5 rk50 k5, wLine K ak6 rk60 k6, wLine K ak7 rk70 k7]) hP hD hS hA [0, 9] [1, 2, 3, 4, 5, 6, 7, 8] [8, 0, 1, 2, 3, 4, 5, 6, 7, 9] 10 rfl rfl (by decide) rfl rfl (by decide) (fun hPc hDc hFc => va_runV (As := [.ref (ak7 0)]) (rest := []) C0.1 (ctX1_copyFrom l D K aL ak7 rL0 rk70 L k7 H.size z10 hz10) (cwV 1 C0.1.2.2.2.2 (gdV wd33_4 wd25_11 wd25_12 wd1_23 wd25_13) rfl rfl rfl (by decide +kernel) ⟨Nat.le_of_ble_eq_true rfl, Nat.le_of_ble_eq_true rfl⟩) ⟨pcW_blind, va_recv C0.2.2.2.1 hPc (ci := 1) (q0 := 0) rfl rfl, pcW_of hPc hDc C0.2.2.2⟩ rfl rfl hl.1 rfl (lv_room (Nat.le_of_ble_eq_true rfl)) dX0_giveBack_45 ⟨Nat.zero_le _, Nat.zero_le _⟩) (fun H locs hP hD hS => ?_)
      exact r_vret h C0 (fun (u : Rc × Rc) => (fl [wLine K aL rL0 u.1, wHist K aY gH u.2, wLine K ak0 rk00 k0, wLine K ak1 rk10 k1, wLine K ak2 rk20 k2, wLine K ak3 rk30 k3, wLine K ak4 rk40 k4, wLine K ak5 rk50 k5, wLine K ak6 rk60 k6, wLine K ak7 rk70 k7])) hP hD hS dX0_giveBack_48
    cases h
  · exact r_vret h C0 (fun (u : Rc × Rc) => (fl [wLine K aL rL0 u.1, wHist K aY gH u.2, wLine K ak0 rk00 k0, wLine K ak1 rk10 k1, wLine K ak2 rk20 k2, wLine K ak3 rk30 k3, wLine K ak4 rk40 k4, wLine K ak5 rk50 k5, wLine K ak6 rk60 k6, wLine K ak7 rk70 k7])) hP hD hS dX0_giveBack_8
set_option maxHeartbeats 1000000 in
set_option maxRecDepth 10000 in
theorem ctX0_giveBack (l : Launch) (D : va_G) (K : Nat → ClassId) (aL : Nat → Nat) (aY : Nat → Nat) (ak0 : Nat → Nat) (ak1 : Nat → Nat) (ak2 : Nat → Nat) (ak3 : Nat → Nat) (ak4 : Nat → Nat) (ak5 : Nat → Nat) (ak6 : Nat → Nat) (ak7 : Nat → Nat) (gH : Nat → Option Nat) (rL0 : Nat) (rk00 : Nat) (rk10 : Nat) (rk20 : Nat) (rk30 : Nat) (rk40 : Nat) (rk50 : Nat) (rk60 : Nat) (rk70 : Nat) (hG : gHok gH ak0 ak1 ak2 ak3 ak4 ak5 ak6 ak7) (L : Rc) (Y : Rc) (k0 : Rc) (k1 : Rc) (k2 : Rc) (k3 : Rc) (k4 : Rc) (k5 : Rc) (k6 : Rc) (k7 : Rc) (sz : Nat) (z : Rc × Rc) (hz : fX0_giveBack L Y k0 k1 k2 k3 k4 k5 k6 k7 = some z) : Met l yX0_giveBack wsX0_giveBack rmX0_giveBack (pcW D K [.ref (aY 0), .ref (aL 0)] (fl [wLine K aL rL0 L, wHist K aY gH Y, wLine K ak0 rk00 k0, wLine K ak1 rk10 k1, wLine K ak2 rk20 k2, wLine K ak3 rk30 k3, wLine K ak4 rk40 k4, wLine K ak5 rk50 k5, wLine K ak6 rk60 k6, wLine K ak7 rk70 k7]) sz) (qcV D z (fun (u : Rc × Rc) => (fl [wLine K aL rL0 u.1, wHist K aY gH u.2, wLine K ak0 rk00 k0, wLine K ak1 rk10 k1, wLine K ak2 rk20 k2, wLine K ak3 rk30 k3, wLine K ak4 rk40 k4, wLine K ak5 rk50 k5, wLine K ak6 rk60 k6, wLine K ak7 rk70 k7])) (va_A (fl [wLine K aL rL0 L, wHist K aY gH Y, wLine K ak0 rk00 k0, wLine K ak1 rk10 k1, wLine K ak2 rk20 k2, wLine K ak3 rk30 k3, wLine K ak4 rk40 k4, wLine K ak5 rk50 k5, wLine K ak6 rk60 k6, wLine K ak7 rk70 k7]) sz)) 0 0 (va_A (fl [wLine K aL rL0 L, wHist K aY gH Y, wLine K ak0 rk00 k0, wLine K ak1 rk10 k1, wLine K ak2 rk20 k2, wLine K ak3 rk30 k3, wLine K ak4 rk40 k4, wLine K ak5 rk50 k5, wLine K ak6 rk60 k6, wLine K ak7 rk70 k7]) sz) := by
  refine Met.ofW (cc := cX0_giveBack) (maxL := 2) (ret := none) (by decide) rfl ?_
  intro p e s m args below meth c s₁ B hml hv
  obtain ⟨rfl, hsz, hP, hK, hD0⟩ := hv
  subst hsz
  have C0 : cx p s m _ meth c cX0_giveBack 2 RX0 wsX0_giveBack none D K := ⟨⟨B.exec, B.bytes, hml, findClass_of_methodNamed B.named, atoms_spec (ws := wsX0_giveBack) B.pre⟩, B.returns, B.notSynchronized, hK⟩
  have hD := hD0.self (sz := s.heap.size)
  generalize hAe : va_A (fl [wLine K aL rL0 L, wHist K aY gH Y, wLine K ak0 rk00 k0, wLine K ak1 rk10 k1, wLine K ak2 rk20 k2, wLine K ak3 rk30 k3, wLine K ak4 rk40 k4, wLine K ak5 rk50 k5, wLine K ak6 rk60 k6, wLine K ak7 rk70 k7]) s.heap.size = A at hD ⊢
  have hA : ∀ q : Nat, s.heap.size ≤ q → A q := fun q h => by rw [← hAe]; exact Or.inr h
  have hl := lv_entry ([.ref (aY 0), .ref (aL 0)]) (n := 2) (Nat.le_of_ble_eq_true rfl)
  rw [lg_entry_eq]
  generalize (lg_sl ([.ref (aY 0), .ref (aL 0)]) ++ List.replicate (2 - (lg_sl ([.ref (aY 0), .ref (aL 0)])).length) Slot.unset).toArray = ls at hl ⊢
  have hl : lv_has ls 2 [(0, .ref (aY 0)), (1, .ref (aL 0))] := hl
  exact wX0_giveBack_0 C0 hA hG L Y k0 k1 k2 k3 k4 k5 k6 k7 hz s.heap [] hP hD va_S.rf ls (lv_sub hl [0, 1] rfl)
end SX0_giveBack
