section SX5_learnPace
/-! CardLoops.learnPace(I)V -/
abbrev wsX5_learnPace : List Cond := Cond.code yX5_learnPace cX5_learnPace 2 none :: wsL_law0
abbrev rmX5_learnPace : Room := { frames := 5, cells := 0, slots := 0, locals := 112 }
variable {p : Program} {l : Launch} {e : Env} {s : State} {m : MethodId} {args : Array Value} {below : List Frame} {meth : Method} {c : Code} {D : va_G} {K : Nat → ClassId} {A : Nat → Prop} {N : Nat} {aX : Nat → Nat} {aP : Nat → Nat} {aL : Nat → Nat} {aJ : Nat → Nat} {aF : Nat → Nat} {rX0 : Nat} {rX3 : Nat} {rX8 : Nat} {z : Rc × Rc × Rc × RcL}
set_option maxHeartbeats 1000000 in
set_option maxRecDepth 10000 in
theorem wX5_learnPace_0 (C0 : cx p s m args meth c cX5_learnPace 2 RX5 wsX5_learnPace none D K) (hA : ∀ q, s.heap.size ≤ q → A q) (X : Rc) (P : Rc) (L : Rc) (J : Rc) (F : Rc) (FL : RcL) (x1 : Int32) (h : fX5_learnPace N X P L J F FL x1 = some z) (H : Heap) (locs : List Loc) (hP : va_P D vwCl (fl [wCard K aX rX0 (aP 0) rX3 (aL 0) (aJ 0) (aF 0) rX8 X, wPlan K aP P, wLine K aL (aP 0) L, wLine K aJ (aP 0) J, wFinder K aF (aJ 0) F FL]) H) (hD : va_D A (fl [wCard K aX rX0 (aP 0) rX3 (aL 0) (aJ 0) (aF 0) rX8 X, wPlan K aP P, wLine K aL (aP 0) L, wLine K aJ (aP 0) J, wFinder K aF (aJ 0) F FL])) (hS : va_S A s.heap H locs) (ls : Array Slot) (hl : lv_has ls 2 [(0, .ref (aX 0)), (1, .int x1)]) : W p l e rmX5_learnPace s m args below meth c H locs 0 0 (MQ below (qcV D z (fun (u : Rc × Rc × Rc × RcL) => (fl [wCard K aX rX0 (aP 0) rX3 (aL 0) (aJ 0) (aF 0) rX8 u.1, wPlan K aP P, wLine K aL (aP 0) L, wLine K aJ (aP 0) u.2.1, wFinder K aF (aJ 0) u.2.2.1 u.2.2.2])) A) args s 0 0 A) (F0 m 0 ls []) := by
  unfold fX5_learnPace at h
  refine r_aload_n C0 dX5_learnPace_0 hl 0 rfl ?_
  refine r_get C0 5 inx5 hP 0 rfl rfl 9 (by decide) (mc wd1_16) (.ref (aX 10)) rfl dX5_learnPace_1 ?_
  refine r_iload_n C0 dX5_learnPace_4 hl 1 rfl ?_
  refine r_iald h C0 hP 2 rfl dX5_learnPace_5 (fun h => ?_)
  refine r_if_ne h C0 50 dX5_learnPace_6 (by decide) (fun h => ?_) (fun h => ?_)
  · exact r_vret h C0 (fun (u : Rc × Rc × Rc × RcL) => (fl [wCard K aX rX0 (aP 0) rX3 (aL 0) (aJ 0) (aF 0) rX8 u.1, wPlan K aP P, wLine K aL (aP 0) L, wLine K aJ (aP 0) u.2.1, wFinder K aF (aJ 0) u.2.2.1 u.2.2.2])) hP hD hS dX5_learnPace_50
  · refine r_aload_n C0 dX5_learnPace_9 hl 0 rfl ?_
    refine r_get C0 5 inx5 hP 0 rfl rfl 7 (by decide) (mc wd2_11) (.ref (aF 0)) rfl dX5_learnPace_10 ?_
    refine r_aload_n C0 dX5_learnPace_13 hl 0 rfl ?_
    refine r_get C0 5 inx5 hP 0 rfl rfl 4 (by decide) (mc wd2_6) (.ref (aL 0)) rfl dX5_learnPace_14 ?_
    refine r_get C0 1 inx1 hP 11 rfl rfl 4 (by decide) (mc wd24_0) (.ref (aL 5)) rfl dX5_learnPace_17 ?_
    refine r_iload_n C0 dX5_learnPace_20 hl 1 rfl ?_
    obtain ⟨z1, hz1, h⟩ := bnd_some h
    refine r_callV (wc := (fl [wPlan K aP P, wLine K aJ (aP 0) J, wFinder K aF (aJ 0) F FL, wArr K (aL 5) 5 (L 4)])) (wf := fun (u : Rc × Rc × RcL) => (fl [wPlan K aP P, wLine K aJ (aP 0) u.1, wFinder K aF (aJ 0) u.2.1 u.2.2, wArr K (aL 5) 5 (L 4)])) (wn := (fl [wCard K aX rX0 (aP 0) rX3 (aL 0) (aJ 0) (aF 0) rX8 X, wPlan K aP P, wLine K aL (aP 0) L, wLine K aJ (aP 0) z1.1, wFinder K aF (aJ 0) z1.2.1 z1.2.2])) hP hD hS hA [4, 5, 6, 7, 8, 9, 10, 18, 19, 20, 21, 22, 23, 24, 25, 26, 27, 28, 29, 30, 15] [0, 1, 2, 3, 11, 12, 13, 14, 16, 17] [0, 1, 2, 3, 10, 11, 12, 13, 14, 15, 16, 4, 5, 6, 7, 30, 8, 9, 17, 18, 19, 20, 21, 22, 23, 24, 25, 26, 27, 28, 29] rfl (by decide) rfl (by decide) (by decide) rfl (by decide) (fun hPc hDc => va_runV (As := [.ref (aL 5), .int x1]) (rest := []) C0.1 (ctX2_search l D K N aP aJ aF (aL 5) P J F FL (L 4) x1 H.size z1 hz1) (cwV 2 C0.1.2.2.2.2 (gdV wd27_3 wd27_4 wd27_5 wd2_10 wd27_6) rfl rfl rfl (by decide +kernel) ⟨Nat.le_of_ble_eq_true rfl, Nat.le_of_ble_eq_true rfl⟩) ⟨pcW_blind, va_recv C0.2.2.2.1 hPc (ci := 2) (q0 := 14) rfl rfl, pcW_of hPc hDc C0.2.2.2⟩ rfl rfl hl.1 rfl (lv_room (Nat.le_of_ble_eq_true rfl)) dX5_learnPace_21 ⟨Nat.zero_le _, Nat.zero_le _⟩) (fun H locs hP hD hS => ?_)
    refine r_aload_n C0 dX5_learnPace_24 hl 0 rfl ?_
    refine r_get C0 5 inx5 hP 0 rfl rfl 9 (by decide) (mc wd1_16) (.ref (aX 10)) rfl dX5_learnPace_25 ?_
    refine r_iload_n C0 dX5_learnPace_28 hl 1 rfl ?_
    refine r_aload_n C0 dX5_learnPace_29 hl 0 rfl ?_
    refine r_get C0 5 inx5 hP 0 rfl rfl 7 (by decide) (mc wd2_11) (.ref (aF 0)) rfl dX5_learnPace_30 ?_
    refine r_get C0 2 inx2 hP 25 rfl rfl 6 (by decide) (mc wd27_1) (.int (z1.2.1 6 0)) rfl dX5_learnPace_33 ?_
    refine r_iast h C0 hP hD hS 2 (fun uu => (fl [wCard K aX rX0 (aP 0) rX3 (aL 0) (aJ 0) (aF 0) rX8 uu, wPlan K aP P, wLine K aL (aP 0) L, wLine K aJ (aP 0) z1.1, wFinder K aF (aJ 0) z1.2.1 z1.2.2])) rfl rfl dX5_learnPace_36 (fun X2 H locs h hP hD hS => ?_)
    refine r_aload_n C0 dX5_learnPace_37 hl 0 rfl ?_
    refine r_get C0 5 inx5 hP 0 rfl rfl 10 (by decide) (mc wd1_17) (.ref (aX 11)) rfl dX5_learnPace_38 ?_
    refine r_iload_n C0 dX5_learnPace_41 hl 1 rfl ?_
    refine r_aload_n C0 dX5_learnPace_42 hl 0 rfl ?_
    refine r_get C0 5 inx5 hP 0 rfl rfl 7 (by decide) (mc wd2_11) (.ref (aF 0)) rfl dX5_learnPace_43 ?_
    refine r_get C0 2 inx2 hP 25 rfl rfl 7 (by decide) (mc wd27_2) (.int (z1.2.1 7 0)) rfl dX5_learnPace_46 ?_
    refine r_iast h C0 hP hD hS 3 (fun uu => (fl [wCard K aX rX0 (aP 0) rX3 (aL 0) (aJ 0) (aF 0) rX8 uu, wPlan K aP P, wLine K aL (aP 0) L, wLine K aJ (aP 0) z1.1, wFinder K aF (aJ 0) z1.2.1 z1.2.2])) rfl rfl dX5_learnPace_49 (fun X3 H locs h hP hD hS => ?_)
    exact r_vret h C0 (fun (u : Rc × Rc × Rc × RcL) => (fl [wCard K aX rX0 (aP 0) rX3 (aL 0) (aJ 0) (aF 0) rX8 u.1, wPlan K aP P, wLine K aL (aP 0) L, wLine K aJ (aP 0) u.2.1, wFinder K aF (aJ 0) u.2.2.1 u.2.2.2])) hP hD hS dX5_learnPace_50
set_option maxHeartbeats 1000000 in
set_option maxRecDepth 10000 in
theorem ctX5_learnPace (l : Launch) (D : va_G) (K : Nat → ClassId) (N : Nat) (aX : Nat → Nat) (aP : Nat → Nat) (aL : Nat → Nat) (aJ : Nat → Nat) (aF : Nat → Nat) (rX0 : Nat) (rX3 : Nat) (rX8 : Nat) (X : Rc) (P : Rc) (L : Rc) (J : Rc) (F : Rc) (FL : RcL) (p1 : Int32) (sz : Nat) (z : Rc × Rc × Rc × RcL) (hz : fX5_learnPace N X P L J F FL p1 = some z) : Met l yX5_learnPace wsX5_learnPace rmX5_learnPace (pcW D K [.ref (aX 0), .int p1] (fl [wCard K aX rX0 (aP 0) rX3 (aL 0) (aJ 0) (aF 0) rX8 X, wPlan K aP P, wLine K aL (aP 0) L, wLine K aJ (aP 0) J, wFinder K aF (aJ 0) F FL]) sz) (qcV D z (fun (u : Rc × Rc × Rc × RcL) => (fl [wCard K aX rX0 (aP 0) rX3 (aL 0) (aJ 0) (aF 0) rX8 u.1, wPlan K aP P, wLine K aL (aP 0) L, wLine K aJ (aP 0) u.2.1, wFinder K aF (aJ 0) u.2.2.1 u.2.2.2])) (va_A (fl [wCard K aX rX0 (aP 0) rX3 (aL 0) (aJ 0) (aF 0) rX8 X, wPlan K aP P, wLine K aL (aP 0) L, wLine K aJ (aP 0) J, wFinder K aF (aJ 0) F FL]) sz)) 0 0 (va_A (fl [wCard K aX rX0 (aP 0) rX3 (aL 0) (aJ 0) (aF 0) rX8 X, wPlan K aP P, wLine K aL (aP 0) L, wLine K aJ (aP 0) J, wFinder K aF (aJ 0) F FL]) sz) := by
  refine Met.ofW (cc := cX5_learnPace) (maxL := 2) (ret := none) (by decide) rfl ?_
  intro p e s m args below meth c s₁ B hml hv
  obtain ⟨rfl, hsz, hP, hK, hD0⟩ := hv
  subst hsz
  have C0 : cx p s m _ meth c cX5_learnPace 2 RX5 wsX5_learnPace none D K := ⟨⟨B.exec, B.bytes, hml, findClass_of_methodNamed B.named, atoms_spec (ws := wsX5_learnPace) B.pre⟩, B.returns, B.notSynchronized, hK⟩
  have hD := hD0.self (sz := s.heap.size)
  generalize hAe : va_A (fl [wCard K aX rX0 (aP 0) rX3 (aL 0) (aJ 0) (aF 0) rX8 X, wPlan K aP P, wLine K aL (aP 0) L, wLine K aJ (aP 0) J, wFinder K aF (aJ 0) F FL]) s.heap.size = A at hD ⊢
  have hA : ∀ q : Nat, s.heap.size ≤ q → A q := fun q h => by rw [← hAe]; exact Or.inr h
  have hl := lv_entry ([.ref (aX 0), .int p1]) (n := 2) (Nat.le_of_ble_eq_true rfl)
  rw [lg_entry_eq]
  generalize (lg_sl ([.ref (aX 0), .int p1]) ++ List.replicate (2 - (lg_sl ([.ref (aX 0), .int p1])).length) Slot.unset).toArray = ls at hl ⊢
  have hl : lv_has ls 2 [(0, .ref (aX 0)), (1, .int p1)] := hl
  exact wX5_learnPace_0 C0 hA X P L J F FL p1 hz s.heap [] hP hD va_S.rf ls (lv_sub hl [0, 1] rfl)
end SX5_learnPace

section SX5_paceBy
/-! CardLoops.paceBy(II)I -/
abbrev wsX5_paceBy : List Cond := Cond.code yX5_paceBy cX5_paceBy 3 (some .int) :: wsL_law0
abbrev rmX5_paceBy : Room := { frames := 6, cells := 0, slots := 0, locals := 133 }
variable {p : Program} {l : Launch} {e : Env} {s : State} {m : MethodId} {args : Array Value} {below : List Frame} {meth : Method} {c : Code} {D : va_G} {K : Nat → ClassId} {A : Nat → Prop} {N : Nat} {aX : Nat → Nat} {aP : Nat → Nat} {aL : Nat → Nat} {aJ : Nat → Nat} {aF : Nat → Nat} {rX0 : Nat} {rX3 : Nat} {rX8 : Nat} {z : Int32 × (Rc × Rc × Rc × RcL)}
set_option maxHeartbeats 1000000 in
set_option maxRecDepth 10000 in
theorem wX5_paceBy_26 (C0 : cx p s m args meth c cX5_paceBy 3 RX5 wsX5_paceBy (some .int) D K) (hA : ∀ q, s.heap.size ≤ q → A q) (X : Rc) (P : Rc) (L : Rc) (J : Rc) (F : Rc) (FL : RcL) (h : fX5_paceBy_26 N X P L J F FL = some z) (H : Heap) (locs : List Loc) (hP : va_P D vwCl (fl [wCard K aX rX0 (aP 0) rX3 (aL 0) (aJ 0) (aF 0) rX8 X, wPlan K aP P, wLine K aL (aP 0) L, wLine K aJ (aP 0) J, wFinder K aF (aJ 0) F FL]) H) (hD : va_D A (fl [wCard K aX rX0 (aP 0) rX3 (aL 0) (aJ 0) (aF 0) rX8 X, wPlan K aP P, wLine K aL (aP 0) L, wLine K aJ (aP 0) J, wFinder K aF (aJ 0) F FL])) (hS : va_S A s.heap H locs) (ls : Array Slot) (hl : lv_has ls 3 []) : W p l e rmX5_paceBy s m args below meth c H locs 0 0 (MQ below (qcI D z (fun (u : Rc × Rc × Rc × RcL) => (fl [wCard K aX rX0 (aP 0) rX3 (aL 0) (aJ 0) (aF 0) rX8 u.1, wPlan K aP P, wLine K aL (aP 0) L, wLine K aJ (aP 0) u.2.1, wFinder K aF (aJ 0) u.2.2.1 u.2.2.2])) A) args s 0 0 A) (F0 m 26 ls []) := by
  unfold fX5_paceBy_26 at h
  refine r_iconst C0 (-1 : Int32) dX5_paceBy_26 (by decide) ?_
  exact r_iret h C0 (fun (u : Rc × Rc × Rc × RcL) => (fl [wCard K aX rX0 (aP 0) rX3 (aL 0) (aJ 0) (aF 0) rX8 u.1, wPlan K aP P, wLine K aL (aP 0) L, wLine K aJ (aP 0) u.2.1, wFinder K aF (aJ 0) u.2.2.1 u.2.2.2])) hP hD hS dX5_paceBy_27
set_option maxHeartbeats 1000000 in
set_option maxRecDepth 10000 in
theorem wX5_paceBy_0 (C0 : cx p s m args meth c cX5_paceBy 3 RX5 wsX5_paceBy (some .int) D K) (hA : ∀ q, s.heap.size ≤ q → A q) (X : Rc) (P : Rc) (L : Rc) (J : Rc) (F : Rc) (FL : RcL) (x1 : Int32) (x2 : Int32) (h : fX5_paceBy N X P L J F FL x1 x2 = some z) (H : Heap) (locs : List Loc) (hP : va_P D vwCl (fl [wCard K aX rX0 (aP 0) rX3 (aL 0) (aJ 0) (aF 0) rX8 X, wPlan K aP P, wLine K aL (aP 0) L, wLine K aJ (aP 0) J, wFinder K aF (aJ 0) F FL]) H) (hD : va_D A (fl [wCard K aX rX0 (aP 0) rX3 (aL 0) (aJ 0) (aF 0) rX8 X, wPlan K aP P, wLine K aL (aP 0) L, wLine K aJ (aP 0) J, wFinder K aF (aJ 0) F FL])) (hS : va_S A s.heap H locs) (ls : Array Slot) (hl : lv_has ls 3 [(0, .ref (aX 0)), (1, .int x1), (2, .int x2)]) : W p l e rmX5_paceBy s m args below meth c H locs 0 0 (MQ below (qcI D z (fun (u : Rc × Rc × Rc × RcL) => (fl [wCard K aX rX0 (aP 0) rX3 (aL 0) (aJ 0) (aF 0) rX8 u.1, wPlan K aP P, wLine K aL (aP 0) L, wLine K aJ (aP 0) u.2.1, wFinder K aF (aJ 0) u.2.2.1 u.2.2.2])) A) args s 0 0 A) (F0 m 0 ls []) := by
  unfold fX5_paceBy at h
  refine r_aload_n C0 dX5_paceBy_0 hl 0 rfl ?_
  obtain ⟨z1, hz1, h⟩ := bnd_some h
  have hPc := vaP_sel (Wc := [wCard K aX rX0 (aP 0) rX3 (aL 0) (aJ 0) (aF 0) rX8 X, wPlan K aP P]) hP [0, 1] rfl
  refine r_cI (va_runV (As := []) (rest := []) C0.1 (ctX5_isEmpty l D K aX aP rX0 rX3 (aL 0) (aJ 0) (aF 0) rX8 X P z1 hz1) (cwV 0 C0.1.2.2.2.2 (gdV wd24_18 wd24_19 wd24_20 wd1_2 wd24_21) rfl rfl rfl (by decide +kernel) ⟨Nat.le_of_ble_eq_true rfl, Nat.le_of_ble_eq_true rfl⟩) ⟨pcR_blind, va_recv C0.2.2.2.1 hPc (ci := 5) (q0 := 0) rfl rfl, pcR_of hPc C0.2.2.2⟩ rfl rfl hl.1 rfl (lv_room (Nat.le_of_ble_eq_true rfl)) dX5_paceBy_1 ⟨Nat.zero_le _, Nat.zero_le _⟩).run ?_
  refine r_if_ne h C0 26 dX5_paceBy_4 (by decide) (fun h => ?_) (fun h => ?_)
  · exact wX5_paceBy_26 C0 hA X P L J F FL h _ _ hP hD hS _ (lv_sub hl [] rfl)
  · refine r_iload_n C0 dX5_paceBy_7 hl 1 rfl ?_
    refine r_iconst C0 (nI 1) dX5_paceBy_8 (by decide) ?_
    refine r_icmp_lt h C0 26 dX5_paceBy_9 (by decide) (fun h => ?_) (fun h => ?_)
    · exact wX5_paceBy_26 C0 hA X P L J F FL h _ _ hP hD hS _ (lv_sub hl [] rfl)
    · refine r_iload_n C0 dX5_paceBy_12 hl 1 rfl ?_
      refine r_iconst C0 (nI 5) dX5_paceBy_13 (by decide) ?_
      refine r_icmp_gt h C0 26 dX5_paceBy_14 (by decide) (fun h => ?_) (fun h => ?_)
      · exact wX5_paceBy_26 C0 hA X P L J F FL h _ _ hP hD hS _ (lv_sub hl [] rfl)
      · refine r_iload_n C0 dX5_paceBy_17 hl 2 rfl ?_
        refine r_if_lt h C0 26 dX5_paceBy_18 (by decide) (fun h => ?_) (fun h => ?_)
        · exact wX5_paceBy_26 C0 hA X P L J F FL h _ _ hP hD hS _ (lv_sub hl [] rfl)
        · refine r_iload_n C0 dX5_paceBy_21 hl 2 rfl ?_
          refine r_iconst C0 (nI 1) dX5_paceBy_22 (by decide) ?_
          refine r_icmp_le h C0 28 dX5_paceBy_23 (by decide) (fun h => ?_) (fun h => ?_)
          · refine r_aload_n C0 dX5_paceBy_28 hl 0 rfl ?_
            refine r_iload_n C0 dX5_paceBy_29 hl 1 rfl ?_
            obtain ⟨z2, hz2, h⟩ := bnd_some h
            refine r_callVC (Wc := [wCard K aX rX0 (aP 0) rX3 (aL 0) (aJ 0) (aF 0) rX8 X, wPlan K aP P, wLine K aL (aP 0) L, wLine K aJ (aP 0) J, wFinder K aF (aJ 0) F FL]) (wf := fun (u : Rc × Rc × Rc × RcL) => [wCard K aX rX0 (aP 0) rX3 (aL 0) (aJ 0) (aF 0) rX8 u.1, wPlan K aP P, wLine K aL (aP 0) L, wLine K aJ (aP 0) u.2.1, wFinder K aF (aJ 0) u.2.2.1 u.2.2.2]) (Wn := [wCard K aX rX0 (aP 0) rX3 (aL 0) (aJ 0) (aF 0) rX8 z2.1, wPlan K aP P, wLine K aL (aP 0) L, wLine K aJ (aP 0) z2.2.1, wFinder K aF (aJ 0) z2.2.2.1 z2.2.2.2]) hP hD hS hA [0, 1, 2, 3, 4] [] [0, 1, 2, 3, 4] 5 rfl rfl (by decide) rfl rfl (by decide) (fun hPc hDc hFc => va_runV (As := [.int x1]) (rest := []) C0.1 (ctX5_learnPace l D K N aX aP aL aJ aF rX0 rX3 rX8 X P L J F FL x1 H.size z2 hz2) (cwV 1 C0.1.2.2.2.2 (gdV wd26_21 wd26_22 wd26_23 wd1_2 wd27_0) rfl rfl rfl (by decide +kernel) ⟨Nat.le_of_ble_eq_true rfl, Nat.le_of_ble_eq_true rfl⟩) ⟨pcW_blind, va_recv C0.2.2.2.1 hPc (ci := 5) (q0 := 0) rfl rfl, pcW_of hPc hDc C0.2.2.2⟩ rfl rfl hl.1 rfl (lv_room (Nat.le_of_ble_eq_true rfl)) dX5_paceBy_30 ⟨Nat.zero_le _, Nat.zero_le _⟩) (fun H locs hP hD hS => ?_)
            refine r_iload_n C0 dX5_paceBy_33 hl 2 rfl ?_
            refine r_if_ne h C0 46 dX5_paceBy_34 (by decide) (fun h => ?_) (fun h => ?_)
            · refine r_aload_n C0 dX5_paceBy_46 hl 0 rfl ?_
              refine r_get C0 5 inx5 hP 0 rfl rfl 10 (by decide) (mc wd1_17) (.ref (aX 11)) rfl dX5_paceBy_47 ?_
              refine r_iload_n C0 dX5_paceBy_50 hl 1 rfl ?_
              refine r_iald h C0 hP 3 rfl dX5_paceBy_51 (fun h => ?_)
              exact r_iret h C0 (fun (u : Rc × Rc × Rc × RcL) => (fl [wCard K aX rX0 (aP 0) rX3 (aL 0) (aJ 0) (aF 0) rX8 u.1, wPlan K aP P, wLine K aL (aP 0) L, wLine K aJ (aP 0) u.2.1, wFinder K aF (aJ 0) u.2.2.1 u.2.2.2])) hP hD hS dX5_paceBy_52
            · refine r_aload_n C0 dX5_paceBy_37 hl 0 rfl ?_
              refine r_get C0 5 inx5 hP 0 rfl rfl 9 (by decide) (mc wd1_16) (.ref (aX 10)) rfl dX5_paceBy_38 ?_
              refine r_iload_n C0 dX5_paceBy_41 hl 1 rfl ?_
              refine r_iald h C0 hP 2 rfl dX5_paceBy_42 (fun h => ?_)
              refine r_goto C0 52 dX5_paceBy_43 (by decide) ?_
              exact r_iret h C0 (fun (u : Rc × Rc × Rc × RcL) => (fl [wCard K aX rX0 (aP 0) rX3 (aL 0) (aJ 0) (aF 0) rX8 u.1, wPlan K aP P, wLine K aL (aP 0) L, wLine K aJ (aP 0) u.2.1, wFinder K aF (aJ 0) u.2.2.1 u.2.2.2])) hP hD hS dX5_paceBy_52
          · exact wX5_paceBy_26 C0 hA X P L J F FL h _ _ hP hD hS _ (lv_sub hl [] rfl)
set_option maxHeartbeats 1000000 in
set_option maxRecDepth 10000 in
theorem ctX5_paceBy (l : Launch) (D : va_G) (K : Nat → ClassId) (N : Nat) (aX : Nat → Nat) (aP : Nat → Nat) (aL : Nat → Nat) (aJ : Nat → Nat) (aF : Nat → Nat) (rX0 : Nat) (rX3 : Nat) (rX8 : Nat) (X : Rc) (P : Rc) (L : Rc) (J : Rc) (F : Rc) (FL : RcL) (p1 : Int32) (p2 : Int32) (sz : Nat) (z : Int32 × (Rc × Rc × Rc × RcL)) (hz : fX5_paceBy N X P L J F FL p1 p2 = some z) : Met l yX5_paceBy wsX5_paceBy rmX5_paceBy (pcW D K [.ref (aX 0), .int p1, .int p2] (fl [wCard K aX rX0 (aP 0) rX3 (aL 0) (aJ 0) (aF 0) rX8 X, wPlan K aP P, wLine K aL (aP 0) L, wLine K aJ (aP 0) J, wFinder K aF (aJ 0) F FL]) sz) (qcI D z (fun (u : Rc × Rc × Rc × RcL) => (fl [wCard K aX rX0 (aP 0) rX3 (aL 0) (aJ 0) (aF 0) rX8 u.1, wPlan K aP P, wLine K aL (aP 0) L, wLine K aJ (aP 0) u.2.1, wFinder K aF (aJ 0) u.2.2.1 u.2.2.2])) (va_A (fl [wCard K aX rX0 (aP 0) rX3 (aL 0) (aJ 0) (aF 0) rX8 X, wPlan K aP P, wLine K aL (aP 0) L, wLine K aJ (aP 0) J, wFinder K aF (aJ 0) F FL]) sz)) 0 0 (va_A (fl [wCard K aX rX0 (aP 0) rX3 (aL 0) (aJ 0) (aF 0) rX8 X, wPlan K aP P, wLine K aL (aP 0) L, wLine K aJ (aP 0) J, wFinder K aF (aJ 0) F FL]) sz) := by
  refine Met.ofW (cc := cX5_paceBy) (maxL := 3) (ret := (some .int)) (by decide) rfl ?_
  intro p e s m args below meth c s₁ B hml hv
  obtain ⟨rfl, hsz, hP, hK, hD0⟩ := hv
  subst hsz
  have C0 : cx p s m _ meth c cX5_paceBy 3 RX5 wsX5_paceBy (some .int) D K := ⟨⟨B.exec, B.bytes, hml, findClass_of_methodNamed B.named, atoms_spec (ws := wsX5_paceBy) B.pre⟩, B.returns, B.notSynchronized, hK⟩
  have hD := hD0.self (sz := s.heap.size)
  generalize hAe : va_A (fl [wCard K aX rX0 (aP 0) rX3 (aL 0) (aJ 0) (aF 0) rX8 X, wPlan K aP P, wLine K aL (aP 0) L, wLine K aJ (aP 0) J, wFinder K aF (aJ 0) F FL]) s.heap.size = A at hD ⊢
  have hA : ∀ q : Nat, s.heap.size ≤ q → A q := fun q h => by rw [← hAe]; exact Or.inr h
  have hl := lv_entry ([.ref (aX 0), .int p1, .int p2]) (n := 3) (Nat.le_of_ble_eq_true rfl)
  rw [lg_entry_eq]
  generalize (lg_sl ([.ref (aX 0), .int p1, .int p2]) ++ List.replicate (3 - (lg_sl ([.ref (aX 0), .int p1, .int p2])).length) Slot.unset).toArray = ls at hl ⊢
  have hl : lv_has ls 3 [(0, .ref (aX 0)), (1, .int p1), (2, .int p2)] := hl
  exact wX5_paceBy_0 C0 hA X P L J F FL p1 p2 hz s.heap [] hP hD va_S.rf ls (lv_sub hl [0, 1, 2] rfl)
end SX5_paceBy

section SX5_pace
/-! CardLoops.pace(I)I -/
abbrev wsX5_pace : List Cond := Cond.code yX5_pace cX5_pace 2 (some .int) :: wsL_law0
abbrev rmX5_pace : Room := { frames := 7, cells := 0, slots := 0, locals := 155 }
variable {p : Program} {l : Launch} {e : Env} {s : State} {m : MethodId} {args : Array Value} {below : List Frame} {meth : Method} {c : Code} {D : va_G} {K : Nat → ClassId} {A : Nat → Prop} {N : Nat} {aX : Nat → Nat} {aP : Nat → Nat} {aL : Nat → Nat} {aJ : Nat → Nat} {aF : Nat → Nat} {rX0 : Nat} {rX3 : Nat} {rX8 : Nat} {z : Int32 × (Rc × Rc × Rc × RcL)}
set_option maxHeartbeats 1000000 in
set_option maxRecDepth 10000 in
theorem wX5_pace_0 (C0 : cx p s m args meth c cX5_pace 2 RX5 wsX5_pace (some .int) D K) (hA : ∀ q, s.heap.size ≤ q → A q) (X : Rc) (P : Rc) (L : Rc) (J : Rc) (F : Rc) (FL : RcL) (x1 : Int32) (h : fX5_pace N X P L J F FL x1 = some z) (H : Heap) (locs : List Loc) (hP : va_P D vwCl (fl [wCard K aX rX0 (aP 0) rX3 (aL 0) (aJ 0) (aF 0) rX8 X, wPlan K aP P, wLine K aL (aP 0) L, wLine K aJ (aP 0) J, wFinder K aF (aJ 0) F FL]) H) (hD : va_D A (fl [wCard K aX rX0 (aP 0) rX3 (aL 0) (aJ 0) (aF 0) rX8 X, wPlan K aP P, wLine K aL (aP 0) L, wLine K aJ (aP 0) J, wFinder K aF (aJ 0) F FL])) (hS : va_S A s.heap H locs) (ls : Array Slot) (hl : lv_has ls 2 [(0, .ref (aX 0)), (1, .int x1)]) : W p l e rmX5_pace s m args below meth c H locs 0 0 (MQ below (qcI D z (fun (u : Rc × Rc × Rc × RcL) => (fl [wCard K aX rX0 (aP 0) rX3 (aL 0) (aJ 0) (aF 0) rX8 u.1, wPlan K aP P, wLine K aL (aP 0) L, wLine K aJ (aP 0) u.2.1, wFinder K aF (aJ 0) u.2.2.1 u.2.2.2])) A) args s 0 0 A) (F0 m 0 ls []) := by
  unfold fX5_pace at h
  refine r_aload_n C0 dX5_pace_0 hl 0 rfl ?_
  refine r_iconst C0 (nI 1) dX5_pace_1 (by decide) ?_
  refine r_iload_n C0 dX5_pace_2 hl 1 rfl ?_
  obtain ⟨z1, hz1, h⟩ := bnd_some h
  refine r_callIC (Wc := [wCard K aX rX0 (aP 0) rX3 (aL 0) (aJ 0) (aF 0) rX8 X, wPlan K aP P, wLine K aL (aP 0) L, wLine K aJ (aP 0) J, wFinder K aF (aJ 0) F FL]) (wf := fun (u : Rc × Rc × Rc × RcL) => [wCard K aX rX0 (aP 0) rX3 (aL 0) (aJ 0) (aF 0) rX8 u.1, wPlan K aP P, wLine K aL (aP 0) L, wLine K aJ (aP 0) u.2.1, wFinder K aF (aJ 0) u.2.2.1 u.2.2.2]) (Wn := [wCard K aX rX0 (aP 0) rX3 (aL 0) (aJ 0) (aF 0) rX8 z1.2.1, wPlan K aP P, wLine K aL (aP 0) L, wLine K aJ (aP 0) z1.2.2.1, wFinder K aF (aJ 0) z1.2.2.2.1 z1.2.2.2.2]) hP hD hS hA [0, 1, 2, 3, 4] [] [0, 1, 2, 3, 4] 5 rfl rfl (by decide) rfl rfl (by decide) (fun hPc hDc hFc => va_runV (As := [.int (nI 1), .int x1]) (rest := []) C0.1 (ctX5_paceBy l D K N aX aP aL aJ aF rX0 rX3 rX8 X P L J F FL (nI 1) x1 H.size z1 hz1) (cwV 2 C0.1.2.2.2.2 (gdV wd26_17 wd26_18 wd26_19 wd1_2 wd26_20) rfl rfl rfl (by decide +kernel) ⟨Nat.le_of_ble_eq_true rfl, Nat.le_of_ble_eq_true rfl⟩) ⟨pcW_blind, va_recv C0.2.2.2.1 hPc (ci := 5) (q0 := 0) rfl rfl, pcW_of hPc hDc C0.2.2.2⟩ rfl rfl hl.1 rfl (lv_room (Nat.le_of_ble_eq_true rfl)) dX5_pace_3 ⟨Nat.zero_le _, Nat.zero_le _⟩) (fun H locs hP hD hS => ?_)
  exact r_iret h C0 (fun (u : Rc × Rc × Rc × RcL) => (fl [wCard K aX rX0 (aP 0) rX3 (aL 0) (aJ 0) (aF 0) rX8 u.1, wPlan K aP P, wLine K aL (aP 0) L, wLine K aJ (aP 0) u.2.1, wFinder K aF (aJ 0) u.2.2.1 u.2.2.2])) hP hD hS dX5_pace_6
set_option maxHeartbeats 1000000 in
set_option maxRecDepth 10000 in
theorem ctX5_pace (l : Launch) (D : va_G) (K : Nat → ClassId) (N : Nat) (aX : Nat → Nat) (aP : Nat → Nat) (aL : Nat → Nat) (aJ : Nat → Nat) (aF : Nat → Nat) (rX0 : Nat) (rX3 : Nat) (rX8 : Nat) (X : Rc) (P : Rc) (L : Rc) (J : Rc) (F : Rc) (FL : RcL) (p1 : Int32) (sz : Nat) (z : Int32 × (Rc × Rc × Rc × RcL)) (hz : fX5_pace N X P L J F FL p1 = some z) : Met l yX5_pace wsX5_pace rmX5_pace (pcW D K [.ref (aX 0), .int p1] (fl [wCard K aX rX0 (aP 0) rX3 (aL 0) (aJ 0) (aF 0) rX8 X, wPlan K aP P, wLine K aL (aP 0) L, wLine K aJ (aP 0) J, wFinder K aF (aJ 0) F FL]) sz) (qcI D z (fun (u : Rc × Rc × Rc × RcL) => (fl [wCard K aX rX0 (aP 0) rX3 (aL 0) (aJ 0) (aF 0) rX8 u.1, wPlan K aP P, wLine K aL (aP 0) L, wLine K aJ (aP 0) u.2.1, wFinder K aF (aJ 0) u.2.2.1 u.2.2.2])) (va_A (fl [wCard K aX rX0 (aP 0) rX3 (aL 0) (aJ 0) (aF 0) rX8 X, wPlan K aP P, wLine K aL (aP 0) L, wLine K aJ (aP 0) J, wFinder K aF (aJ 0) F FL]) sz)) 0 0 (va_A (fl [wCard K aX rX0 (aP 0) rX3 (aL 0) (aJ 0) (aF 0) rX8 X, wPlan K aP P, wLine K aL (aP 0) L, wLine K aJ (aP 0) J, wFinder K aF (aJ 0) F FL]) sz) := by
  refine Met.ofW (cc := cX5_pace) (maxL := 2) (ret := (some .int)) (by decide) rfl ?_
  intro p e s m args below meth c s₁ B hml hv
  obtain ⟨rfl, hsz, hP, hK, hD0⟩ := hv
  subst hsz
  have C0 : cx p s m _ meth c cX5_pace 2 RX5 wsX5_pace (some .int) D K := ⟨⟨B.exec, B.bytes, hml, findClass_of_methodNamed B.named, atoms_spec (ws := wsX5_pace) B.pre⟩, B.returns, B.notSynchronized, hK⟩
  have hD := hD0.self (sz := s.heap.size)
  generalize hAe : va_A (fl [wCard K aX rX0 (aP 0) rX3 (aL 0) (aJ 0) (aF 0) rX8 X, wPlan K aP P, wLine K aL (aP 0) L, wLine K aJ (aP 0) J, wFinder K aF (aJ 0) F FL]) s.heap.size = A at hD ⊢
  have hA : ∀ q : Nat, s.heap.size ≤ q → A q := fun q h => by rw [← hAe]; exact Or.inr h
  have hl := lv_entry ([.ref (aX 0), .int p1]) (n := 2) (Nat.le_of_ble_eq_true rfl)
  rw [lg_entry_eq]
  generalize (lg_sl ([.ref (aX 0), .int p1]) ++ List.replicate (2 - (lg_sl ([.ref (aX 0), .int p1])).length) Slot.unset).toArray = ls at hl ⊢
  have hl : lv_has ls 2 [(0, .ref (aX 0)), (1, .int p1)] := hl
  exact wX5_pace_0 C0 hA X P L J F FL p1 hz s.heap [] hP hD va_S.rf ls (lv_sub hl [0, 1] rfl)
end SX5_pace

section SX5_longer
/-! CardLoops.longer(II)I -/
abbrev wsX5_longer : List Cond := Cond.code yX5_longer cX5_longer 3 (some .int) :: wsL_law0
abbrev rmX5_longer : Room := { frames := 7, cells := 0, slots := 0, locals := 155 }
variable {p : Program} {l : Launch} {e : Env} {s : State} {m : MethodId} {args : Array Value} {below : List Frame} {meth : Method} {c : Code} {D : va_G} {K : Nat → ClassId} {A : Nat → Prop} {N : Nat} {aX : Nat → Nat} {aP : Nat → Nat} {aL : Nat → Nat} {aJ : Nat → Nat} {aF : Nat → Nat} {rX0 : Nat} {rX3 : Nat} {rX8 : Nat} {z : Int32 × (Rc × Rc × Rc × RcL)}
set_option maxHeartbeats 1000000 in
set_option maxRecDepth 10000 in
theorem wX5_longer_0 (C0 : cx p s m args meth c cX5_longer 3 RX5 wsX5_longer (some .int) D K) (hA : ∀ q, s.heap.size ≤ q → A q) (X : Rc) (P : Rc) (L : Rc) (J : Rc) (F : Rc) (FL : RcL) (x1 : Int32) (x2 : Int32) (h : fX5_longer N X P L J F FL x1 x2 = some z) (H : Heap) (locs : List Loc) (hP : va_P D vwCl (fl [wCard K aX rX0 (aP 0) rX3 (aL 0) (aJ 0) (aF 0) rX8 X, wPlan K aP P, wLine K aL (aP 0) L, wLine K aJ (aP 0) J, wFinder K aF (aJ 0) F FL]) H) (hD : va_D A (fl [wCard K aX rX0 (aP 0) rX3 (aL 0) (aJ 0) (aF 0) rX8 X, wPlan K aP P, wLine K aL (aP 0) L, wLine K aJ (aP 0) J, wFinder K aF (aJ 0) F FL])) (hS : va_S A s.heap H locs) (ls : Array Slot) (hl : lv_has ls 3 [(0, .ref (aX 0)), (1, .int x1), (2, .int x2)]) : W p l e rmX5_longer s m args below meth c H locs 0 0 (MQ below (qcI D z (fun (u : Rc × Rc × Rc × RcL) => (fl [wCard K aX rX0 (aP 0) rX3 (aL 0) (aJ 0) (aF 0) rX8 u.1, wPlan K aP P, wLine K aL (aP 0) L, wLine K aJ (aP 0) u.2.1, wFinder K aF (aJ 0) u.2.2.1 u.2.2.2])) A) args s 0 0 A) (F0 m 0 ls []) := by
  unfold fX5_longer at h
  refine r_aload_n C0 dX5_longer_0 hl 0 rfl ?_
  refine r_iload_n C0 dX5_longer_1 hl 1 rfl ?_
  refine r_iload_n C0 dX5_longer_2 hl 2 rfl ?_
  obtain ⟨z1, hz1, h⟩ := bnd_some h
  refine r_callIC (Wc := [wCard K aX rX0 (aP 0) rX3 (aL 0) (aJ 0) (aF 0) rX8 X, wPlan K aP P, wLine K aL (aP 0) L, wLine K aJ (aP 0) J, wFinder K aF (aJ 0) F FL]) (wf := fun (u : Rc × Rc × Rc × RcL) => [wCard K aX rX0 (aP 0) rX3 (aL 0) (aJ 0) (aF 0) rX8 u.1, wPlan K aP P, wLine K aL (aP 0) L, wLine K aJ (aP 0) u.2.1, wFinder K aF (aJ 0) u.2.2.1 u.2.2.2]) (Wn := [wCard K aX rX0 (aP 0) rX3 (aL 0) (aJ 0) (aF 0) rX8 z1.2.1, wPlan K aP P, wLine K aL (aP 0) L, wLine K aJ (aP 0) z1.2.2.1, wFinder K aF (aJ 0) z1.2.2.2.1 z1.2.2.2.2]) hP hD hS hA [0, 1, 2, 3, 4] [] [0, 1, 2, 3, 4] 5 rfl rfl (by decide) rfl rfl (by decide) (fun hPc hDc hFc => va_runV (As := [.int x1, .int x2]) (rest := []) C0.1 (ctX5_paceBy l D K N aX aP aL aJ aF rX0 rX3 rX8 X P L J F FL x1 x2 H.size z1 hz1) (cwV 2 C0.1.2.2.2.2 (gdV wd26_17 wd26_18 wd26_19 wd1_2 wd26_20) rfl rfl rfl (by decide +kernel) ⟨Nat.le_of_ble_eq_true rfl, Nat.le_of_ble_eq_true rfl⟩) ⟨pcW_blind, va_recv C0.2.2.2.1 hPc (ci := 5) (q0 := 0) rfl rfl, pcW_of hPc hDc C0.2.2.2⟩ rfl rfl hl.1 rfl (lv_room (Nat.le_of_ble_eq_true rfl)) dX5_longer_3 ⟨Nat.zero_le _, Nat.zero_le _⟩) (fun H locs hP hD hS => ?_)
  exact r_iret h C0 (fun (u : Rc × Rc × Rc × RcL) => (fl [wCard K aX rX0 (aP 0) rX3 (aL 0) (aJ 0) (aF 0) rX8 u.1, wPlan K aP P, wLine K aL (aP 0) L, wLine K aJ (aP 0) u.2.1, wFinder K aF (aJ 0) u.2.2.1 u.2.2.2])) hP hD hS dX5_longer_6
set_option maxHeartbeats 1000000 in
set_option maxRecDepth 10000 in
theorem ctX5_longer (l : Launch) (D : va_G) (K : Nat → ClassId) (N : Nat) (aX : Nat → Nat) (aP : Nat → Nat) (aL : Nat → Nat) (aJ : Nat → Nat) (aF : Nat → Nat) (rX0 : Nat) (rX3 : Nat) (rX8 : Nat) (X : Rc) (P : Rc) (L : Rc) (J : Rc) (F : Rc) (FL : RcL) (p1 : Int32) (p2 : Int32) (sz : Nat) (z : Int32 × (Rc × Rc × Rc × RcL)) (hz : fX5_longer N X P L J F FL p1 p2 = some z) : Met l yX5_longer wsX5_longer rmX5_longer (pcW D K [.ref (aX 0), .int p1, .int p2] (fl [wCard K aX rX0 (aP 0) rX3 (aL 0) (aJ 0) (aF 0) rX8 X, wPlan K aP P, wLine K aL (aP 0) L, wLine K aJ (aP 0) J, wFinder K aF (aJ 0) F FL]) sz) (qcI D z (fun (u : Rc × Rc × Rc × RcL) => (fl [wCard K aX rX0 (aP 0) rX3 (aL 0) (aJ 0) (aF 0) rX8 u.1, wPlan K aP P, wLine K aL (aP 0) L, wLine K aJ (aP 0) u.2.1, wFinder K aF (aJ 0) u.2.2.1 u.2.2.2])) (va_A (fl [wCard K aX rX0 (aP 0) rX3 (aL 0) (aJ 0) (aF 0) rX8 X, wPlan K aP P, wLine K aL (aP 0) L, wLine K aJ (aP 0) J, wFinder K aF (aJ 0) F FL]) sz)) 0 0 (va_A (fl [wCard K aX rX0 (aP 0) rX3 (aL 0) (aJ 0) (aF 0) rX8 X, wPlan K aP P, wLine K aL (aP 0) L, wLine K aJ (aP 0) J, wFinder K aF (aJ 0) F FL]) sz) := by
  refine Met.ofW (cc := cX5_longer) (maxL := 3) (ret := (some .int)) (by decide) rfl ?_
  intro p e s m args below meth c s₁ B hml hv
  obtain ⟨rfl, hsz, hP, hK, hD0⟩ := hv
  subst hsz
  have C0 : cx p s m _ meth c cX5_longer 3 RX5 wsX5_longer (some .int) D K := ⟨⟨B.exec, B.bytes, hml, findClass_of_methodNamed B.named, atoms_spec (ws := wsX5_longer) B.pre⟩, B.returns, B.notSynchronized, hK⟩
  have hD := hD0.self (sz := s.heap.size)
  generalize hAe : va_A (fl [wCard K aX rX0 (aP 0) rX3 (aL 0) (aJ 0) (aF 0) rX8 X, wPlan K aP P, wLine K aL (aP 0) L, wLine K aJ (aP 0) J, wFinder K aF (aJ 0) F FL]) s.heap.size = A at hD ⊢
  have hA : ∀ q : Nat, s.heap.size ≤ q → A q := fun q h => by rw [← hAe]; exact Or.inr h
  have hl := lv_entry ([.ref (aX 0), .int p1, .int p2]) (n := 3) (Nat.le_of_ble_eq_true rfl)
  rw [lg_entry_eq]
  generalize (lg_sl ([.ref (aX 0), .int p1, .int p2]) ++ List.replicate (3 - (lg_sl ([.ref (aX 0), .int p1, .int p2])).length) Slot.unset).toArray = ls at hl ⊢
  have hl : lv_has ls 3 [(0, .ref (aX 0)), (1, .int p1), (2, .int p2)] := hl
  exact wX5_longer_0 C0 hA X P L J F FL p1 p2 hz s.heap [] hP hD va_S.rf ls (lv_sub hl [0, 1, 2] rfl)
end SX5_longer

section SX5_isQuicker
/-! CardLoops.isQuicker(II)Z -/
abbrev wsX5_isQuicker : List Cond := Cond.code yX5_isQuicker cX5_isQuicker 3 (some .boolean) :: wsL_law0
abbrev rmX5_isQuicker : Room := { frames := 0, cells := 0, slots := 0, locals := 0 }
variable {p : Program} {l : Launch} {e : Env} {s : State} {m : MethodId} {args : Array Value} {below : List Frame} {meth : Method} {c : Code} {D : va_G} {K : Nat → ClassId} {A : Nat → Prop} {aX : Nat → Nat} {rX0 : Nat} {rX2 : Nat} {rX3 : Nat} {rX4 : Nat} {rX5 : Nat} {rX7 : Nat} {rX8 : Nat} {z : Int32}
set_option maxHeartbeats 1000000 in
set_option maxRecDepth 10000 in
theorem wX5_isQuicker_0 (C0 : cx p s m args meth c cX5_isQuicker 3 RX5 wsX5_isQuicker (some .boolean) D K) (X : Rc) (x1 : Int32) (x2 : Int32) (h : fX5_isQuicker X x1 x2 = some z) (hP : va_P D vwCl (fl [wCard K aX rX0 rX2 rX3 rX4 rX5 rX7 rX8 X]) s.heap) (ls : Array Slot) (hl : lv_has ls 3 [(0, .ref (aX 0)), (1, .int x1), (2, .int x2)]) : W p l e rmX5_isQuicker s m args below meth c s.heap [] 0 0 (MQ below (vp_Si (fun r => r = z)) args s 0 0 (fun _ => False)) (F0 m 0 ls []) := by
  unfold fX5_isQuicker at h
  refine r_aload_n C0 dX5_isQuicker_0 hl 0 rfl ?_
  refine r_get C0 5 inx5 hP 0 rfl rfl 9 (by decide) (mc wd1_16) (.ref (aX 10)) rfl dX5_isQuicker_1 ?_
  refine r_iload_n C0 dX5_isQuicker_4 hl 1 rfl ?_
  refine r_iald h C0 hP 2 rfl dX5_isQuicker_5 (fun h => ?_)
  refine r_i2l C0 dX5_isQuicker_6 ?_
  refine r_aload_n C0 dX5_isQuicker_7 hl 0 rfl ?_
  refine r_get C0 5 inx5 hP 0 rfl rfl 10 (by decide) (mc wd1_17) (.ref (aX 11)) rfl dX5_isQuicker_8 ?_
  refine r_iload_n C0 dX5_isQuicker_11 hl 2 rfl ?_
  refine r_iald h C0 hP 3 rfl dX5_isQuicker_12 (fun h => ?_)
  refine r_i2l C0 dX5_isQuicker_13 ?_
  refine r_lmul C0 dX5_isQuicker_14 ?_
  refine r_aload_n C0 dX5_isQuicker_15 hl 0 rfl ?_
  refine r_get C0 5 inx5 hP 0 rfl rfl 9 (by decide) (mc wd1_16) (.ref (aX 10)) rfl dX5_isQuicker_16 ?_
  refine r_iload_n C0 dX5_isQuicker_19 hl 2 rfl ?_
  refine r_iald h C0 hP 2 rfl dX5_isQuicker_20 (fun h => ?_)
  refine r_i2l C0 dX5_isQuicker_21 ?_
  refine r_aload_n C0 dX5_isQuicker_22 hl 0 rfl ?_
  refine r_get C0 5 inx5 hP 0 rfl rfl 10 (by decide) (mc wd1_17) (.ref (aX 11)) rfl dX5_isQuicker_23 ?_
  refine r_iload_n C0 dX5_isQuicker_26 hl 1 rfl ?_
  refine r_iald h C0 hP 3 rfl dX5_isQuicker_27 (fun h => ?_)
  refine r_i2l C0 dX5_isQuicker_28 ?_
  refine r_lmul C0 dX5_isQuicker_29 ?_
  refine r_lcmp C0 dX5_isQuicker_30 ?_
  refine r_if_le h C0 38 dX5_isQuicker_31 (by decide) (fun h => ?_) (fun h => ?_)
  · refine r_iconst C0 (nI 0) dX5_isQuicker_38 (by decide) ?_
    exact r_zretRC C0 h (by decide) dX5_isQuicker_39
  · refine r_iconst C0 (nI 1) dX5_isQuicker_34 (by decide) ?_
    refine r_goto C0 39 dX5_isQuicker_35 (by decide) ?_
    exact r_zretRC C0 h (by decide) dX5_isQuicker_39
set_option maxHeartbeats 1000000 in
set_option maxRecDepth 10000 in
theorem ctX5_isQuicker (l : Launch) (D : va_G) (K : Nat → ClassId) (aX : Nat → Nat) (rX0 : Nat) (rX2 : Nat) (rX3 : Nat) (rX4 : Nat) (rX5 : Nat) (rX7 : Nat) (rX8 : Nat) (X : Rc) (p1 : Int32) (p2 : Int32) (z : Int32) (hz : fX5_isQuicker X p1 p2 = some z) : Met l yX5_isQuicker wsX5_isQuicker rmX5_isQuicker (pcR D K [.ref (aX 0), .int p1, .int p2] (fl [wCard K aX rX0 rX2 rX3 rX4 rX5 rX7 rX8 X])) (vp_Si (fun r => r = z)) 0 0 (fun _ => False) := by
  refine Met.ofW (cc := cX5_isQuicker) (maxL := 3) (ret := (some .boolean)) (by decide) rfl ?_
  intro p e s m args below meth c s₁ B hml hv
  obtain ⟨rfl, hP, hK⟩ := hv
  have C0 : cx p s m _ meth c cX5_isQuicker 3 RX5 wsX5_isQuicker (some .boolean) D K := ⟨⟨B.exec, B.bytes, hml, findClass_of_methodNamed B.named, atoms_spec (ws := wsX5_isQuicker) B.pre⟩, B.returns, B.notSynchronized, hK⟩
  have hl := lv_entry ([.ref (aX 0), .int p1, .int p2]) (n := 3) (Nat.le_of_ble_eq_true rfl)
  rw [lg_entry_eq]
  generalize (lg_sl ([.ref (aX 0), .int p1, .int p2]) ++ List.replicate (3 - (lg_sl ([.ref (aX 0), .int p1, .int p2])).length) Slot.unset).toArray = ls at hl ⊢
  have hl : lv_has ls 3 [(0, .ref (aX 0)), (1, .int p1), (2, .int p2)] := hl
  exact wX5_isQuicker_0 C0 X p1 p2 hz hP ls (lv_sub hl [0, 1, 2] rfl)
end SX5_isQuicker

section SX5_longest
/-! CardLoops.longest()I -/
abbrev wsX5_longest : List Cond := Cond.code yX5_longest cX5_longest 3 (some .int) :: wsL_law0
abbrev rmX5_longest : Room := { frames := 6, cells := 0, slots := 0, locals := 133 }
variable {p : Program} {l : Launch} {e : Env} {s : State} {m : MethodId} {args : Array Value} {below : List Frame} {meth : Method} {c : Code} {D : va_G} {K : Nat → ClassId} {A : Nat → Prop} {N : Nat} {aX : Nat → Nat} {aP : Nat → Nat} {aL : Nat → Nat} {aJ : Nat → Nat} {aF : Nat → Nat} {rX0 : Nat} {rX3 : Nat} {rX8 : Nat} {z : Int32 × (Rc × Rc × Rc × RcL)}
def IX5_longest_13 (p : Program) (l : Launch) (e : Env) (s : State) (m : MethodId) (args : Array Value) (below : List Frame) (meth : Method) (c : Code) (D : va_G) (K : Nat → ClassId) (aX : Nat → Nat) (aP : Nat → Nat) (aL : Nat → Nat) (aJ : Nat → Nat) (aF : Nat → Nat) (rX0 : Nat) (rX3 : Nat) (rX8 : Nat) (A : Nat → Prop) (z : Int32 × (Rc × Rc × Rc × RcL)) (k : Rc → Rc → Rc → Rc → Rc → RcL → Int32 → Int32 → Option (Int32 × (Rc × Rc × Rc × RcL))) : Prop := ∀ (X : Rc) (P : Rc) (L : Rc) (J : Rc) (F : Rc) (FL : RcL) (x1 : Int32) (x2 : Int32) (H : Heap) (locs : List Loc) (ls : Array Slot), k X P L J F FL x1 x2 = some z → va_P D vwCl (fl [wCard K aX rX0 (aP 0) rX3 (aL 0) (aJ 0) (aF 0) rX8 X, wPlan K aP P, wLine K aL (aP 0) L, wLine K aJ (aP 0) J, wFinder K aF (aJ 0) F FL]) H → va_D A (fl [wCard K aX rX0 (aP 0) rX3 (aL 0) (aJ 0) (aF 0) rX8 X, wPlan K aP P, wLine K aL (aP 0) L, wLine K aJ (aP 0) J, wFinder K aF (aJ 0) F FL]) → va_S A s.heap H locs → lv_has ls 3 [(0, .ref (aX 0)), (1, .int x1), (2, .int x2)] → W p l e rmX5_longest s m args below meth c H locs 0 0 (MQ below (qcI D z (fun (u : Rc × Rc × Rc × RcL) => (fl [wCard K aX rX0 (aP 0) rX3 (aL 0) (aJ 0) (aF 0) rX8 u.1, wPlan K aP P, wLine K aL (aP 0) L, wLine K aJ (aP 0) u.2.1, wFinder K aF (aJ 0) u.2.2.1 u.2.2.2])) A) args s 0 0 A) (F0 m 13 ls [])
set_option maxHeartbeats 1000000 in
set_option maxRecDepth 10000 in
theorem wX5_longest_48 (C0 : cx p s m args meth c cX5_longest 3 RX5 wsX5_longest (some .int) D K) (hA : ∀ q, s.heap.size ≤ q → A q) {k13 : Rc → Rc → Rc → Rc → Rc → RcL → Int32 → Int32 → Option (Int32 × (Rc × Rc × Rc × RcL))} (hk13 : IX5_longest_13 p l e s m args below meth c D K aX aP aL aJ aF rX0 rX3 rX8 A z k13) (X : Rc) (P : Rc) (L : Rc) (J : Rc) (F : Rc) (FL : RcL) (x1 : Int32) (x2 : Int32) (h : fX5_longest_48 N k13 X P L J F FL x1 x2 = some z) (H : Heap) (locs : List Loc) (hP : va_P D vwCl (fl [wCard K aX rX0 (aP 0) rX3 (aL 0) (aJ 0) (aF 0) rX8 X, wPlan K aP P, wLine K aL (aP 0) L, wLine K aJ (aP 0) J, wFinder K aF (aJ 0) F FL]) H) (hD : va_D A (fl [wCard K aX rX0 (aP 0) rX3 (aL 0) (aJ 0) (aF 0) rX8 X, wPlan K aP P, wLine K aL (aP 0) L, wLine K aJ (aP 0) J, wFinder K aF (aJ 0) F FL])) (hS : va_S A s.heap H locs) (ls : Array Slot) (hl : lv_has ls 3 [(0, .ref (aX 0)), (1, .int x1), (2, .int x2)]) : W p l e rmX5_longest s m args below meth c H locs 0 0 (MQ below (qcI D z (fun (u : Rc × Rc × Rc × RcL) => (fl [wCard K aX rX0 (aP 0) rX3 (aL 0) (aJ 0) (aF 0) rX8 u.1, wPlan K aP P, wLine K aL (aP 0) L, wLine K aJ (aP 0) u.2.1, wFinder K aF (aJ 0) u.2.2.1 u.2.2.2])) A) args s 0 0 A) (F0 m 48 ls []) := by
  unfold fX5_longest_48 at h
  refine r_iinc h C0 2 (fun v1 => [(2, .int v1), (0, .ref (aX 0)), (1, .int x1)]) dX5_longest_48 hl rfl rfl (by decide) (fun _ => rfl) (fun v1 ls h hl => ?_)
  refine r_goto C0 13 dX5_longest_51 (by decide) ?_
  exact hk13 X P L J F FL x1 v1 _ _ _ h hP hD hS (lv_sub hl [1, 2, 0] rfl)
set_option maxHeartbeats 1000000 in
set_option maxRecDepth 10000 in
theorem wX5_longest_46 (C0 : cx p s m args meth c cX5_longest 3 RX5 wsX5_longest (some .int) D K) (hA : ∀ q, s.heap.size ≤ q → A q) {k13 : Rc → Rc → Rc → Rc → Rc → RcL → Int32 → Int32 → Option (Int32 × (Rc × Rc × Rc × RcL))} (hk13 : IX5_longest_13 p l e s m args below meth c D K aX aP aL aJ aF rX0 rX3 rX8 A z k13) (X : Rc) (P : Rc) (L : Rc) (J : Rc) (F : Rc) (FL : RcL) (x2 : Int32) (h : fX5_longest_46 N k13 X P L J F FL x2 = some z) (H : Heap) (locs : List Loc) (hP : va_P D vwCl (fl [wCard K aX rX0 (aP 0) rX3 (aL 0) (aJ 0) (aF 0) rX8 X, wPlan K aP P, wLine K aL (aP 0) L, wLine K aJ (aP 0) J, wFinder K aF (aJ 0) F FL]) H) (hD : va_D A (fl [wCard K aX rX0 (aP 0) rX3 (aL 0) (aJ 0) (aF 0) rX8 X, wPlan K aP P, wLine K aL (aP 0) L, wLine K aJ (aP 0) J, wFinder K aF (aJ 0) F FL])) (hS : va_S A s.heap H locs) (ls : Array Slot) (hl : lv_has ls 3 [(0, .ref (aX 0)), (2, .int x2)]) : W p l e rmX5_longest s m args below meth c H locs 0 0 (MQ below (qcI D z (fun (u : Rc × Rc × Rc × RcL) => (fl [wCard K aX rX0 (aP 0) rX3 (aL 0) (aJ 0) (aF 0) rX8 u.1, wPlan K aP P, wLine K aL (aP 0) L, wLine K aJ (aP 0) u.2.1, wFinder K aF (aJ 0) u.2.2.1 u.2.2.2])) A) args s 0 0 A) (F0 m 46 ls []) := by
  unfold fX5_longest_46 at h
  refine r_iload_n C0 dX5_longest_46 hl 1 rfl ?_
  refine r_istore_n h C0 (fun v1 => [(1, .int v1), (0, .ref (aX 0)), (2, .int x2)]) dX5_longest_47 hl (by decide) (fun _ => rfl) (fun v1 ls h hl => ?_)
  exact wX5_longest_48 C0 hA hk13 X P L J F FL v1 x2 h _ _ hP hD hS _ (lv_sub hl [1, 0, 2] rfl)
set_option maxHeartbeats 1000000 in
set_option maxRecDepth 10000 in
theorem wX5_longest_13 (C0 : cx p s m args meth c cX5_longest 3 RX5 wsX5_longest (some .int) D K) (hA : ∀ q, s.heap.size ≤ q → A q) {k13 : Rc → Rc → Rc → Rc → Rc → RcL → Int32 → Int32 → Option (Int32 × (Rc × Rc × Rc × RcL))} (hk13 : IX5_longest_13 p l e s m args below meth c D K aX aP aL aJ aF rX0 rX3 rX8 A z k13) (X : Rc) (P : Rc) (L : Rc) (J : Rc) (F : Rc) (FL : RcL) (x1 : Int32) (x2 : Int32) (h : fX5_longest_13b N k13 X P L J F FL x1 x2 = some z) (H : Heap) (locs : List Loc) (hP : va_P D vwCl (fl [wCard K aX rX0 (aP 0) rX3 (aL 0) (aJ 0) (aF 0) rX8 X, wPlan K aP P, wLine K aL (aP 0) L, wLine K aJ (aP 0) J, wFinder K aF (aJ 0) F FL]) H) (hD : va_D A (fl [wCard K aX rX0 (aP 0) rX3 (aL 0) (aJ 0) (aF 0) rX8 X, wPlan K aP P, wLine K aL (aP 0) L, wLine K aJ (aP 0) J, wFinder K aF (aJ 0) F FL])) (hS : va_S A s.heap H locs) (ls : Array Slot) (hl : lv_has ls 3 [(0, .ref (aX 0)), (1, .int x1), (2, .int x2)]) : W p l e rmX5_longest s m args below meth c H locs 0 0 (MQ below (qcI D z (fun (u : Rc × Rc × Rc × RcL) => (fl [wCard K aX rX0 (aP 0) rX3 (aL 0) (aJ 0) (aF 0) rX8 u.1, wPlan K aP P, wLine K aL (aP 0) L, wLine K aJ (aP 0) u.2.1, wFinder K aF (aJ 0) u.2.2.1 u.2.2.2])) A) args s 0 0 A) (F0 m 13 ls []) := by
  unfold fX5_longest_13b at h
  refine r_iload_n C0 dX5_longest_13 hl 2 rfl ?_
  refine r_iconst C0 (nI 5) dX5_longest_14 (by decide) ?_
  refine r_icmp_gt h C0 54 dX5_longest_15 (by decide) (fun h => ?_) (fun h => ?_)
  · refine r_iload_n C0 dX5_longest_54 hl 1 rfl ?_
    exact r_iret h C0 (fun (u : Rc × Rc × Rc × RcL) => (fl [wCard K aX rX0 (aP 0) rX3 (aL 0) (aJ 0) (aF 0) rX8 u.1, wPlan K aP P, wLine K aL (aP 0) L, wLine K aJ (aP 0) u.2.1, wFinder K aF (aJ 0) u.2.2.1 u.2.2.2])) hP hD hS dX5_longest_55
  · refine r_aload_n C0 dX5_longest_18 hl 0 rfl ?_
    refine r_iload_n C0 dX5_longest_19 hl 2 rfl ?_
    obtain ⟨z1, hz1, h⟩ := bnd_some h
    refine r_callVC (Wc := [wCard K aX rX0 (aP 0) rX3 (aL 0) (aJ 0) (aF 0) rX8 X, wPlan K aP P, wLine K aL (aP 0) L, wLine K aJ (aP 0) J, wFinder K aF (aJ 0) F FL]) (wf := fun (u : Rc × Rc × Rc × RcL) => [wCard K aX rX0 (aP 0) rX3 (aL 0) (aJ 0) (aF 0) rX8 u.1, wPlan K aP P, wLine K aL (aP 0) L, wLine K aJ (aP 0) u.2.1, wFinder K aF (aJ 0) u.2.2.1 u.2.2.2]) (Wn := [wCard K aX rX0 (aP 0) rX3 (aL 0) (aJ 0) (aF 0) rX8 z1.1, wPlan K aP P, wLine K aL (aP 0) L, wLine K aJ (aP 0) z1.2.1, wFinder K aF (aJ 0) z1.2.2.1 z1.2.2.2]) hP hD hS hA [0, 1, 2, 3, 4] [] [0, 1, 2, 3, 4] 5 rfl rfl (by decide) rfl rfl (by decide) (fun hPc hDc hFc => va_runV (As := [.int x2]) (rest := []) C0.1 (ctX5_learnPace l D K N aX aP aL aJ aF rX0 rX3 rX8 X P L J F FL x2 H.size z1 hz1) (cwV 1 C0.1.2.2.2.2 (gdV wd26_21 wd26_22 wd26_23 wd1_2 wd27_0) rfl rfl rfl (by decide +kernel) ⟨Nat.le_of_ble_eq_true rfl, Nat.le_of_ble_eq_true rfl⟩) ⟨pcW_blind, va_recv C0.2.2.2.1 hPc (ci := 5) (q0 := 0) rfl rfl, pcW_of hPc hDc C0.2.2.2⟩ rfl rfl hl.1 rfl (lv_room (Nat.le_of_ble_eq_true rfl)) dX5_longest_20 ⟨Nat.zero_le _, Nat.zero_le _⟩) (fun H locs hP hD hS => ?_)
    refine r_aload_n C0 dX5_longest_23 hl 0 rfl ?_
    refine r_get C0 5 inx5 hP 0 rfl rfl 9 (by decide) (mc wd1_16) (.ref (aX 10)) rfl dX5_longest_24 ?_
    refine r_iload_n C0 dX5_longest_27 hl 2 rfl ?_
    refine r_iald h C0 hP 2 rfl dX5_longest_28 (fun h => ?_)
    refine r_if_le h C0 48 dX5_longest_29 (by decide) (fun h => ?_) (fun h => ?_)
    · exact wX5_longest_48 C0 hA hk13 z1.1 P L z1.2.1 z1.2.2.1 z1.2.2.2 x1 x2 h _ _ hP hD hS _ (lv_sub hl [0, 1, 2] rfl)
    · refine r_iload_n C0 dX5_longest_32 hl 1 rfl ?_
      refine r_iconst C0 (nI 1) dX5_longest_33 (by decide) ?_
      refine r_icmp_lt h C0 46 dX5_longest_34 (by decide) (fun h => ?_) (fun h => ?_)
      · exact wX5_longest_46 C0 hA hk13 z1.1 P L z1.2.1 z1.2.2.1 z1.2.2.2 x2 h _ _ hP hD hS _ (lv_sub hl [0, 2] rfl)
      · refine r_aload_n C0 dX5_longest_37 hl 0 rfl ?_
        refine r_iload_n C0 dX5_longest_38 hl 2 rfl ?_
        refine r_iload_n C0 dX5_longest_39 hl 1 rfl ?_
        obtain ⟨z2, hz2, h⟩ := bnd_some h
        have hPc := vaP_sel (Wc := [wCard K aX rX0 (aP 0) rX3 (aL 0) (aJ 0) (aF 0) rX8 z1.1]) hP [0] rfl
        refine r_cI (va_runV (As := [.int x2, .int x1]) (rest := []) C0.1 (ctX5_isQuicker l D K aX rX0 (aP 0) rX3 (aL 0) (aJ 0) (aF 0) rX8 z1.1 x2 x1 z2 hz2) (cwV 2 C0.1.2.2.2.2 (gdV wd32_10 wd32_11 wd32_12 wd1_2 wd32_13) rfl rfl rfl (by decide +kernel) ⟨Nat.le_of_ble_eq_true rfl, Nat.le_of_ble_eq_true rfl⟩) ⟨pcR_blind, va_recv C0.2.2.2.1 hPc (ci := 5) (q0 := 0) rfl rfl, pcR_of hPc C0.2.2.2⟩ rfl rfl hl.1 rfl (lv_room (Nat.le_of_ble_eq_true rfl)) dX5_longest_40 ⟨Nat.zero_le _, Nat.zero_le _⟩).run ?_
        refine r_if_eq h C0 48 dX5_longest_43 (by decide) (fun h => ?_) (fun h => ?_)
        · exact wX5_longest_48 C0 hA hk13 z1.1 P L z1.2.1 z1.2.2.1 z1.2.2.2 x1 x2 h _ _ hP hD hS _ (lv_sub hl [0, 1, 2] rfl)
        · exact wX5_longest_46 C0 hA hk13 z1.1 P L z1.2.1 z1.2.2.1 z1.2.2.2 x2 h _ _ hP hD hS _ (lv_sub hl [0, 2] rfl)
theorem wX5_longest_13L (C0 : cx p s m args meth c cX5_longest 3 RX5 wsX5_longest (some .int) D K) (hA : ∀ q, s.heap.size ≤ q → A q) : IX5_longest_13 p l e s m args below meth c D K aX aP aL aJ aF rX0 rX3 rX8 A z (fX5_longest_13 N) := by
  refine itn_ind (IX5_longest_13 p l e s m args below meth c D K aX aP aL aJ aF rX0 rX3 rX8 A z) ?_ ?_ N
  · intro _ _ _ _ _ _ _ _ _ _ _ h; cases h
  · intro k13 hk13 X P L J F FL x1 x2 H locs ls h hP hD hS hl
    exact wX5_longest_13 C0 hA hk13 X P L J F FL x1 x2 h H locs hP hD hS ls hl
set_option maxHeartbeats 1000000 in
set_option maxRecDepth 10000 in
theorem wX5_longest_0 (C0 : cx p s m args meth c cX5_longest 3 RX5 wsX5_longest (some .int) D K) (hA : ∀ q, s.heap.size ≤ q → A q) (X : Rc) (P : Rc) (L : Rc) (J : Rc) (F : Rc) (FL : RcL) (h : fX5_longest N X P L J F FL = some z) (H : Heap) (locs : List Loc) (hP : va_P D vwCl (fl [wCard K aX rX0 (aP 0) rX3 (aL 0) (aJ 0) (aF 0) rX8 X, wPlan K aP P, wLine K aL (aP 0) L, wLine K aJ (aP 0) J, wFinder K aF (aJ 0) F FL]) H) (hD : va_D A (fl [wCard K aX rX0 (aP 0) rX3 (aL 0) (aJ 0) (aF 0) rX8 X, wPlan K aP P, wLine K aL (aP 0) L, wLine K aJ (aP 0) J, wFinder K aF (aJ 0) F FL])) (hS : va_S A s.heap H locs) (ls : Array Slot) (hl : lv_has ls 3 [(0, .ref (aX 0))]) : W p l e rmX5_longest s m args below meth c H locs 0 0 (MQ below (qcI D z (fun (u : Rc × Rc × Rc × RcL) => (fl [wCard K aX rX0 (aP 0) rX3 (aL 0) (aJ 0) (aF 0) rX8 u.1, wPlan K aP P, wLine K aL (aP 0) L, wLine K aJ (aP 0) u.2.1, wFinder K aF (aJ 0) u.2.2.1 u.2.2.2])) A) args s 0 0 A) (F0 m 0 ls []) := by
  unfold fX5_longest at h
  refine r_aload_n C0 dX5_longest_0 hl 0 rfl ?_
  obtain ⟨z1, hz1, h⟩ := bnd_some h
  have hPc := vaP_sel (Wc := [wCard K aX rX0 (aP 0) rX3 (aL 0) (aJ 0) (aF 0) rX8 X, wPlan K aP P]) hP [0, 1] rfl
  refine r_cI (va_runV (As := []) (rest := []) C0.1 (ctX5_isEmpty l D K aX aP rX0 rX3 (aL 0) (aJ 0) (aF 0) rX8 X P z1 hz1) (cwV 0 C0.1.2.2.2.2 (gdV wd24_18 wd24_19 wd24_20 wd1_2 wd24_21) rfl rfl rfl (by decide +kernel) ⟨Nat.le_of_ble_eq_true rfl, Nat.le_of_ble_eq_true rfl⟩) ⟨pcR_blind, va_recv C0.2.2.2.1 hPc (ci := 5) (q0 := 0) rfl rfl, pcR_of hPc C0.2.2.2⟩ rfl rfl hl.1 rfl (lv_room (Nat.le_of_ble_eq_true rfl)) dX5_longest_1 ⟨Nat.zero_le _, Nat.zero_le _⟩).run ?_
  refine r_if_eq h C0 9 dX5_longest_4 (by decide) (fun h => ?_) (fun h => ?_)
  · refine r_iconst C0 (-1 : Int32) dX5_longest_9 (by decide) ?_
    refine r_istore_n h C0 (fun v2 => [(1, .int v2), (0, .ref (aX 0))]) dX5_longest_10 hl (by decide) (fun _ => rfl) (fun v2 ls h hl => ?_)
    refine r_iconst C0 (nI 1) dX5_longest_11 (by decide) ?_
    refine r_istore_n h C0 (fun v3 => [(2, .int v3), (1, .int v2), (0, .ref (aX 0))]) dX5_longest_12 hl (by decide) (fun _ => rfl) (fun v3 ls h hl => ?_)
    exact wX5_longest_13L C0 hA X P L J F FL v2 v3 _ _ _ h hP hD hS (lv_sub hl [2, 1, 0] rfl)
  · refine r_iconst C0 (-1 : Int32) dX5_longest_7 (by decide) ?_
    exact r_iret h C0 (fun (u : Rc × Rc × Rc × RcL) => (fl [wCard K aX rX0 (aP 0) rX3 (aL 0) (aJ 0) (aF 0) rX8 u.1, wPlan K aP P, wLine K aL (aP 0) L, wLine K aJ (aP 0) u.2.1, wFinder K aF (aJ 0) u.2.2.1 u.2.2.2])) hP hD hS dX5_longest_8
set_option maxHeartbeats 1000000 in
set_option maxRecDepth 10000 in
theorem ctX5_longest (l : Launch) (D : va_G) (K : Nat → ClassId) (N : Nat) (aX : Nat → Nat) (aP : Nat → Nat) (aL : Nat → Nat) (aJ : Nat → Nat) (aF : Nat → Nat) (rX0 : Nat) (rX3 : Nat) (rX8 : Nat) (X : Rc) (P : Rc) (L : Rc) (J : Rc) (F : Rc) (FL : RcL) (sz : Nat) (z : Int32 × (Rc × Rc × Rc × RcL)) (hz : fX5_longest N X P L J F FL = some z) : Met l yX5_longest wsX5_longest rmX5_longest (pcW D K [.ref (aX 0)] (fl [wCard K aX rX0 (aP 0) rX3 (aL 0) (aJ 0) (aF 0) rX8 X, wPlan K aP P, wLine K aL (aP 0) L, wLine K aJ (aP 0) J, wFinder K aF (aJ 0) F FL]) sz) (qcI D z (fun (u : Rc × Rc × Rc × RcL) => (fl [wCard K aX rX0 (aP 0) rX3 (aL 0) (aJ 0) (aF 0) rX8 u.1, wPlan K aP P, wLine K aL (aP 0) L, wLine K aJ (aP 0) u.2.1, wFinder K aF (aJ 0) u.2.2.1 u.2.2.2])) (va_A (fl [wCard K aX rX0 (aP 0) rX3 (aL 0) (aJ 0) (aF 0) rX8 X, wPlan K aP P, wLine K aL (aP 0) L, wLine K aJ (aP 0) J, wFinder K aF (aJ 0) F FL]) sz)) 0 0 (va_A (fl [wCard K aX rX0 (aP 0) rX3 (aL 0) (aJ 0) (aF 0) rX8 X, wPlan K aP P, wLine K aL (aP 0) L, wLine K aJ (aP 0) J, wFinder K aF (aJ 0) F FL]) sz) := by
  refine Met.ofW (cc := cX5_longest) (maxL := 3) (ret := (some .int)) (by decide) rfl ?_
  intro p e s m args below meth c s₁ B hml hv
  obtain ⟨rfl, hsz, hP, hK, hD0⟩ := hv
  subst hsz
  have C0 : cx p s m _ meth c cX5_longest 3 RX5 wsX5_longest (some .int) D K := ⟨⟨B.exec, B.bytes, hml, findClass_of_methodNamed B.named, atoms_spec (ws := wsX5_longest) B.pre⟩, B.returns, B.notSynchronized, hK⟩
  have hD := hD0.self (sz := s.heap.size)
  generalize hAe : va_A (fl [wCard K aX rX0 (aP 0) rX3 (aL 0) (aJ 0) (aF 0) rX8 X, wPlan K aP P, wLine K aL (aP 0) L, wLine K aJ (aP 0) J, wFinder K aF (aJ 0) F FL]) s.heap.size = A at hD ⊢
  have hA : ∀ q : Nat, s.heap.size ≤ q → A q := fun q h => by rw [← hAe]; exact Or.inr h
  have hl := lv_entry ([.ref (aX 0)]) (n := 3) (Nat.le_of_ble_eq_true rfl)
  rw [lg_entry_eq]
  generalize (lg_sl ([.ref (aX 0)]) ++ List.replicate (3 - (lg_sl ([.ref (aX 0)])).length) Slot.unset).toArray = ls at hl ⊢
  have hl : lv_has ls 3 [(0, .ref (aX 0))] := hl
  exact wX5_longest_0 C0 hA X P L J F FL hz s.heap [] hP hD va_S.rf ls (lv_sub hl [0] rfl)
end SX5_longest

section SX5_ringMinutes
/-! CardLoops.ringMinutes(I)I -/
abbrev wsX5_ringMinutes : List Cond := Cond.code yX5_ringMinutes cX5_ringMinutes 4 (some .int) :: wsL_law0
abbrev rmX5_ringMinutes : Room := { frames := 0, cells := 0, slots := 0, locals := 0 }
variable {p : Program} {l : Launch} {e : Env} {s : State} {m : MethodId} {args : Array Value} {below : List Frame} {meth : Method} {c : Code} {D : va_G} {K : Nat → ClassId} {A : Nat → Prop} {N : Nat} {aX : Nat → Nat} {aP : Nat → Nat} {rX0 : Nat} {rX3 : Nat} {rX4 : Nat} {rX5 : Nat} {rX7 : Nat} {rX8 : Nat} {z : Int32}
def IX5_ringMinutes_41 (p : Program) (l : Launch) (e : Env) (s : State) (m : MethodId) (args : Array Value) (below : List Frame) (meth : Method) (c : Code) (D : va_G) (K : Nat → ClassId) (aX : Nat → Nat) (aP : Nat → Nat) (rX0 : Nat) (rX3 : Nat) (rX4 : Nat) (rX5 : Nat) (rX7 : Nat) (rX8 : Nat) (z : Int32) (k : Rc → Rc → Int32 → Int32 → Int32 → Option (Int32)) : Prop := ∀ (X : Rc) (P : Rc) (x1 : Int32) (x2 : Int32) (x3 : Int32) (ls : Array Slot), k X P x1 x2 x3 = some z → va_P D vwCl (fl [wCard K aX rX0 (aP 0) rX3 rX4 rX5 rX7 rX8 X, wPlan K aP P]) s.heap → lv_has ls 4 [(0, .ref (aX 0)), (1, .int x1), (2, .int x2), (3, .int x3)] → W p l e rmX5_ringMinutes s m args below meth c s.heap [] 0 0 (MQ below (vp_Si (fun r => r = z)) args s 0 0 (fun _ => False)) (F0 m 41 ls [])
set_option maxHeartbeats 1000000 in
set_option maxRecDepth 10000 in
theorem wX5_ringMinutes_41 (C0 : cx p s m args meth c cX5_ringMinutes 4 RX5 wsX5_ringMinutes (some .int) D K) {k41 : Rc → Rc → Int32 → Int32 → Int32 → Option (Int32)} (hk41 : IX5_ringMinutes_41 p l e s m args below meth c D K aX aP rX0 rX3 rX4 rX5 rX7 rX8 z k41) (X : Rc) (P : Rc) (x1 : Int32) (x2 : Int32) (x3 : Int32) (h : fX5_ringMinutes_41b N k41 X P x1 x2 x3 = some z) (hP : va_P D vwCl (fl [wCard K aX rX0 (aP 0) rX3 rX4 rX5 rX7 rX8 X, wPlan K aP P]) s.heap) (ls : Array Slot) (hl : lv_has ls 4 [(0, .ref (aX 0)), (1, .int x1), (2, .int x2), (3, .int x3)]) : W p l e rmX5_ringMinutes s m args below meth c s.heap [] 0 0 (MQ below (vp_Si (fun r => r = z)) args s 0 0 (fun _ => False)) (F0 m 41 ls []) := by
  unfold fX5_ringMinutes_41b at h
  refine r_iload_n C0 dX5_ringMinutes_41 hl 3 rfl ?_
  refine r_aload_n C0 dX5_ringMinutes_42 hl 0 rfl ?_
  refine r_get C0 5 inx5 hP 0 rfl rfl 2 (by decide) (mc wd2_1) (.ref (aP 0)) rfl dX5_ringMinutes_43 ?_
  refine r_get C0 3 inx3 hP 4 rfl rfl 3 (by decide) (mc wd23_23) (.ref (aP 4)) rfl dX5_ringMinutes_46 ?_
  refine r_iload_n C0 dX5_ringMinutes_49 hl 1 rfl ?_
  refine r_iald h C0 hP 8 rfl dX5_ringMinutes_50 (fun h => ?_)
  refine r_icmp_gt h C0 72 dX5_ringMinutes_51 (by decide) (fun h => ?_) (fun h => ?_)
  · refine r_iload_n C0 dX5_ringMinutes_72 hl 2 rfl ?_
    exact r_iretR C0 h dX5_ringMinutes_73
  · refine r_iload_n C0 dX5_ringMinutes_54 hl 2 rfl ?_
    refine r_aload_n C0 dX5_ringMinutes_55 hl 0 rfl ?_
    refine r_get C0 5 inx5 hP 0 rfl rfl 2 (by decide) (mc wd2_1) (.ref (aP 0)) rfl dX5_ringMinutes_56 ?_
    refine r_get C0 3 inx3 hP 4 rfl rfl 0 (by decide) (mc wd21_23) (.ref (aP 1)) rfl dX5_ringMinutes_59 ?_
    refine r_iload_n C0 dX5_ringMinutes_62 hl 3 rfl ?_
    refine r_iald h C0 hP 5 rfl dX5_ringMinutes_63 (fun h => ?_)
    refine r_iadd C0 dX5_ringMinutes_64 ?_
    refine r_istore_n h C0 (fun v1 => [(2, .int v1), (0, .ref (aX 0)), (1, .int x1), (3, .int x3)]) dX5_ringMinutes_65 hl (by decide) (fun _ => rfl) (fun v1 ls h hl => ?_)
    refine r_iinc h C0 3 (fun v2 => [(3, .int v2), (2, .int v1), (0, .ref (aX 0)), (1, .int x1)]) dX5_ringMinutes_66 hl rfl rfl (by decide) (fun _ => rfl) (fun v2 ls h hl => ?_)
    refine r_goto C0 41 dX5_ringMinutes_69 (by decide) ?_
    exact hk41 X P x1 v1 v2 _ h hP (lv_sub hl [2, 3, 1, 0] rfl)
theorem wX5_ringMinutes_41L (C0 : cx p s m args meth c cX5_ringMinutes 4 RX5 wsX5_ringMinutes (some .int) D K) : IX5_ringMinutes_41 p l e s m args below meth c D K aX aP rX0 rX3 rX4 rX5 rX7 rX8 z (fX5_ringMinutes_41 N) := by
  refine itn_ind (IX5_ringMinutes_41 p l e s m args below meth c D K aX aP rX0 rX3 rX4 rX5 rX7 rX8 z) ?_ ?_ N
  · intro _ _ _ _ _ _ h; cases h
  · intro k41 hk41 X P x1 x2 x3 ls h hP hl
    exact wX5_ringMinutes_41 C0 hk41 X P x1 x2 x3 h hP ls hl
set_option maxHeartbeats 1000000 in
set_option maxRecDepth 10000 in
theorem wX5_ringMinutes_0 (C0 : cx p s m args meth c cX5_ringMinutes 4 RX5 wsX5_ringMinutes (some .int) D K) (X : Rc) (P : Rc) (x1 : Int32) (h : fX5_ringMinutes N X P x1 = some z) (hP : va_P D vwCl (fl [wCard K aX rX0 (aP 0) rX3 rX4 rX5 rX7 rX8 X, wPlan K aP P]) s.heap) (ls : Array Slot) (hl : lv_has ls 4 [(0, .ref (aX 0)), (1, .int x1)]) : W p l e rmX5_ringMinutes s m args below meth c s.heap [] 0 0 (MQ below (vp_Si (fun r => r = z)) args s 0 0 (fun _ => False)) (F0 m 0 ls []) := by
  unfold fX5_ringMinutes at h
  refine r_iload_n C0 dX5_ringMinutes_0 hl 1 rfl ?_
  refine r_aload_n C0 dX5_ringMinutes_1 hl 0 rfl ?_
  refine r_get C0 5 inx5 hP 0 rfl rfl 2 (by decide) (mc wd2_1) (.ref (aP 0)) rfl dX5_ringMinutes_2 ?_
  refine r_get C0 3 inx3 hP 4 rfl rfl 7 (by decide) (mc wd20_17) (.int (P 7 0)) rfl dX5_ringMinutes_5 ?_
  refine r_icmp_lt h C0 29 dX5_ringMinutes_8 (by decide) (fun h => ?_) (fun h => ?_)
  · refine r_iconst C0 (nI 0) dX5_ringMinutes_29 (by decide) ?_
    refine r_istore_n h C0 (fun v1 => [(2, .int v1), (0, .ref (aX 0)), (1, .int x1)]) dX5_ringMinutes_30 hl (by decide) (fun _ => rfl) (fun v1 ls h hl => ?_)
    refine r_aload_n C0 dX5_ringMinutes_31 hl 1 rfl ?_
    refine r_get C0 5 inx5 hP 0 rfl rfl 2 (by decide) (mc wd2_1) (.ref (aP 0)) rfl dX5_ringMinutes_32 ?_
    refine r_get C0 3 inx3 hP 4 rfl rfl 2 (by decide) (mc wd23_22) (.ref (aP 3)) rfl dX5_ringMinutes_35 ?_
    refine r_iload_n C0 dX5_ringMinutes_38 hl 2 rfl ?_
    refine r_iald h C0 hP 7 rfl dX5_ringMinutes_39 (fun h => ?_)
    refine r_istore_n h C0 (fun v2 => [(3, .int v2), (2, .int v1), (0, .ref (aX 0)), (1, .int x1)]) dX5_ringMinutes_40 hl (by decide) (fun _ => rfl) (fun v2 ls h hl => ?_)
    exact wX5_ringMinutes_41L C0 X P x1 v1 v2 _ h hP (lv_sub hl [2, 3, 1, 0] rfl)
  · refine r_aload_n C0 dX5_ringMinutes_11 hl 0 rfl ?_
    refine r_get C0 5 inx5 hP 0 rfl rfl 2 (by decide) (mc wd2_1) (.ref (aP 0)) rfl dX5_ringMinutes_12 ?_
    refine r_get C0 3 inx3 hP 4 rfl rfl 0 (by decide) (mc wd21_23) (.ref (aP 1)) rfl dX5_ringMinutes_15 ?_
    refine r_iload_n C0 dX5_ringMinutes_18 hl 1 rfl ?_
    refine r_aload_n C0 dX5_ringMinutes_19 hl 0 rfl ?_
    refine r_get C0 5 inx5 hP 0 rfl rfl 2 (by decide) (mc wd2_1) (.ref (aP 0)) rfl dX5_ringMinutes_20 ?_
    refine r_get C0 3 inx3 hP 4 rfl rfl 7 (by decide) (mc wd20_17) (.int (P 7 0)) rfl dX5_ringMinutes_23 ?_
    refine r_isub C0 dX5_ringMinutes_26 ?_
    refine r_iald h C0 hP 5 rfl dX5_ringMinutes_27 (fun h => ?_)
    exact r_iretR C0 h dX5_ringMinutes_28
set_option maxHeartbeats 1000000 in
set_option maxRecDepth 10000 in
theorem ctX5_ringMinutes (l : Launch) (D : va_G) (K : Nat → ClassId) (N : Nat) (aX : Nat → Nat) (aP : Nat → Nat) (rX0 : Nat) (rX3 : Nat) (rX4 : Nat) (rX5 : Nat) (rX7 : Nat) (rX8 : Nat) (X : Rc) (P : Rc) (p1 : Int32) (z : Int32) (hz : fX5_ringMinutes N X P p1 = some z) : Met l yX5_ringMinutes wsX5_ringMinutes rmX5_ringMinutes (pcR D K [.ref (aX 0), .int p1] (fl [wCard K aX rX0 (aP 0) rX3 rX4 rX5 rX7 rX8 X, wPlan K aP P])) (vp_Si (fun r => r = z)) 0 0 (fun _ => False) := by
  refine Met.ofW (cc := cX5_ringMinutes) (maxL := 4) (ret := (some .int)) (by decide) rfl ?_
  intro p e s m args below meth c s₁ B hml hv
  obtain ⟨rfl, hP, hK⟩ := hv
  have C0 : cx p s m _ meth c cX5_ringMinutes 4 RX5 wsX5_ringMinutes (some .int) D K := ⟨⟨B.exec, B.bytes, hml, findClass_of_methodNamed B.named, atoms_spec (ws := wsX5_ringMinutes) B.pre⟩, B.returns, B.notSynchronized, hK⟩
  have hl := lv_entry ([.ref (aX 0), .int p1]) (n := 4) (Nat.le_of_ble_eq_true rfl)
  rw [lg_entry_eq]
  generalize (lg_sl ([.ref (aX 0), .int p1]) ++ List.replicate (4 - (lg_sl ([.ref (aX 0), .int p1])).length) Slot.unset).toArray = ls at hl ⊢
  have hl : lv_has ls 4 [(0, .ref (aX 0)), (1, .int p1)] := hl
  exact wX5_ringMinutes_0 C0 X P p1 hz hP ls (lv_sub hl [0, 1] rfl)
end SX5_ringMinutes

section SX5_ringCardsa
/-! CardLoops.ringCards(I[I)I -/
abbrev wsX5_ringCards : List Cond := Cond.code yX5_ringCards cX5_ringCards 3 (some .int) :: wsL_law0
abbrev rmX5_ringCardsa : Room := { frames := 0, cells := 0, slots := 0, locals := 0 }
variable {p : Program} {l : Launch} {e : Env} {s : State} {m : MethodId} {args : Array Value} {below : List Frame} {meth : Method} {c : Code} {D : va_G} {K : Nat → ClassId} {A : Nat → Prop} {aX : Nat → Nat} {aP : Nat → Nat} {aL : Nat → Nat} {rX0 : Nat} {rX3 : Nat} {rX5 : Nat} {rX7 : Nat} {rX8 : Nat} {z : Int32}
set_option maxHeartbeats 1000000 in
set_option maxRecDepth 10000 in
theorem wX5_ringCardsa_0 (C0 : cx p s m args meth c cX5_ringCards 3 RX5 wsX5_ringCards (some .int) D K) (X : Rc) (P : Rc) (L : Rc) (x1 : Int32) (h : fX5_ringCardsa X P L x1 = some z) (hP : va_P D vwCl (fl [wCard K aX rX0 (aP 0) rX3 (aL 0) rX5 rX7 rX8 X, wPlan K aP P, wLine K aL (aP 0) L]) s.heap) (ls : Array Slot) (hl : lv_has ls 3 [(0, .ref (aX 0)), (1, .int x1), (2, .ref (aL 5))]) : W p l e rmX5_ringCardsa s m args below meth c s.heap [] 0 0 (MQ below (vp_Si (fun r => r = z)) args s 0 0 (fun _ => False)) (F0 m 0 ls []) := by
  unfold fX5_ringCardsa at h
  refine r_iload_n C0 dX5_ringCards_0 hl 1 rfl ?_
  refine r_aload_n C0 dX5_ringCards_1 hl 0 rfl ?_
  refine r_get C0 5 inx5 hP 0 rfl rfl 2 (by decide) (mc wd2_1) (.ref (aP 0)) rfl dX5_ringCards_2 ?_
  refine r_get C0 3 inx3 hP 4 rfl rfl 7 (by decide) (mc wd20_17) (.int (P 7 0)) rfl dX5_ringCards_5 ?_
  refine r_icmp_ge h C0 17 dX5_ringCards_8 (by decide) (fun h => ?_) (fun h => ?_)
  · refine r_iconst C0 (nI 1) dX5_ringCards_17 (by decide) ?_
    exact r_iretR C0 h dX5_ringCards_18
  · refine r_aload_n C0 dX5_ringCards_11 hl 2 rfl ?_
    refine r_iload_n C0 dX5_ringCards_12 hl 1 rfl ?_
    refine r_iald h C0 hP 15 rfl dX5_ringCards_13 (fun h => ?_)
    refine r_goto C0 18 dX5_ringCards_14 (by decide) ?_
    exact r_iretR C0 h dX5_ringCards_18
set_option maxHeartbeats 1000000 in
set_option maxRecDepth 10000 in
theorem ctX5_ringCardsa (l : Launch) (D : va_G) (K : Nat → ClassId) (aX : Nat → Nat) (aP : Nat → Nat) (aL : Nat → Nat) (rX0 : Nat) (rX3 : Nat) (rX5 : Nat) (rX7 : Nat) (rX8 : Nat) (X : Rc) (P : Rc) (L : Rc) (p1 : Int32) (z : Int32) (hz : fX5_ringCardsa X P L p1 = some z) : Met l yX5_ringCards wsX5_ringCards rmX5_ringCardsa (pcR D K [.ref (aX 0), .int p1, .ref (aL 5)] (fl [wCard K aX rX0 (aP 0) rX3 (aL 0) rX5 rX7 rX8 X, wPlan K aP P, wLine K aL (aP 0) L])) (vp_Si (fun r => r = z)) 0 0 (fun _ => False) := by
  refine Met.ofW (cc := cX5_ringCards) (maxL := 3) (ret := (some .int)) (by decide) rfl ?_
  intro p e s m args below meth c s₁ B hml hv
  obtain ⟨rfl, hP, hK⟩ := hv
  have C0 : cx p s m _ meth c cX5_ringCards 3 RX5 wsX5_ringCards (some .int) D K := ⟨⟨B.exec, B.bytes, hml, findClass_of_methodNamed B.named, atoms_spec (ws := wsX5_ringCards) B.pre⟩, B.returns, B.notSynchronized, hK⟩
  have hl := lv_entry ([.ref (aX 0), .int p1, .ref (aL 5)]) (n := 3) (Nat.le_of_ble_eq_true rfl)
  rw [lg_entry_eq]
  generalize (lg_sl ([.ref (aX 0), .int p1, .ref (aL 5)]) ++ List.replicate (3 - (lg_sl ([.ref (aX 0), .int p1, .ref (aL 5)])).length) Slot.unset).toArray = ls at hl ⊢
  have hl : lv_has ls 3 [(0, .ref (aX 0)), (1, .int p1), (2, .ref (aL 5))] := hl
  exact wX5_ringCardsa_0 C0 X P L p1 hz hP ls (lv_sub hl [0, 1, 2] rfl)
end SX5_ringCardsa

section SX5_ringCardsb
/-! CardLoops.ringCards(I[I)I -/
abbrev rmX5_ringCardsb : Room := { frames := 0, cells := 0, slots := 0, locals := 0 }
variable {p : Program} {l : Launch} {e : Env} {s : State} {m : MethodId} {args : Array Value} {below : List Frame} {meth : Method} {c : Code} {D : va_G} {K : Nat → ClassId} {A : Nat → Prop} {aX : Nat → Nat} {aP : Nat → Nat} {rX0 : Nat} {rX3 : Nat} {rX4 : Nat} {rX5 : Nat} {rX7 : Nat} {rX8 : Nat} {z : Int32}
set_option maxHeartbeats 1000000 in
set_option maxRecDepth 10000 in
theorem wX5_ringCardsb_0 (C0 : cx p s m args meth c cX5_ringCards 3 RX5 wsX5_ringCards (some .int) D K) (X : Rc) (P : Rc) (x1 : Int32) (h : fX5_ringCardsb X P x1 = some z) (hP : va_P D vwCl (fl [wCard K aX rX0 (aP 0) rX3 rX4 rX5 rX7 rX8 X, wPlan K aP P]) s.heap) (ls : Array Slot) (hl : lv_has ls 3 [(0, .ref (aX 0)), (1, .int x1), (2, .ref (aX 7))]) : W p l e rmX5_ringCardsb s m args below meth c s.heap [] 0 0 (MQ below (vp_Si (fun r => r = z)) args s 0 0 (fun _ => False)) (F0 m 0 ls []) := by
  unfold fX5_ringCardsb at h
  refine r_iload_n C0 dX5_ringCards_0 hl 1 rfl ?_
  refine r_aload_n C0 dX5_ringCards_1 hl 0 rfl ?_
  refine r_get C0 5 inx5 hP 0 rfl rfl 2 (by decide) (mc wd2_1) (.ref (aP 0)) rfl dX5_ringCards_2 ?_
  refine r_get C0 3 inx3 hP 4 rfl rfl 7 (by decide) (mc wd20_17) (.int (P 7 0)) rfl dX5_ringCards_5 ?_
  refine r_icmp_ge h C0 17 dX5_ringCards_8 (by decide) (fun h => ?_) (fun h => ?_)
  · refine r_iconst C0 (nI 1) dX5_ringCards_17 (by decide) ?_
    exact r_iretR C0 h dX5_ringCards_18
  · refine r_aload_n C0 dX5_ringCards_11 hl 2 rfl ?_
    refine r_iload_n C0 dX5_ringCards_12 hl 1 rfl ?_
    refine r_iald h C0 hP 1 rfl dX5_ringCards_13 (fun h => ?_)
    refine r_goto C0 18 dX5_ringCards_14 (by decide) ?_
    exact r_iretR C0 h dX5_ringCards_18
set_option maxHeartbeats 1000000 in
set_option maxRecDepth 10000 in
theorem ctX5_ringCardsb (l : Launch) (D : va_G) (K : Nat → ClassId) (aX : Nat → Nat) (aP : Nat → Nat) (rX0 : Nat) (rX3 : Nat) (rX4 : Nat) (rX5 : Nat) (rX7 : Nat) (rX8 : Nat) (X : Rc) (P : Rc) (p1 : Int32) (z : Int32) (hz : fX5_ringCardsb X P p1 = some z) : Met l yX5_ringCards wsX5_ringCards rmX5_ringCardsb (pcR D K [.ref (aX 0), .int p1, .ref (aX 7)] (fl [wCard K aX rX0 (aP 0) rX3 rX4 rX5 rX7 rX8 X, wPlan K aP P])) (vp_Si (fun r => r = z)) 0 0 (fun _ => False) := by
  refine Met.ofW (cc := cX5_ringCards) (maxL := 3) (ret := (some .int)) (by decide) rfl ?_
  intro p e s m args below meth c s₁ B hml hv
  obtain ⟨rfl, hP, hK⟩ := hv
  have C0 : cx p s m _ meth c cX5_ringCards 3 RX5 wsX5_ringCards (some .int) D K := ⟨⟨B.exec, B.bytes, hml, findClass_of_methodNamed B.named, atoms_spec (ws := wsX5_ringCards) B.pre⟩, B.returns, B.notSynchronized, hK⟩
  have hl := lv_entry ([.ref (aX 0), .int p1, .ref (aX 7)]) (n := 3) (Nat.le_of_ble_eq_true rfl)
  rw [lg_entry_eq]
  generalize (lg_sl ([.ref (aX 0), .int p1, .ref (aX 7)]) ++ List.replicate (3 - (lg_sl ([.ref (aX 0), .int p1, .ref (aX 7)])).length) Slot.unset).toArray = ls at hl ⊢
  have hl : lv_has ls 3 [(0, .ref (aX 0)), (1, .int p1), (2, .ref (aX 7))] := hl
  exact wX5_ringCardsb_0 C0 X P p1 hz hP ls (lv_sub hl [0, 1, 2] rfl)
end SX5_ringCardsb

section SX5_tightRing
/-! CardLoops.tightRing()I -/
abbrev wsX5_tightRing : List Cond := Cond.code yX5_tightRing cX5_tightRing 4 (some .int) :: wsL_law0
abbrev rmX5_tightRing : Room := { frames := 1, cells := 0, slots := 0, locals := 23 }
variable {p : Program} {l : Launch} {e : Env} {s : State} {m : MethodId} {args : Array Value} {below : List Frame} {meth : Method} {c : Code} {D : va_G} {K : Nat → ClassId} {A : Nat → Prop} {N : Nat} {aX : Nat → Nat} {aP : Nat → Nat} {aL : Nat → Nat} {rX0 : Nat} {rX3 : Nat} {rX5 : Nat} {rX7 : Nat} {rX8 : Nat} {z : Int32}
def IX5_tightRing_4 (p : Program) (l : Launch) (e : Env) (s : State) (m : MethodId) (args : Array Value) (below : List Frame) (meth : Method) (c : Code) (D : va_G) (K : Nat → ClassId) (aX : Nat → Nat) (aP : Nat → Nat) (aL : Nat → Nat) (rX0 : Nat) (rX3 : Nat) (rX5 : Nat) (rX7 : Nat) (rX8 : Nat) (z : Int32) (k : Rc → Rc → Rc → Int32 → Int32 → Option (Int32)) : Prop := ∀ (X : Rc) (P : Rc) (L : Rc) (x1 : Int32) (x2 : Int32) (ls : Array Slot), k X P L x1 x2 = some z → va_P D vwCl (fl [wCard K aX rX0 (aP 0) rX3 (aL 0) rX5 rX7 rX8 X, wPlan K aP P, wLine K aL (aP 0) L]) s.heap → lv_has ls 4 [(0, .ref (aX 0)), (1, .int x1), (2, .int x2)] → W p l e rmX5_tightRing s m args below meth c s.heap [] 0 0 (MQ below (vp_Si (fun r => r = z)) args s 0 0 (fun _ => False)) (F0 m 4 ls [])
set_option maxHeartbeats 1000000 in
set_option maxRecDepth 10000 in
theorem wX5_tightRing_66 (C0 : cx p s m args meth c cX5_tightRing 4 RX5 wsX5_tightRing (some .int) D K) {k4 : Rc → Rc → Rc → Int32 → Int32 → Option (Int32)} (hk4 : IX5_tightRing_4 p l e s m args below meth c D K aX aP aL rX0 rX3 rX5 rX7 rX8 z k4) (X : Rc) (P : Rc) (L : Rc) (x1 : Int32) (x2 : Int32) (h : fX5_tightRing_66 N k4 X P L x1 x2 = some z) (hP : va_P D vwCl (fl [wCard K aX rX0 (aP 0) rX3 (aL 0) rX5 rX7 rX8 X, wPlan K aP P, wLine K aL (aP 0) L]) s.heap) (ls : Array Slot) (hl : lv_has ls 4 [(0, .ref (aX 0)), (1, .int x1), (2, .int x2)]) : W p l e rmX5_tightRing s m args below meth c s.heap [] 0 0 (MQ below (vp_Si (fun r => r = z)) args s 0 0 (fun _ => False)) (F0 m 66 ls []) := by
  unfold fX5_tightRing_66 at h
  refine r_iinc h C0 2 (fun v1 => [(2, .int v1), (0, .ref (aX 0)), (1, .int x1)]) dX5_tightRing_66 hl rfl rfl (by decide) (fun _ => rfl) (fun v1 ls h hl => ?_)
  refine r_goto C0 4 dX5_tightRing_69 (by decide) ?_
  exact hk4 X P L x1 v1 _ h hP (lv_sub hl [1, 2, 0] rfl)
set_option maxHeartbeats 1000000 in
set_option maxRecDepth 10000 in
theorem wX5_tightRing_4 (C0 : cx p s m args meth c cX5_tightRing 4 RX5 wsX5_tightRing (some .int) D K) {k4 : Rc → Rc → Rc → Int32 → Int32 → Option (Int32)} (hk4 : IX5_tightRing_4 p l e s m args below meth c D K aX aP aL rX0 rX3 rX5 rX7 rX8 z k4) (X : Rc) (P : Rc) (L : Rc) (x1 : Int32) (x2 : Int32) (h : fX5_tightRing_4b N k4 X P L x1 x2 = some z) (hP : va_P D vwCl (fl [wCard K aX rX0 (aP 0) rX3 (aL 0) rX5 rX7 rX8 X, wPlan K aP P, wLine K aL (aP 0) L]) s.heap) (ls : Array Slot) (hl : lv_has ls 4 [(0, .ref (aX 0)), (1, .int x1), (2, .int x2)]) : W p l e rmX5_tightRing s m args below meth c s.heap [] 0 0 (MQ below (vp_Si (fun r => r = z)) args s 0 0 (fun _ => False)) (F0 m 4 ls []) := by
  unfold fX5_tightRing_4b at h
  refine r_iload_n C0 dX5_tightRing_4 hl 2 rfl ?_
  refine r_aload_n C0 dX5_tightRing_5 hl 0 rfl ?_
  refine r_get C0 5 inx5 hP 0 rfl rfl 2 (by decide) (mc wd2_1) (.ref (aP 0)) rfl dX5_tightRing_6 ?_
  refine r_get C0 3 inx3 hP 4 rfl rfl 7 (by decide) (mc wd20_17) (.int (P 7 0)) rfl dX5_tightRing_9 ?_
  refine r_aload_n C0 dX5_tightRing_12 hl 0 rfl ?_
  refine r_get C0 5 inx5 hP 0 rfl rfl 2 (by decide) (mc wd2_1) (.ref (aP 0)) rfl dX5_tightRing_13 ?_
  refine r_get C0 3 inx3 hP 4 rfl rfl 6 (by decide) (mc wd20_16) (.int (P 6 0)) rfl dX5_tightRing_16 ?_
  refine r_iadd C0 dX5_tightRing_19 ?_
  refine r_icmp_ge h C0 72 dX5_tightRing_20 (by decide) (fun h => ?_) (fun h => ?_)
  · refine r_iload_n C0 dX5_tightRing_72 hl 1 rfl ?_
    exact r_iretR C0 h dX5_tightRing_73
  · refine r_aload_n C0 dX5_tightRing_23 hl 0 rfl ?_
    refine r_iload_n C0 dX5_tightRing_24 hl 1 rfl ?_
    obtain ⟨z1, hz1, h⟩ := bnd_some h
    have hPc := vaP_sel (Wc := [wCard K aX rX0 (aP 0) rX3 (aL 0) rX5 rX7 rX8 X, wPlan K aP P]) hP [0, 1] rfl
    refine r_cI (va_runV (As := [.int x1]) (rest := []) C0.1 (ctX5_ringMinutes l D K N aX aP rX0 rX3 (aL 0) rX5 rX7 rX8 X P x1 z1 hz1) (cwV 1 C0.1.2.2.2.2 (gdV wd29_21 wd29_22 wd29_23 wd1_2 wd30_0) rfl rfl rfl (by decide +kernel) ⟨Nat.le_of_ble_eq_true rfl, Nat.le_of_ble_eq_true rfl⟩) ⟨pcR_blind, va_recv C0.2.2.2.1 hPc (ci := 5) (q0 := 0) rfl rfl, pcR_of hPc C0.2.2.2⟩ rfl rfl hl.1 rfl (lv_room (Nat.le_of_ble_eq_true rfl)) dX5_tightRing_25 ⟨Nat.zero_le _, Nat.zero_le _⟩).run ?_
    refine r_aload_n C0 dX5_tightRing_28 hl 0 rfl ?_
    refine r_iload_n C0 dX5_tightRing_29 hl 2 rfl ?_
    refine r_aload_n C0 dX5_tightRing_30 hl 0 rfl ?_
    refine r_get C0 5 inx5 hP 0 rfl rfl 4 (by decide) (mc wd2_6) (.ref (aL 0)) rfl dX5_tightRing_31 ?_
    refine r_get C0 1 inx1 hP 11 rfl rfl 4 (by decide) (mc wd24_0) (.ref (aL 5)) rfl dX5_tightRing_34 ?_
    obtain ⟨z2, hz2, h⟩ := bnd_some h
    have hPc := vaP_sel (Wc := [wCard K aX rX0 (aP 0) rX3 (aL 0) rX5 rX7 rX8 X, wPlan K aP P, wLine K aL (aP 0) L]) hP [0, 1, 2] rfl
    refine r_cI (va_runV (As := [.int x2, .ref (aL 5)]) (rest := [.int z1]) C0.1 (ctX5_ringCardsa l D K aX aP aL rX0 rX3 rX5 rX7 rX8 X P L x2 z2 hz2) (cwV 2 C0.1.2.2.2.2 (gdV wd30_1 wd30_2 wd30_3 wd1_2 wd30_4) rfl rfl rfl (by decide +kernel) ⟨Nat.le_of_ble_eq_true rfl, Nat.le_of_ble_eq_true rfl⟩) ⟨pcR_blind, va_recv C0.2.2.2.1 hPc (ci := 5) (q0 := 0) rfl rfl, pcR_of hPc C0.2.2.2⟩ rfl rfl hl.1 rfl (lv_room (Nat.le_of_ble_eq_true rfl)) dX5_tightRing_37 ⟨Nat.zero_le _, Nat.zero_le _⟩).run ?_
    refine r_imul C0 dX5_tightRing_40 ?_
    refine r_istore_n h C0 (fun v3 => [(3, .int v3), (0, .ref (aX 0)), (1, .int x1), (2, .int x2)]) dX5_tightRing_41 hl (by decide) (fun _ => rfl) (fun v3 ls h hl => ?_)
    refine r_aload_n C0 dX5_tightRing_42 hl 1 rfl ?_
    refine r_iload_n C0 dX5_tightRing_43 hl 3 rfl ?_
    obtain ⟨z4, hz4, h⟩ := bnd_some h
    have hPc := vaP_sel (Wc := [wCard K aX rX0 (aP 0) rX3 (aL 0) rX5 rX7 rX8 X, wPlan K aP P]) hP [0, 1] rfl
    refine r_cI (va_runV (As := [.int x2]) (rest := []) C0.1 (ctX5_ringMinutes l D K N aX aP rX0 rX3 (aL 0) rX5 rX7 rX8 X P x2 z4 hz4) (cwV 1 C0.1.2.2.2.2 (gdV wd29_21 wd29_22 wd29_23 wd1_2 wd30_0) rfl rfl rfl (by decide +kernel) ⟨Nat.le_of_ble_eq_true rfl, Nat.le_of_ble_eq_true rfl⟩) ⟨pcR_blind, va_recv C0.2.2.2.1 hPc (ci := 5) (q0 := 0) rfl rfl, pcR_of hPc C0.2.2.2⟩ rfl rfl hl.1 rfl (lv_room (Nat.le_of_ble_eq_true rfl)) dX5_tightRing_44 ⟨Nat.zero_le _, Nat.zero_le _⟩).run ?_
    refine r_aload_n C0 dX5_tightRing_47 hl 1 rfl ?_
    refine r_iload_n C0 dX5_tightRing_48 hl 2 rfl ?_
    refine r_aload_n C0 dX5_tightRing_49 hl 1 rfl ?_
    refine r_get C0 5 inx5 hP 0 rfl rfl 4 (by decide) (mc wd2_6) (.ref (aL 0)) rfl dX5_tightRing_50 ?_
    refine r_get C0 1 inx1 hP 11 rfl rfl 4 (by decide) (mc wd24_0) (.ref (aL 5)) rfl dX5_tightRing_53 ?_
    obtain ⟨z5, hz5, h⟩ := bnd_some h
    have hPc := vaP_sel (Wc := [wCard K aX rX0 (aP 0) rX3 (aL 0) rX5 rX7 rX8 X, wPlan K aP P, wLine K aL (aP 0) L]) hP [0, 1, 2] rfl
    refine r_cI (va_runV (As := [.int x1, .ref (aL 5)]) (rest := [.int z4]) C0.1 (ctX5_ringCardsa l D K aX aP aL rX0 rX3 rX5 rX7 rX8 X P L x1 z5 hz5) (cwV 2 C0.1.2.2.2.2 (gdV wd30_1 wd30_2 wd30_3 wd1_2 wd30_4) rfl rfl rfl (by decide +kernel) ⟨Nat.le_of_ble_eq_true rfl, Nat.le_of_ble_eq_true rfl⟩) ⟨pcR_blind, va_recv C0.2.2.2.1 hPc (ci := 5) (q0 := 0) rfl rfl, pcR_of hPc C0.2.2.2⟩ rfl rfl hl.1 rfl (lv_room (Nat.le_of_ble_eq_true rfl)) dX5_tightRing_56 ⟨Nat.zero_le _, Nat.zero_le _⟩).run ?_
    refine r_imul C0 dX5_tightRing_59 ?_
    refine r_iload_n C0 dX5_tightRing_60 hl 0 rfl ?_
    refine r_icmp_le h C0 66 dX5_tightRing_61 (by decide) (fun h => ?_) (fun h => ?_)
    · exact wX5_tightRing_66 C0 hk4 X P L x1 x2 h hP _ (lv_sub hl [1, 2, 3] rfl)
    · refine r_iload_n C0 dX5_tightRing_64 hl 3 rfl ?_
      refine r_istore_n h C0 (fun v6 => [(1, .int v6), (3, .int v3), (0, .ref (aX 0)), (2, .int x2)]) dX5_tightRing_65 hl (by decide) (fun _ => rfl) (fun v6 ls h hl => ?_)
      exact wX5_tightRing_66 C0 hk4 X P L v6 x2 h hP _ (lv_sub hl [2, 0, 3] rfl)
theorem wX5_tightRing_4L (C0 : cx p s m args meth c cX5_tightRing 4 RX5 wsX5_tightRing (some .int) D K) : IX5_tightRing_4 p l e s m args below meth c D K aX aP aL rX0 rX3 rX5 rX7 rX8 z (fX5_tightRing_4 N) := by
  refine itn_ind (IX5_tightRing_4 p l e s m args below meth c D K aX aP aL rX0 rX3 rX5 rX7 rX8 z) ?_ ?_ N
  · intro _ _ _ _ _ _ h; cases h
  · intro k4 hk4 X P L x1 x2 ls h hP hl
    exact wX5_tightRing_4 C0 hk4 X P L x1 x2 h hP ls hl
set_option maxHeartbeats 1000000 in
set_option maxRecDepth 10000 in
theorem wX5_tightRing_0 (C0 : cx p s m args meth c cX5_tightRing 4 RX5 wsX5_tightRing (some .int) D K) (X : Rc) (P : Rc) (L : Rc) (h : fX5_tightRing N X P L = some z) (hP : va_P D vwCl (fl [wCard K aX rX0 (aP 0) rX3 (aL 0) rX5 rX7 rX8 X, wPlan K aP P, wLine K aL (aP 0) L]) s.heap) (ls : Array Slot) (hl : lv_has ls 4 [(0, .ref (aX 0))]) : W p l e rmX5_tightRing s m args below meth c s.heap [] 0 0 (MQ below (vp_Si (fun r => r = z)) args s 0 0 (fun _ => False)) (F0 m 0 ls []) := by
  unfold fX5_tightRing at h
  refine r_iconst C0 (nI 0) dX5_tightRing_0 (by decide) ?_
  refine r_istore_n h C0 (fun v1 => [(1, .int v1), (0, .ref (aX 0))]) dX5_tightRing_1 hl (by decide) (fun _ => rfl) (fun v1 ls h hl => ?_)
  refine r_iconst C0 (nI 1) dX5_tightRing_2 (by decide) ?_
  refine r_istore_n h C0 (fun v2 => [(2, .int v2), (1, .int v1), (0, .ref (aX 0))]) dX5_tightRing_3 hl (by decide) (fun _ => rfl) (fun v2 ls h hl => ?_)
  exact wX5_tightRing_4L C0 X P L v1 v2 _ h hP (lv_sub hl [2, 1, 0] rfl)
set_option maxHeartbeats 1000000 in
set_option maxRecDepth 10000 in
theorem ctX5_tightRing (l : Launch) (D : va_G) (K : Nat → ClassId) (N : Nat) (aX : Nat → Nat) (aP : Nat → Nat) (aL : Nat → Nat) (rX0 : Nat) (rX3 : Nat) (rX5 : Nat) (rX7 : Nat) (rX8 : Nat) (X : Rc) (P : Rc) (L : Rc) (z : Int32) (hz : fX5_tightRing N X P L = some z) : Met l yX5_tightRing wsX5_tightRing rmX5_tightRing (pcR D K [.ref (aX 0)] (fl [wCard K aX rX0 (aP 0) rX3 (aL 0) rX5 rX7 rX8 X, wPlan K aP P, wLine K aL (aP 0) L])) (vp_Si (fun r => r = z)) 0 0 (fun _ => False) := by
  refine Met.ofW (cc := cX5_tightRing) (maxL := 4) (ret := (some .int)) (by decide) rfl ?_
  intro p e s m args below meth c s₁ B hml hv
  obtain ⟨rfl, hP, hK⟩ := hv
  have C0 : cx p s m _ meth c cX5_tightRing 4 RX5 wsX5_tightRing (some .int) D K := ⟨⟨B.exec, B.bytes, hml, findClass_of_methodNamed B.named, atoms_spec (ws := wsX5_tightRing) B.pre⟩, B.returns, B.notSynchronized, hK⟩
  have hl := lv_entry ([.ref (aX 0)]) (n := 4) (Nat.le_of_ble_eq_true rfl)
  rw [lg_entry_eq]
  generalize (lg_sl ([.ref (aX 0)]) ++ List.replicate (4 - (lg_sl ([.ref (aX 0)])).length) Slot.unset).toArray = ls at hl ⊢
  have hl : lv_has ls 4 [(0, .ref (aX 0))] := hl
  exact wX5_tightRing_0 C0 X P L hz hP ls (lv_sub hl [0] rfl)
end SX5_tightRing

section SX5_bound
/-! CardLoops.bound(I)I -/
abbrev wsX5_bound : List Cond := Cond.code yX5_bound cX5_bound 6 (some .int) :: wsL_law0
abbrev rmX5_bound : Room := { frames := 2, cells := 0, slots := 0, locals := 46 }
variable {p : Program} {l : Launch} {e : Env} {s : State} {m : MethodId} {args : Array Value} {below : List Frame} {meth : Method} {c : Code} {D : va_G} {K : Nat → ClassId} {A : Nat → Prop} {N : Nat} {aX : Nat → Nat} {aP : Nat → Nat} {aL : Nat → Nat} {rX0 : Nat} {rX3 : Nat} {rX5 : Nat} {rX7 : Nat} {rX8 : Nat} {z : Int32}
set_option maxHeartbeats 1000000 in
set_option maxRecDepth 10000 in
theorem wX5_bound_94 (C0 : cx p s m args meth c cX5_bound 6 RX5 wsX5_bound (some .int) D K) (X : Rc) (P : Rc) (L : Rc) (x5 : Int32) (y0 : Int32) (h : fX5_bound_94 N X P L x5 y0 = some z) (hP : va_P D vwCl (fl [wCard K aX rX0 (aP 0) rX3 (aL 0) rX5 rX7 rX8 X, wPlan K aP P, wLine K aL (aP 0) L]) s.heap) (ls : Array Slot) (hl : lv_has ls 6 [(5, .int x5)]) : W p l e rmX5_bound s m args below meth c s.heap [] 0 0 (MQ below (vp_Si (fun r => r = z)) args s 0 0 (fun _ => False)) (F0 m 94 ls [.int y0]) := by
  unfold fX5_bound_94 at h
  refine r_iload C0 dX5_bound_94 hl 0 rfl ?_
  refine r_idiv h C0 dX5_bound_96 (fun h => ?_)
  exact r_iretR C0 h dX5_bound_97
set_option maxHeartbeats 1000000 in
set_option maxRecDepth 10000 in
theorem wX5_bound_16 (C0 : cx p s m args meth c cX5_bound 6 RX5 wsX5_bound (some .int) D K) (X : Rc) (P : Rc) (L : Rc) (h : fX5_bound_16 N X P L = some z) (hP : va_P D vwCl (fl [wCard K aX rX0 (aP 0) rX3 (aL 0) rX5 rX7 rX8 X, wPlan K aP P, wLine K aL (aP 0) L]) s.heap) (ls : Array Slot) (hl : lv_has ls 6 []) : W p l e rmX5_bound s m args below meth c s.heap [] 0 0 (MQ below (vp_Si (fun r => r = z)) args s 0 0 (fun _ => False)) (F0 m 16 ls []) := by
  unfold fX5_bound_16 at h
  refine r_iconst C0 (-1 : Int32) dX5_bound_16 (by decide) ?_
  exact r_iretR C0 h dX5_bound_17
set_option maxHeartbeats 1000000 in
set_option maxRecDepth 10000 in
theorem wX5_bound_0 (C0 : cx p s m args meth c cX5_bound 6 RX5 wsX5_bound (some .int) D K) (X : Rc) (P : Rc) (L : Rc) (x1 : Int32) (h : fX5_bound N X P L x1 = some z) (hP : va_P D vwCl (fl [wCard K aX rX0 (aP 0) rX3 (aL 0) rX5 rX7 rX8 X, wPlan K aP P, wLine K aL (aP 0) L]) s.heap) (ls : Array Slot) (hl : lv_has ls 6 [(0, .ref (aX 0)), (1, .int x1)]) : W p l e rmX5_bound s m args below meth c s.heap [] 0 0 (MQ below (vp_Si (fun r => r = z)) args s 0 0 (fun _ => False)) (F0 m 0 ls []) := by
  unfold fX5_bound at h
  refine r_aload_n C0 dX5_bound_0 hl 0 rfl ?_
  obtain ⟨z1, hz1, h⟩ := bnd_some h
  have hPc := vaP_sel (Wc := [wCard K aX rX0 (aP 0) rX3 (aL 0) rX5 rX7 rX8 X, wPlan K aP P]) hP [0, 1] rfl
  refine r_cI (va_runV (As := []) (rest := []) C0.1 (ctX5_isEmpty l D K aX aP rX0 rX3 (aL 0) rX5 rX7 rX8 X P z1 hz1) (cwV 0 C0.1.2.2.2.2 (gdV wd24_18 wd24_19 wd24_20 wd1_2 wd24_21) rfl rfl rfl (by decide +kernel) ⟨Nat.le_of_ble_eq_true rfl, Nat.le_of_ble_eq_true rfl⟩) ⟨pcR_blind, va_recv C0.2.2.2.1 hPc (ci := 5) (q0 := 0) rfl rfl, pcR_of hPc C0.2.2.2⟩ rfl rfl hl.1 rfl (lv_room (Nat.le_of_ble_eq_true rfl)) dX5_bound_1 ⟨Nat.zero_le _, Nat.zero_le _⟩).run ?_
  refine r_if_ne h C0 16 dX5_bound_4 (by decide) (fun h => ?_) (fun h => ?_)
  · exact wX5_bound_16 C0 X P L h hP _ (lv_sub hl [] rfl)
  · refine r_iload_n C0 dX5_bound_7 hl 1 rfl ?_
    refine r_if_lt h C0 16 dX5_bound_8 (by decide) (fun h => ?_) (fun h => ?_)
    · exact wX5_bound_16 C0 X P L h hP _ (lv_sub hl [] rfl)
    · refine r_iload_n C0 dX5_bound_11 hl 1 rfl ?_
      refine r_iconst C0 (nI 2) dX5_bound_12 (by decide) ?_
      refine r_icmp_le h C0 18 dX5_bound_13 (by decide) (fun h => ?_) (fun h => ?_)
      · refine r_aload_n C0 dX5_bound_18 hl 0 rfl ?_
        obtain ⟨z2, hz2, h⟩ := bnd_some h
        have hPc := vaP_sel (Wc := [wCard K aX rX0 (aP 0) rX3 (aL 0) rX5 rX7 rX8 X, wPlan K aP P, wLine K aL (aP 0) L]) hP [0, 1, 2] rfl
        refine r_cI (va_runV (As := []) (rest := []) C0.1 (ctX5_tightRing l D K N aX aP aL rX0 rX3 rX5 rX7 rX8 X P L z2 hz2) (cwV 0 C0.1.2.2.2.2 (gdV wd29_17 wd29_18 wd29_19 wd1_2 wd29_20) rfl rfl rfl (by decide +kernel) ⟨Nat.le_of_ble_eq_true rfl, Nat.le_of_ble_eq_true rfl⟩) ⟨pcR_blind, va_recv C0.2.2.2.1 hPc (ci := 5) (q0 := 0) rfl rfl, pcR_of hPc C0.2.2.2⟩ rfl rfl hl.1 rfl (lv_room (Nat.le_of_ble_eq_true rfl)) dX5_bound_19 ⟨Nat.zero_le _, Nat.zero_le _⟩).run ?_
        refine r_istore_n h C0 (fun v3 => [(2, .int v3), (0, .ref (aX 0)), (1, .int x1)]) dX5_bound_22 hl (by decide) (fun _ => rfl) (fun v3 ls h hl => ?_)
        refine r_iload_n C0 dX5_bound_23 hl 2 rfl ?_
        refine r_iconst C0 (nI 2) dX5_bound_24 (by decide) ?_
        refine r_icmp_ne h C0 56 dX5_bound_25 (by decide) (fun h => ?_) (fun h => ?_)
        · refine r_aload_n C0 dX5_bound_56 hl 1 rfl ?_
          refine r_iload_n C0 dX5_bound_57 hl 0 rfl ?_
          refine r_aload_n C0 dX5_bound_58 hl 1 rfl ?_
          refine r_get C0 5 inx5 hP 0 rfl rfl 4 (by decide) (mc wd2_6) (.ref (aL 0)) rfl dX5_bound_59 ?_
          refine r_get C0 1 inx1 hP 11 rfl rfl 4 (by decide) (mc wd24_0) (.ref (aL 5)) rfl dX5_bound_62 ?_
          obtain ⟨z4, hz4, h⟩ := bnd_some h
          have hPc := vaP_sel (Wc := [wCard K aX rX0 (aP 0) rX3 (aL 0) rX5 rX7 rX8 X, wPlan K aP P, wLine K aL (aP 0) L]) hP [0, 1, 2] rfl
          refine r_cI (va_runV (As := [.int v3, .ref (aL 5)]) (rest := []) C0.1 (ctX5_ringCardsa l D K aX aP aL rX0 rX3 rX5 rX7 rX8 X P L v3 z4 hz4) (cwV 2 C0.1.2.2.2.2 (gdV wd30_1 wd30_2 wd30_3 wd1_2 wd30_4) rfl rfl rfl (by decide +kernel) ⟨Nat.le_of_ble_eq_true rfl, Nat.le_of_ble_eq_true rfl⟩) ⟨pcR_blind, va_recv C0.2.2.2.1 hPc (ci := 5) (q0 := 0) rfl rfl, pcR_of hPc C0.2.2.2⟩ rfl rfl hl.1 rfl (lv_room (Nat.le_of_ble_eq_true rfl)) dX5_bound_65 ⟨Nat.zero_le _, Nat.zero_le _⟩).run ?_
          refine r_istore_n h C0 (fun v5 => [(3, .int v5), (2, .int v3), (0, .ref (aX 0)), (1, .int x1)]) dX5_bound_68 hl (by decide) (fun _ => rfl) (fun v5 ls h hl => ?_)
          refine r_aload_n C0 dX5_bound_69 hl 2 rfl ?_
          refine r_iload_n C0 dX5_bound_70 hl 1 rfl ?_
          obtain ⟨z6, hz6, h⟩ := bnd_some h
          have hPc := vaP_sel (Wc := [wCard K aX rX0 (aP 0) rX3 (aL 0) rX5 rX7 rX8 X, wPlan K aP P]) hP [0, 1] rfl
          refine r_cI (va_runV (As := [.int v3]) (rest := []) C0.1 (ctX5_ringMinutes l D K N aX aP rX0 rX3 (aL 0) rX5 rX7 rX8 X P v3 z6 hz6) (cwV 1 C0.1.2.2.2.2 (gdV wd29_21 wd29_22 wd29_23 wd1_2 wd30_0) rfl rfl rfl (by decide +kernel) ⟨Nat.le_of_ble_eq_true rfl, Nat.le_of_ble_eq_true rfl⟩) ⟨pcR_blind, va_recv C0.2.2.2.1 hPc (ci := 5) (q0 := 0) rfl rfl, pcR_of hPc C0.2.2.2⟩ rfl rfl hl.1 rfl (lv_room (Nat.le_of_ble_eq_true rfl)) dX5_bound_71 ⟨Nat.zero_le _, Nat.zero_le _⟩).run ?_
          refine r_istore h C0 (fun v7 => [(4, .int v7), (3, .int v5), (2, .int v3), (0, .ref (aX 0)), (1, .int x1)]) dX5_bound_74 hl (by decide) (fun _ => rfl) (fun v7 ls h hl => ?_)
          refine r_iload_n C0 dX5_bound_76 hl 1 rfl ?_
          refine r_iload C0 dX5_bound_77 hl 0 rfl ?_
          obtain ⟨z8, hz8, h⟩ := bnd_some h
          have hPc : va_P D vwCl [] s.heap := va_P_nil
          refine r_cI (va_runS (As := [.int v5, .int v7]) (rest := []) C0.1 (ctX5_commonDivisor l D K N v5 v7 z8 hz8) (va_cwS 2 C0.1.2.2.2.2 (gdS wd30_5 wd28_6 wd1_2 wd28_7) rfl rfl rfl (by decide +kernel) ⟨Nat.le_of_ble_eq_true rfl, Nat.le_of_ble_eq_true rfl⟩) ⟨pcR_blind, pcR_of hPc C0.2.2.2⟩ rfl rfl hl.1 rfl (lv_room (Nat.le_of_ble_eq_true rfl)) dX5_bound_79 ⟨Nat.zero_le _, Nat.zero_le _⟩).run ?_
          refine r_istore h C0 (fun v9 => [(5, .int v9), (4, .int v7), (3, .int v5), (2, .int v3), (0, .ref (aX 0)), (1, .int x1)]) dX5_bound_82 hl (by decide) (fun _ => rfl) (fun v9 ls h hl => ?_)
          refine r_iload_n C0 dX5_bound_84 hl 5 rfl ?_
          refine r_if_ne h C0 92 dX5_bound_85 (by decide) (fun h => ?_) (fun h => ?_)
          · refine r_iload C0 dX5_bound_92 hl 1 rfl ?_
            exact wX5_bound_94 C0 X P L v9 v7 h hP _ (lv_sub hl [0] rfl)
          · refine r_iload_n C0 dX5_bound_88 hl 2 rfl ?_
            refine r_goto C0 94 dX5_bound_89 (by decide) ?_
            exact wX5_bound_94 C0 X P L v9 v5 h hP _ (lv_sub hl [0] rfl)
        · refine r_iload_n C0 dX5_bound_28 hl 0 rfl ?_
          refine r_aload_n C0 dX5_bound_29 hl 1 rfl ?_
          refine r_get C0 5 inx5 hP 0 rfl rfl 2 (by decide) (mc wd2_1) (.ref (aP 0)) rfl dX5_bound_30 ?_
          refine r_get C0 3 inx3 hP 4 rfl rfl 7 (by decide) (mc wd20_17) (.int (P 7 0)) rfl dX5_bound_33 ?_
          refine r_icmp_ge h C0 43 dX5_bound_36 (by decide) (fun h => ?_) (fun h => ?_)
          · refine r_bipush C0 (nI 100) dX5_bound_43 (by decide) ?_
            refine r_iload_n C0 dX5_bound_45 hl 0 rfl ?_
            refine r_iadd C0 dX5_bound_46 ?_
            refine r_aload_n C0 dX5_bound_47 hl 1 rfl ?_
            refine r_get C0 5 inx5 hP 0 rfl rfl 2 (by decide) (mc wd2_1) (.ref (aP 0)) rfl dX5_bound_48 ?_
            refine r_get C0 3 inx3 hP 4 rfl rfl 7 (by decide) (mc wd20_17) (.int (P 7 0)) rfl dX5_bound_51 ?_
            refine r_isub C0 dX5_bound_54 ?_
            exact r_iretR C0 h dX5_bound_55
          · refine r_iload_n C0 dX5_bound_39 hl 0 rfl ?_
            refine r_goto C0 55 dX5_bound_40 (by decide) ?_
            exact r_iretR C0 h dX5_bound_55
      · exact wX5_bound_16 C0 X P L h hP _ (lv_sub hl [] rfl)
set_option maxHeartbeats 1000000 in
set_option maxRecDepth 10000 in
theorem ctX5_bound (l : Launch) (D : va_G) (K : Nat → ClassId) (N : Nat) (aX : Nat → Nat) (aP : Nat → Nat) (aL : Nat → Nat) (rX0 : Nat) (rX3 : Nat) (rX5 : Nat) (rX7 : Nat) (rX8 : Nat) (X : Rc) (P : Rc) (L : Rc) (p1 : Int32) (z : Int32) (hz : fX5_bound N X P L p1 = some z) : Met l yX5_bound wsX5_bound rmX5_bound (pcR D K [.ref (aX 0), .int p1] (fl [wCard K aX rX0 (aP 0) rX3 (aL 0) rX5 rX7 rX8 X, wPlan K aP P, wLine K aL (aP 0) L])) (vp_Si (fun r => r = z)) 0 0 (fun _ => False) := by
  refine Met.ofW (cc := cX5_bound) (maxL := 6) (ret := (some .int)) (by decide) rfl ?_
  intro p e s m args below meth c s₁ B hml hv
  obtain ⟨rfl, hP, hK⟩ := hv
  have C0 : cx p s m _ meth c cX5_bound 6 RX5 wsX5_bound (some .int) D K := ⟨⟨B.exec, B.bytes, hml, findClass_of_methodNamed B.named, atoms_spec (ws := wsX5_bound) B.pre⟩, B.returns, B.notSynchronized, hK⟩
  have hl := lv_entry ([.ref (aX 0), .int p1]) (n := 6) (Nat.le_of_ble_eq_true rfl)
  rw [lg_entry_eq]
  generalize (lg_sl ([.ref (aX 0), .int p1]) ++ List.replicate (6 - (lg_sl ([.ref (aX 0), .int p1])).length) Slot.unset).toArray = ls at hl ⊢
  have hl : lv_has ls 6 [(0, .ref (aX 0)), (1, .int p1)] := hl
  exact wX5_bound_0 C0 X P L p1 hz hP ls (lv_sub hl [0, 1] rfl)
end SX5_bound

section SX5_needs
/-! CardLoops.needs(III)I -/
abbrev wsX5_needs : List Cond := Cond.code yX5_needs cX5_needs 4 (some .int) :: wsL_law0
abbrev rmX5_needs : Room := { frames := 1, cells := 0, slots := 0, locals := 23 }
variable {p : Program} {l : Launch} {e : Env} {s : State} {m : MethodId} {args : Array Value} {below : List Frame} {meth : Method} {c : Code} {D : va_G} {K : Nat → ClassId} {A : Nat → Prop} {N : Nat} {aX : Nat → Nat} {aP : Nat → Nat} {rX0 : Nat} {rX3 : Nat} {rX4 : Nat} {rX5 : Nat} {rX7 : Nat} {rX8 : Nat} {z : Int32}
set_option maxHeartbeats 1000000 in
set_option maxRecDepth 10000 in
theorem wX5_needs_16 (C0 : cx p s m args meth c cX5_needs 4 RX5 wsX5_needs (some .int) D K) (X : Rc) (P : Rc) (h : fX5_needs_16 N X P = some z) (hP : va_P D vwCl (fl [wCard K aX rX0 (aP 0) rX3 rX4 rX5 rX7 rX8 X, wPlan K aP P]) s.heap) (ls : Array Slot) (hl : lv_has ls 4 []) : W p l e rmX5_needs s m args below meth c s.heap [] 0 0 (MQ below (vp_Si (fun r => r = z)) args s 0 0 (fun _ => False)) (F0 m 16 ls []) := by
  unfold fX5_needs_16 at h
  refine r_iconst C0 (-1 : Int32) dX5_needs_16 (by decide) ?_
  exact r_iretR C0 h dX5_needs_17
set_option maxHeartbeats 1000000 in
set_option maxRecDepth 10000 in
theorem wX5_needs_0 (C0 : cx p s m args meth c cX5_needs 4 RX5 wsX5_needs (some .int) D K) (X : Rc) (P : Rc) (x1 : Int32) (x2 : Int32) (x3 : Int32) (h : fX5_needs N X P x1 x2 x3 = some z) (hP : va_P D vwCl (fl [wCard K aX rX0 (aP 0) rX3 rX4 rX5 rX7 rX8 X, wPlan K aP P]) s.heap) (ls : Array Slot) (hl : lv_has ls 4 [(0, .ref (aX 0)), (1, .int x1), (2, .int x2), (3, .int x3)]) : W p l e rmX5_needs s m args below meth c s.heap [] 0 0 (MQ below (vp_Si (fun r => r = z)) args s 0 0 (fun _ => False)) (F0 m 0 ls []) := by
  unfold fX5_needs at h
  refine r_aload_n C0 dX5_needs_0 hl 0 rfl ?_
  refine r_iload_n C0 dX5_needs_1 hl 1 rfl ?_
  obtain ⟨z1, hz1, h⟩ := bnd_some h
  have hPc := vaP_sel (Wc := [wCard K aX rX0 (aP 0) rX3 rX4 rX5 rX7 rX8 X, wPlan K aP P]) hP [0, 1] rfl
  refine r_cI (va_runV (As := [.int x1]) (rest := []) C0.1 (ctX5_isLoop l D K aX aP rX0 rX3 rX4 rX5 rX7 rX8 X P x1 z1 hz1) (cwV 1 C0.1.2.2.2.2 (gdV wd24_1 wd24_2 wd24_3 wd1_2 wd24_4) rfl rfl rfl (by decide +kernel) ⟨Nat.le_of_ble_eq_true rfl, Nat.le_of_ble_eq_true rfl⟩) ⟨pcR_blind, va_recv C0.2.2.2.1 hPc (ci := 5) (q0 := 0) rfl rfl, pcR_of hPc C0.2.2.2⟩ rfl rfl hl.1 rfl (lv_room (Nat.le_of_ble_eq_true rfl)) dX5_needs_2 ⟨Nat.zero_le _, Nat.zero_le _⟩).run ?_
  refine r_if_eq h C0 16 dX5_needs_5 (by decide) (fun h => ?_) (fun h => ?_)
  · exact wX5_needs_16 C0 X P h hP _ (lv_sub hl [] rfl)
  · refine r_iload_n C0 dX5_needs_8 hl 2 rfl ?_
    refine r_iload_n C0 dX5_needs_9 hl 3 rfl ?_
    obtain ⟨z2, hz2, h⟩ := bnd_some h
    have hPc : va_P D vwCl [] s.heap := va_P_nil
    refine r_cI (va_runS (As := [.int x2, .int x3]) (rest := []) C0.1 (ctX5_isPromise l D K x2 x3 z2 hz2) (va_cwS 2 C0.1.2.2.2.2 (gdS wd30_18 wd30_19 wd1_2 wd30_20) rfl rfl rfl (by decide +kernel) ⟨Nat.le_of_ble_eq_true rfl, Nat.le_of_ble_eq_true rfl⟩) ⟨pcR_blind, pcR_of hPc C0.2.2.2⟩ rfl rfl hl.1 rfl (lv_room (Nat.le_of_ble_eq_true rfl)) dX5_needs_10 ⟨Nat.zero_le _, Nat.zero_le _⟩).run ?_
    refine r_if_ne h C0 18 dX5_needs_13 (by decide) (fun h => ?_) (fun h => ?_)
    · refine r_iload_n C0 dX5_needs_18 hl 2 rfl ?_
      refine r_aload_n C0 dX5_needs_19 hl 0 rfl ?_
      refine r_iload_n C0 dX5_needs_20 hl 1 rfl ?_
      obtain ⟨z3, hz3, h⟩ := bnd_some h
      have hPc := vaP_sel (Wc := [wCard K aX rX0 (aP 0) rX3 rX4 rX5 rX7 rX8 X, wPlan K aP P]) hP [0, 1] rfl
      refine r_cI (va_runV (As := [.int x1]) (rest := [.int x2]) C0.1 (ctX5_ringMinutes l D K N aX aP rX0 rX3 rX4 rX5 rX7 rX8 X P x1 z3 hz3) (cwV 1 C0.1.2.2.2.2 (gdV wd29_21 wd29_22 wd29_23 wd1_2 wd30_0) rfl rfl rfl (by decide +kernel) ⟨Nat.le_of_ble_eq_true rfl, Nat.le_of_ble_eq_true rfl⟩) ⟨pcR_blind, va_recv C0.2.2.2.1 hPc (ci := 5) (q0 := 0) rfl rfl, pcR_of hPc C0.2.2.2⟩ rfl rfl hl.1 rfl (lv_room (Nat.le_of_ble_eq_true rfl)) dX5_needs_21 ⟨Nat.zero_le _, Nat.zero_le _⟩).run ?_
      refine r_imul C0 dX5_needs_24 ?_
      refine r_iload_n C0 dX5_needs_25 hl 3 rfl ?_
      refine r_iadd C0 dX5_needs_26 ?_
      refine r_iconst C0 (nI 1) dX5_needs_27 (by decide) ?_
      refine r_isub C0 dX5_needs_28 ?_
      refine r_iload_n C0 dX5_needs_29 hl 3 rfl ?_
      refine r_idiv h C0 dX5_needs_30 (fun h => ?_)
      exact r_iretR C0 h dX5_needs_31
    · exact wX5_needs_16 C0 X P h hP _ (lv_sub hl [] rfl)
set_option maxHeartbeats 1000000 in
set_option maxRecDepth 10000 in
theorem ctX5_needs (l : Launch) (D : va_G) (K : Nat → ClassId) (N : Nat) (aX : Nat → Nat) (aP : Nat → Nat) (rX0 : Nat) (rX3 : Nat) (rX4 : Nat) (rX5 : Nat) (rX7 : Nat) (rX8 : Nat) (X : Rc) (P : Rc) (p1 : Int32) (p2 : Int32) (p3 : Int32) (z : Int32) (hz : fX5_needs N X P p1 p2 p3 = some z) : Met l yX5_needs wsX5_needs rmX5_needs (pcR D K [.ref (aX 0), .int p1, .int p2, .int p3] (fl [wCard K aX rX0 (aP 0) rX3 rX4 rX5 rX7 rX8 X, wPlan K aP P])) (vp_Si (fun r => r = z)) 0 0 (fun _ => False) := by
  refine Met.ofW (cc := cX5_needs) (maxL := 4) (ret := (some .int)) (by decide) rfl ?_
  intro p e s m args below meth c s₁ B hml hv
  obtain ⟨rfl, hP, hK⟩ := hv
  have C0 : cx p s m _ meth c cX5_needs 4 RX5 wsX5_needs (some .int) D K := ⟨⟨B.exec, B.bytes, hml, findClass_of_methodNamed B.named, atoms_spec (ws := wsX5_needs) B.pre⟩, B.returns, B.notSynchronized, hK⟩
  have hl := lv_entry ([.ref (aX 0), .int p1, .int p2, .int p3]) (n := 4) (Nat.le_of_ble_eq_true rfl)
  rw [lg_entry_eq]
  generalize (lg_sl ([.ref (aX 0), .int p1, .int p2, .int p3]) ++ List.replicate (4 - (lg_sl ([.ref (aX 0), .int p1, .int p2, .int p3])).length) Slot.unset).toArray = ls at hl ⊢
  have hl : lv_has ls 4 [(0, .ref (aX 0)), (1, .int p1), (2, .int p2), (3, .int p3)] := hl
  exact wX5_needs_0 C0 X P p1 p2 p3 hz hP ls (lv_sub hl [0, 1, 2, 3] rfl)
end SX5_needs

section SX5_isForbidden
/-! CardLoops.isForbidden([III)Z -/
abbrev wsX5_isForbidden : List Cond := Cond.code yX5_isForbidden cX5_isForbidden 5 (some .boolean) :: wsL_law0
abbrev rmX5_isForbidden : Room := { frames := 1, cells := 0, slots := 0, locals := 23 }
variable {p : Program} {l : Launch} {e : Env} {s : State} {m : MethodId} {args : Array Value} {below : List Frame} {meth : Method} {c : Code} {D : va_G} {K : Nat → ClassId} {A : Nat → Prop} {N : Nat} {aX : Nat → Nat} {aP : Nat → Nat} {rX0 : Nat} {rX3 : Nat} {rX4 : Nat} {rX5 : Nat} {rX7 : Nat} {rX8 : Nat} {z : Int32}
def IX5_isForbidden_3 (p : Program) (l : Launch) (e : Env) (s : State) (m : MethodId) (args : Array Value) (below : List Frame) (meth : Method) (c : Code) (D : va_G) (K : Nat → ClassId) (aX : Nat → Nat) (aP : Nat → Nat) (rX0 : Nat) (rX3 : Nat) (rX4 : Nat) (rX5 : Nat) (rX7 : Nat) (rX8 : Nat) (z : Int32) (k : Rc → Rc → Int32 → Int32 → Int32 → Option (Int32)) : Prop := ∀ (X : Rc) (P : Rc) (x2 : Int32) (x3 : Int32) (x4 : Int32) (ls : Array Slot), k X P x2 x3 x4 = some z → va_P D vwCl (fl [wCard K aX rX0 (aP 0) rX3 rX4 rX5 rX7 rX8 X, wPlan K aP P]) s.heap → lv_has ls 5 [(0, .ref (aX 0)), (1, .ref (aX 7)), (2, .int x2), (3, .int x3), (4, .int x4)] → W p l e rmX5_isForbidden s m args below meth c s.heap [] 0 0 (MQ below (vp_Si (fun r => r = z)) args s 0 0 (fun _ => False)) (F0 m 3 ls [])
set_option maxHeartbeats 1000000 in
set_option maxRecDepth 10000 in
theorem wX5_isForbidden_3 (C0 : cx p s m args meth c cX5_isForbidden 5 RX5 wsX5_isForbidden (some .boolean) D K) {k3 : Rc → Rc → Int32 → Int32 → Int32 → Option (Int32)} (hk3 : IX5_isForbidden_3 p l e s m args below meth c D K aX aP rX0 rX3 rX4 rX5 rX7 rX8 z k3) (X : Rc) (P : Rc) (x2 : Int32) (x3 : Int32) (x4 : Int32) (h : fX5_isForbidden_3b N k3 X P x2 x3 x4 = some z) (hP : va_P D vwCl (fl [wCard K aX rX0 (aP 0) rX3 rX4 rX5 rX7 rX8 X, wPlan K aP P]) s.heap) (ls : Array Slot) (hl : lv_has ls 5 [(0, .ref (aX 0)), (1, .ref (aX 7)), (2, .int x2), (3, .int x3), (4, .int x4)]) : W p l e rmX5_isForbidden s m args below meth c s.heap [] 0 0 (MQ below (vp_Si (fun r => r = z)) args s 0 0 (fun _ => False)) (F0 m 3 ls []) := by
  unfold fX5_isForbidden_3b at h
  refine r_iload C0 dX5_isForbidden_3 hl 4 rfl ?_
  refine r_aload_n C0 dX5_isForbidden_5 hl 0 rfl ?_
  refine r_get C0 5 inx5 hP 0 rfl rfl 2 (by decide) (mc wd2_1) (.ref (aP 0)) rfl dX5_isForbidden_6 ?_
  refine r_get C0 3 inx3 hP 4 rfl rfl 7 (by decide) (mc wd20_17) (.int (P 7 0)) rfl dX5_isForbidden_9 ?_
  refine r_aload_n C0 dX5_isForbidden_12 hl 0 rfl ?_
  refine r_get C0 5 inx5 hP 0 rfl rfl 2 (by decide) (mc wd2_1) (.ref (aP 0)) rfl dX5_isForbidden_13 ?_
  refine r_get C0 3 inx3 hP 4 rfl rfl 6 (by decide) (mc wd20_16) (.int (P 6 0)) rfl dX5_isForbidden_16 ?_
  refine r_iadd C0 dX5_isForbidden_19 ?_
  refine r_icmp_ge h C0 51 dX5_isForbidden_20 (by decide) (fun h => ?_) (fun h => ?_)
  · refine r_iconst C0 (nI 0) dX5_isForbidden_51 (by decide) ?_
    exact r_zretRC C0 h (by decide) dX5_isForbidden_52
  · refine r_iload_n C0 dX5_isForbidden_23 hl 2 rfl ?_
    refine r_aload_n C0 dX5_isForbidden_24 hl 0 rfl ?_
    refine r_iload C0 dX5_isForbidden_25 hl 4 rfl ?_
    obtain ⟨z1, hz1, h⟩ := bnd_some h
    have hPc := vaP_sel (Wc := [wCard K aX rX0 (aP 0) rX3 rX4 rX5 rX7 rX8 X, wPlan K aP P]) hP [0, 1] rfl
    refine r_cI (va_runV (As := [.int x4]) (rest := [.int x2]) C0.1 (ctX5_ringMinutes l D K N aX aP rX0 rX3 rX4 rX5 rX7 rX8 X P x4 z1 hz1) (cwV 1 C0.1.2.2.2.2 (gdV wd29_21 wd29_22 wd29_23 wd1_2 wd30_0) rfl rfl rfl (by decide +kernel) ⟨Nat.le_of_ble_eq_true rfl, Nat.le_of_ble_eq_true rfl⟩) ⟨pcR_blind, va_recv C0.2.2.2.1 hPc (ci := 5) (q0 := 0) rfl rfl, pcR_of hPc C0.2.2.2⟩ rfl rfl hl.1 rfl (lv_room (Nat.le_of_ble_eq_true rfl)) dX5_isForbidden_27 ⟨Nat.zero_le _, Nat.zero_le _⟩).run ?_
    refine r_imul C0 dX5_isForbidden_30 ?_
    refine r_iload_n C0 dX5_isForbidden_31 hl 3 rfl ?_
    refine r_aload_n C0 dX5_isForbidden_32 hl 0 rfl ?_
    refine r_iload C0 dX5_isForbidden_33 hl 4 rfl ?_
    refine r_aload_n C0 dX5_isForbidden_35 hl 1 rfl ?_
    obtain ⟨z2, hz2, h⟩ := bnd_some h
    have hPc := vaP_sel (Wc := [wCard K aX rX0 (aP 0) rX3 rX4 rX5 rX7 rX8 X, wPlan K aP P]) hP [0, 1] rfl
    refine r_cI (va_runV (As := [.int x4, .ref (aX 7)]) (rest := [.int x3, .int (x2 * z1)]) C0.1 (ctX5_ringCardsb l D K aX aP rX0 rX3 rX4 rX5 rX7 rX8 X P x4 z2 hz2) (cwV 2 C0.1.2.2.2.2 (gdV wd30_1 wd30_2 wd30_3 wd1_2 wd30_4) rfl rfl rfl (by decide +kernel) ⟨Nat.le_of_ble_eq_true rfl, Nat.le_of_ble_eq_true rfl⟩) ⟨pcR_blind, va_recv C0.2.2.2.1 hPc (ci := 5) (q0 := 0) rfl rfl, pcR_of hPc C0.2.2.2⟩ rfl rfl hl.1 rfl (lv_room (Nat.le_of_ble_eq_true rfl)) dX5_isForbidden_36 ⟨Nat.zero_le _, Nat.zero_le _⟩).run ?_
    refine r_imul C0 dX5_isForbidden_39 ?_
    refine r_icmp_le h C0 45 dX5_isForbidden_40 (by decide) (fun h => ?_) (fun h => ?_)
    · refine r_iinc h C0 4 (fun v3 => [(4, .int v3), (0, .ref (aX 0)), (1, .ref (aX 7)), (2, .int x2), (3, .int x3)]) dX5_isForbidden_45 hl rfl rfl (by decide) (fun _ => rfl) (fun v3 ls h hl => ?_)
      refine r_goto C0 3 dX5_isForbidden_48 (by decide) ?_
      exact hk3 X P x2 x3 v3 _ h hP (lv_sub hl [1, 2, 3, 4, 0] rfl)
    · refine r_iconst C0 (nI 1) dX5_isForbidden_43 (by decide) ?_
      exact r_zretRC C0 h (by decide) dX5_isForbidden_44
theorem wX5_isForbidden_3L (C0 : cx p s m args meth c cX5_isForbidden 5 RX5 wsX5_isForbidden (some .boolean) D K) : IX5_isForbidden_3 p l e s m args below meth c D K aX aP rX0 rX3 rX4 rX5 rX7 rX8 z (fX5_isForbidden_3 N) := by
  refine itn_ind (IX5_isForbidden_3 p l e s m args below meth c D K aX aP rX0 rX3 rX4 rX5 rX7 rX8 z) ?_ ?_ N
  · intro _ _ _ _ _ _ h; cases h
  · intro k3 hk3 X P x2 x3 x4 ls h hP hl
    exact wX5_isForbidden_3 C0 hk3 X P x2 x3 x4 h hP ls hl
set_option maxHeartbeats 1000000 in
set_option maxRecDepth 10000 in
theorem wX5_isForbidden_0 (C0 : cx p s m args meth c cX5_isForbidden 5 RX5 wsX5_isForbidden (some .boolean) D K) (X : Rc) (P : Rc) (x2 : Int32) (x3 : Int32) (h : fX5_isForbidden N X P x2 x3 = some z) (hP : va_P D vwCl (fl [wCard K aX rX0 (aP 0) rX3 rX4 rX5 rX7 rX8 X, wPlan K aP P]) s.heap) (ls : Array Slot) (hl : lv_has ls 5 [(0, .ref (aX 0)), (1, .ref (aX 7)), (2, .int x2), (3, .int x3)]) : W p l e rmX5_isForbidden s m args below meth c s.heap [] 0 0 (MQ below (vp_Si (fun r => r = z)) args s 0 0 (fun _ => False)) (F0 m 0 ls []) := by
  unfold fX5_isForbidden at h
  refine r_iconst C0 (nI 0) dX5_isForbidden_0 (by decide) ?_
  refine r_istore h C0 (fun v1 => [(4, .int v1), (0, .ref (aX 0)), (1, .ref (aX 7)), (2, .int x2), (3, .int x3)]) dX5_isForbidden_1 hl (by decide) (fun _ => rfl) (fun v1 ls h hl => ?_)
  exact wX5_isForbidden_3L C0 X P x2 x3 v1 _ h hP (lv_sub hl [1, 2, 3, 4, 0] rfl)
set_option maxHeartbeats 1000000 in
set_option maxRecDepth 10000 in
theorem ctX5_isForbidden (l : Launch) (D : va_G) (K : Nat → ClassId) (N : Nat) (aX : Nat → Nat) (aP : Nat → Nat) (rX0 : Nat) (rX3 : Nat) (rX4 : Nat) (rX5 : Nat) (rX7 : Nat) (rX8 : Nat) (X : Rc) (P : Rc) (p2 : Int32) (p3 : Int32) (z : Int32) (hz : fX5_isForbidden N X P p2 p3 = some z) : Met l yX5_isForbidden wsX5_isForbidden rmX5_isForbidden (pcR D K [.ref (aX 0), .ref (aX 7), .int p2, .int p3] (fl [wCard K aX rX0 (aP 0) rX3 rX4 rX5 rX7 rX8 X, wPlan K aP P])) (vp_Si (fun r => r = z)) 0 0 (fun _ => False) := by
  refine Met.ofW (cc := cX5_isForbidden) (maxL := 5) (ret := (some .boolean)) (by decide) rfl ?_
  intro p e s m args below meth c s₁ B hml hv
  obtain ⟨rfl, hP, hK⟩ := hv
  have C0 : cx p s m _ meth c cX5_isForbidden 5 RX5 wsX5_isForbidden (some .boolean) D K := ⟨⟨B.exec, B.bytes, hml, findClass_of_methodNamed B.named, atoms_spec (ws := wsX5_isForbidden) B.pre⟩, B.returns, B.notSynchronized, hK⟩
  have hl := lv_entry ([.ref (aX 0), .ref (aX 7), .int p2, .int p3]) (n := 5) (Nat.le_of_ble_eq_true rfl)
  rw [lg_entry_eq]
  generalize (lg_sl ([.ref (aX 0), .ref (aX 7), .int p2, .int p3]) ++ List.replicate (5 - (lg_sl ([.ref (aX 0), .ref (aX 7), .int p2, .int p3])).length) Slot.unset).toArray = ls at hl ⊢
  have hl : lv_has ls 5 [(0, .ref (aX 0)), (1, .ref (aX 7)), (2, .int p2), (3, .int p3)] := hl
  exact wX5_isForbidden_0 C0 X P p2 p3 hz hP ls (lv_sub hl [0, 1, 2, 3] rfl)
end SX5_isForbidden

section SX5_reaches
/-! CardLoops.reaches([III)Z -/
abbrev wsX5_reaches : List Cond := Cond.code yX5_reaches cX5_reaches 4 (some .boolean) :: wsL_law0
abbrev rmX5_reaches : Room := { frames := 5, cells := 0, slots := 0, locals := 112 }
variable {p : Program} {l : Launch} {e : Env} {s : State} {m : MethodId} {args : Array Value} {below : List Frame} {meth : Method} {c : Code} {D : va_G} {K : Nat → ClassId} {A : Nat → Prop} {N : Nat} {aX : Nat → Nat} {aP : Nat → Nat} {aJ : Nat → Nat} {aF : Nat → Nat} {rX0 : Nat} {rX3 : Nat} {rX4 : Nat} {rX8 : Nat} {z : Int32 × (Rc × Rc × RcL)}
set_option maxHeartbeats 1000000 in
set_option maxRecDepth 10000 in
theorem wX5_reaches_61 (C0 : cx p s m args meth c cX5_reaches 4 RX5 wsX5_reaches (some .boolean) D K) (hA : ∀ q, s.heap.size ≤ q → A q) (X : Rc) (P : Rc) (J : Rc) (F : Rc) (FL : RcL) (h : fX5_reaches_61 N X P J F FL = some z) (H : Heap) (locs : List Loc) (hP : va_P D vwCl (fl [wCard K aX rX0 (aP 0) rX3 rX4 (aJ 0) (aF 0) rX8 X, wPlan K aP P, wLine K aJ (aP 0) J, wFinder K aF (aJ 0) F FL]) H) (hD : va_D A (fl [wCard K aX rX0 (aP 0) rX3 rX4 (aJ 0) (aF 0) rX8 X, wPlan K aP P, wLine K aJ (aP 0) J, wFinder K aF (aJ 0) F FL])) (hS : va_S A s.heap H locs) (ls : Array Slot) (hl : lv_has ls 4 []) : W p l e rmX5_reaches s m args below meth c H locs 0 0 (MQ below (qcI D z (fun (u : Rc × Rc × RcL) => (fl [wCard K aX rX0 (aP 0) rX3 rX4 (aJ 0) (aF 0) rX8 X, wPlan K aP P, wLine K aJ (aP 0) u.1, wFinder K aF (aJ 0) u.2.1 u.2.2])) A) args s 0 0 A) (F0 m 61 ls []) := by
  unfold fX5_reaches_61 at h
  refine r_iconst C0 (nI 0) dX5_reaches_61 (by decide) ?_
  exact r_zretC h (by decide) C0 (fun (u : Rc × Rc × RcL) => (fl [wCard K aX rX0 (aP 0) rX3 rX4 (aJ 0) (aF 0) rX8 X, wPlan K aP P, wLine K aJ (aP 0) u.1, wFinder K aF (aJ 0) u.2.1 u.2.2])) hP hD hS dX5_reaches_62
set_option maxHeartbeats 1000000 in
set_option maxRecDepth 10000 in
theorem wX5_reaches_0 (C0 : cx p s m args meth c cX5_reaches 4 RX5 wsX5_reaches (some .boolean) D K) (hA : ∀ q, s.heap.size ≤ q → A q) (X : Rc) (P : Rc) (J : Rc) (F : Rc) (FL : RcL) (x2 : Int32) (x3 : Int32) (h : fX5_reaches N X P J F FL x2 x3 = some z) (H : Heap) (locs : List Loc) (hP : va_P D vwCl (fl [wCard K aX rX0 (aP 0) rX3 rX4 (aJ 0) (aF 0) rX8 X, wPlan K aP P, wLine K aJ (aP 0) J, wFinder K aF (aJ 0) F FL]) H) (hD : va_D A (fl [wCard K aX rX0 (aP 0) rX3 rX4 (aJ 0) (aF 0) rX8 X, wPlan K aP P, wLine K aJ (aP 0) J, wFinder K aF (aJ 0) F FL])) (hS : va_S A s.heap H locs) (ls : Array Slot) (hl : lv_has ls 4 [(0, .ref (aX 0)), (1, .ref (aX 7)), (2, .int x2), (3, .int x3)]) : W p l e rmX5_reaches s m args below meth c H locs 0 0 (MQ below (qcI D z (fun (u : Rc × Rc × RcL) => (fl [wCard K aX rX0 (aP 0) rX3 rX4 (aJ 0) (aF 0) rX8 X, wPlan K aP P, wLine K aJ (aP 0) u.1, wFinder K aF (aJ 0) u.2.1 u.2.2])) A) args s 0 0 A) (F0 m 0 ls []) := by
  unfold fX5_reaches at h
  refine r_aload_n C0 dX5_reaches_0 hl 0 rfl ?_
  refine r_aload_n C0 dX5_reaches_1 hl 1 rfl ?_
  refine r_iload_n C0 dX5_reaches_2 hl 2 rfl ?_
  refine r_iload_n C0 dX5_reaches_3 hl 3 rfl ?_
  obtain ⟨z1, hz1, h⟩ := bnd_some h
  have hPc := vaP_sel (Wc := [wCard K aX rX0 (aP 0) rX3 rX4 (aJ 0) (aF 0) rX8 X, wPlan K aP P]) hP [0, 1] rfl
  refine r_cI (va_runV (As := [.ref (aX 7), .int x2, .int x3]) (rest := []) C0.1 (ctX5_isForbidden l D K N aX aP rX0 rX3 rX4 (aJ 0) (aF 0) rX8 X P x2 x3 z1 hz1) (cwV 3 C0.1.2.2.2.2 (gdV wd31_10 wd31_11 wd31_12 wd1_2 wd31_13) rfl rfl rfl (by decide +kernel) ⟨Nat.le_of_ble_eq_true rfl, Nat.le_of_ble_eq_true rfl⟩) ⟨pcR_blind, va_recv C0.2.2.2.1 hPc (ci := 5) (q0 := 0) rfl rfl, pcR_of hPc C0.2.2.2⟩ rfl rfl hl.1 rfl (lv_room (Nat.le_of_ble_eq_true rfl)) dX5_reaches_4 ⟨Nat.zero_le _, Nat.zero_le _⟩).run ?_
  refine r_if_eq h C0 12 dX5_reaches_7 (by decide) (fun h => ?_) (fun h => ?_)
  · refine r_aload_n C0 dX5_reaches_12 hl 0 rfl ?_
    refine r_get C0 5 inx5 hP 0 rfl rfl 7 (by decide) (mc wd2_11) (.ref (aF 0)) rfl dX5_reaches_13 ?_
    refine r_aload_n C0 dX5_reaches_16 hl 1 rfl ?_
    refine r_iconst C0 (nI 1) dX5_reaches_17 (by decide) ?_
    obtain ⟨z2, hz2, h⟩ := bnd_some h
    refine r_callV (wc := (fl [wPlan K aP P, wLine K aJ (aP 0) J, wFinder K aF (aJ 0) F FL, wArr K (aX 7) 5 (X 6)])) (wf := fun (u : Rc × Rc × RcL) => (fl [wPlan K aP P, wLine K aJ (aP 0) u.1, wFinder K aF (aJ 0) u.2.1 u.2.2, wArr K (aX 7) 5 (X 6)])) (wn := (fl [wCard K aX rX0 (aP 0) rX3 rX4 (aJ 0) (aF 0) rX8 X, wPlan K aP P, wLine K aJ (aP 0) z2.1, wFinder K aF (aJ 0) z2.2.1 z2.2.2])) hP hD hS hA [4, 5, 6, 7, 8, 9, 10, 11, 12, 13, 14, 15, 16, 17, 18, 19, 20, 21, 22, 23, 1] [0, 2, 3] [0, 23, 1, 2, 3, 4, 5, 6, 7, 8, 9, 10, 11, 12, 13, 14, 15, 16, 17, 18, 19, 20, 21, 22] rfl (by decide) rfl (by decide) (by decide) rfl (by decide) (fun hPc hDc => va_runV (As := [.ref (aX 7), .int (nI 1)]) (rest := []) C0.1 (ctX2_search l D K N aP aJ aF (aX 7) P J F FL (X 6) (nI 1) H.size z2 hz2) (cwV 2 C0.1.2.2.2.2 (gdV wd27_3 wd27_4 wd27_5 wd2_10 wd27_6) rfl rfl rfl (by decide +kernel) ⟨Nat.le_of_ble_eq_true rfl, Nat.le_of_ble_eq_true rfl⟩) ⟨pcW_blind, va_recv C0.2.2.2.1 hPc (ci := 2) (q0 := 14) rfl rfl, pcW_of hPc hDc C0.2.2.2⟩ rfl rfl hl.1 rfl (lv_room (Nat.le_of_ble_eq_true rfl)) dX5_reaches_18 ⟨Nat.zero_le _, Nat.zero_le _⟩) (fun H locs hP hD hS => ?_)
    refine r_aload_n C0 dX5_reaches_21 hl 0 rfl ?_
    refine r_get C0 5 inx5 hP 0 rfl rfl 7 (by decide) (mc wd2_11) (.ref (aF 0)) rfl dX5_reaches_22 ?_
    refine r_get C0 2 inx2 hP 18 rfl rfl 6 (by decide) (mc wd27_1) (.int (z2.2.1 6 0)) rfl dX5_reaches_25 ?_
    refine r_if_le h C0 61 dX5_reaches_28 (by decide) (fun h => ?_) (fun h => ?_)
    · exact wX5_reaches_61 C0 hA X P z2.1 z2.2.1 z2.2.2 h _ _ hP hD hS _ (lv_sub hl [] rfl)
    · refine r_aload_n C0 dX5_reaches_31 hl 0 rfl ?_
      refine r_get C0 5 inx5 hP 0 rfl rfl 7 (by decide) (mc wd2_11) (.ref (aF 0)) rfl dX5_reaches_32 ?_
      refine r_get C0 2 inx2 hP 18 rfl rfl 6 (by decide) (mc wd27_1) (.int (z2.2.1 6 0)) rfl dX5_reaches_35 ?_
      refine r_i2l C0 dX5_reaches_38 ?_
      refine r_iload_n C0 dX5_reaches_39 hl 3 rfl ?_
      refine r_i2l C0 dX5_reaches_40 ?_
      refine r_lmul C0 dX5_reaches_41 ?_
      refine r_iload_n C0 dX5_reaches_42 hl 2 rfl ?_
      refine r_i2l C0 dX5_reaches_43 ?_
      refine r_aload_n C0 dX5_reaches_44 hl 0 rfl ?_
      refine r_get C0 5 inx5 hP 0 rfl rfl 7 (by decide) (mc wd2_11) (.ref (aF 0)) rfl dX5_reaches_45 ?_
      refine r_get C0 2 inx2 hP 18 rfl rfl 7 (by decide) (mc wd27_2) (.int (z2.2.1 7 0)) rfl dX5_reaches_48 ?_
      refine r_i2l C0 dX5_reaches_51 ?_
      refine r_lmul C0 dX5_reaches_52 ?_
      refine r_lcmp C0 dX5_reaches_53 ?_
      refine r_if_lt h C0 61 dX5_reaches_54 (by decide) (fun h => ?_) (fun h => ?_)
      · exact wX5_reaches_61 C0 hA X P z2.1 z2.2.1 z2.2.2 h _ _ hP hD hS _ (lv_sub hl [] rfl)
      · refine r_iconst C0 (nI 1) dX5_reaches_57 (by decide) ?_
        refine r_goto C0 62 dX5_reaches_58 (by decide) ?_
        exact r_zretC h (by decide) C0 (fun (u : Rc × Rc × RcL) => (fl [wCard K aX rX0 (aP 0) rX3 rX4 (aJ 0) (aF 0) rX8 X, wPlan K aP P, wLine K aJ (aP 0) u.1, wFinder K aF (aJ 0) u.2.1 u.2.2])) hP hD hS dX5_reaches_62
  · refine r_iconst C0 (nI 0) dX5_reaches_10 (by decide) ?_
    exact r_zretC h (by decide) C0 (fun (u : Rc × Rc × RcL) => (fl [wCard K aX rX0 (aP 0) rX3 rX4 (aJ 0) (aF 0) rX8 X, wPlan K aP P, wLine K aJ (aP 0) u.1, wFinder K aF (aJ 0) u.2.1 u.2.2])) hP hD hS dX5_reaches_11
set_option maxHeartbeats 1000000 in
set_option maxRecDepth 10000 in
theorem ctX5_reaches (l : Launch) (D : va_G) (K : Nat → ClassId) (N : Nat) (aX : Nat → Nat) (aP : Nat → Nat) (aJ : Nat → Nat) (aF : Nat → Nat) (rX0 : Nat) (rX3 : Nat) (rX4 : Nat) (rX8 : Nat) (X : Rc) (P : Rc) (J : Rc) (F : Rc) (FL : RcL) (p2 : Int32) (p3 : Int32) (sz : Nat) (z : Int32 × (Rc × Rc × RcL)) (hz : fX5_reaches N X P J F FL p2 p3 = some z) : Met l yX5_reaches wsX5_reaches rmX5_reaches (pcW D K [.ref (aX 0), .ref (aX 7), .int p2, .int p3] (fl [wCard K aX rX0 (aP 0) rX3 rX4 (aJ 0) (aF 0) rX8 X, wPlan K aP P, wLine K aJ (aP 0) J, wFinder K aF (aJ 0) F FL]) sz) (qcI D z (fun (u : Rc × Rc × RcL) => (fl [wCard K aX rX0 (aP 0) rX3 rX4 (aJ 0) (aF 0) rX8 X, wPlan K aP P, wLine K aJ (aP 0) u.1, wFinder K aF (aJ 0) u.2.1 u.2.2])) (va_A (fl [wCard K aX rX0 (aP 0) rX3 rX4 (aJ 0) (aF 0) rX8 X, wPlan K aP P, wLine K aJ (aP 0) J, wFinder K aF (aJ 0) F FL]) sz)) 0 0 (va_A (fl [wCard K aX rX0 (aP 0) rX3 rX4 (aJ 0) (aF 0) rX8 X, wPlan K aP P, wLine K aJ (aP 0) J, wFinder K aF (aJ 0) F FL]) sz) := by
  refine Met.ofW (cc := cX5_reaches) (maxL := 4) (ret := (some .boolean)) (by decide) rfl ?_
  intro p e s m args below meth c s₁ B hml hv
  obtain ⟨rfl, hsz, hP, hK, hD0⟩ := hv
  subst hsz
  have C0 : cx p s m _ meth c cX5_reaches 4 RX5 wsX5_reaches (some .boolean) D K := ⟨⟨B.exec, B.bytes, hml, findClass_of_methodNamed B.named, atoms_spec (ws := wsX5_reaches) B.pre⟩, B.returns, B.notSynchronized, hK⟩
  have hD := hD0.self (sz := s.heap.size)
  generalize hAe : va_A (fl [wCard K aX rX0 (aP 0) rX3 rX4 (aJ 0) (aF 0) rX8 X, wPlan K aP P, wLine K aJ (aP 0) J, wFinder K aF (aJ 0) F FL]) s.heap.size = A at hD ⊢
  have hA : ∀ q : Nat, s.heap.size ≤ q → A q := fun q h => by rw [← hAe]; exact Or.inr h
  have hl := lv_entry ([.ref (aX 0), .ref (aX 7), .int p2, .int p3]) (n := 4) (Nat.le_of_ble_eq_true rfl)
  rw [lg_entry_eq]
  generalize (lg_sl ([.ref (aX 0), .ref (aX 7), .int p2, .int p3]) ++ List.replicate (4 - (lg_sl ([.ref (aX 0), .ref (aX 7), .int p2, .int p3])).length) Slot.unset).toArray = ls at hl ⊢
  have hl : lv_has ls 4 [(0, .ref (aX 0)), (1, .ref (aX 7)), (2, .int p2), (3, .int p3)] := hl
  exact wX5_reaches_0 C0 hA X P J F FL p2 p3 hz s.heap [] hP hD va_S.rf ls (lv_sub hl [0, 1, 2, 3] rfl)
end SX5_reaches

section SX5_least
/-! CardLoops.least(III)I -/
abbrev wsX5_least : List Cond := Cond.code yX5_least cX5_least 5 (some .int) :: wsL_law0
abbrev rmX5_least : Room := { frames := 6, cells := 0, slots := 0, locals := 135 }
variable {p : Program} {l : Launch} {e : Env} {s : State} {m : MethodId} {args : Array Value} {below : List Frame} {meth : Method} {c : Code} {D : va_G} {K : Nat → ClassId} {A : Nat → Prop} {N : Nat} {aX : Nat → Nat} {aP : Nat → Nat} {aL : Nat → Nat} {aJ : Nat → Nat} {aF : Nat → Nat} {rX0 : Nat} {rX3 : Nat} {rX8 : Nat} {z : Int32 × (Rc × Rc × Rc × RcL)}
def IX5_least_38 (p : Program) (l : Launch) (e : Env) (s : State) (m : MethodId) (args : Array Value) (below : List Frame) (meth : Method) (c : Code) (D : va_G) (K : Nat → ClassId) (aX : Nat → Nat) (aP : Nat → Nat) (aL : Nat → Nat) (aJ : Nat → Nat) (aF : Nat → Nat) (rX0 : Nat) (rX3 : Nat) (rX8 : Nat) (A : Nat → Prop) (z : Int32 × (Rc × Rc × Rc × RcL)) (k : Rc → Rc → Rc → Rc → Rc → RcL → Int32 → Int32 → Int32 → Int32 → Option (Int32 × (Rc × Rc × Rc × RcL))) : Prop := ∀ (X : Rc) (P : Rc) (L : Rc) (J : Rc) (F : Rc) (FL : RcL) (x1 : Int32) (x2 : Int32) (x3 : Int32) (x4 : Int32) (H : Heap) (locs : List Loc) (ls : Array Slot), k X P L J F FL x1 x2 x3 x4 = some z → va_P D vwCl (fl [wCard K aX rX0 (aP 0) rX3 (aL 0) (aJ 0) (aF 0) rX8 X, wPlan K aP P, wLine K aL (aP 0) L, wLine K aJ (aP 0) J, wFinder K aF (aJ 0) F FL]) H → va_D A (fl [wCard K aX rX0 (aP 0) rX3 (aL 0) (aJ 0) (aF 0) rX8 X, wPlan K aP P, wLine K aL (aP 0) L, wLine K aJ (aP 0) J, wFinder K aF (aJ 0) F FL]) → va_S A s.heap H locs → lv_has ls 5 [(0, .ref (aX 0)), (1, .int x1), (2, .int x2), (3, .int x3), (4, .int x4)] → W p l e rmX5_least s m args below meth c H locs 0 0 (MQ below (qcI D z (fun (u : Rc × Rc × Rc × RcL) => (fl [wCard K aX rX0 (aP 0) rX3 (aL 0) (aJ 0) (aF 0) rX8 u.1, wPlan K aP P, wLine K aL (aP 0) L, wLine K aJ (aP 0) u.2.1, wFinder K aF (aJ 0) u.2.2.1 u.2.2.2])) A) args s 0 0 A) (F0 m 38 ls [])
set_option maxHeartbeats 1000000 in
set_option maxRecDepth 10000 in
theorem wX5_least_38 (C0 : cx p s m args meth c cX5_least 5 RX5 wsX5_least (some .int) D K) (hA : ∀ q, s.heap.size ≤ q → A q) {k38 : Rc → Rc → Rc → Rc → Rc → RcL → Int32 → Int32 → Int32 → Int32 → Option (Int32 × (Rc × Rc × Rc × RcL))} (hk38 : IX5_least_38 p l e s m args below meth c D K aX aP aL aJ aF rX0 rX3 rX8 A z k38) (X : Rc) (P : Rc) (L : Rc) (J : Rc) (F : Rc) (FL : RcL) (x1 : Int32) (x2 : Int32) (x3 : Int32) (x4 : Int32) (h : fX5_least_38b N k38 X P L J F FL x1 x2 x3 x4 = some z) (H : Heap) (locs : List Loc) (hP : va_P D vwCl (fl [wCard K aX rX0 (aP 0) rX3 (aL 0) (aJ 0) (aF 0) rX8 X, wPlan K aP P, wLine K aL (aP 0) L, wLine K aJ (aP 0) J, wFinder K aF (aJ 0) F FL]) H) (hD : va_D A (fl [wCard K aX rX0 (aP 0) rX3 (aL 0) (aJ 0) (aF 0) rX8 X, wPlan K aP P, wLine K aL (aP 0) L, wLine K aJ (aP 0) J, wFinder K aF (aJ 0) F FL])) (hS : va_S A s.heap H locs) (ls : Array Slot) (hl : lv_has ls 5 [(0, .ref (aX 0)), (1, .int x1), (2, .int x2), (3, .int x3), (4, .int x4)]) : W p l e rmX5_least s m args below meth c H locs 0 0 (MQ below (qcI D z (fun (u : Rc × Rc × Rc × RcL) => (fl [wCard K aX rX0 (aP 0) rX3 (aL 0) (aJ 0) (aF 0) rX8 u.1, wPlan K aP P, wLine K aL (aP 0) L, wLine K aJ (aP 0) u.2.1, wFinder K aF (aJ 0) u.2.2.1 u.2.2.2])) A) args s 0 0 A) (F0 m 38 ls []) := by
  unfold fX5_least_38b at h
  refine r_iload C0 dX5_least_38 hl 4 rfl ?_
  refine r_bipush C0 (nI 20) dX5_least_40 (by decide) ?_
  refine r_icmp_gt h C0 75 dX5_least_42 (by decide) (fun h => ?_) (fun h => ?_)
  · refine r_bipush C0 (-2 : Int32) dX5_least_75 (by decide) ?_
    exact r_iret h C0 (fun (u : Rc × Rc × Rc × RcL) => (fl [wCard K aX rX0 (aP 0) rX3 (aL 0) (aJ 0) (aF 0) rX8 u.1, wPlan K aP P, wLine K aL (aP 0) L, wLine K aJ (aP 0) u.2.1, wFinder K aF (aJ 0) u.2.2.1 u.2.2.2])) hP hD hS dX5_least_77
  · refine r_aload_n C0 dX5_least_45 hl 0 rfl ?_
    refine r_get C0 5 inx5 hP 0 rfl rfl 6 (by decide) (mc wd1_15) (.ref (aX 7)) rfl dX5_least_46 ?_
    refine r_iload_n C0 dX5_least_49 hl 1 rfl ?_
    refine r_iload C0 dX5_least_50 hl 4 rfl ?_
    refine r_iast h C0 hP hD hS 1 (fun uu => (fl [wCard K aX rX0 (aP 0) rX3 (aL 0) (aJ 0) (aF 0) rX8 uu, wPlan K aP P, wLine K aL (aP 0) L, wLine K aJ (aP 0) J, wFinder K aF (aJ 0) F FL])) rfl rfl dX5_least_52 (fun X1 H locs h hP hD hS => ?_)
    refine r_aload_n C0 dX5_least_53 hl 0 rfl ?_
    refine r_aload_n C0 dX5_least_54 hl 0 rfl ?_
    refine r_get C0 5 inx5 hP 0 rfl rfl 6 (by decide) (mc wd1_15) (.ref (aX 7)) rfl dX5_least_55 ?_
    refine r_iload_n C0 dX5_least_58 hl 2 rfl ?_
    refine r_iload_n C0 dX5_least_59 hl 3 rfl ?_
    obtain ⟨z2, hz2, h⟩ := bnd_some h
    refine r_callIC (Wc := [wCard K aX rX0 (aP 0) rX3 (aL 0) (aJ 0) (aF 0) rX8 X1, wPlan K aP P, wLine K aJ (aP 0) J, wFinder K aF (aJ 0) F FL]) (wf := fun (u : Rc × Rc × RcL) => [wCard K aX rX0 (aP 0) rX3 (aL 0) (aJ 0) (aF 0) rX8 X1, wPlan K aP P, wLine K aJ (aP 0) u.1, wFinder K aF (aJ 0) u.2.1 u.2.2]) (Wn := [wCard K aX rX0 (aP 0) rX3 (aL 0) (aJ 0) (aF 0) rX8 X1, wPlan K aP P, wLine K aL (aP 0) L, wLine K aJ (aP 0) z2.2.1, wFinder K aF (aJ 0) z2.2.2.1 z2.2.2.2]) hP hD hS hA [0, 1, 3, 4] [2] [1, 2, 0, 3, 4] 5 rfl rfl (by decide) rfl rfl (by decide) (fun hPc hDc hFc => va_runV (As := [.ref (aX 7), .int x2, .int x3]) (rest := []) C0.1 (ctX5_reaches l D K N aX aP aJ aF rX0 rX3 (aL 0) rX8 X1 P J F FL x2 x3 H.size z2 hz2) (cwV 3 C0.1.2.2.2.2 (gdV wd31_6 wd31_7 wd31_8 wd1_2 wd31_9) rfl rfl rfl (by decide +kernel) ⟨Nat.le_of_ble_eq_true rfl, Nat.le_of_ble_eq_true rfl⟩) ⟨pcW_blind, va_recv C0.2.2.2.1 hPc (ci := 5) (q0 := 0) rfl rfl, pcW_of hPc hDc C0.2.2.2⟩ rfl rfl hl.1 rfl (lv_room (Nat.le_of_ble_eq_true rfl)) dX5_least_60 ⟨Nat.zero_le _, Nat.zero_le _⟩) (fun H locs hP hD hS => ?_)
    refine r_if_eq h C0 69 dX5_least_63 (by decide) (fun h => ?_) (fun h => ?_)
    · refine r_iinc h C0 4 (fun v3 => [(4, .int v3), (0, .ref (aX 0)), (1, .int x1), (2, .int x2), (3, .int x3)]) dX5_least_69 hl rfl rfl (by decide) (fun _ => rfl) (fun v3 ls h hl => ?_)
      refine r_goto C0 38 dX5_least_72 (by decide) ?_
      exact hk38 X1 P L z2.2.1 z2.2.2.1 z2.2.2.2 x1 x2 x3 v3 _ _ _ h hP hD hS (lv_sub hl [1, 2, 3, 4, 0] rfl)
    · refine r_iload C0 dX5_least_66 hl 4 rfl ?_
      exact r_iret h C0 (fun (u : Rc × Rc × Rc × RcL) => (fl [wCard K aX rX0 (aP 0) rX3 (aL 0) (aJ 0) (aF 0) rX8 u.1, wPlan K aP P, wLine K aL (aP 0) L, wLine K aJ (aP 0) u.2.1, wFinder K aF (aJ 0) u.2.2.1 u.2.2.2])) hP hD hS dX5_least_68
theorem wX5_least_38L (C0 : cx p s m args meth c cX5_least 5 RX5 wsX5_least (some .int) D K) (hA : ∀ q, s.heap.size ≤ q → A q) : IX5_least_38 p l e s m args below meth c D K aX aP aL aJ aF rX0 rX3 rX8 A z (fX5_least_38 N) := by
  refine itn_ind (IX5_least_38 p l e s m args below meth c D K aX aP aL aJ aF rX0 rX3 rX8 A z) ?_ ?_ N
  · intro _ _ _ _ _ _ _ _ _ _ _ _ _ h; cases h
  · intro k38 hk38 X P L J F FL x1 x2 x3 x4 H locs ls h hP hD hS hl
    exact wX5_least_38 C0 hA hk38 X P L J F FL x1 x2 x3 x4 h H locs hP hD hS ls hl
set_option maxHeartbeats 1000000 in
set_option maxRecDepth 10000 in
theorem wX5_least_16 (C0 : cx p s m args meth c cX5_least 5 RX5 wsX5_least (some .int) D K) (hA : ∀ q, s.heap.size ≤ q → A q) (X : Rc) (P : Rc) (L : Rc) (J : Rc) (F : Rc) (FL : RcL) (h : fX5_least_16 N X P L J F FL = some z) (H : Heap) (locs : List Loc) (hP : va_P D vwCl (fl [wCard K aX rX0 (aP 0) rX3 (aL 0) (aJ 0) (aF 0) rX8 X, wPlan K aP P, wLine K aL (aP 0) L, wLine K aJ (aP 0) J, wFinder K aF (aJ 0) F FL]) H) (hD : va_D A (fl [wCard K aX rX0 (aP 0) rX3 (aL 0) (aJ 0) (aF 0) rX8 X, wPlan K aP P, wLine K aL (aP 0) L, wLine K aJ (aP 0) J, wFinder K aF (aJ 0) F FL])) (hS : va_S A s.heap H locs) (ls : Array Slot) (hl : lv_has ls 5 []) : W p l e rmX5_least s m args below meth c H locs 0 0 (MQ below (qcI D z (fun (u : Rc × Rc × Rc × RcL) => (fl [wCard K aX rX0 (aP 0) rX3 (aL 0) (aJ 0) (aF 0) rX8 u.1, wPlan K aP P, wLine K aL (aP 0) L, wLine K aJ (aP 0) u.2.1, wFinder K aF (aJ 0) u.2.2.1 u.2.2.2])) A) args s 0 0 A) (F0 m 16 ls []) := by
  unfold fX5_least_16 at h
  refine r_iconst C0 (-1 : Int32) dX5_least_16 (by decide) ?_
  exact r_iret h C0 (fun (u : Rc × Rc × Rc × RcL) => (fl [wCard K aX rX0 (aP 0) rX3 (aL 0) (aJ 0) (aF 0) rX8 u.1, wPlan K aP P, wLine K aL (aP 0) L, wLine K aJ (aP 0) u.2.1, wFinder K aF (aJ 0) u.2.2.1 u.2.2.2])) hP hD hS dX5_least_17
set_option maxHeartbeats 1000000 in
set_option maxRecDepth 10000 in
theorem wX5_least_0 (C0 : cx p s m args meth c cX5_least 5 RX5 wsX5_least (some .int) D K) (hA : ∀ q, s.heap.size ≤ q → A q) (X : Rc) (P : Rc) (L : Rc) (J : Rc) (F : Rc) (FL : RcL) (x1 : Int32) (x2 : Int32) (x3 : Int32) (h : fX5_least N X P L J F FL x1 x2 x3 = some z) (H : Heap) (locs : List Loc) (hP : va_P D vwCl (fl [wCard K aX rX0 (aP 0) rX3 (aL 0) (aJ 0) (aF 0) rX8 X, wPlan K aP P, wLine K aL (aP 0) L, wLine K aJ (aP 0) J, wFinder K aF (aJ 0) F FL]) H) (hD : va_D A (fl [wCard K aX rX0 (aP 0) rX3 (aL 0) (aJ 0) (aF 0) rX8 X, wPlan K aP P, wLine K aL (aP 0) L, wLine K aJ (aP 0) J, wFinder K aF (aJ 0) F FL])) (hS : va_S A s.heap H locs) (ls : Array Slot) (hl : lv_has ls 5 [(0, .ref (aX 0)), (1, .int x1), (2, .int x2), (3, .int x3)]) : W p l e rmX5_least s m args below meth c H locs 0 0 (MQ below (qcI D z (fun (u : Rc × Rc × Rc × RcL) => (fl [wCard K aX rX0 (aP 0) rX3 (aL 0) (aJ 0) (aF 0) rX8 u.1, wPlan K aP P, wLine K aL (aP 0) L, wLine K aJ (aP 0) u.2.1, wFinder K aF (aJ 0) u.2.2.1 u.2.2.2])) A) args s 0 0 A) (F0 m 0 ls []) := by
  unfold fX5_least at h
  refine r_aload_n C0 dX5_least_0 hl 0 rfl ?_
  refine r_iload_n C0 dX5_least_1 hl 1 rfl ?_
  obtain ⟨z1, hz1, h⟩ := bnd_some h
  have hPc := vaP_sel (Wc := [wCard K aX rX0 (aP 0) rX3 (aL 0) (aJ 0) (aF 0) rX8 X, wPlan K aP P]) hP [0, 1] rfl
  refine r_cI (va_runV (As := [.int x1]) (rest := []) C0.1 (ctX5_isLoop l D K aX aP rX0 rX3 (aL 0) (aJ 0) (aF 0) rX8 X P x1 z1 hz1) (cwV 1 C0.1.2.2.2.2 (gdV wd24_1 wd24_2 wd24_3 wd1_2 wd24_4) rfl rfl rfl (by decide +kernel) ⟨Nat.le_of_ble_eq_true rfl, Nat.le_of_ble_eq_true rfl⟩) ⟨pcR_blind, va_recv C0.2.2.2.1 hPc (ci := 5) (q0 := 0) rfl rfl, pcR_of hPc C0.2.2.2⟩ rfl rfl hl.1 rfl (lv_room (Nat.le_of_ble_eq_true rfl)) dX5_least_2 ⟨Nat.zero_le _, Nat.zero_le _⟩).run ?_
  refine r_if_eq h C0 16 dX5_least_5 (by decide) (fun h => ?_) (fun h => ?_)
  · exact wX5_least_16 C0 hA X P L J F FL h _ _ hP hD hS _ (lv_sub hl [] rfl)
  · refine r_iload_n C0 dX5_least_8 hl 2 rfl ?_
    refine r_iload_n C0 dX5_least_9 hl 3 rfl ?_
    obtain ⟨z2, hz2, h⟩ := bnd_some h
    have hPc : va_P D vwCl [] H := va_P_nil
    refine r_cI (va_runS (As := [.int x2, .int x3]) (rest := []) C0.1 (ctX5_isPromise l D K x2 x3 z2 hz2) (va_cwS 2 C0.1.2.2.2.2 (gdS wd30_18 wd30_19 wd1_2 wd30_20) rfl rfl rfl (by decide +kernel) ⟨Nat.le_of_ble_eq_true rfl, Nat.le_of_ble_eq_true rfl⟩) ⟨pcR_blind, pcR_of hPc C0.2.2.2⟩ rfl rfl hl.1 rfl (lv_room (Nat.le_of_ble_eq_true rfl)) dX5_least_10 ⟨Nat.zero_le _, Nat.zero_le _⟩).run ?_
    refine r_if_ne h C0 18 dX5_least_13 (by decide) (fun h => ?_) (fun h => ?_)
    · refine r_aload_n C0 dX5_least_18 hl 0 rfl ?_
      refine r_get C0 5 inx5 hP 0 rfl rfl 4 (by decide) (mc wd2_6) (.ref (aL 0)) rfl dX5_least_19 ?_
      refine r_get C0 1 inx1 hP 11 rfl rfl 4 (by decide) (mc wd24_0) (.ref (aL 5)) rfl dX5_least_22 ?_
      refine r_iconst C0 (nI 0) dX5_least_25 (by decide) ?_
      refine r_aload_n C0 dX5_least_26 hl 0 rfl ?_
      refine r_get C0 5 inx5 hP 0 rfl rfl 6 (by decide) (mc wd1_15) (.ref (aX 7)) rfl dX5_least_27 ?_
      refine r_iconst C0 (nI 0) dX5_least_30 (by decide) ?_
      refine r_iconst C0 (nI 5) dX5_least_31 (by decide) ?_
      refine r_copy h C0 5 ⟨(mc wd31_5), (mc wd12_14), (mc wd12_15), (mc wd12_16)⟩ hP hD hS 15 1 (fun uu => (fl [wCard K aX rX0 (aP 0) rX3 (aL 0) (aJ 0) (aF 0) rX8 uu, wPlan K aP P, wLine K aL (aP 0) L, wLine K aJ (aP 0) J, wFinder K aF (aJ 0) F FL])) rfl rfl (by decide) hl ⟨Nat.le_of_ble_eq_true rfl, Nat.le_of_ble_eq_true rfl⟩ rfl dX5_least_32 (fun X3 H locs h hP hD hS => ?_)
      refine r_iconst C0 (nI 1) dX5_least_35 (by decide) ?_
      refine r_istore h C0 (fun v4 => [(4, .int v4), (0, .ref (aX 0)), (1, .int x1), (2, .int x2), (3, .int x3)]) dX5_least_36 hl (by decide) (fun _ => rfl) (fun v4 ls h hl => ?_)
      exact wX5_least_38L C0 hA X3 P L J F FL x1 x2 x3 v4 _ _ _ h hP hD hS (lv_sub hl [1, 2, 3, 4, 0] rfl)
    · exact wX5_least_16 C0 hA X P L J F FL h _ _ hP hD hS _ (lv_sub hl [] rfl)
set_option maxHeartbeats 1000000 in
set_option maxRecDepth 10000 in
theorem ctX5_least (l : Launch) (D : va_G) (K : Nat → ClassId) (N : Nat) (aX : Nat → Nat) (aP : Nat → Nat) (aL : Nat → Nat) (aJ : Nat → Nat) (aF : Nat → Nat) (rX0 : Nat) (rX3 : Nat) (rX8 : Nat) (X : Rc) (P : Rc) (L : Rc) (J : Rc) (F : Rc) (FL : RcL) (p1 : Int32) (p2 : Int32) (p3 : Int32) (sz : Nat) (z : Int32 × (Rc × Rc × Rc × RcL)) (hz : fX5_least N X P L J F FL p1 p2 p3 = some z) : Met l yX5_least wsX5_least rmX5_least (pcW D K [.ref (aX 0), .int p1, .int p2, .int p3] (fl [wCard K aX rX0 (aP 0) rX3 (aL 0) (aJ 0) (aF 0) rX8 X, wPlan K aP P, wLine K aL (aP 0) L, wLine K aJ (aP 0) J, wFinder K aF (aJ 0) F FL]) sz) (qcI D z (fun (u : Rc × Rc × Rc × RcL) => (fl [wCard K aX rX0 (aP 0) rX3 (aL 0) (aJ 0) (aF 0) rX8 u.1, wPlan K aP P, wLine K aL (aP 0) L, wLine K aJ (aP 0) u.2.1, wFinder K aF (aJ 0) u.2.2.1 u.2.2.2])) (va_A (fl [wCard K aX rX0 (aP 0) rX3 (aL 0) (aJ 0) (aF 0) rX8 X, wPlan K aP P, wLine K aL (aP 0) L, wLine K aJ (aP 0) J, wFinder K aF (aJ 0) F FL]) sz)) 0 0 (va_A (fl [wCard K aX rX0 (aP 0) rX3 (aL 0) (aJ 0) (aF 0) rX8 X, wPlan K aP P, wLine K aL (aP 0) L, wLine K aJ (aP 0) J, wFinder K aF (aJ 0) F FL]) sz) := by
  refine Met.ofW (cc := cX5_least) (maxL := 5) (ret := (some .int)) (by decide) rfl ?_
  intro p e s m args below meth c s₁ B hml hv
  obtain ⟨rfl, hsz, hP, hK, hD0⟩ := hv
  subst hsz
  have C0 : cx p s m _ meth c cX5_least 5 RX5 wsX5_least (some .int) D K := ⟨⟨B.exec, B.bytes, hml, findClass_of_methodNamed B.named, atoms_spec (ws := wsX5_least) B.pre⟩, B.returns, B.notSynchronized, hK⟩
  have hD := hD0.self (sz := s.heap.size)
  generalize hAe : va_A (fl [wCard K aX rX0 (aP 0) rX3 (aL 0) (aJ 0) (aF 0) rX8 X, wPlan K aP P, wLine K aL (aP 0) L, wLine K aJ (aP 0) J, wFinder K aF (aJ 0) F FL]) s.heap.size = A at hD ⊢
  have hA : ∀ q : Nat, s.heap.size ≤ q → A q := fun q h => by rw [← hAe]; exact Or.inr h
  have hl := lv_entry ([.ref (aX 0), .int p1, .int p2, .int p3]) (n := 5) (Nat.le_of_ble_eq_true rfl)
  rw [lg_entry_eq]
  generalize (lg_sl ([.ref (aX 0), .int p1, .int p2, .int p3]) ++ List.replicate (5 - (lg_sl ([.ref (aX 0), .int p1, .int p2, .int p3])).length) Slot.unset).toArray = ls at hl ⊢
  have hl : lv_has ls 5 [(0, .ref (aX 0)), (1, .int p1), (2, .int p2), (3, .int p3)] := hl
  exact wX5_least_0 C0 hA X P L J F FL p1 p2 p3 hz s.heap [] hP hD va_S.rf ls (lv_sub hl [0, 1, 2, 3] rfl)
end SX5_least
