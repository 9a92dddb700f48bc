def wOut (K : Nat → ClassId) (a : Nat) (O : Nat → Int64) : va_W := [(a, .inl (K 1, 1, .inr (.inl O)))]
def stO (z : Option Int32) (O : Nat → Int64) : Nat → Int64 := match z with
  | none => O
  | some v => vp_updL O 0 v.toInt64
abbrev wsL_station : List Cond := Cond.codeWith yL_station cL_station 5 (some .int) [(0, 10, 13, 13)] :: wsL_law
abbrev rmL_station : Room := { frames := 7, cells := 1, slots := 6, locals := 104 }
section SLS
variable {p : Program} {l : Launch} {e : Env} {s : State} {m : MethodId} {args : Array Value} {below : List Frame} {meth : Method} {c : Code} {D : va_G} {K : Nat → ClassId} {A : Nat → Prop}
abbrev wXPL (K : Nat → ClassId) (aX aP aL : Nat → Nat) (rX0 rX3 rX5 rX7 rX8 : Nat) (X P L : Rc) : List va_W := [wCard K aX rX0 (aP 0) rX3 (aL 0) rX5 rX7 rX8 X, wPlan K aP P, wLine K aL (aP 0) L]
set_option maxHeartbeats 2000000 in
set_option maxRecDepth 20000 in
theorem ctL_station (l : Launch) (hl0 : l.stackTraces = false) (D : va_G) (K : Nat → ClassId) (aX aP aL adN : Nat → Nat) (rX0 rX3 rX5 rX7 rX8 aO : Nat) (X P L : Rc) (O : Nat → Int64) (p1 p2 : Int32) (sz : Nat) (z : Option Int32) (hz : fX5_station X P L p1 p2 = some z) : Met l yL_station wsL_station rmL_station (pcX D K [.ref (aX 0), .int p1, .int p2, .ref aO] (fl [wCard K aX rX0 (aP 0) rX3 (aL 0) rX5 rX7 rX8 X, wPlan K aP P, wLine K aL (aP 0) L, wOut K aO O]) sz adN) (qcI D (stK z, stO z O) (fun u => fl [wCard K aX rX0 (aP 0) rX3 (aL 0) rX5 rX7 rX8 X, wPlan K aP P, wLine K aL (aP 0) L, wOut K aO u]) (va_A (fl [wCard K aX rX0 (aP 0) rX3 (aL 0) rX5 rX7 rX8 X, wPlan K aP P, wLine K aL (aP 0) L, wOut K aO O]) sz)) 1 6 (va_A (fl [wCard K aX rX0 (aP 0) rX3 (aL 0) rX5 rX7 rX8 X, wPlan K aP P, wLine K aL (aP 0) L, wOut K aO O]) sz) := by
  refine va_MetW (cc := cL_station) (maxL := 5) (ret := (some .int)) (hh := [(0, 10, 13, 13)]) (by decide) rfl ?_
  intro p e s m args below meth c s₁ B hml hv
  obtain ⟨rfl, hsz, hP, hK, hD0, hT⟩ := hv
  subst hsz
  have hts := atoms_spec (ws := wsL_station) B.pre
  have C0 : cx p s m _ meth c cL_station 5 RL wsL_station (some .int) D K := ⟨⟨B.exec, B.bytes, hml, findClass_of_methodNamed B.named, hts⟩, B.returns, B.notSynchronized, hK⟩
  have htb : c.exceptionTable.toList = tableOf [(0, 10, 13, 13)] := vx_table (x := yL_station) B (hts _ List.mem_cons_self)
  have hD := hD0.self (sz := s.heap.size)
  generalize hAe : va_A (fl [wCard K aX rX0 (aP 0) rX3 (aL 0) rX5 rX7 rX8 X, wPlan K aP P, wLine K aL (aP 0) L, wOut K aO O]) s.heap.size = A at hD hT ⊢
  have hA : ∀ q : Nat, s.heap.size ≤ q → A q := fun q h => by rw [← hAe]; exact Or.inr h
  have hS : va_S A s.heap s.heap [] := va_S.rf
  have hl := lv_entry ([.ref (aX 0), .int p1, .int p2, .ref aO]) (n := 5) (Nat.le_of_ble_eq_true rfl)
  rw [lg_entry_eq]
  generalize (lg_sl ([.ref (aX 0), .int p1, .int p2, .ref aO]) ++ List.replicate (5 - (lg_sl ([.ref (aX 0), .int p1, .int p2, .ref aO])).length) Slot.unset).toArray = ls at hl ⊢
  have hl : lv_has ls 5 [(0, .ref (aX 0)), (1, .int p1), (2, .int p2), (3, .ref aO)] := hl
  refine r_aload_n C0 dL_station_0 hl 3 rfl ?_
  refine r_iconst C0 0 dL_station_1 (by decide) ?_
  refine r_aload_n C0 dL_station_2 hl 0 rfl ?_
  refine r_iload_n C0 dL_station_3 hl 1 rfl ?_
  refine r_iload_n C0 dL_station_4 hl 2 rfl ?_
  have hs : (fl [wCard K aX rX0 (aP 0) rX3 (aL 0) rX5 rX7 rX8 X, wPlan K aP P, wLine K aL (aP 0) L, wOut K aO O]).Perm (fl (wXPL K aX aP aL rX0 rX3 rX5 rX7 rX8 X P L) ++ fl [wOut K aO O]) := vsplit (isC := [0, 1, 2]) (isR := [3]) (n := 4) rfl rfl (by decide)
  have hP' := vaP_perm hs hP
  have hD' := vaD_perm hs hD
  have hPc : va_P D vwCl (fl (wXPL K aX aP aL rX0 rX3 rX5 rX7 rX8 X P L)) s.heap := vaP_mem.mpr (fun q hq => vaP_mem.mp hP' q (List.mem_append_left _ hq))
  have hn := (vaD_nd.mp hD').1
  rw [List.map_append, List.nodup_append] at hn
  have hDc : va_D A (fl (wXPL K aX aP aL rX0 rX3 rX5 rX7 rX8 X P L)) := vaD_nd.mpr ⟨hn.1, fun q hq => (vaD_nd.mp hD').2 q (List.mem_append_left _ hq)⟩
  have hFc : ∀ q, va_A (fl (wXPL K aX aP aL rX0 rX3 rX5 rX7 rX8 X P L)) s.heap.size q → A q := fun q h => by
    rcases h with ⟨k, e, h⟩ | h
    · exact hDc.2 k (q, e) h
    · exact hA q h
  have back : ∀ (H1 : Heap), (∀ q : Nat, q < s.heap.size → ¬ va_A (fl (wXPL K aX aP aL rX0 rX3 rX5 rX7 rX8 X P L)) s.heap.size q → H1[q]? = s.heap[q]?) → va_P D vwCl (fl (wXPL K aX aP aL rX0 rX3 rX5 rX7 rX8 X P L)) H1 → va_D (va_A (fl (wXPL K aX aP aL rX0 rX3 rX5 rX7 rX8 X P L)) s.heap.size) (fl (wXPL K aX aP aL rX0 rX3 rX5 rX7 rX8 X P L)) → va_P D vwCl (fl [wCard K aX rX0 (aP 0) rX3 (aL 0) rX5 rX7 rX8 X, wPlan K aP P, wLine K aL (aP 0) L, wOut K aO O]) H1 ∧ va_D A (fl [wCard K aX rX0 (aP 0) rX3 (aL 0) rX5 rX7 rX8 X, wPlan K aP P, wLine K aL (aP 0) L, wOut K aO O]) := by
    intro H1 hk hP1 hD1
    obtain ⟨hP2, hD2⟩ := vjoin hP' hD' hk hFc hP1 hD1
    exact ⟨vaP_perm (List.perm_append_comm.trans hs.symm) hP2, vaD_perm (List.perm_append_comm.trans hs.symm) hD2⟩
  refine vx_calli (vx_runV (As := [.int p1, .int p2]) (rest := [.int 0, .ref aO]) C0.1 (ctX5_station l hl0 D K aX aP aL adN rX0 rX3 rX5 rX7 rX8 X P L p1 p2 s.heap.size z hz) (cwV 2 C0.1.2.2.2.2 (gdL wd21_17 wd21_18 wd21_19 wd1_2 wd21_20) rfl rfl rfl (by decide +kernel) ⟨Nat.le_of_ble_eq_true rfl, Nat.le_of_ble_eq_true rfl⟩) ⟨pcX_blind, va_recv C0.2.2.2.1 hPc (ci := 5) (q0 := 0) rfl rfl, pcX_of hPc (hDc.weaken (fun _ _ _ _ => trivial)) C0.2.2.2 (hT.narrow hFc)⟩ rfl rfl hl.1 rfl (lv_room (Nat.le_of_ble_eq_true rfl)) dL_station_5 ⟨Nat.le_of_ble_eq_true rfl, Nat.le_of_ble_eq_true rfl⟩) hS (fun q _ h => hFc q h) hFc (fun q _ h => hFc q h) (fun E ce q9 u t H1 locs1 ht hv9 hu hB hz1 hk1 hS1 hc1 hc2 hc3 => ?_) (fun r u t H1 locs1 ht hv9 hu hB hz1 hk1 hS1 => ?_)
  · obtain ⟨rfl, hP1, hD1⟩ := hB
    rw [ht] at hP1
    obtain ⟨hP, hD⟩ := back H1 hk1 hP1 hD1
    subst hu
    refine vx_catch (own := RL) (name := xN) (E := xN) C0.1.2.2.2.1 [] { startPc := 0, endPc := 10, handlerPc := 13, catchType := 13 } [] (by rw [htb]; rfl) (fun _ h => by cases h) (by decide) (by decide) (C0.1.2.2.2.2 _ (mc (ml wd21_16))) (va_Nw.use rfl hT.2.2.2.2.1) hc1 hc2 hc3 ?_
    refine r_astore C0 [(4, .ref q9), (0, .ref (aX 0)), (1, .int p1), (2, .int p2), (3, .ref aO)] dL_station_13 hl (by decide) rfl (fun ls hl => ?_)
    refine r_iconst C0 1 dL_station_15 (by decide) ?_
    exact r_iret (u := O) (v := 1) rfl C0 (fun u => fl [wCard K aX rX0 (aP 0) rX3 (aL 0) rX5 rX7 rX8 X, wPlan K aP P, wLine K aL (aP 0) L, wOut K aO u]) hP hD hS1 dL_station_16
  · obtain ⟨hP1, hD1⟩ := hB
    rw [ht] at hP1
    obtain ⟨hP, hD⟩ := back H1 hk1 hP1 hD1
    subst hu
    refine r_i2l C0 dL_station_8 ?_
    refine va_last C0.1.1 C0.1.2.1 C0.2.2.2.1 hP hD hS1 18 1 rfl rfl (by unfold vp_in; decide) dL_station_9 (fun H locs hP hD hS => ?_)
    refine r_goto C0 17 dL_station_10 (by decide) ?_
    refine r_iconst C0 0 dL_station_17 (by decide) ?_
    exact r_iret (u := vp_updL O 0 r.toInt64) (v := 0) rfl C0 (fun u => fl [wCard K aX rX0 (aP 0) rX3 (aL 0) rX5 rX7 rX8 X, wPlan K aP P, wLine K aL (aP 0) L, wOut K aO u]) hP hD hS dL_station_18
end SLS
