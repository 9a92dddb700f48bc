section SX5_station
/-! CardLoops.station(II)I -/
abbrev wsX5_station : List Cond := Cond.code yX5_station cX5_station 3 (some .int) :: wsL_law
abbrev rmX5_station : Room := { frames := 6, cells := 1, slots := 6, locals := 82 }
variable {p : Program} {l : Launch} {e : Env} {s : State} {m : MethodId} {args : Array Value} {below : List Frame} {meth : Method} {c : Code} {D : va_G} {K : Nat → ClassId} {A : Nat → Prop} {aX : Nat → Nat} {aP : Nat → Nat} {aL : Nat → Nat} {adN : Nat → Nat} {rX0 : Nat} {rX3 : Nat} {rX5 : Nat} {rX7 : Nat} {rX8 : Nat} {z : Option Int32}
set_option maxHeartbeats 1000000 in
set_option maxRecDepth 10000 in
theorem wX5_station_0 (C0 : cx p s m args meth c cX5_station 3 RX5 wsX5_station (some .int) D K) (X : Rc) (P : Rc) (L : Rc) (x1 : Int32) (x2 : Int32) (h : fX5_station X P L x1 x2 = some z) (hP : va_P D vwCl (fl [wCard K aX rX0 (aP 0) rX3 (aL 0) rX5 rX7 rX8 X, wPlan K aP P, wLine K aL (aP 0) L]) s.heap) (hD : va_D A (fl [wCard K aX rX0 (aP 0) rX3 (aL 0) rX5 rX7 rX8 X, wPlan K aP P, wLine K aL (aP 0) L])) (hl0 : l.stackTraces = false) (htab : ∀ x ∈ c.exceptionTable.toList, False) (hT : thK adN A s s.heap) (ls : Array Slot) (hl : lv_has ls 3 [(0, .ref (aX 0)), (1, .int x1), (2, .int x2)]) : W p l e rmX5_station s m args below meth c s.heap [] 0 0 (vx_MQ below (qX D z (fl [wCard K aX rX0 (aP 0) rX3 (aL 0) rX5 rX7 rX8 X, wPlan K aP P, wLine K aL (aP 0) L]) A) (xX D z (fl [wCard K aX rX0 (aP 0) rX3 (aL 0) rX5 rX7 rX8 X, wPlan K aP P, wLine K aL (aP 0) L]) A) args s 1 6 A) (F0 m 0 ls []) := by
  unfold fX5_station at h
  refine r_iload_n C0 dX5_station_0 hl 1 rfl ?_
  refine r_if_lt h C0 15 dX5_station_1 (by decide) (fun h => ?_) (fun h => ?_)
  · exact r_throwX C0 hl0 htab hT hT.1 h hP hD hl dX5_station_15 dX5_station_18 dX5_station_19 dX5_station_21 dX5_station_24
  · refine r_iload_n C0 dX5_station_4 hl 1 rfl ?_
    refine r_aload_n C0 dX5_station_5 hl 0 rfl ?_
    refine r_get C0 5 (fun w h => mc (ml (inw5 w h))) hP 0 rfl rfl 2 (by decide) (mc (ml wd2_1)) (.ref (aP 0)) rfl dX5_station_6 ?_
    refine r_get C0 3 (fun w h => mc (ml (inw3 w h))) hP 4 rfl rfl 6 (by decide) (mc (ml wd20_16)) (.int (P 6 0)) rfl dX5_station_9 ?_
    refine r_icmp_lt h C0 25 dX5_station_12 (by decide) (fun h => ?_) (fun h => ?_)
    · refine r_iload_n C0 dX5_station_25 hl 2 rfl ?_
      refine sw_if h (fun hx h => ?_) (fun hx0 h => ?_)
      · refine lv_tableIn C0.1.1 C0.1.2.1 (tgt := 80) dX5_station_26 (by rw [hx]; decide) (by rw [hx]; decide) (by rw [hx]; rfl) (by decide) ?_
        refine r_aload_n C0 dX5_station_80 hl 0 rfl ?_
        refine r_get C0 5 (fun w h => mc (ml (inw5 w h))) hP 0 rfl rfl 2 (by decide) (mc (ml wd2_1)) (.ref (aP 0)) rfl dX5_station_81 ?_
        refine r_get C0 3 (fun w h => mc (ml (inw3 w h))) hP 4 rfl rfl 0 (by decide) (mc (ml wd21_23)) (.ref (aP 1)) rfl dX5_station_84 ?_
        refine r_iload_n C0 dX5_station_87 hl 1 rfl ?_
        refine r_iald h C0 hP 5 rfl dX5_station_88 (fun h => ?_)
        exact r_iretX C0 h hP hD dX5_station_89
      refine sw_if h (fun hx h => ?_) (fun hx1 h => ?_)
      · refine lv_tableIn C0.1.1 C0.1.2.1 (tgt := 90) dX5_station_26 (by rw [hx]; decide) (by rw [hx]; decide) (by rw [hx]; rfl) (by decide) ?_
        refine r_aload_n C0 dX5_station_90 hl 0 rfl ?_
        refine r_get C0 5 (fun w h => mc (ml (inw5 w h))) hP 0 rfl rfl 2 (by decide) (mc (ml wd2_1)) (.ref (aP 0)) rfl dX5_station_91 ?_
        refine r_get C0 3 (fun w h => mc (ml (inw3 w h))) hP 4 rfl rfl 1 (by decide) (mc (ml wd22_0)) (.ref (aP 2)) rfl dX5_station_94 ?_
        refine r_iload_n C0 dX5_station_97 hl 1 rfl ?_
        refine r_iald h C0 hP 6 rfl dX5_station_98 (fun h => ?_)
        exact r_iretX C0 h hP hD dX5_station_99
      refine sw_if h (fun hx h => ?_) (fun hx2 h => ?_)
      · refine lv_tableIn C0.1.1 C0.1.2.1 (tgt := 100) dX5_station_26 (by rw [hx]; decide) (by rw [hx]; decide) (by rw [hx]; rfl) (by decide) ?_
        refine r_aload_n C0 dX5_station_100 hl 0 rfl ?_
        refine r_get C0 5 (fun w h => mc (ml (inw5 w h))) hP 0 rfl rfl 4 (by decide) (mc (ml wd2_6)) (.ref (aL 0)) rfl dX5_station_101 ?_
        refine r_iload_n C0 dX5_station_104 hl 1 rfl ?_
        obtain ⟨z1, hz1, h⟩ := bnd_some h
        have hPc := vaP_sel (Wc := [wPlan K aP P, wLine K aL (aP 0) L]) hP [1, 2] rfl
        refine r_cI (va_runV (As := [.int x1]) (rest := []) C0.1 (ctX1_stateOf l D K aP aL P L x1 z1 hz1) (cwV 1 C0.1.2.2.2.2 (gdVB (fun w h => mc (ml h)) wd22_3 wd22_4 wd22_5 wd1_23 wd22_6) rfl rfl rfl (by decide +kernel) ⟨Nat.le_of_ble_eq_true rfl, Nat.le_of_ble_eq_true rfl⟩) ⟨pcR_blind, va_recv C0.2.2.2.1 hPc (ci := 1) (q0 := 7) rfl rfl, pcR_of hPc C0.2.2.2⟩ rfl rfl hl.1 rfl (lv_room (Nat.le_of_ble_eq_true rfl)) dX5_station_105 ⟨Nat.zero_le _, Nat.zero_le _⟩).run ?_
        exact r_iretX C0 h hP hD dX5_station_108
      refine sw_if h (fun hx h => ?_) (fun hx3 h => ?_)
      · refine lv_tableIn C0.1.1 C0.1.2.1 (tgt := 109) dX5_station_26 (by rw [hx]; decide) (by rw [hx]; decide) (by rw [hx]; rfl) (by decide) ?_
        refine r_aload_n C0 dX5_station_109 hl 0 rfl ?_
        refine r_get C0 5 (fun w h => mc (ml (inw5 w h))) hP 0 rfl rfl 4 (by decide) (mc (ml wd2_6)) (.ref (aL 0)) rfl dX5_station_110 ?_
        refine r_iload_n C0 dX5_station_113 hl 1 rfl ?_
        obtain ⟨z2, hz2, h⟩ := bnd_some h
        have hPc := vaP_sel (Wc := [wPlan K aP P, wLine K aL (aP 0) L]) hP [1, 2] rfl
        refine r_cI (va_runV (As := [.int x1]) (rest := []) C0.1 (ctX1_kindAt l D K aP aL P L x1 z2 hz2) (cwV 1 C0.1.2.2.2.2 (gdVB (fun w h => mc (ml h)) wd22_11 wd22_12 wd22_13 wd1_23 wd22_14) rfl rfl rfl (by decide +kernel) ⟨Nat.le_of_ble_eq_true rfl, Nat.le_of_ble_eq_true rfl⟩) ⟨pcR_blind, va_recv C0.2.2.2.1 hPc (ci := 1) (q0 := 7) rfl rfl, pcR_of hPc C0.2.2.2⟩ rfl rfl hl.1 rfl (lv_room (Nat.le_of_ble_eq_true rfl)) dX5_station_114 ⟨Nat.zero_le _, Nat.zero_le _⟩).run ?_
        exact r_iretX C0 h hP hD dX5_station_117
      refine sw_if h (fun hx h => ?_) (fun hx4 h => ?_)
      · refine lv_tableIn C0.1.1 C0.1.2.1 (tgt := 118) dX5_station_26 (by rw [hx]; decide) (by rw [hx]; decide) (by rw [hx]; rfl) (by decide) ?_
        refine r_aload_n C0 dX5_station_118 hl 0 rfl ?_
        refine r_get C0 5 (fun w h => mc (ml (inw5 w h))) hP 0 rfl rfl 4 (by decide) (mc (ml wd2_6)) (.ref (aL 0)) rfl dX5_station_119 ?_
        refine r_iload_n C0 dX5_station_122 hl 1 rfl ?_
        obtain ⟨z3, hz3, h⟩ := bnd_some h
        have hPc := vaP_sel (Wc := [wLine K aL (aP 0) L]) hP [2] rfl
        refine r_cI (va_runV (As := [.int x1]) (rest := []) C0.1 (ctX1_waiting l D K aL (aP 0) L x1 z3 hz3) (cwV 1 C0.1.2.2.2.2 (gdVB (fun w h => mc (ml h)) wd22_15 wd14_1 wd14_2 wd1_23 wd14_3) rfl rfl rfl (by decide +kernel) ⟨Nat.le_of_ble_eq_true rfl, Nat.le_of_ble_eq_true rfl⟩) ⟨pcR_blind, va_recv C0.2.2.2.1 hPc (ci := 1) (q0 := 0) rfl rfl, pcR_of hPc C0.2.2.2⟩ rfl rfl hl.1 rfl (lv_room (Nat.le_of_ble_eq_true rfl)) dX5_station_123 ⟨Nat.zero_le _, Nat.zero_le _⟩).run ?_
        exact r_iretX C0 h hP hD dX5_station_126
      refine sw_if h (fun hx h => ?_) (fun hx5 h => ?_)
      · refine lv_tableIn C0.1.1 C0.1.2.1 (tgt := 127) dX5_station_26 (by rw [hx]; decide) (by rw [hx]; decide) (by rw [hx]; rfl) (by decide) ?_
        refine r_aload_n C0 dX5_station_127 hl 0 rfl ?_
        refine r_get C0 5 (fun w h => mc (ml (inw5 w h))) hP 0 rfl rfl 4 (by decide) (mc (ml wd2_6)) (.ref (aL 0)) rfl dX5_station_128 ?_
        refine r_iload_n C0 dX5_station_131 hl 1 rfl ?_
        obtain ⟨z4, hz4, h⟩ := bnd_some h
        have hPc := vaP_sel (Wc := [wLine K aL (aP 0) L]) hP [2] rfl
        refine r_cI (va_runV (As := [.int x1]) (rest := []) C0.1 (ctX1_isIdle l D K aL (aP 0) L x1 z4 hz4) (cwV 1 C0.1.2.2.2.2 (gdVB (fun w h => mc (ml h)) wd22_16 wd13_8 wd13_9 wd1_23 wd13_10) rfl rfl rfl (by decide +kernel) ⟨Nat.le_of_ble_eq_true rfl, Nat.le_of_ble_eq_true rfl⟩) ⟨pcR_blind, va_recv C0.2.2.2.1 hPc (ci := 1) (q0 := 0) rfl rfl, pcR_of hPc C0.2.2.2⟩ rfl rfl hl.1 rfl (lv_room (Nat.le_of_ble_eq_true rfl)) dX5_station_132 ⟨Nat.zero_le _, Nat.zero_le _⟩).run ?_
        refine r_if_eq h C0 142 dX5_station_135 (by decide) (fun h => ?_) (fun h => ?_)
        · refine r_aload_n C0 dX5_station_142 hl 0 rfl ?_
          refine r_get C0 5 (fun w h => mc (ml (inw5 w h))) hP 0 rfl rfl 4 (by decide) (mc (ml wd2_6)) (.ref (aL 0)) rfl dX5_station_143 ?_
          refine r_get C0 1 (fun w h => mc (ml (inw1 w h))) hP 11 rfl rfl 3 (by decide) (mc (ml wd22_1)) (.ref (aL 4)) rfl dX5_station_146 ?_
          refine r_iload_n C0 dX5_station_149 hl 1 rfl ?_
          refine r_iald h C0 hP 14 rfl dX5_station_150 (fun h => ?_)
          exact r_iretX C0 h hP hD dX5_station_151
        · refine r_iconst C0 (-1 : Int32) dX5_station_138 (by decide) ?_
          refine r_goto C0 151 dX5_station_139 (by decide) ?_
          exact r_iretX C0 h hP hD dX5_station_151
      refine sw_if h (fun hx h => ?_) (fun hx6 h => ?_)
      · refine lv_tableIn C0.1.1 C0.1.2.1 (tgt := 152) dX5_station_26 (by rw [hx]; decide) (by rw [hx]; decide) (by rw [hx]; rfl) (by decide) ?_
        refine r_aload_n C0 dX5_station_152 hl 0 rfl ?_
        refine r_get C0 5 (fun w h => mc (ml (inw5 w h))) hP 0 rfl rfl 4 (by decide) (mc (ml wd2_6)) (.ref (aL 0)) rfl dX5_station_153 ?_
        refine r_get C0 1 (fun w h => mc (ml (inw1 w h))) hP 11 rfl rfl 6 (by decide) (mc (ml wd22_2)) (.ref (aL 7)) rfl dX5_station_156 ?_
        refine r_iload_n C0 dX5_station_159 hl 1 rfl ?_
        refine r_iconst C0 (nI 4) dX5_station_160 (by decide) ?_
        refine r_imul C0 dX5_station_161 ?_
        refine r_iload_n C0 dX5_station_162 hl 2 rfl ?_
        refine r_iadd C0 dX5_station_163 ?_
        refine r_bipush C0 (nI 6) dX5_station_164 (by decide) ?_
        refine r_isub C0 dX5_station_166 ?_
        refine r_iald h C0 hP 17 rfl dX5_station_167 (fun h => ?_)
        exact r_iretX C0 h hP hD dX5_station_168
      refine sw_if h (fun hx h => ?_) (fun hx7 h => ?_)
      · refine lv_tableIn C0.1.1 C0.1.2.1 (tgt := 152) dX5_station_26 (by rw [hx]; decide) (by rw [hx]; decide) (by rw [hx]; rfl) (by decide) ?_
        refine r_aload_n C0 dX5_station_152 hl 0 rfl ?_
        refine r_get C0 5 (fun w h => mc (ml (inw5 w h))) hP 0 rfl rfl 4 (by decide) (mc (ml wd2_6)) (.ref (aL 0)) rfl dX5_station_153 ?_
        refine r_get C0 1 (fun w h => mc (ml (inw1 w h))) hP 11 rfl rfl 6 (by decide) (mc (ml wd22_2)) (.ref (aL 7)) rfl dX5_station_156 ?_
        refine r_iload_n C0 dX5_station_159 hl 1 rfl ?_
        refine r_iconst C0 (nI 4) dX5_station_160 (by decide) ?_
        refine r_imul C0 dX5_station_161 ?_
        refine r_iload_n C0 dX5_station_162 hl 2 rfl ?_
        refine r_iadd C0 dX5_station_163 ?_
        refine r_bipush C0 (nI 6) dX5_station_164 (by decide) ?_
        refine r_isub C0 dX5_station_166 ?_
        refine r_iald h C0 hP 17 rfl dX5_station_167 (fun h => ?_)
        exact r_iretX C0 h hP hD dX5_station_168
      refine sw_if h (fun hx h => ?_) (fun hx8 h => ?_)
      · refine lv_tableIn C0.1.1 C0.1.2.1 (tgt := 152) dX5_station_26 (by rw [hx]; decide) (by rw [hx]; decide) (by rw [hx]; rfl) (by decide) ?_
        refine r_aload_n C0 dX5_station_152 hl 0 rfl ?_
        refine r_get C0 5 (fun w h => mc (ml (inw5 w h))) hP 0 rfl rfl 4 (by decide) (mc (ml wd2_6)) (.ref (aL 0)) rfl dX5_station_153 ?_
        refine r_get C0 1 (fun w h => mc (ml (inw1 w h))) hP 11 rfl rfl 6 (by decide) (mc (ml wd22_2)) (.ref (aL 7)) rfl dX5_station_156 ?_
        refine r_iload_n C0 dX5_station_159 hl 1 rfl ?_
        refine r_iconst C0 (nI 4) dX5_station_160 (by decide) ?_
        refine r_imul C0 dX5_station_161 ?_
        refine r_iload_n C0 dX5_station_162 hl 2 rfl ?_
        refine r_iadd C0 dX5_station_163 ?_
        refine r_bipush C0 (nI 6) dX5_station_164 (by decide) ?_
        refine r_isub C0 dX5_station_166 ?_
        refine r_iald h C0 hP 17 rfl dX5_station_167 (fun h => ?_)
        exact r_iretX C0 h hP hD dX5_station_168
      refine sw_if h (fun hx h => ?_) (fun hx9 h => ?_)
      · refine lv_tableIn C0.1.1 C0.1.2.1 (tgt := 152) dX5_station_26 (by rw [hx]; decide) (by rw [hx]; decide) (by rw [hx]; rfl) (by decide) ?_
        refine r_aload_n C0 dX5_station_152 hl 0 rfl ?_
        refine r_get C0 5 (fun w h => mc (ml (inw5 w h))) hP 0 rfl rfl 4 (by decide) (mc (ml wd2_6)) (.ref (aL 0)) rfl dX5_station_153 ?_
        refine r_get C0 1 (fun w h => mc (ml (inw1 w h))) hP 11 rfl rfl 6 (by decide) (mc (ml wd22_2)) (.ref (aL 7)) rfl dX5_station_156 ?_
        refine r_iload_n C0 dX5_station_159 hl 1 rfl ?_
        refine r_iconst C0 (nI 4) dX5_station_160 (by decide) ?_
        refine r_imul C0 dX5_station_161 ?_
        refine r_iload_n C0 dX5_station_162 hl 2 rfl ?_
        refine r_iadd C0 dX5_station_163 ?_
        refine r_bipush C0 (nI 6) dX5_station_164 (by decide) ?_
        refine r_isub C0 dX5_station_166 ?_
        refine r_iald h C0 hP 17 rfl dX5_station_167 (fun h => ?_)
        exact r_iretX C0 h hP hD dX5_station_168
      refine lv_tableOut C0.1.1 C0.1.2.1 (tgt := 169) dX5_station_26 (sw_out10 hx0 hx1 hx2 hx3 hx4 hx5 hx6 hx7 hx8 hx9) (by decide) ?_
      exact r_throwX C0 hl0 htab hT hT.2.1 h hP hD hl dX5_station_169 dX5_station_172 dX5_station_173 dX5_station_175 dX5_station_178
    · exact r_throwX C0 hl0 htab hT hT.1 h hP hD hl dX5_station_15 dX5_station_18 dX5_station_19 dX5_station_21 dX5_station_24
end SX5_station
section SX5_station2
set_option maxHeartbeats 1000000 in
set_option maxRecDepth 10000 in
theorem ctX5_station (l : Launch) (hl0 : l.stackTraces = false) (D : va_G) (K : Nat → ClassId) (aX aP aL adN : Nat → Nat) (rX0 rX3 rX5 rX7 rX8 : Nat) (X P L : Rc) (p1 p2 : Int32) (sz : Nat) (z : Option Int32) (hz : fX5_station X P L p1 p2 = some z) : vx_Met l yX5_station wsX5_station rmX5_station (pcX D K [.ref (aX 0), .int p1, .int p2] (fl [wCard K aX rX0 (aP 0) rX3 (aL 0) rX5 rX7 rX8 X, wPlan K aP P, wLine K aL (aP 0) L]) sz adN) (qX D z (fl [wCard K aX rX0 (aP 0) rX3 (aL 0) rX5 rX7 rX8 X, wPlan K aP P, wLine K aL (aP 0) L]) (va_A (fl [wCard K aX rX0 (aP 0) rX3 (aL 0) rX5 rX7 rX8 X, wPlan K aP P, wLine K aL (aP 0) L]) sz)) (xX D z (fl [wCard K aX rX0 (aP 0) rX3 (aL 0) rX5 rX7 rX8 X, wPlan K aP P, wLine K aL (aP 0) L]) (va_A (fl [wCard K aX rX0 (aP 0) rX3 (aL 0) rX5 rX7 rX8 X, wPlan K aP P, wLine K aL (aP 0) L]) sz)) 1 6 (va_A (fl [wCard K aX rX0 (aP 0) rX3 (aL 0) rX5 rX7 rX8 X, wPlan K aP P, wLine K aL (aP 0) L]) sz) := by
  refine vx_ofW (cc := cX5_station) (maxL := 3) (ret := (some .int)) (by decide) rfl ?_
  intro p e s m args below meth c s₁ B hml htab hv
  obtain ⟨rfl, hsz, hP, hK, hD0, hT⟩ := hv
  subst hsz
  have C0 : cx p s m _ meth c cX5_station 3 RX5 wsX5_station (some .int) D K := ⟨⟨B.exec, B.bytes, hml, findClass_of_methodNamed B.named, atoms_spec (ws := wsX5_station) B.pre⟩, B.returns, B.notSynchronized, hK⟩
  have hD := hD0.self (sz := s.heap.size)
  generalize hAe : va_A (fl [wCard K aX rX0 (aP 0) rX3 (aL 0) rX5 rX7 rX8 X, wPlan K aP P, wLine K aL (aP 0) L]) s.heap.size = A at hD hT ⊢
  have hl := lv_entry ([.ref (aX 0), .int p1, .int p2]) (n := 3) (Nat.le_of_ble_eq_true rfl)
  rw [lg_entry_eq]
  generalize (lg_sl ([.ref (aX 0), .int p1, .int p2]) ++ List.replicate (3 - (lg_sl ([.ref (aX 0), .int p1, .int p2])).length) Slot.unset).toArray = ls at hl ⊢
  have hl : lv_has ls 3 [(0, .ref (aX 0)), (1, .int p1), (2, .int p2)] := hl
  exact wX5_station_0 C0 X P L p1 p2 hz hP hD hl0 htab hT ls hl
end SX5_station2
